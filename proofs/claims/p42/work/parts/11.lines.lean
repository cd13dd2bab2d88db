section
/-- what a line lacks; its spread, its class; whether there can be such a line -/
def jLk (fw fo fg : Int → Int) (fr to w : Int) : Int := w - (((fw to - fw fr) + 3 * (fo (to - 1) - fo fr)) + (if 0 < fg to then 2 else 0))
def jSp (lk sp to n : Int) : Int := if 0 ≤ lk then (if to = n then 0 else if sp = 0 then (if lk = 0 then 0 else 400) else if 0 < sp then min 400 (100 * lk / (2 * sp)) else 400) else if 0 < sp then (if -lk ≤ sp then 100 * -lk / sp else 400) else 400
def jCl (lk sp to n : Int) : Int := if 0 ≤ lk then (if to = n then 1 else if sp = 0 then (if lk = 0 then 1 else 3) else if jSp lk sp to n < 50 then 1 else if jSp lk sp to n ≤ 100 then 2 else 3) else if 0 < sp then (if -lk ≤ sp then (if jSp lk sp to n < 50 then 1 else 0) else 0) else 0
abbrev jOk (lk sp fr to : Int) : Prop := 0 ≤ lk ∨ (0 < sp ∧ -lk ≤ sp) ∨ to = fr + 1

theorem mw_134 : (Jvm.Cond.fieldLink "Galleyforge$Lines" (73 : Nat) "Galleyforge$Lines" "width" "I") ∈ gt := gt_at 204 (by decide +kernel) (by decide +kernel)
theorem mw_135 : (Jvm.Cond.fieldLink "Galleyforge$Lines" (76 : Nat) "Galleyforge$Lines" "narrowWidth" "I") ∈ gt := gt_at 205 (by decide +kernel) (by decide +kernel)
theorem mw_136 : (Jvm.Cond.fieldLink "Galleyforge$Lines" (79 : Nat) "Galleyforge$Lines" "depth" "I") ∈ gt := gt_at 206 (by decide +kernel) (by decide +kernel)
theorem in_X2 : ∀ w ∈ u_ws RX2 TX2 13, w ∈ gt := in_of _ [213, 215, 217, 219, 221, 223, 225, 227, 229, 231, 233, 235, 237] (by decide +kernel) (by decide +kernel)
theorem dX2_widthOf_0 : decode cX2_widthOf 0 = .ok (.iload_n 1, 1) := by decide +kernel
theorem dX2_widthOf_1 : decode cX2_widthOf 1 = .ok (.aload_n 0, 1) := by decide +kernel
theorem dX2_widthOf_2 : decode cX2_widthOf 2 = .ok (.getfield 79, 3) := by decide +kernel
theorem dX2_widthOf_5 : decode cX2_widthOf 5 = .ok (.if_icmp .ge 10, 3) := by decide +kernel
theorem dX2_widthOf_8 : decode cX2_widthOf 8 = .ok (.aload_n 0, 1) := by decide +kernel
theorem dX2_widthOf_9 : decode cX2_widthOf 9 = .ok (.getfield 76, 3) := by decide +kernel
theorem dX2_widthOf_12 : decode cX2_widthOf 12 = .ok (.goto 7, 3) := by decide +kernel
theorem dX2_widthOf_15 : decode cX2_widthOf 15 = .ok (.aload_n 0, 1) := by decide +kernel
theorem dX2_widthOf_16 : decode cX2_widthOf 16 = .ok (.getfield 73, 3) := by decide +kernel
theorem dX2_widthOf_19 : decode cX2_widthOf 19 = .ok (.ireturn, 1) := by decide +kernel
set_option maxHeartbeats 4000000 in
set_option maxRecDepth 100000 in
theorem k_widthOf (l : Launch) (dC : Nat → ClassId) (dI : Nat → Nat → Nat) (k : Nat → ClassId) (ln : Nat) (wa : Nat) (ga : Nat) (wt : Nat) (wo : Nat) (bD : Nat) (bL : Nat) (bE : Nat) (n : Int) (wd : Int) (nw : Int) (dp : Int) (sd : Int) (cl : Int) (i : Int) (hi : 0 ≤ i ∧ i < 1000) (hd : 0 ≤ dp ∧ dp ≤ 3) : Kn l dC dI k yX2_widthOf (.code yX2_widthOf cX2_widthOf 2 (some .int)) ({ frames := 0, cells := 0, slots := 0, locals := 0 } : Room) [.ref ln, .int (iI i)] [(ln, .inr (2, [.int (iI n), .ref wa, .ref ga, .ref wt, .ref wo, .int (iI wd), .int (iI nw), .int (iI dp), .int (iI sd), .int (iI cl), .ref bD, .ref bL, .ref bE]))] (fun r w gc gs => (r = some (.int (iI (if i < dp then nw else wd))) ∧ w = [(ln, .inr (2, [.int (iI n), .ref wa, .ref ga, .ref wt, .ref wo, .int (iI wd), .int (iI nw), .int (iI dp), .int (iI sd), .int (iI cl), .ref bD, .ref bL, .ref bE]))] ∧ gc = 0 ∧ gs = 0)) := by
  refine kn_of (by decide) (Nat.le_of_ble_eq_true rfl) ?_
  intro p e s m args below meth c H locs B hr hnm ls hl
  have hx := B.1.1
  have hb := B.1.2.1
  have hl : lv_has ls 2 [(0, .ref ln), (1, .int (iI i))] := hl
  refine lv_iload_n hx hb dX2_widthOf_0 rfl (lv_at hl 1 rfl) ?_
  refine lv_aload_n hx hb dX2_widthOf_1 rfl (lv_at hl 0 rfl) ?_
  refine x_get (ci := 2) (C := RX2) (T := TX2) (N := 13) (v := .int (iI dp)) B 0 rfl rfl in_X2 7 (by decide) mw_136 (fun _ h9 => h9) rfl dX2_widthOf_2 ?_
  refine lv_icmp_ge (tgt := 15) hx hb dX2_widthOf_5 (by decide) (fun c_1 => ?_) (fun c_1 => ?_)
  · have zc_1 : dp ≤ i := jle (a := dp) (b := i) (by omega) (by omega) c_1
    refine lv_aload_n hx hb dX2_widthOf_15 rfl (lv_at hl 0 rfl) ?_
    refine x_get (ci := 2) (C := RX2) (T := TX2) (N := 13) (v := .int (iI wd)) B 0 rfl rfl in_X2 5 (by decide) mw_134 (fun _ h9 => h9) rfl dX2_widthOf_16 ?_
    have e_2 : (if i < dp then nw else wd) = wd := (by first | exact if_pos (by assumption) | exact if_neg (by omega))
    skip
    exact k_iret B hr (⟨(by rw [e_2]), rfl, rfl, rfl⟩) ⟨Nat.le_of_ble_eq_true rfl, Nat.le_of_ble_eq_true rfl⟩ ⟨Nat.le_of_ble_eq_true rfl, Nat.le_of_ble_eq_true rfl⟩ dX2_widthOf_19
  · have zc_1 : i < dp := jnle (a := dp) (b := i) (by omega) (by omega) c_1
    refine lv_aload_n hx hb dX2_widthOf_8 rfl (lv_at hl 0 rfl) ?_
    refine x_get (ci := 2) (C := RX2) (T := TX2) (N := 13) (v := .int (iI nw)) B 0 rfl rfl in_X2 6 (by decide) mw_135 (fun _ h9 => h9) rfl dX2_widthOf_9 ?_
    refine lv_goto (tgt := 19) hx hb dX2_widthOf_12 (by decide) ?_
    have e_3 : (if i < dp then nw else wd) = nw := (by first | exact if_pos (by assumption) | exact if_neg (by omega))
    skip
    exact k_iret B hr (⟨(by rw [e_3]), rfl, rfl, rfl⟩) ⟨Nat.le_of_ble_eq_true rfl, Nat.le_of_ble_eq_true rfl⟩ ⟨Nat.le_of_ble_eq_true rfl, Nat.le_of_ble_eq_true rfl⟩ dX2_widthOf_19

theorem mw_26 : (Jvm.Cond.initialized "java/lang/Math") ∈ gt := gt_at 96 (by decide +kernel) (by decide +kernel)
theorem mw_126 : (Jvm.Cond.fieldLink "Galleyforge$Lines" (34 : Nat) "Galleyforge$Lines" "places" "I") ∈ gt := gt_at 196 (by decide +kernel) (by decide +kernel)
theorem mw_130 : (Jvm.Cond.fieldLink "Galleyforge$Lines" (15 : Nat) "Galleyforge$Lines" "gapAt" "[I") ∈ gt := gt_at 200 (by decide +kernel) (by decide +kernel)
theorem mw_132 : (Jvm.Cond.fieldLink "Galleyforge$Lines" (18 : Nat) "Galleyforge$Lines" "widthTo" "[I") ∈ gt := gt_at 202 (by decide +kernel) (by decide +kernel)
theorem mw_133 : (Jvm.Cond.fieldLink "Galleyforge$Lines" (21 : Nat) "Galleyforge$Lines" "wordsTo" "[I") ∈ gt := gt_at 203 (by decide +kernel) (by decide +kernel)
theorem mw_137 : (Jvm.Cond.fieldLink "Galleyforge$Lines" (110 : Nat) "Galleyforge$Lines" "spread" "I") ∈ gt := gt_at 207 (by decide +kernel) (by decide +kernel)
theorem mw_139 : (Jvm.Cond.fieldLink "Galleyforge$Lines" (113 : Nat) "Galleyforge$Lines" "lineClass" "I") ∈ gt := gt_at 209 (by decide +kernel) (by decide +kernel)
theorem mw_655 : (Jvm.Cond.static ({ cls := "java/lang/Math", name := "min", desc := "(II)I" } : Jvm.MethodName)) ∈ gt := gt_at 725 (by decide +kernel) (by decide +kernel)
theorem mw_656 : (Jvm.Cond.code ({ cls := "java/lang/Math", name := "min", desc := "(II)I" } : Jvm.MethodName) prog_27_method_69_code (2 : Nat) (Option.some Jvm.ClassFile.FieldType.int)) ∈ gt := gt_at 726 (by decide +kernel) (by decide +kernel)
theorem mw_1436 : (Jvm.Cond.methodLink "Galleyforge$Lines" (116 : Nat) ({ cls := "java/lang/Math", name := "min", desc := "(II)I" } : Jvm.MethodName)) ∈ gt := gt_at 1506 (by decide +kernel) (by decide +kernel)
theorem dX2_judge_0 : decode cX2_judge 0 = .ok (.aload_n 0, 1) := by decide +kernel
theorem dX2_judge_1 : decode cX2_judge 1 = .ok (.getfield 21, 3) := by decide +kernel
theorem dX2_judge_4 : decode cX2_judge 4 = .ok (.iload_n 2, 1) := by decide +kernel
theorem dX2_judge_5 : decode cX2_judge 5 = .ok (.iconst 1, 1) := by decide +kernel
theorem dX2_judge_6 : decode cX2_judge 6 = .ok (.isub, 1) := by decide +kernel
theorem dX2_judge_7 : decode cX2_judge 7 = .ok (.iaload, 1) := by decide +kernel
theorem dX2_judge_8 : decode cX2_judge 8 = .ok (.aload_n 0, 1) := by decide +kernel
theorem dX2_judge_9 : decode cX2_judge 9 = .ok (.getfield 21, 3) := by decide +kernel
theorem dX2_judge_12 : decode cX2_judge 12 = .ok (.iload_n 1, 1) := by decide +kernel
theorem dX2_judge_13 : decode cX2_judge 13 = .ok (.iaload, 1) := by decide +kernel
theorem dX2_judge_14 : decode cX2_judge 14 = .ok (.isub, 1) := by decide +kernel
theorem dX2_judge_15 : decode cX2_judge 15 = .ok (.istore 4, 2) := by decide +kernel
theorem dX2_judge_17 : decode cX2_judge 17 = .ok (.aload_n 0, 1) := by decide +kernel
theorem dX2_judge_18 : decode cX2_judge 18 = .ok (.getfield 15, 3) := by decide +kernel
theorem dX2_judge_21 : decode cX2_judge 21 = .ok (.iload_n 2, 1) := by decide +kernel
theorem dX2_judge_22 : decode cX2_judge 22 = .ok (.iaload, 1) := by decide +kernel
theorem dX2_judge_23 : decode cX2_judge 23 = .ok (.ifCond .le 7, 3) := by decide +kernel
theorem dX2_judge_26 : decode cX2_judge 26 = .ok (.iconst 2, 1) := by decide +kernel
theorem dX2_judge_27 : decode cX2_judge 27 = .ok (.goto 4, 3) := by decide +kernel
theorem dX2_judge_30 : decode cX2_judge 30 = .ok (.iconst 0, 1) := by decide +kernel
theorem dX2_judge_31 : decode cX2_judge 31 = .ok (.istore 5, 2) := by decide +kernel
theorem dX2_judge_33 : decode cX2_judge 33 = .ok (.iload_n 3, 1) := by decide +kernel
theorem dX2_judge_34 : decode cX2_judge 34 = .ok (.aload_n 0, 1) := by decide +kernel
theorem dX2_judge_35 : decode cX2_judge 35 = .ok (.getfield 18, 3) := by decide +kernel
theorem dX2_judge_38 : decode cX2_judge 38 = .ok (.iload_n 2, 1) := by decide +kernel
theorem dX2_judge_39 : decode cX2_judge 39 = .ok (.iaload, 1) := by decide +kernel
theorem dX2_judge_40 : decode cX2_judge 40 = .ok (.aload_n 0, 1) := by decide +kernel
theorem dX2_judge_41 : decode cX2_judge 41 = .ok (.getfield 18, 3) := by decide +kernel
theorem dX2_judge_44 : decode cX2_judge 44 = .ok (.iload_n 1, 1) := by decide +kernel
theorem dX2_judge_45 : decode cX2_judge 45 = .ok (.iaload, 1) := by decide +kernel
theorem dX2_judge_46 : decode cX2_judge 46 = .ok (.isub, 1) := by decide +kernel
theorem dX2_judge_47 : decode cX2_judge 47 = .ok (.iconst 3, 1) := by decide +kernel
theorem dX2_judge_48 : decode cX2_judge 48 = .ok (.iload 4, 2) := by decide +kernel
theorem dX2_judge_50 : decode cX2_judge 50 = .ok (.imul, 1) := by decide +kernel
theorem dX2_judge_51 : decode cX2_judge 51 = .ok (.iadd, 1) := by decide +kernel
theorem dX2_judge_52 : decode cX2_judge 52 = .ok (.iload 5, 2) := by decide +kernel
theorem dX2_judge_54 : decode cX2_judge 54 = .ok (.iadd, 1) := by decide +kernel
theorem dX2_judge_55 : decode cX2_judge 55 = .ok (.isub, 1) := by decide +kernel
theorem dX2_judge_56 : decode cX2_judge 56 = .ok (.istore 6, 2) := by decide +kernel
theorem dX2_judge_58 : decode cX2_judge 58 = .ok (.iload 6, 2) := by decide +kernel
theorem dX2_judge_60 : decode cX2_judge 60 = .ok (.ifCond .lt 34, 3) := by decide +kernel
theorem dX2_judge_63 : decode cX2_judge 63 = .ok (.iload_n 2, 1) := by decide +kernel
theorem dX2_judge_64 : decode cX2_judge 64 = .ok (.aload_n 0, 1) := by decide +kernel
theorem dX2_judge_65 : decode cX2_judge 65 = .ok (.getfield 34, 3) := by decide +kernel
theorem dX2_judge_68 : decode cX2_judge 68 = .ok (.if_icmp .eq 13, 3) := by decide +kernel
theorem dX2_judge_71 : decode cX2_judge 71 = .ok (.iload 4, 2) := by decide +kernel
theorem dX2_judge_73 : decode cX2_judge 73 = .ok (.ifCond .ne 21, 3) := by decide +kernel
theorem dX2_judge_76 : decode cX2_judge 76 = .ok (.iload 6, 2) := by decide +kernel
theorem dX2_judge_78 : decode cX2_judge 78 = .ok (.ifCond .ne 16, 3) := by decide +kernel
theorem dX2_judge_81 : decode cX2_judge 81 = .ok (.aload_n 0, 1) := by decide +kernel
theorem dX2_judge_82 : decode cX2_judge 82 = .ok (.iconst 0, 1) := by decide +kernel
theorem dX2_judge_83 : decode cX2_judge 83 = .ok (.putfield 110, 3) := by decide +kernel
theorem dX2_judge_86 : decode cX2_judge 86 = .ok (.aload_n 0, 1) := by decide +kernel
theorem dX2_judge_87 : decode cX2_judge 87 = .ok (.iconst 1, 1) := by decide +kernel
theorem dX2_judge_88 : decode cX2_judge 88 = .ok (.putfield 113, 3) := by decide +kernel
theorem dX2_judge_91 : decode cX2_judge 91 = .ok (.goto 170, 3) := by decide +kernel
theorem dX2_judge_94 : decode cX2_judge 94 = .ok (.iload 6, 2) := by decide +kernel
theorem dX2_judge_96 : decode cX2_judge 96 = .ok (.ifCond .lt 23, 3) := by decide +kernel
theorem dX2_judge_99 : decode cX2_judge 99 = .ok (.iload 4, 2) := by decide +kernel
theorem dX2_judge_101 : decode cX2_judge 101 = .ok (.ifCond .ne 18, 3) := by decide +kernel
theorem dX2_judge_104 : decode cX2_judge 104 = .ok (.aload_n 0, 1) := by decide +kernel
theorem dX2_judge_105 : decode cX2_judge 105 = .ok (.sipush 400, 3) := by decide +kernel
theorem dX2_judge_108 : decode cX2_judge 108 = .ok (.putfield 110, 3) := by decide +kernel
theorem dX2_judge_111 : decode cX2_judge 111 = .ok (.aload_n 0, 1) := by decide +kernel
theorem dX2_judge_112 : decode cX2_judge 112 = .ok (.iconst 3, 1) := by decide +kernel
theorem dX2_judge_113 : decode cX2_judge 113 = .ok (.putfield 113, 3) := by decide +kernel
theorem dX2_judge_116 : decode cX2_judge 116 = .ok (.goto 145, 3) := by decide +kernel
theorem dX2_judge_119 : decode cX2_judge 119 = .ok (.iload 6, 2) := by decide +kernel
theorem dX2_judge_121 : decode cX2_judge 121 = .ok (.ifCond .lt 68, 3) := by decide +kernel
theorem dX2_judge_124 : decode cX2_judge 124 = .ok (.aload_n 0, 1) := by decide +kernel
theorem dX2_judge_125 : decode cX2_judge 125 = .ok (.iload 4, 2) := by decide +kernel
theorem dX2_judge_127 : decode cX2_judge 127 = .ok (.ifCond .le 22, 3) := by decide +kernel
theorem dX2_judge_130 : decode cX2_judge 130 = .ok (.sipush 400, 3) := by decide +kernel
theorem dX2_judge_133 : decode cX2_judge 133 = .ok (.bipush 100, 2) := by decide +kernel
theorem dX2_judge_135 : decode cX2_judge 135 = .ok (.iload 6, 2) := by decide +kernel
theorem dX2_judge_137 : decode cX2_judge 137 = .ok (.imul, 1) := by decide +kernel
theorem dX2_judge_138 : decode cX2_judge 138 = .ok (.iconst 2, 1) := by decide +kernel
theorem dX2_judge_139 : decode cX2_judge 139 = .ok (.iload 4, 2) := by decide +kernel
theorem dX2_judge_141 : decode cX2_judge 141 = .ok (.imul, 1) := by decide +kernel
theorem dX2_judge_142 : decode cX2_judge 142 = .ok (.idiv, 1) := by decide +kernel
theorem dX2_judge_143 : decode cX2_judge 143 = .ok (.invokestatic 116, 3) := by decide +kernel
theorem dX2_judge_146 : decode cX2_judge 146 = .ok (.goto 6, 3) := by decide +kernel
theorem dX2_judge_149 : decode cX2_judge 149 = .ok (.sipush 400, 3) := by decide +kernel
theorem dX2_judge_152 : decode cX2_judge 152 = .ok (.putfield 110, 3) := by decide +kernel
theorem dX2_judge_155 : decode cX2_judge 155 = .ok (.aload_n 0, 1) := by decide +kernel
theorem dX2_judge_156 : decode cX2_judge 156 = .ok (.aload_n 0, 1) := by decide +kernel
theorem dX2_judge_157 : decode cX2_judge 157 = .ok (.getfield 110, 3) := by decide +kernel
theorem dX2_judge_160 : decode cX2_judge 160 = .ok (.bipush 50, 2) := by decide +kernel
theorem dX2_judge_162 : decode cX2_judge 162 = .ok (.if_icmp .ge 7, 3) := by decide +kernel
theorem dX2_judge_165 : decode cX2_judge 165 = .ok (.iconst 1, 1) := by decide +kernel
theorem dX2_judge_166 : decode cX2_judge 166 = .ok (.goto 17, 3) := by decide +kernel
theorem dX2_judge_169 : decode cX2_judge 169 = .ok (.aload_n 0, 1) := by decide +kernel
theorem dX2_judge_170 : decode cX2_judge 170 = .ok (.getfield 110, 3) := by decide +kernel
theorem dX2_judge_173 : decode cX2_judge 173 = .ok (.bipush 100, 2) := by decide +kernel
theorem dX2_judge_175 : decode cX2_judge 175 = .ok (.if_icmp .gt 7, 3) := by decide +kernel
theorem dX2_judge_178 : decode cX2_judge 178 = .ok (.iconst 2, 1) := by decide +kernel
theorem dX2_judge_179 : decode cX2_judge 179 = .ok (.goto 4, 3) := by decide +kernel
theorem dX2_judge_182 : decode cX2_judge 182 = .ok (.iconst 3, 1) := by decide +kernel
theorem dX2_judge_183 : decode cX2_judge 183 = .ok (.putfield 113, 3) := by decide +kernel
theorem dX2_judge_186 : decode cX2_judge 186 = .ok (.goto 75, 3) := by decide +kernel
theorem dX2_judge_189 : decode cX2_judge 189 = .ok (.iload 4, 2) := by decide +kernel
theorem dX2_judge_191 : decode cX2_judge 191 = .ok (.ifCond .le 45, 3) := by decide +kernel
theorem dX2_judge_194 : decode cX2_judge 194 = .ok (.iload 6, 2) := by decide +kernel
theorem dX2_judge_196 : decode cX2_judge 196 = .ok (.ineg, 1) := by decide +kernel
theorem dX2_judge_197 : decode cX2_judge 197 = .ok (.iload 4, 2) := by decide +kernel
theorem dX2_judge_199 : decode cX2_judge 199 = .ok (.if_icmp .gt 37, 3) := by decide +kernel
theorem dX2_judge_202 : decode cX2_judge 202 = .ok (.aload_n 0, 1) := by decide +kernel
theorem dX2_judge_203 : decode cX2_judge 203 = .ok (.bipush 100, 2) := by decide +kernel
theorem dX2_judge_205 : decode cX2_judge 205 = .ok (.iload 6, 2) := by decide +kernel
theorem dX2_judge_207 : decode cX2_judge 207 = .ok (.ineg, 1) := by decide +kernel
theorem dX2_judge_208 : decode cX2_judge 208 = .ok (.imul, 1) := by decide +kernel
theorem dX2_judge_209 : decode cX2_judge 209 = .ok (.iload 4, 2) := by decide +kernel
theorem dX2_judge_211 : decode cX2_judge 211 = .ok (.idiv, 1) := by decide +kernel
theorem dX2_judge_212 : decode cX2_judge 212 = .ok (.putfield 110, 3) := by decide +kernel
theorem dX2_judge_215 : decode cX2_judge 215 = .ok (.aload_n 0, 1) := by decide +kernel
theorem dX2_judge_216 : decode cX2_judge 216 = .ok (.aload_n 0, 1) := by decide +kernel
theorem dX2_judge_217 : decode cX2_judge 217 = .ok (.getfield 110, 3) := by decide +kernel
theorem dX2_judge_220 : decode cX2_judge 220 = .ok (.bipush 50, 2) := by decide +kernel
theorem dX2_judge_222 : decode cX2_judge 222 = .ok (.if_icmp .ge 7, 3) := by decide +kernel
theorem dX2_judge_225 : decode cX2_judge 225 = .ok (.iconst 1, 1) := by decide +kernel
theorem dX2_judge_226 : decode cX2_judge 226 = .ok (.goto 4, 3) := by decide +kernel
theorem dX2_judge_229 : decode cX2_judge 229 = .ok (.iconst 0, 1) := by decide +kernel
theorem dX2_judge_230 : decode cX2_judge 230 = .ok (.putfield 113, 3) := by decide +kernel
theorem dX2_judge_233 : decode cX2_judge 233 = .ok (.goto 28, 3) := by decide +kernel
theorem dX2_judge_236 : decode cX2_judge 236 = .ok (.aload_n 0, 1) := by decide +kernel
theorem dX2_judge_237 : decode cX2_judge 237 = .ok (.sipush 400, 3) := by decide +kernel
theorem dX2_judge_240 : decode cX2_judge 240 = .ok (.putfield 110, 3) := by decide +kernel
theorem dX2_judge_243 : decode cX2_judge 243 = .ok (.aload_n 0, 1) := by decide +kernel
theorem dX2_judge_244 : decode cX2_judge 244 = .ok (.iconst 0, 1) := by decide +kernel
theorem dX2_judge_245 : decode cX2_judge 245 = .ok (.putfield 113, 3) := by decide +kernel
theorem dX2_judge_248 : decode cX2_judge 248 = .ok (.iload_n 2, 1) := by decide +kernel
theorem dX2_judge_249 : decode cX2_judge 249 = .ok (.iload_n 1, 1) := by decide +kernel
theorem dX2_judge_250 : decode cX2_judge 250 = .ok (.iconst 1, 1) := by decide +kernel
theorem dX2_judge_251 : decode cX2_judge 251 = .ok (.iadd, 1) := by decide +kernel
theorem dX2_judge_252 : decode cX2_judge 252 = .ok (.if_icmp .ne 7, 3) := by decide +kernel
theorem dX2_judge_255 : decode cX2_judge 255 = .ok (.iconst 1, 1) := by decide +kernel
theorem dX2_judge_256 : decode cX2_judge 256 = .ok (.goto 4, 3) := by decide +kernel
theorem dX2_judge_259 : decode cX2_judge 259 = .ok (.iconst 0, 1) := by decide +kernel
theorem dX2_judge_260 : decode cX2_judge 260 = .ok (.ireturn, 1) := by decide +kernel
theorem dX2_judge_261 : decode cX2_judge 261 = .ok (.iconst 1, 1) := by decide +kernel
theorem dX2_judge_262 : decode cX2_judge 262 = .ok (.ireturn, 1) := by decide +kernel
set_option maxHeartbeats 4000000 in
set_option maxRecDepth 100000 in
theorem k_judge (l : Launch) (dC : Nat → ClassId) (dI : Nat → Nat → Nat) (k : Nat → ClassId) (ln : Nat) (wa : Nat) (ga : Nat) (wt : Nat) (wo : Nat) (bD : Nat) (bL : Nat) (bE : Nat) (n : Int) (wd : Int) (nw : Int) (dp : Int) (sd : Int) (cl : Int) (fg : Int → Int) (fw : Int → Int) (fo : Int → Int) (fr : Int) (to : Int) (wz : Int) (hg : Bd 0 5 fg) (hw : Bd 0 2000 fw) (ho : Bd 0 12 fo) (h1 : 0 ≤ fr ∧ fr < to ∧ to ≤ n ∧ n ≤ 48) (h2 : 0 ≤ wz ∧ wz ≤ 200) : Kn l dC dI k yX2_judge (.code yX2_judge cX2_judge 7 (some .boolean)) ({ frames := 1, cells := 0, slots := 0, locals := 14 } : Room) [.ref ln, .int (iI fr), .int (iI to), .int (iI wz)] [(ln, .inr (2, [.int (iI n), .ref wa, .ref ga, .ref wt, .ref wo, .int (iI wd), .int (iI nw), .int (iI dp), .int (iI sd), .int (iI cl), .ref bD, .ref bL, .ref bE])), (ga, .inl (k 0, 49, .inl (fun i9 : Nat => iI (fg i9)))), (wt, .inl (k 0, 49, .inl (fun i9 : Nat => iI (fw i9)))), (wo, .inl (k 0, 49, .inl (fun i9 : Nat => iI (fo i9))))] (fun r w gc gs => ((jOk (jLk fw fo fg fr to wz) (fo (to - 1) - fo fr) fr to) ∧ r = some (.int (iI 1)) ∧ w = [(ln, .inr (2, [.int (iI n), .ref wa, .ref ga, .ref wt, .ref wo, .int (iI wd), .int (iI nw), .int (iI dp), .int (iI (jSp (jLk fw fo fg fr to wz) (fo (to - 1) - fo fr) to n)), .int (iI (jCl (jLk fw fo fg fr to wz) (fo (to - 1) - fo fr) to n)), .ref bD, .ref bL, .ref bE])), (ga, .inl (k 0, 49, .inl (fun i9 : Nat => iI (fg i9)))), (wt, .inl (k 0, 49, .inl (fun i9 : Nat => iI (fw i9)))), (wo, .inl (k 0, 49, .inl (fun i9 : Nat => iI (fo i9))))] ∧ gc = 0 ∧ gs = 0) ∨ ((¬ jOk (jLk fw fo fg fr to wz) (fo (to - 1) - fo fr) fr to) ∧ r = some (.int (iI 0)) ∧ w = [(ln, .inr (2, [.int (iI n), .ref wa, .ref ga, .ref wt, .ref wo, .int (iI wd), .int (iI nw), .int (iI dp), .int (iI (jSp (jLk fw fo fg fr to wz) (fo (to - 1) - fo fr) to n)), .int (iI (jCl (jLk fw fo fg fr to wz) (fo (to - 1) - fo fr) to n)), .ref bD, .ref bL, .ref bE])), (ga, .inl (k 0, 49, .inl (fun i9 : Nat => iI (fg i9)))), (wt, .inl (k 0, 49, .inl (fun i9 : Nat => iI (fw i9)))), (wo, .inl (k 0, 49, .inl (fun i9 : Nat => iI (fo i9))))] ∧ gc = 0 ∧ gs = 0)) := by
  refine kn_of (by decide) (Nat.le_of_ble_eq_true rfl) ?_
  intro p e s m args below meth c H locs B hr hnm ls hl
  have hx := B.1.1
  have hb := B.1.2.1
  have hl : lv_has ls 7 [(0, .ref ln), (1, .int (iI fr)), (2, .int (iI to)), (3, .int (iI wz))] := hl
  refine lv_aload_n hx hb dX2_judge_0 rfl (lv_at hl 0 rfl) ?_
  refine x_get (ci := 2) (C := RX2) (T := TX2) (N := 13) (v := .ref wo) B 0 rfl rfl in_X2 4 (by decide) mw_133 (fun _ h9 => h9) rfl dX2_judge_1 ?_
  refine lv_iload_n hx hb dX2_judge_4 rfl (lv_at hl 2 rfl) ?_
  refine lv_iconst (v := iI 1) hx hb dX2_judge_5 (by decide) ?_
  refine y_sub hx hb dX2_judge_6 ?_
  refine x_iald' (f := fo) (z := (to - 1)) B 3 rfl (by omega) dX2_judge_7 ?_
  have z_1 : 0 ≤ (fo (to - 1)) ∧ (fo (to - 1)) ≤ 12 := ho (to - 1)
  refine lv_aload_n hx hb dX2_judge_8 rfl (lv_at hl 0 rfl) ?_
  refine x_get (ci := 2) (C := RX2) (T := TX2) (N := 13) (v := .ref wo) B 0 rfl rfl in_X2 4 (by decide) mw_133 (fun _ h9 => h9) rfl dX2_judge_9 ?_
  refine lv_iload_n hx hb dX2_judge_12 rfl (lv_at hl 1 rfl) ?_
  refine x_iald' (f := fo) (z := fr) B 3 rfl (by omega) dX2_judge_13 ?_
  have z_2 : 0 ≤ (fo fr) ∧ (fo fr) ≤ 12 := ho fr
  refine y_sub hx hb dX2_judge_14 ?_
  refine lv_istore (lv' := [(4, .int (iI ((fo (to - 1)) - (fo fr)))), (0, .ref ln), (1, .int (iI fr)), (2, .int (iI to)), (3, .int (iI wz))]) hx hb dX2_judge_15 hl (by decide) rfl (fun ls hl => ?_)
  refine k_join (σ := Int × Int) B 58 (fun g9 : Int × Int => (g9.1 = jLk fw fo fg fr to wz) ∧ (g9.2 = fo (to - 1) - fo fr) ∧ (-3000 ≤ g9.1 ∧ g9.1 ≤ 3000) ∧ (-12 ≤ g9.2 ∧ g9.2 ≤ 12)) (fun g9 : Int × Int => [(4, .int (iI g9.2)), (0, .ref ln), (1, .int (iI fr)), (2, .int (iI to)), (3, .int (iI wz)), (6, .int (iI g9.1))]) (fun g9 : Int × Int => [(ln, .inr (2, [.int (iI n), .ref wa, .ref ga, .ref wt, .ref wo, .int (iI wd), .int (iI nw), .int (iI dp), .int (iI sd), .int (iI cl), .ref bD, .ref bL, .ref bE])), (ga, .inl (k 0, 49, .inl (fun i9 : Nat => iI (fg i9)))), (wt, .inl (k 0, 49, .inl (fun i9 : Nat => iI (fw i9)))), (wo, .inl (k 0, 49, .inl (fun i9 : Nat => iI (fo i9))))]) (fun g9 : Int × Int => []) ?_ (fun J_3 => ?_)
  · clear hl B
    rintro ⟨lk, sp⟩ ⟨hk, hs, hkr, hsr⟩ ls H locs hl B
    have hk : lk = jLk fw fo fg fr to wz := hk
    have hs : sp = fo (to - 1) - fo fr := hs
    have hkr : -3000 ≤ lk ∧ lk ≤ 3000 := hkr
    have hsr : -12 ≤ sp ∧ sp ≤ 12 := hsr
    have hl : lv_has ls 7 [(4, .int (iI sp)), (0, .ref ln), (1, .int (iI fr)), (2, .int (iI to)), (3, .int (iI wz)), (6, .int (iI lk))] := hl
    have B := bd_to (ws' := [(ln, .inr (2, [.int (iI n), .ref wa, .ref ga, .ref wt, .ref wo, .int (iI wd), .int (iI nw), .int (iI dp), .int (iI sd), .int (iI cl), .ref bD, .ref bL, .ref bE])), (ga, .inl (k 0, 49, .inl (fun i9 : Nat => iI (fg i9)))), (wt, .inl (k 0, 49, .inl (fun i9 : Nat => iI (fw i9)))), (wo, .inl (k 0, 49, .inl (fun i9 : Nat => iI (fo i9))))]) rfl B
    refine lv_iload hx hb dX2_judge_58 (lv_at hl 5 rfl) ?_
    refine lv_if_lt (tgt := 94) hx hb dX2_judge_60 (by decide) (fun c_4 => ?_) (fun c_4 => ?_)
    · have zc_4 : lk < 0 := jlt (a := lk) (b := 0) (by omega) (by omega) c_4
      refine lv_iload hx hb dX2_judge_94 (lv_at hl 5 rfl) ?_
      refine lv_if_lt (tgt := 119) hx hb dX2_judge_96 (by decide) (fun c_5 => ?_) (fun c_5 => ?_)
      · have zc_5 : lk < 0 := jlt (a := lk) (b := 0) (by omega) (by omega) c_5
        refine lv_iload hx hb dX2_judge_119 (lv_at hl 5 rfl) ?_
        refine lv_if_lt (tgt := 189) hx hb dX2_judge_121 (by decide) (fun c_6 => ?_) (fun c_6 => ?_)
        · have zc_6 : lk < 0 := jlt (a := lk) (b := 0) (by omega) (by omega) c_6
          refine lv_iload hx hb dX2_judge_189 (lv_at hl 0 rfl) ?_
          refine lv_if_le (tgt := 236) hx hb dX2_judge_191 (by decide) (fun c_7 => ?_) (fun c_7 => ?_)
          · have zc_7 : sp ≤ 0 := jle (a := sp) (b := 0) (by omega) (by omega) c_7
            refine lv_aload_n hx hb dX2_judge_236 rfl (lv_at hl 1 rfl) ?_
            refine lv_sipush (v := iI 400) hx hb dX2_judge_237 (by decide) ?_
            refine x_put (ci := 2) (C := RX2) (T := TX2) (N := 13) (ty := .int) (v := .int (iI 400)) B tyX2_ok nmX2 0 rfl rfl in_X2 8 (by decide) mw_137 (fun _ h9 => h9) rfl (by decide +kernel) rfl rfl (Nat.le_of_ble_eq_true rfl) dX2_judge_240 (fun H locs B => ?_)
            have B := bd_to (ws' := [(ln, .inr (2, [.int (iI n), .ref wa, .ref ga, .ref wt, .ref wo, .int (iI wd), .int (iI nw), .int (iI dp), .int (iI 400), .int (iI cl), .ref bD, .ref bL, .ref bE])), (ga, .inl (k 0, 49, .inl (fun i9 : Nat => iI (fg i9)))), (wt, .inl (k 0, 49, .inl (fun i9 : Nat => iI (fw i9)))), (wo, .inl (k 0, 49, .inl (fun i9 : Nat => iI (fo i9))))]) rfl B
            refine lv_aload_n hx hb dX2_judge_243 rfl (lv_at hl 1 rfl) ?_
            refine lv_iconst (v := iI 0) hx hb dX2_judge_244 (by decide) ?_
            refine x_put (ci := 2) (C := RX2) (T := TX2) (N := 13) (ty := .int) (v := .int (iI 0)) B tyX2_ok nmX2 0 rfl rfl in_X2 9 (by decide) mw_139 (fun _ h9 => h9) rfl (by decide +kernel) rfl rfl (Nat.le_of_ble_eq_true rfl) dX2_judge_245 (fun H locs B => ?_)
            have B := bd_to (ws' := [(ln, .inr (2, [.int (iI n), .ref wa, .ref ga, .ref wt, .ref wo, .int (iI wd), .int (iI nw), .int (iI dp), .int (iI 400), .int (iI 0), .ref bD, .ref bL, .ref bE])), (ga, .inl (k 0, 49, .inl (fun i9 : Nat => iI (fg i9)))), (wt, .inl (k 0, 49, .inl (fun i9 : Nat => iI (fw i9)))), (wo, .inl (k 0, 49, .inl (fun i9 : Nat => iI (fo i9))))]) rfl B
            refine lv_iload_n hx hb dX2_judge_248 rfl (lv_at hl 3 rfl) ?_
            refine lv_iload_n hx hb dX2_judge_249 rfl (lv_at hl 2 rfl) ?_
            refine lv_iconst (v := iI 1) hx hb dX2_judge_250 (by decide) ?_
            refine y_add hx hb dX2_judge_251 ?_
            refine lv_icmp_ne (tgt := 259) hx hb dX2_judge_252 (by decide) (fun c_8 => ?_) (fun c_8 => ?_)
            · have zc_8 : to ≠ (fr + 1) := jne (a := to) (b := (fr + 1)) (by omega) (by omega) c_8
              refine lv_iconst (v := iI 0) hx hb dX2_judge_259 (by decide) ?_
              have e_9 : (jSp (jLk fw fo fg fr to wz) (fo (to - 1) - fo fr) to n) = 400 := (by rw [← hk, ← hs]; first | (simp only [jCl, jSp, if_pos zc_4, if_neg (Int.not_le.mpr zc_4), if_pos zc_5, if_neg (Int.not_le.mpr zc_5), if_pos zc_6, if_neg (Int.not_le.mpr zc_6), if_pos zc_7, if_neg (Int.not_lt.mpr zc_7), if_neg zc_8]; done) | (simp only [jCl, jSp, if_pos zc_4, if_neg (Int.not_le.mpr zc_4), if_pos zc_5, if_neg (Int.not_le.mpr zc_5), if_pos zc_6, if_neg (Int.not_le.mpr zc_6), if_pos zc_7, if_neg (Int.not_lt.mpr zc_7), if_neg zc_8]; omega) | (simp only [jCl, jSp]; (repeat' split) <;> first | omega | rfl))
              have e_10 : (jCl (jLk fw fo fg fr to wz) (fo (to - 1) - fo fr) to n) = 0 := (by rw [← hk, ← hs]; first | (simp only [jCl, jSp, if_pos zc_4, if_neg (Int.not_le.mpr zc_4), if_pos zc_5, if_neg (Int.not_le.mpr zc_5), if_pos zc_6, if_neg (Int.not_le.mpr zc_6), if_pos zc_7, if_neg (Int.not_lt.mpr zc_7), if_neg zc_8]; done) | (simp only [jCl, jSp, if_pos zc_4, if_neg (Int.not_le.mpr zc_4), if_pos zc_5, if_neg (Int.not_le.mpr zc_5), if_pos zc_6, if_neg (Int.not_le.mpr zc_6), if_pos zc_7, if_neg (Int.not_lt.mpr zc_7), if_neg zc_8]; omega) | (simp only [jCl, jSp]; (repeat' split) <;> first | omega | rfl))
              have B := bd_to (ws' := [(ln, .inr (2, [.int (iI n), .ref wa, .ref ga, .ref wt, .ref wo, .int (iI wd), .int (iI nw), .int (iI dp), .int (iI (jSp (jLk fw fo fg fr to wz) (fo (to - 1) - fo fr) to n)), .int (iI (jCl (jLk fw fo fg fr to wz) (fo (to - 1) - fo fr) to n)), .ref bD, .ref bL, .ref bE])), (ga, .inl (k 0, 49, .inl (fun i9 : Nat => iI (fg i9)))), (wt, .inl (k 0, 49, .inl (fun i9 : Nat => iI (fw i9)))), (wo, .inl (k 0, 49, .inl (fun i9 : Nat => iI (fo i9))))]) (by first | rfl | (rw [e_9, e_10]) | (rw [e_10, e_9])) B
              exact k_zret B hr (by omega) (Or.inr (⟨(by rw [← hk, ← hs]; simp only [jOk]; omega), rfl, rfl, rfl, rfl⟩)) ⟨Nat.le_of_ble_eq_true rfl, Nat.le_of_ble_eq_true rfl⟩ ⟨Nat.le_of_ble_eq_true rfl, Nat.le_of_ble_eq_true rfl⟩ dX2_judge_260
            · have zc_8 : to = (fr + 1) := jeq (a := to) (b := (fr + 1)) (by omega) (by omega) c_8
              refine lv_iconst (v := iI 1) hx hb dX2_judge_255 (by decide) ?_
              refine lv_goto (tgt := 260) hx hb dX2_judge_256 (by decide) ?_
              have e_11 : (jSp (jLk fw fo fg fr to wz) (fo (to - 1) - fo fr) to n) = 400 := (by rw [← hk, ← hs]; first | (simp only [jCl, jSp, if_pos zc_4, if_neg (Int.not_le.mpr zc_4), if_pos zc_5, if_neg (Int.not_le.mpr zc_5), if_pos zc_6, if_neg (Int.not_le.mpr zc_6), if_pos zc_7, if_neg (Int.not_lt.mpr zc_7), if_pos zc_8]; done) | (simp only [jCl, jSp, if_pos zc_4, if_neg (Int.not_le.mpr zc_4), if_pos zc_5, if_neg (Int.not_le.mpr zc_5), if_pos zc_6, if_neg (Int.not_le.mpr zc_6), if_pos zc_7, if_neg (Int.not_lt.mpr zc_7), if_pos zc_8]; omega) | (simp only [jCl, jSp]; (repeat' split) <;> first | omega | rfl))
              have e_12 : (jCl (jLk fw fo fg fr to wz) (fo (to - 1) - fo fr) to n) = 0 := (by rw [← hk, ← hs]; first | (simp only [jCl, jSp, if_pos zc_4, if_neg (Int.not_le.mpr zc_4), if_pos zc_5, if_neg (Int.not_le.mpr zc_5), if_pos zc_6, if_neg (Int.not_le.mpr zc_6), if_pos zc_7, if_neg (Int.not_lt.mpr zc_7), if_pos zc_8]; done) | (simp only [jCl, jSp, if_pos zc_4, if_neg (Int.not_le.mpr zc_4), if_pos zc_5, if_neg (Int.not_le.mpr zc_5), if_pos zc_6, if_neg (Int.not_le.mpr zc_6), if_pos zc_7, if_neg (Int.not_lt.mpr zc_7), if_pos zc_8]; omega) | (simp only [jCl, jSp]; (repeat' split) <;> first | omega | rfl))
              have B := bd_to (ws' := [(ln, .inr (2, [.int (iI n), .ref wa, .ref ga, .ref wt, .ref wo, .int (iI wd), .int (iI nw), .int (iI dp), .int (iI (jSp (jLk fw fo fg fr to wz) (fo (to - 1) - fo fr) to n)), .int (iI (jCl (jLk fw fo fg fr to wz) (fo (to - 1) - fo fr) to n)), .ref bD, .ref bL, .ref bE])), (ga, .inl (k 0, 49, .inl (fun i9 : Nat => iI (fg i9)))), (wt, .inl (k 0, 49, .inl (fun i9 : Nat => iI (fw i9)))), (wo, .inl (k 0, 49, .inl (fun i9 : Nat => iI (fo i9))))]) (by first | rfl | (rw [e_11, e_12]) | (rw [e_12, e_11])) B
              exact k_zret B hr (by omega) (Or.inl (⟨(by rw [← hk, ← hs]; simp only [jOk]; omega), rfl, rfl, rfl, rfl⟩)) ⟨Nat.le_of_ble_eq_true rfl, Nat.le_of_ble_eq_true rfl⟩ ⟨Nat.le_of_ble_eq_true rfl, Nat.le_of_ble_eq_true rfl⟩ dX2_judge_260
          · have zc_7 : 0 < sp := jnle (a := sp) (b := 0) (by omega) (by omega) c_7
            refine lv_iload hx hb dX2_judge_194 (lv_at hl 5 rfl) ?_
            refine y_neg hx hb dX2_judge_196 ?_
            refine lv_iload hx hb dX2_judge_197 (lv_at hl 0 rfl) ?_
            refine lv_icmp_gt (tgt := 236) hx hb dX2_judge_199 (by decide) (fun c_13 => ?_) (fun c_13 => ?_)
            · have zc_13 : sp < (-lk) := jlt (a := sp) (b := (-lk)) (by omega) (by omega) c_13
              refine lv_aload_n hx hb dX2_judge_236 rfl (lv_at hl 1 rfl) ?_
              refine lv_sipush (v := iI 400) hx hb dX2_judge_237 (by decide) ?_
              refine x_put (ci := 2) (C := RX2) (T := TX2) (N := 13) (ty := .int) (v := .int (iI 400)) B tyX2_ok nmX2 0 rfl rfl in_X2 8 (by decide) mw_137 (fun _ h9 => h9) rfl (by decide +kernel) rfl rfl (Nat.le_of_ble_eq_true rfl) dX2_judge_240 (fun H locs B => ?_)
              have B := bd_to (ws' := [(ln, .inr (2, [.int (iI n), .ref wa, .ref ga, .ref wt, .ref wo, .int (iI wd), .int (iI nw), .int (iI dp), .int (iI 400), .int (iI cl), .ref bD, .ref bL, .ref bE])), (ga, .inl (k 0, 49, .inl (fun i9 : Nat => iI (fg i9)))), (wt, .inl (k 0, 49, .inl (fun i9 : Nat => iI (fw i9)))), (wo, .inl (k 0, 49, .inl (fun i9 : Nat => iI (fo i9))))]) rfl B
              refine lv_aload_n hx hb dX2_judge_243 rfl (lv_at hl 1 rfl) ?_
              refine lv_iconst (v := iI 0) hx hb dX2_judge_244 (by decide) ?_
              refine x_put (ci := 2) (C := RX2) (T := TX2) (N := 13) (ty := .int) (v := .int (iI 0)) B tyX2_ok nmX2 0 rfl rfl in_X2 9 (by decide) mw_139 (fun _ h9 => h9) rfl (by decide +kernel) rfl rfl (Nat.le_of_ble_eq_true rfl) dX2_judge_245 (fun H locs B => ?_)
              have B := bd_to (ws' := [(ln, .inr (2, [.int (iI n), .ref wa, .ref ga, .ref wt, .ref wo, .int (iI wd), .int (iI nw), .int (iI dp), .int (iI 400), .int (iI 0), .ref bD, .ref bL, .ref bE])), (ga, .inl (k 0, 49, .inl (fun i9 : Nat => iI (fg i9)))), (wt, .inl (k 0, 49, .inl (fun i9 : Nat => iI (fw i9)))), (wo, .inl (k 0, 49, .inl (fun i9 : Nat => iI (fo i9))))]) rfl B
              refine lv_iload_n hx hb dX2_judge_248 rfl (lv_at hl 3 rfl) ?_
              refine lv_iload_n hx hb dX2_judge_249 rfl (lv_at hl 2 rfl) ?_
              refine lv_iconst (v := iI 1) hx hb dX2_judge_250 (by decide) ?_
              refine y_add hx hb dX2_judge_251 ?_
              refine lv_icmp_ne (tgt := 259) hx hb dX2_judge_252 (by decide) (fun c_14 => ?_) (fun c_14 => ?_)
              · have zc_14 : to ≠ (fr + 1) := jne (a := to) (b := (fr + 1)) (by omega) (by omega) c_14
                refine lv_iconst (v := iI 0) hx hb dX2_judge_259 (by decide) ?_
                have e_15 : (jSp (jLk fw fo fg fr to wz) (fo (to - 1) - fo fr) to n) = 400 := (by rw [← hk, ← hs]; first | (simp only [jCl, jSp, if_pos zc_4, if_neg (Int.not_le.mpr zc_4), if_pos zc_5, if_neg (Int.not_le.mpr zc_5), if_pos zc_6, if_neg (Int.not_le.mpr zc_6), if_pos zc_7, if_neg (Int.not_le.mpr zc_7), if_pos zc_13, if_neg (Int.not_le.mpr zc_13), if_neg zc_14]; done) | (simp only [jCl, jSp, if_pos zc_4, if_neg (Int.not_le.mpr zc_4), if_pos zc_5, if_neg (Int.not_le.mpr zc_5), if_pos zc_6, if_neg (Int.not_le.mpr zc_6), if_pos zc_7, if_neg (Int.not_le.mpr zc_7), if_pos zc_13, if_neg (Int.not_le.mpr zc_13), if_neg zc_14]; omega) | (simp only [jCl, jSp]; (repeat' split) <;> first | omega | rfl))
                have e_16 : (jCl (jLk fw fo fg fr to wz) (fo (to - 1) - fo fr) to n) = 0 := (by rw [← hk, ← hs]; first | (simp only [jCl, jSp, if_pos zc_4, if_neg (Int.not_le.mpr zc_4), if_pos zc_5, if_neg (Int.not_le.mpr zc_5), if_pos zc_6, if_neg (Int.not_le.mpr zc_6), if_pos zc_7, if_neg (Int.not_le.mpr zc_7), if_pos zc_13, if_neg (Int.not_le.mpr zc_13), if_neg zc_14]; done) | (simp only [jCl, jSp, if_pos zc_4, if_neg (Int.not_le.mpr zc_4), if_pos zc_5, if_neg (Int.not_le.mpr zc_5), if_pos zc_6, if_neg (Int.not_le.mpr zc_6), if_pos zc_7, if_neg (Int.not_le.mpr zc_7), if_pos zc_13, if_neg (Int.not_le.mpr zc_13), if_neg zc_14]; omega) | (simp only [jCl, jSp]; (repeat' split) <;> first | omega | rfl))
                have B := bd_to (ws' := [(ln, .inr (2, [.int (iI n), .ref wa, .ref ga, .ref wt, .ref wo, .int (iI wd), .int (iI nw), .int (iI dp), .int (iI (jSp (jLk fw fo fg fr to wz) (fo (to - 1) - fo fr) to n)), .int (iI (jCl (jLk fw fo fg fr to wz) (fo (to - 1) - fo fr) to n)), .ref bD, .ref bL, .ref bE])), (ga, .inl (k 0, 49, .inl (fun i9 : Nat => iI (fg i9)))), (wt, .inl (k 0, 49, .inl (fun i9 : Nat => iI (fw i9)))), (wo, .inl (k 0, 49, .inl (fun i9 : Nat => iI (fo i9))))]) (by first | rfl | (rw [e_15, e_16]) | (rw [e_16, e_15])) B
                exact k_zret B hr (by omega) (Or.inr (⟨(by rw [← hk, ← hs]; simp only [jOk]; omega), rfl, rfl, rfl, rfl⟩)) ⟨Nat.le_of_ble_eq_true rfl, Nat.le_of_ble_eq_true rfl⟩ ⟨Nat.le_of_ble_eq_true rfl, Nat.le_of_ble_eq_true rfl⟩ dX2_judge_260
              · have zc_14 : to = (fr + 1) := jeq (a := to) (b := (fr + 1)) (by omega) (by omega) c_14
                refine lv_iconst (v := iI 1) hx hb dX2_judge_255 (by decide) ?_
                refine lv_goto (tgt := 260) hx hb dX2_judge_256 (by decide) ?_
                have e_17 : (jSp (jLk fw fo fg fr to wz) (fo (to - 1) - fo fr) to n) = 400 := (by rw [← hk, ← hs]; first | (simp only [jCl, jSp, if_pos zc_4, if_neg (Int.not_le.mpr zc_4), if_pos zc_5, if_neg (Int.not_le.mpr zc_5), if_pos zc_6, if_neg (Int.not_le.mpr zc_6), if_pos zc_7, if_neg (Int.not_le.mpr zc_7), if_pos zc_13, if_neg (Int.not_le.mpr zc_13), if_pos zc_14]; done) | (simp only [jCl, jSp, if_pos zc_4, if_neg (Int.not_le.mpr zc_4), if_pos zc_5, if_neg (Int.not_le.mpr zc_5), if_pos zc_6, if_neg (Int.not_le.mpr zc_6), if_pos zc_7, if_neg (Int.not_le.mpr zc_7), if_pos zc_13, if_neg (Int.not_le.mpr zc_13), if_pos zc_14]; omega) | (simp only [jCl, jSp]; (repeat' split) <;> first | omega | rfl))
                have e_18 : (jCl (jLk fw fo fg fr to wz) (fo (to - 1) - fo fr) to n) = 0 := (by rw [← hk, ← hs]; first | (simp only [jCl, jSp, if_pos zc_4, if_neg (Int.not_le.mpr zc_4), if_pos zc_5, if_neg (Int.not_le.mpr zc_5), if_pos zc_6, if_neg (Int.not_le.mpr zc_6), if_pos zc_7, if_neg (Int.not_le.mpr zc_7), if_pos zc_13, if_neg (Int.not_le.mpr zc_13), if_pos zc_14]; done) | (simp only [jCl, jSp, if_pos zc_4, if_neg (Int.not_le.mpr zc_4), if_pos zc_5, if_neg (Int.not_le.mpr zc_5), if_pos zc_6, if_neg (Int.not_le.mpr zc_6), if_pos zc_7, if_neg (Int.not_le.mpr zc_7), if_pos zc_13, if_neg (Int.not_le.mpr zc_13), if_pos zc_14]; omega) | (simp only [jCl, jSp]; (repeat' split) <;> first | omega | rfl))
                have B := bd_to (ws' := [(ln, .inr (2, [.int (iI n), .ref wa, .ref ga, .ref wt, .ref wo, .int (iI wd), .int (iI nw), .int (iI dp), .int (iI (jSp (jLk fw fo fg fr to wz) (fo (to - 1) - fo fr) to n)), .int (iI (jCl (jLk fw fo fg fr to wz) (fo (to - 1) - fo fr) to n)), .ref bD, .ref bL, .ref bE])), (ga, .inl (k 0, 49, .inl (fun i9 : Nat => iI (fg i9)))), (wt, .inl (k 0, 49, .inl (fun i9 : Nat => iI (fw i9)))), (wo, .inl (k 0, 49, .inl (fun i9 : Nat => iI (fo i9))))]) (by first | rfl | (rw [e_17, e_18]) | (rw [e_18, e_17])) B
                exact k_zret B hr (by omega) (Or.inl (⟨(by rw [← hk, ← hs]; simp only [jOk]; omega), rfl, rfl, rfl, rfl⟩)) ⟨Nat.le_of_ble_eq_true rfl, Nat.le_of_ble_eq_true rfl⟩ ⟨Nat.le_of_ble_eq_true rfl, Nat.le_of_ble_eq_true rfl⟩ dX2_judge_260
            · have zc_13 : (-lk) ≤ sp := jnlt (a := sp) (b := (-lk)) (by omega) (by omega) c_13
              refine lv_aload_n hx hb dX2_judge_202 rfl (lv_at hl 1 rfl) ?_
              refine lv_bipush (v := iI 100) hx hb dX2_judge_203 (by decide) ?_
              refine lv_iload hx hb dX2_judge_205 (lv_at hl 5 rfl) ?_
              refine y_neg hx hb dX2_judge_207 ?_
              refine y_mul hx hb dX2_judge_208 ?_
              refine lv_iload hx hb dX2_judge_209 (lv_at hl 0 rfl) ?_
              refine y_div hx hb (a := (100 * (-lk))) (b := sp) (by omega) (by omega) dX2_judge_211 ?_
              have z_19 : 0 ≤ ((100 * (-lk)) / sp) ∧ ((100 * (-lk)) / sp) ≤ (100 * (-lk)) := div_in (by omega) (by omega)
              refine x_put (ci := 2) (C := RX2) (T := TX2) (N := 13) (ty := .int) (v := .int (iI ((100 * (-lk)) / sp))) B tyX2_ok nmX2 0 rfl rfl in_X2 8 (by decide) mw_137 (fun _ h9 => h9) rfl (by decide +kernel) rfl rfl (Nat.le_of_ble_eq_true rfl) dX2_judge_212 (fun H locs B => ?_)
              have B := bd_to (ws' := [(ln, .inr (2, [.int (iI n), .ref wa, .ref ga, .ref wt, .ref wo, .int (iI wd), .int (iI nw), .int (iI dp), .int (iI ((100 * (-lk)) / sp)), .int (iI cl), .ref bD, .ref bL, .ref bE])), (ga, .inl (k 0, 49, .inl (fun i9 : Nat => iI (fg i9)))), (wt, .inl (k 0, 49, .inl (fun i9 : Nat => iI (fw i9)))), (wo, .inl (k 0, 49, .inl (fun i9 : Nat => iI (fo i9))))]) rfl B
              refine lv_aload_n hx hb dX2_judge_215 rfl (lv_at hl 1 rfl) ?_
              refine lv_aload_n hx hb dX2_judge_216 rfl (lv_at hl 1 rfl) ?_
              refine x_get (ci := 2) (C := RX2) (T := TX2) (N := 13) (v := .int (iI ((100 * (-lk)) / sp))) B 0 rfl rfl in_X2 8 (by decide) mw_137 (fun _ h9 => h9) rfl dX2_judge_217 ?_
              refine lv_bipush (v := iI 50) hx hb dX2_judge_220 (by decide) ?_
              refine lv_icmp_ge (tgt := 229) hx hb dX2_judge_222 (by decide) (fun c_20 => ?_) (fun c_20 => ?_)
              · have zc_20 : 50 ≤ ((100 * (-lk)) / sp) := jle (a := 50) (b := ((100 * (-lk)) / sp)) (by omega) (by omega) c_20
                refine lv_iconst (v := iI 0) hx hb dX2_judge_229 (by decide) ?_
                refine x_put (ci := 2) (C := RX2) (T := TX2) (N := 13) (ty := .int) (v := .int (iI 0)) B tyX2_ok nmX2 0 rfl rfl in_X2 9 (by decide) mw_139 (fun _ h9 => h9) rfl (by decide +kernel) rfl rfl (Nat.le_of_ble_eq_true rfl) dX2_judge_230 (fun H locs B => ?_)
                have B := bd_to (ws' := [(ln, .inr (2, [.int (iI n), .ref wa, .ref ga, .ref wt, .ref wo, .int (iI wd), .int (iI nw), .int (iI dp), .int (iI ((100 * (-lk)) / sp)), .int (iI 0), .ref bD, .ref bL, .ref bE])), (ga, .inl (k 0, 49, .inl (fun i9 : Nat => iI (fg i9)))), (wt, .inl (k 0, 49, .inl (fun i9 : Nat => iI (fw i9)))), (wo, .inl (k 0, 49, .inl (fun i9 : Nat => iI (fo i9))))]) rfl B
                refine lv_goto (tgt := 261) hx hb dX2_judge_233 (by decide) ?_
                refine lv_iconst (v := iI 1) hx hb dX2_judge_261 (by decide) ?_
                have e_21 : (jSp (jLk fw fo fg fr to wz) (fo (to - 1) - fo fr) to n) = ((100 * (-lk)) / sp) := (by rw [← hk, ← hs]; first | (simp only [jCl, jSp, if_pos zc_4, if_neg (Int.not_le.mpr zc_4), if_pos zc_5, if_neg (Int.not_le.mpr zc_5), if_pos zc_6, if_neg (Int.not_le.mpr zc_6), if_pos zc_7, if_neg (Int.not_le.mpr zc_7), if_pos zc_13, if_neg (Int.not_lt.mpr zc_13), if_pos zc_20, if_neg (Int.not_lt.mpr zc_20)]; done) | (simp only [jCl, jSp, if_pos zc_4, if_neg (Int.not_le.mpr zc_4), if_pos zc_5, if_neg (Int.not_le.mpr zc_5), if_pos zc_6, if_neg (Int.not_le.mpr zc_6), if_pos zc_7, if_neg (Int.not_le.mpr zc_7), if_pos zc_13, if_neg (Int.not_lt.mpr zc_13), if_pos zc_20, if_neg (Int.not_lt.mpr zc_20)]; omega) | (simp only [jCl, jSp]; (repeat' split) <;> first | omega | rfl))
                have e_22 : (jCl (jLk fw fo fg fr to wz) (fo (to - 1) - fo fr) to n) = 0 := (by rw [← hk, ← hs]; first | (simp only [jCl, jSp, if_pos zc_4, if_neg (Int.not_le.mpr zc_4), if_pos zc_5, if_neg (Int.not_le.mpr zc_5), if_pos zc_6, if_neg (Int.not_le.mpr zc_6), if_pos zc_7, if_neg (Int.not_le.mpr zc_7), if_pos zc_13, if_neg (Int.not_lt.mpr zc_13), if_pos zc_20, if_neg (Int.not_lt.mpr zc_20)]; done) | (simp only [jCl, jSp, if_pos zc_4, if_neg (Int.not_le.mpr zc_4), if_pos zc_5, if_neg (Int.not_le.mpr zc_5), if_pos zc_6, if_neg (Int.not_le.mpr zc_6), if_pos zc_7, if_neg (Int.not_le.mpr zc_7), if_pos zc_13, if_neg (Int.not_lt.mpr zc_13), if_pos zc_20, if_neg (Int.not_lt.mpr zc_20)]; omega) | (simp only [jCl, jSp]; (repeat' split) <;> first | omega | rfl))
                have B := bd_to (ws' := [(ln, .inr (2, [.int (iI n), .ref wa, .ref ga, .ref wt, .ref wo, .int (iI wd), .int (iI nw), .int (iI dp), .int (iI (jSp (jLk fw fo fg fr to wz) (fo (to - 1) - fo fr) to n)), .int (iI (jCl (jLk fw fo fg fr to wz) (fo (to - 1) - fo fr) to n)), .ref bD, .ref bL, .ref bE])), (ga, .inl (k 0, 49, .inl (fun i9 : Nat => iI (fg i9)))), (wt, .inl (k 0, 49, .inl (fun i9 : Nat => iI (fw i9)))), (wo, .inl (k 0, 49, .inl (fun i9 : Nat => iI (fo i9))))]) (by first | rfl | (rw [e_21, e_22]) | (rw [e_22, e_21])) B
                exact k_zret B hr (by omega) (Or.inl (⟨(by rw [← hk, ← hs]; simp only [jOk]; omega), rfl, rfl, rfl, rfl⟩)) ⟨Nat.le_of_ble_eq_true rfl, Nat.le_of_ble_eq_true rfl⟩ ⟨Nat.le_of_ble_eq_true rfl, Nat.le_of_ble_eq_true rfl⟩ dX2_judge_262
              · have zc_20 : ((100 * (-lk)) / sp) < 50 := jnle (a := 50) (b := ((100 * (-lk)) / sp)) (by omega) (by omega) c_20
                refine lv_iconst (v := iI 1) hx hb dX2_judge_225 (by decide) ?_
                refine lv_goto (tgt := 230) hx hb dX2_judge_226 (by decide) ?_
                refine x_put (ci := 2) (C := RX2) (T := TX2) (N := 13) (ty := .int) (v := .int (iI 1)) B tyX2_ok nmX2 0 rfl rfl in_X2 9 (by decide) mw_139 (fun _ h9 => h9) rfl (by decide +kernel) rfl rfl (Nat.le_of_ble_eq_true rfl) dX2_judge_230 (fun H locs B => ?_)
                have B := bd_to (ws' := [(ln, .inr (2, [.int (iI n), .ref wa, .ref ga, .ref wt, .ref wo, .int (iI wd), .int (iI nw), .int (iI dp), .int (iI ((100 * (-lk)) / sp)), .int (iI 1), .ref bD, .ref bL, .ref bE])), (ga, .inl (k 0, 49, .inl (fun i9 : Nat => iI (fg i9)))), (wt, .inl (k 0, 49, .inl (fun i9 : Nat => iI (fw i9)))), (wo, .inl (k 0, 49, .inl (fun i9 : Nat => iI (fo i9))))]) rfl B
                refine lv_goto (tgt := 261) hx hb dX2_judge_233 (by decide) ?_
                refine lv_iconst (v := iI 1) hx hb dX2_judge_261 (by decide) ?_
                have e_23 : (jSp (jLk fw fo fg fr to wz) (fo (to - 1) - fo fr) to n) = ((100 * (-lk)) / sp) := (by rw [← hk, ← hs]; first | (simp only [jCl, jSp, if_pos zc_4, if_neg (Int.not_le.mpr zc_4), if_pos zc_5, if_neg (Int.not_le.mpr zc_5), if_pos zc_6, if_neg (Int.not_le.mpr zc_6), if_pos zc_7, if_neg (Int.not_le.mpr zc_7), if_pos zc_13, if_neg (Int.not_lt.mpr zc_13), if_pos zc_20, if_neg (Int.not_le.mpr zc_20)]; done) | (simp only [jCl, jSp, if_pos zc_4, if_neg (Int.not_le.mpr zc_4), if_pos zc_5, if_neg (Int.not_le.mpr zc_5), if_pos zc_6, if_neg (Int.not_le.mpr zc_6), if_pos zc_7, if_neg (Int.not_le.mpr zc_7), if_pos zc_13, if_neg (Int.not_lt.mpr zc_13), if_pos zc_20, if_neg (Int.not_le.mpr zc_20)]; omega) | (simp only [jCl, jSp]; (repeat' split) <;> first | omega | rfl))
                have e_24 : (jCl (jLk fw fo fg fr to wz) (fo (to - 1) - fo fr) to n) = 1 := (by rw [← hk, ← hs]; first | (simp only [jCl, jSp, if_pos zc_4, if_neg (Int.not_le.mpr zc_4), if_pos zc_5, if_neg (Int.not_le.mpr zc_5), if_pos zc_6, if_neg (Int.not_le.mpr zc_6), if_pos zc_7, if_neg (Int.not_le.mpr zc_7), if_pos zc_13, if_neg (Int.not_lt.mpr zc_13), if_pos zc_20, if_neg (Int.not_le.mpr zc_20)]; done) | (simp only [jCl, jSp, if_pos zc_4, if_neg (Int.not_le.mpr zc_4), if_pos zc_5, if_neg (Int.not_le.mpr zc_5), if_pos zc_6, if_neg (Int.not_le.mpr zc_6), if_pos zc_7, if_neg (Int.not_le.mpr zc_7), if_pos zc_13, if_neg (Int.not_lt.mpr zc_13), if_pos zc_20, if_neg (Int.not_le.mpr zc_20)]; omega) | (simp only [jCl, jSp]; (repeat' split) <;> first | omega | rfl))
                have B := bd_to (ws' := [(ln, .inr (2, [.int (iI n), .ref wa, .ref ga, .ref wt, .ref wo, .int (iI wd), .int (iI nw), .int (iI dp), .int (iI (jSp (jLk fw fo fg fr to wz) (fo (to - 1) - fo fr) to n)), .int (iI (jCl (jLk fw fo fg fr to wz) (fo (to - 1) - fo fr) to n)), .ref bD, .ref bL, .ref bE])), (ga, .inl (k 0, 49, .inl (fun i9 : Nat => iI (fg i9)))), (wt, .inl (k 0, 49, .inl (fun i9 : Nat => iI (fw i9)))), (wo, .inl (k 0, 49, .inl (fun i9 : Nat => iI (fo i9))))]) (by first | rfl | (rw [e_23, e_24]) | (rw [e_24, e_23])) B
                exact k_zret B hr (by omega) (Or.inl (⟨(by rw [← hk, ← hs]; simp only [jOk]; omega), rfl, rfl, rfl, rfl⟩)) ⟨Nat.le_of_ble_eq_true rfl, Nat.le_of_ble_eq_true rfl⟩ ⟨Nat.le_of_ble_eq_true rfl, Nat.le_of_ble_eq_true rfl⟩ dX2_judge_262
        · have zc_6 : 0 ≤ lk := jnlt (a := lk) (b := 0) (by omega) (by omega) c_6
          exfalso; omega
      · have zc_5 : 0 ≤ lk := jnlt (a := lk) (b := 0) (by omega) (by omega) c_5
        exfalso; omega
    · have zc_4 : 0 ≤ lk := jnlt (a := lk) (b := 0) (by omega) (by omega) c_4
      refine lv_iload_n hx hb dX2_judge_63 rfl (lv_at hl 3 rfl) ?_
      refine lv_aload_n hx hb dX2_judge_64 rfl (lv_at hl 1 rfl) ?_
      refine x_get (ci := 2) (C := RX2) (T := TX2) (N := 13) (v := .int (iI n)) B 0 rfl rfl in_X2 0 (by decide) mw_126 (fun _ h9 => h9) rfl dX2_judge_65 ?_
      refine lv_icmp_eq (tgt := 81) hx hb dX2_judge_68 (by decide) (fun c_25 => ?_) (fun c_25 => ?_)
      · have zc_25 : to = n := jeq (a := to) (b := n) (by omega) (by omega) c_25
        refine lv_aload_n hx hb dX2_judge_81 rfl (lv_at hl 1 rfl) ?_
        refine lv_iconst (v := iI 0) hx hb dX2_judge_82 (by decide) ?_
        refine x_put (ci := 2) (C := RX2) (T := TX2) (N := 13) (ty := .int) (v := .int (iI 0)) B tyX2_ok nmX2 0 rfl rfl in_X2 8 (by decide) mw_137 (fun _ h9 => h9) rfl (by decide +kernel) rfl rfl (Nat.le_of_ble_eq_true rfl) dX2_judge_83 (fun H locs B => ?_)
        have B := bd_to (ws' := [(ln, .inr (2, [.int (iI n), .ref wa, .ref ga, .ref wt, .ref wo, .int (iI wd), .int (iI nw), .int (iI dp), .int (iI 0), .int (iI cl), .ref bD, .ref bL, .ref bE])), (ga, .inl (k 0, 49, .inl (fun i9 : Nat => iI (fg i9)))), (wt, .inl (k 0, 49, .inl (fun i9 : Nat => iI (fw i9)))), (wo, .inl (k 0, 49, .inl (fun i9 : Nat => iI (fo i9))))]) rfl B
        refine lv_aload_n hx hb dX2_judge_86 rfl (lv_at hl 1 rfl) ?_
        refine lv_iconst (v := iI 1) hx hb dX2_judge_87 (by decide) ?_
        refine x_put (ci := 2) (C := RX2) (T := TX2) (N := 13) (ty := .int) (v := .int (iI 1)) B tyX2_ok nmX2 0 rfl rfl in_X2 9 (by decide) mw_139 (fun _ h9 => h9) rfl (by decide +kernel) rfl rfl (Nat.le_of_ble_eq_true rfl) dX2_judge_88 (fun H locs B => ?_)
        have B := bd_to (ws' := [(ln, .inr (2, [.int (iI n), .ref wa, .ref ga, .ref wt, .ref wo, .int (iI wd), .int (iI nw), .int (iI dp), .int (iI 0), .int (iI 1), .ref bD, .ref bL, .ref bE])), (ga, .inl (k 0, 49, .inl (fun i9 : Nat => iI (fg i9)))), (wt, .inl (k 0, 49, .inl (fun i9 : Nat => iI (fw i9)))), (wo, .inl (k 0, 49, .inl (fun i9 : Nat => iI (fo i9))))]) rfl B
        refine lv_goto (tgt := 261) hx hb dX2_judge_91 (by decide) ?_
        refine lv_iconst (v := iI 1) hx hb dX2_judge_261 (by decide) ?_
        have e_26 : (jSp (jLk fw fo fg fr to wz) (fo (to - 1) - fo fr) to n) = 0 := (by rw [← hk, ← hs]; first | (simp only [jCl, jSp, if_pos zc_4, if_neg (Int.not_lt.mpr zc_4), if_pos zc_25]; done) | (simp only [jCl, jSp, if_pos zc_4, if_neg (Int.not_lt.mpr zc_4), if_pos zc_25]; omega) | (simp only [jCl, jSp]; (repeat' split) <;> first | omega | rfl))
        have e_27 : (jCl (jLk fw fo fg fr to wz) (fo (to - 1) - fo fr) to n) = 1 := (by rw [← hk, ← hs]; first | (simp only [jCl, jSp, if_pos zc_4, if_neg (Int.not_lt.mpr zc_4), if_pos zc_25]; done) | (simp only [jCl, jSp, if_pos zc_4, if_neg (Int.not_lt.mpr zc_4), if_pos zc_25]; omega) | (simp only [jCl, jSp]; (repeat' split) <;> first | omega | rfl))
        have B := bd_to (ws' := [(ln, .inr (2, [.int (iI n), .ref wa, .ref ga, .ref wt, .ref wo, .int (iI wd), .int (iI nw), .int (iI dp), .int (iI (jSp (jLk fw fo fg fr to wz) (fo (to - 1) - fo fr) to n)), .int (iI (jCl (jLk fw fo fg fr to wz) (fo (to - 1) - fo fr) to n)), .ref bD, .ref bL, .ref bE])), (ga, .inl (k 0, 49, .inl (fun i9 : Nat => iI (fg i9)))), (wt, .inl (k 0, 49, .inl (fun i9 : Nat => iI (fw i9)))), (wo, .inl (k 0, 49, .inl (fun i9 : Nat => iI (fo i9))))]) (by first | rfl | (rw [e_26, e_27]) | (rw [e_27, e_26])) B
        exact k_zret B hr (by omega) (Or.inl (⟨(by rw [← hk, ← hs]; simp only [jOk]; omega), rfl, rfl, rfl, rfl⟩)) ⟨Nat.le_of_ble_eq_true rfl, Nat.le_of_ble_eq_true rfl⟩ ⟨Nat.le_of_ble_eq_true rfl, Nat.le_of_ble_eq_true rfl⟩ dX2_judge_262
      · have zc_25 : to ≠ n := jne (a := to) (b := n) (by omega) (by omega) c_25
        refine lv_iload hx hb dX2_judge_71 (lv_at hl 0 rfl) ?_
        refine lv_if_ne (tgt := 94) hx hb dX2_judge_73 (by decide) (fun c_28 => ?_) (fun c_28 => ?_)
        · have zc_28 : sp ≠ 0 := jne (a := sp) (b := 0) (by omega) (by omega) c_28
          refine lv_iload hx hb dX2_judge_94 (lv_at hl 5 rfl) ?_
          refine lv_if_lt (tgt := 119) hx hb dX2_judge_96 (by decide) (fun c_29 => ?_) (fun c_29 => ?_)
          · have zc_29 : lk < 0 := jlt (a := lk) (b := 0) (by omega) (by omega) c_29
            exfalso; omega
          · have zc_29 : 0 ≤ lk := jnlt (a := lk) (b := 0) (by omega) (by omega) c_29
            refine lv_iload hx hb dX2_judge_99 (lv_at hl 0 rfl) ?_
            refine lv_if_ne (tgt := 119) hx hb dX2_judge_101 (by decide) (fun c_30 => ?_) (fun c_30 => ?_)
            · have zc_30 : sp ≠ 0 := jne (a := sp) (b := 0) (by omega) (by omega) c_30
              refine lv_iload hx hb dX2_judge_119 (lv_at hl 5 rfl) ?_
              refine lv_if_lt (tgt := 189) hx hb dX2_judge_121 (by decide) (fun c_31 => ?_) (fun c_31 => ?_)
              · have zc_31 : lk < 0 := jlt (a := lk) (b := 0) (by omega) (by omega) c_31
                exfalso; omega
              · have zc_31 : 0 ≤ lk := jnlt (a := lk) (b := 0) (by omega) (by omega) c_31
                refine lv_aload_n hx hb dX2_judge_124 rfl (lv_at hl 1 rfl) ?_
                refine lv_iload hx hb dX2_judge_125 (lv_at hl 0 rfl) ?_
                refine lv_if_le (tgt := 149) hx hb dX2_judge_127 (by decide) (fun c_32 => ?_) (fun c_32 => ?_)
                · have zc_32 : sp ≤ 0 := jle (a := sp) (b := 0) (by omega) (by omega) c_32
                  refine lv_sipush (v := iI 400) hx hb dX2_judge_149 (by decide) ?_
                  refine x_put (ci := 2) (C := RX2) (T := TX2) (N := 13) (ty := .int) (v := .int (iI 400)) B tyX2_ok nmX2 0 rfl rfl in_X2 8 (by decide) mw_137 (fun _ h9 => h9) rfl (by decide +kernel) rfl rfl (Nat.le_of_ble_eq_true rfl) dX2_judge_152 (fun H locs B => ?_)
                  have B := bd_to (ws' := [(ln, .inr (2, [.int (iI n), .ref wa, .ref ga, .ref wt, .ref wo, .int (iI wd), .int (iI nw), .int (iI dp), .int (iI 400), .int (iI cl), .ref bD, .ref bL, .ref bE])), (ga, .inl (k 0, 49, .inl (fun i9 : Nat => iI (fg i9)))), (wt, .inl (k 0, 49, .inl (fun i9 : Nat => iI (fw i9)))), (wo, .inl (k 0, 49, .inl (fun i9 : Nat => iI (fo i9))))]) rfl B
                  refine lv_aload_n hx hb dX2_judge_155 rfl (lv_at hl 1 rfl) ?_
                  refine lv_aload_n hx hb dX2_judge_156 rfl (lv_at hl 1 rfl) ?_
                  refine x_get (ci := 2) (C := RX2) (T := TX2) (N := 13) (v := .int (iI 400)) B 0 rfl rfl in_X2 8 (by decide) mw_137 (fun _ h9 => h9) rfl dX2_judge_157 ?_
                  refine lv_bipush (v := iI 50) hx hb dX2_judge_160 (by decide) ?_
                  refine lv_icmp_ge (tgt := 169) hx hb dX2_judge_162 (by decide) (fun _ => ?_) (fun c9 => absurd (by decide) c9)
                  refine lv_aload_n hx hb dX2_judge_169 rfl (lv_at hl 1 rfl) ?_
                  refine x_get (ci := 2) (C := RX2) (T := TX2) (N := 13) (v := .int (iI 400)) B 0 rfl rfl in_X2 8 (by decide) mw_137 (fun _ h9 => h9) rfl dX2_judge_170 ?_
                  refine lv_bipush (v := iI 100) hx hb dX2_judge_173 (by decide) ?_
                  refine lv_icmp_gt (tgt := 182) hx hb dX2_judge_175 (by decide) (fun _ => ?_) (fun c9 => absurd (by decide) c9)
                  refine lv_iconst (v := iI 3) hx hb dX2_judge_182 (by decide) ?_
                  refine x_put (ci := 2) (C := RX2) (T := TX2) (N := 13) (ty := .int) (v := .int (iI 3)) B tyX2_ok nmX2 0 rfl rfl in_X2 9 (by decide) mw_139 (fun _ h9 => h9) rfl (by decide +kernel) rfl rfl (Nat.le_of_ble_eq_true rfl) dX2_judge_183 (fun H locs B => ?_)
                  have B := bd_to (ws' := [(ln, .inr (2, [.int (iI n), .ref wa, .ref ga, .ref wt, .ref wo, .int (iI wd), .int (iI nw), .int (iI dp), .int (iI 400), .int (iI 3), .ref bD, .ref bL, .ref bE])), (ga, .inl (k 0, 49, .inl (fun i9 : Nat => iI (fg i9)))), (wt, .inl (k 0, 49, .inl (fun i9 : Nat => iI (fw i9)))), (wo, .inl (k 0, 49, .inl (fun i9 : Nat => iI (fo i9))))]) rfl B
                  refine lv_goto (tgt := 261) hx hb dX2_judge_186 (by decide) ?_
                  refine lv_iconst (v := iI 1) hx hb dX2_judge_261 (by decide) ?_
                  have e_33 : (jSp (jLk fw fo fg fr to wz) (fo (to - 1) - fo fr) to n) = 400 := (by rw [← hk, ← hs]; first | (simp only [jCl, jSp, if_pos zc_4, if_neg (Int.not_lt.mpr zc_4), if_neg zc_25, if_neg zc_28, if_pos zc_29, if_neg (Int.not_lt.mpr zc_29), if_neg zc_30, if_pos zc_31, if_neg (Int.not_lt.mpr zc_31), if_pos zc_32, if_neg (Int.not_lt.mpr zc_32)]; done) | (simp only [jCl, jSp, if_pos zc_4, if_neg (Int.not_lt.mpr zc_4), if_neg zc_25, if_neg zc_28, if_pos zc_29, if_neg (Int.not_lt.mpr zc_29), if_neg zc_30, if_pos zc_31, if_neg (Int.not_lt.mpr zc_31), if_pos zc_32, if_neg (Int.not_lt.mpr zc_32)]; omega) | (simp only [jCl, jSp]; (repeat' split) <;> first | omega | rfl))
                  have e_34 : (jCl (jLk fw fo fg fr to wz) (fo (to - 1) - fo fr) to n) = 3 := (by rw [← hk, ← hs]; first | (simp only [jCl, jSp, if_pos zc_4, if_neg (Int.not_lt.mpr zc_4), if_neg zc_25, if_neg zc_28, if_pos zc_29, if_neg (Int.not_lt.mpr zc_29), if_neg zc_30, if_pos zc_31, if_neg (Int.not_lt.mpr zc_31), if_pos zc_32, if_neg (Int.not_lt.mpr zc_32)]; done) | (simp only [jCl, jSp, if_pos zc_4, if_neg (Int.not_lt.mpr zc_4), if_neg zc_25, if_neg zc_28, if_pos zc_29, if_neg (Int.not_lt.mpr zc_29), if_neg zc_30, if_pos zc_31, if_neg (Int.not_lt.mpr zc_31), if_pos zc_32, if_neg (Int.not_lt.mpr zc_32)]; omega) | (simp only [jCl, jSp]; (repeat' split) <;> first | omega | rfl))
                  have B := bd_to (ws' := [(ln, .inr (2, [.int (iI n), .ref wa, .ref ga, .ref wt, .ref wo, .int (iI wd), .int (iI nw), .int (iI dp), .int (iI (jSp (jLk fw fo fg fr to wz) (fo (to - 1) - fo fr) to n)), .int (iI (jCl (jLk fw fo fg fr to wz) (fo (to - 1) - fo fr) to n)), .ref bD, .ref bL, .ref bE])), (ga, .inl (k 0, 49, .inl (fun i9 : Nat => iI (fg i9)))), (wt, .inl (k 0, 49, .inl (fun i9 : Nat => iI (fw i9)))), (wo, .inl (k 0, 49, .inl (fun i9 : Nat => iI (fo i9))))]) (by first | rfl | (rw [e_33, e_34]) | (rw [e_34, e_33])) B
                  exact k_zret B hr (by omega) (Or.inl (⟨(by rw [← hk, ← hs]; simp only [jOk]; omega), rfl, rfl, rfl, rfl⟩)) ⟨Nat.le_of_ble_eq_true rfl, Nat.le_of_ble_eq_true rfl⟩ ⟨Nat.le_of_ble_eq_true rfl, Nat.le_of_ble_eq_true rfl⟩ dX2_judge_262
                · have zc_32 : 0 < sp := jnle (a := sp) (b := 0) (by omega) (by omega) c_32
                  refine lv_sipush (v := iI 400) hx hb dX2_judge_130 (by decide) ?_
                  refine lv_bipush (v := iI 100) hx hb dX2_judge_133 (by decide) ?_
                  refine lv_iload hx hb dX2_judge_135 (lv_at hl 5 rfl) ?_
                  refine y_mul hx hb dX2_judge_137 ?_
                  refine lv_iconst (v := iI 2) hx hb dX2_judge_138 (by decide) ?_
                  refine lv_iload hx hb dX2_judge_139 (lv_at hl 0 rfl) ?_
                  refine y_mul hx hb dX2_judge_141 ?_
                  refine y_div hx hb (a := (100 * lk)) (b := (2 * sp)) (by omega) (by omega) dX2_judge_142 ?_
                  have z_35 : 0 ≤ ((100 * lk) / (2 * sp)) ∧ ((100 * lk) / (2 * sp)) ≤ (100 * lk) := div_in (by omega) (by omega)
                  refine y_min (a := 400) (b := ((100 * lk) / (2 * sp))) B hl mw_1436 mw_655 mw_26 mw_656 (Nat.le_of_ble_eq_true rfl) (Nat.le_of_ble_eq_true rfl) (Nat.le_of_ble_eq_true rfl) (Nat.le_of_ble_eq_true rfl) (by omega) (by omega) dX2_judge_143 ?_
                  refine lv_goto (tgt := 152) hx hb dX2_judge_146 (by decide) ?_
                  refine x_put (ci := 2) (C := RX2) (T := TX2) (N := 13) (ty := .int) (v := .int (iI (min 400 ((100 * lk) / (2 * sp))))) B tyX2_ok nmX2 0 rfl rfl in_X2 8 (by decide) mw_137 (fun _ h9 => h9) rfl (by decide +kernel) rfl rfl (Nat.le_of_ble_eq_true rfl) dX2_judge_152 (fun H locs B => ?_)
                  have B := bd_to (ws' := [(ln, .inr (2, [.int (iI n), .ref wa, .ref ga, .ref wt, .ref wo, .int (iI wd), .int (iI nw), .int (iI dp), .int (iI (min 400 ((100 * lk) / (2 * sp)))), .int (iI cl), .ref bD, .ref bL, .ref bE])), (ga, .inl (k 0, 49, .inl (fun i9 : Nat => iI (fg i9)))), (wt, .inl (k 0, 49, .inl (fun i9 : Nat => iI (fw i9)))), (wo, .inl (k 0, 49, .inl (fun i9 : Nat => iI (fo i9))))]) rfl B
                  refine lv_aload_n hx hb dX2_judge_155 rfl (lv_at hl 1 rfl) ?_
                  refine lv_aload_n hx hb dX2_judge_156 rfl (lv_at hl 1 rfl) ?_
                  refine x_get (ci := 2) (C := RX2) (T := TX2) (N := 13) (v := .int (iI (min 400 ((100 * lk) / (2 * sp))))) B 0 rfl rfl in_X2 8 (by decide) mw_137 (fun _ h9 => h9) rfl dX2_judge_157 ?_
                  refine lv_bipush (v := iI 50) hx hb dX2_judge_160 (by decide) ?_
                  refine lv_icmp_ge (tgt := 169) hx hb dX2_judge_162 (by decide) (fun c_36 => ?_) (fun c_36 => ?_)
                  · have zc_36 : 50 ≤ (min 400 ((100 * lk) / (2 * sp))) := jle (a := 50) (b := (min 400 ((100 * lk) / (2 * sp)))) (by omega) (by omega) c_36
                    refine lv_aload_n hx hb dX2_judge_169 rfl (lv_at hl 1 rfl) ?_
                    refine x_get (ci := 2) (C := RX2) (T := TX2) (N := 13) (v := .int (iI (min 400 ((100 * lk) / (2 * sp))))) B 0 rfl rfl in_X2 8 (by decide) mw_137 (fun _ h9 => h9) rfl dX2_judge_170 ?_
                    refine lv_bipush (v := iI 100) hx hb dX2_judge_173 (by decide) ?_
                    refine lv_icmp_gt (tgt := 182) hx hb dX2_judge_175 (by decide) (fun c_37 => ?_) (fun c_37 => ?_)
                    · have zc_37 : 100 < (min 400 ((100 * lk) / (2 * sp))) := jlt (a := 100) (b := (min 400 ((100 * lk) / (2 * sp)))) (by omega) (by omega) c_37
                      refine lv_iconst (v := iI 3) hx hb dX2_judge_182 (by decide) ?_
                      refine x_put (ci := 2) (C := RX2) (T := TX2) (N := 13) (ty := .int) (v := .int (iI 3)) B tyX2_ok nmX2 0 rfl rfl in_X2 9 (by decide) mw_139 (fun _ h9 => h9) rfl (by decide +kernel) rfl rfl (Nat.le_of_ble_eq_true rfl) dX2_judge_183 (fun H locs B => ?_)
                      have B := bd_to (ws' := [(ln, .inr (2, [.int (iI n), .ref wa, .ref ga, .ref wt, .ref wo, .int (iI wd), .int (iI nw), .int (iI dp), .int (iI (min 400 ((100 * lk) / (2 * sp)))), .int (iI 3), .ref bD, .ref bL, .ref bE])), (ga, .inl (k 0, 49, .inl (fun i9 : Nat => iI (fg i9)))), (wt, .inl (k 0, 49, .inl (fun i9 : Nat => iI (fw i9)))), (wo, .inl (k 0, 49, .inl (fun i9 : Nat => iI (fo i9))))]) rfl B
                      refine lv_goto (tgt := 261) hx hb dX2_judge_186 (by decide) ?_
                      refine lv_iconst (v := iI 1) hx hb dX2_judge_261 (by decide) ?_
                      have e_38 : (jSp (jLk fw fo fg fr to wz) (fo (to - 1) - fo fr) to n) = (min 400 ((100 * lk) / (2 * sp))) := (by rw [← hk, ← hs]; first | (simp only [jCl, jSp, if_pos zc_4, if_neg (Int.not_lt.mpr zc_4), if_neg zc_25, if_neg zc_28, if_pos zc_29, if_neg (Int.not_lt.mpr zc_29), if_neg zc_30, if_pos zc_31, if_neg (Int.not_lt.mpr zc_31), if_pos zc_32, if_neg (Int.not_le.mpr zc_32), if_pos zc_36, if_neg (Int.not_lt.mpr zc_36), if_pos zc_37, if_neg (Int.not_le.mpr zc_37)]; done) | (simp only [jCl, jSp, if_pos zc_4, if_neg (Int.not_lt.mpr zc_4), if_neg zc_25, if_neg zc_28, if_pos zc_29, if_neg (Int.not_lt.mpr zc_29), if_neg zc_30, if_pos zc_31, if_neg (Int.not_lt.mpr zc_31), if_pos zc_32, if_neg (Int.not_le.mpr zc_32), if_pos zc_36, if_neg (Int.not_lt.mpr zc_36), if_pos zc_37, if_neg (Int.not_le.mpr zc_37)]; omega) | (simp only [jCl, jSp]; (repeat' split) <;> first | omega | rfl))
                      have e_39 : (jCl (jLk fw fo fg fr to wz) (fo (to - 1) - fo fr) to n) = 3 := (by rw [← hk, ← hs]; first | (simp only [jCl, jSp, if_pos zc_4, if_neg (Int.not_lt.mpr zc_4), if_neg zc_25, if_neg zc_28, if_pos zc_29, if_neg (Int.not_lt.mpr zc_29), if_neg zc_30, if_pos zc_31, if_neg (Int.not_lt.mpr zc_31), if_pos zc_32, if_neg (Int.not_le.mpr zc_32), if_pos zc_36, if_neg (Int.not_lt.mpr zc_36), if_pos zc_37, if_neg (Int.not_le.mpr zc_37)]; done) | (simp only [jCl, jSp, if_pos zc_4, if_neg (Int.not_lt.mpr zc_4), if_neg zc_25, if_neg zc_28, if_pos zc_29, if_neg (Int.not_lt.mpr zc_29), if_neg zc_30, if_pos zc_31, if_neg (Int.not_lt.mpr zc_31), if_pos zc_32, if_neg (Int.not_le.mpr zc_32), if_pos zc_36, if_neg (Int.not_lt.mpr zc_36), if_pos zc_37, if_neg (Int.not_le.mpr zc_37)]; omega) | (simp only [jCl, jSp]; (repeat' split) <;> first | omega | rfl))
                      have B := bd_to (ws' := [(ln, .inr (2, [.int (iI n), .ref wa, .ref ga, .ref wt, .ref wo, .int (iI wd), .int (iI nw), .int (iI dp), .int (iI (jSp (jLk fw fo fg fr to wz) (fo (to - 1) - fo fr) to n)), .int (iI (jCl (jLk fw fo fg fr to wz) (fo (to - 1) - fo fr) to n)), .ref bD, .ref bL, .ref bE])), (ga, .inl (k 0, 49, .inl (fun i9 : Nat => iI (fg i9)))), (wt, .inl (k 0, 49, .inl (fun i9 : Nat => iI (fw i9)))), (wo, .inl (k 0, 49, .inl (fun i9 : Nat => iI (fo i9))))]) (by first | rfl | (rw [e_38, e_39]) | (rw [e_39, e_38])) B
                      exact k_zret B hr (by omega) (Or.inl (⟨(by rw [← hk, ← hs]; simp only [jOk]; omega), rfl, rfl, rfl, rfl⟩)) ⟨Nat.le_of_ble_eq_true rfl, Nat.le_of_ble_eq_true rfl⟩ ⟨Nat.le_of_ble_eq_true rfl, Nat.le_of_ble_eq_true rfl⟩ dX2_judge_262
                    · have zc_37 : (min 400 ((100 * lk) / (2 * sp))) ≤ 100 := jnlt (a := 100) (b := (min 400 ((100 * lk) / (2 * sp)))) (by omega) (by omega) c_37
                      refine lv_iconst (v := iI 2) hx hb dX2_judge_178 (by decide) ?_
                      refine lv_goto (tgt := 183) hx hb dX2_judge_179 (by decide) ?_
                      refine x_put (ci := 2) (C := RX2) (T := TX2) (N := 13) (ty := .int) (v := .int (iI 2)) B tyX2_ok nmX2 0 rfl rfl in_X2 9 (by decide) mw_139 (fun _ h9 => h9) rfl (by decide +kernel) rfl rfl (Nat.le_of_ble_eq_true rfl) dX2_judge_183 (fun H locs B => ?_)
                      have B := bd_to (ws' := [(ln, .inr (2, [.int (iI n), .ref wa, .ref ga, .ref wt, .ref wo, .int (iI wd), .int (iI nw), .int (iI dp), .int (iI (min 400 ((100 * lk) / (2 * sp)))), .int (iI 2), .ref bD, .ref bL, .ref bE])), (ga, .inl (k 0, 49, .inl (fun i9 : Nat => iI (fg i9)))), (wt, .inl (k 0, 49, .inl (fun i9 : Nat => iI (fw i9)))), (wo, .inl (k 0, 49, .inl (fun i9 : Nat => iI (fo i9))))]) rfl B
                      refine lv_goto (tgt := 261) hx hb dX2_judge_186 (by decide) ?_
                      refine lv_iconst (v := iI 1) hx hb dX2_judge_261 (by decide) ?_
                      have e_40 : (jSp (jLk fw fo fg fr to wz) (fo (to - 1) - fo fr) to n) = (min 400 ((100 * lk) / (2 * sp))) := (by rw [← hk, ← hs]; first | (simp only [jCl, jSp, if_pos zc_4, if_neg (Int.not_lt.mpr zc_4), if_neg zc_25, if_neg zc_28, if_pos zc_29, if_neg (Int.not_lt.mpr zc_29), if_neg zc_30, if_pos zc_31, if_neg (Int.not_lt.mpr zc_31), if_pos zc_32, if_neg (Int.not_le.mpr zc_32), if_pos zc_36, if_neg (Int.not_lt.mpr zc_36), if_pos zc_37, if_neg (Int.not_lt.mpr zc_37)]; done) | (simp only [jCl, jSp, if_pos zc_4, if_neg (Int.not_lt.mpr zc_4), if_neg zc_25, if_neg zc_28, if_pos zc_29, if_neg (Int.not_lt.mpr zc_29), if_neg zc_30, if_pos zc_31, if_neg (Int.not_lt.mpr zc_31), if_pos zc_32, if_neg (Int.not_le.mpr zc_32), if_pos zc_36, if_neg (Int.not_lt.mpr zc_36), if_pos zc_37, if_neg (Int.not_lt.mpr zc_37)]; omega) | (simp only [jCl, jSp]; (repeat' split) <;> first | omega | rfl))
                      have e_41 : (jCl (jLk fw fo fg fr to wz) (fo (to - 1) - fo fr) to n) = 2 := (by rw [← hk, ← hs]; first | (simp only [jCl, jSp, if_pos zc_4, if_neg (Int.not_lt.mpr zc_4), if_neg zc_25, if_neg zc_28, if_pos zc_29, if_neg (Int.not_lt.mpr zc_29), if_neg zc_30, if_pos zc_31, if_neg (Int.not_lt.mpr zc_31), if_pos zc_32, if_neg (Int.not_le.mpr zc_32), if_pos zc_36, if_neg (Int.not_lt.mpr zc_36), if_pos zc_37, if_neg (Int.not_lt.mpr zc_37)]; done) | (simp only [jCl, jSp, if_pos zc_4, if_neg (Int.not_lt.mpr zc_4), if_neg zc_25, if_neg zc_28, if_pos zc_29, if_neg (Int.not_lt.mpr zc_29), if_neg zc_30, if_pos zc_31, if_neg (Int.not_lt.mpr zc_31), if_pos zc_32, if_neg (Int.not_le.mpr zc_32), if_pos zc_36, if_neg (Int.not_lt.mpr zc_36), if_pos zc_37, if_neg (Int.not_lt.mpr zc_37)]; omega) | (simp only [jCl, jSp]; (repeat' split) <;> first | omega | rfl))
                      have B := bd_to (ws' := [(ln, .inr (2, [.int (iI n), .ref wa, .ref ga, .ref wt, .ref wo, .int (iI wd), .int (iI nw), .int (iI dp), .int (iI (jSp (jLk fw fo fg fr to wz) (fo (to - 1) - fo fr) to n)), .int (iI (jCl (jLk fw fo fg fr to wz) (fo (to - 1) - fo fr) to n)), .ref bD, .ref bL, .ref bE])), (ga, .inl (k 0, 49, .inl (fun i9 : Nat => iI (fg i9)))), (wt, .inl (k 0, 49, .inl (fun i9 : Nat => iI (fw i9)))), (wo, .inl (k 0, 49, .inl (fun i9 : Nat => iI (fo i9))))]) (by first | rfl | (rw [e_40, e_41]) | (rw [e_41, e_40])) B
                      exact k_zret B hr (by omega) (Or.inl (⟨(by rw [← hk, ← hs]; simp only [jOk]; omega), rfl, rfl, rfl, rfl⟩)) ⟨Nat.le_of_ble_eq_true rfl, Nat.le_of_ble_eq_true rfl⟩ ⟨Nat.le_of_ble_eq_true rfl, Nat.le_of_ble_eq_true rfl⟩ dX2_judge_262
                  · have zc_36 : (min 400 ((100 * lk) / (2 * sp))) < 50 := jnle (a := 50) (b := (min 400 ((100 * lk) / (2 * sp)))) (by omega) (by omega) c_36
                    refine lv_iconst (v := iI 1) hx hb dX2_judge_165 (by decide) ?_
                    refine lv_goto (tgt := 183) hx hb dX2_judge_166 (by decide) ?_
                    refine x_put (ci := 2) (C := RX2) (T := TX2) (N := 13) (ty := .int) (v := .int (iI 1)) B tyX2_ok nmX2 0 rfl rfl in_X2 9 (by decide) mw_139 (fun _ h9 => h9) rfl (by decide +kernel) rfl rfl (Nat.le_of_ble_eq_true rfl) dX2_judge_183 (fun H locs B => ?_)
                    have B := bd_to (ws' := [(ln, .inr (2, [.int (iI n), .ref wa, .ref ga, .ref wt, .ref wo, .int (iI wd), .int (iI nw), .int (iI dp), .int (iI (min 400 ((100 * lk) / (2 * sp)))), .int (iI 1), .ref bD, .ref bL, .ref bE])), (ga, .inl (k 0, 49, .inl (fun i9 : Nat => iI (fg i9)))), (wt, .inl (k 0, 49, .inl (fun i9 : Nat => iI (fw i9)))), (wo, .inl (k 0, 49, .inl (fun i9 : Nat => iI (fo i9))))]) rfl B
                    refine lv_goto (tgt := 261) hx hb dX2_judge_186 (by decide) ?_
                    refine lv_iconst (v := iI 1) hx hb dX2_judge_261 (by decide) ?_
                    have e_42 : (jSp (jLk fw fo fg fr to wz) (fo (to - 1) - fo fr) to n) = (min 400 ((100 * lk) / (2 * sp))) := (by rw [← hk, ← hs]; first | (simp only [jCl, jSp, if_pos zc_4, if_neg (Int.not_lt.mpr zc_4), if_neg zc_25, if_neg zc_28, if_pos zc_29, if_neg (Int.not_lt.mpr zc_29), if_neg zc_30, if_pos zc_31, if_neg (Int.not_lt.mpr zc_31), if_pos zc_32, if_neg (Int.not_le.mpr zc_32), if_pos zc_36, if_neg (Int.not_le.mpr zc_36)]; done) | (simp only [jCl, jSp, if_pos zc_4, if_neg (Int.not_lt.mpr zc_4), if_neg zc_25, if_neg zc_28, if_pos zc_29, if_neg (Int.not_lt.mpr zc_29), if_neg zc_30, if_pos zc_31, if_neg (Int.not_lt.mpr zc_31), if_pos zc_32, if_neg (Int.not_le.mpr zc_32), if_pos zc_36, if_neg (Int.not_le.mpr zc_36)]; omega) | (simp only [jCl, jSp]; (repeat' split) <;> first | omega | rfl))
                    have e_43 : (jCl (jLk fw fo fg fr to wz) (fo (to - 1) - fo fr) to n) = 1 := (by rw [← hk, ← hs]; first | (simp only [jCl, jSp, if_pos zc_4, if_neg (Int.not_lt.mpr zc_4), if_neg zc_25, if_neg zc_28, if_pos zc_29, if_neg (Int.not_lt.mpr zc_29), if_neg zc_30, if_pos zc_31, if_neg (Int.not_lt.mpr zc_31), if_pos zc_32, if_neg (Int.not_le.mpr zc_32), if_pos zc_36, if_neg (Int.not_le.mpr zc_36)]; done) | (simp only [jCl, jSp, if_pos zc_4, if_neg (Int.not_lt.mpr zc_4), if_neg zc_25, if_neg zc_28, if_pos zc_29, if_neg (Int.not_lt.mpr zc_29), if_neg zc_30, if_pos zc_31, if_neg (Int.not_lt.mpr zc_31), if_pos zc_32, if_neg (Int.not_le.mpr zc_32), if_pos zc_36, if_neg (Int.not_le.mpr zc_36)]; omega) | (simp only [jCl, jSp]; (repeat' split) <;> first | omega | rfl))
                    have B := bd_to (ws' := [(ln, .inr (2, [.int (iI n), .ref wa, .ref ga, .ref wt, .ref wo, .int (iI wd), .int (iI nw), .int (iI dp), .int (iI (jSp (jLk fw fo fg fr to wz) (fo (to - 1) - fo fr) to n)), .int (iI (jCl (jLk fw fo fg fr to wz) (fo (to - 1) - fo fr) to n)), .ref bD, .ref bL, .ref bE])), (ga, .inl (k 0, 49, .inl (fun i9 : Nat => iI (fg i9)))), (wt, .inl (k 0, 49, .inl (fun i9 : Nat => iI (fw i9)))), (wo, .inl (k 0, 49, .inl (fun i9 : Nat => iI (fo i9))))]) (by first | rfl | (rw [e_42, e_43]) | (rw [e_43, e_42])) B
                    exact k_zret B hr (by omega) (Or.inl (⟨(by rw [← hk, ← hs]; simp only [jOk]; omega), rfl, rfl, rfl, rfl⟩)) ⟨Nat.le_of_ble_eq_true rfl, Nat.le_of_ble_eq_true rfl⟩ ⟨Nat.le_of_ble_eq_true rfl, Nat.le_of_ble_eq_true rfl⟩ dX2_judge_262
            · have zc_30 : sp = 0 := jeq (a := sp) (b := 0) (by omega) (by omega) c_30
              exfalso; omega
        · have zc_28 : sp = 0 := jeq (a := sp) (b := 0) (by omega) (by omega) c_28
          refine lv_iload hx hb dX2_judge_76 (lv_at hl 5 rfl) ?_
          refine lv_if_ne (tgt := 94) hx hb dX2_judge_78 (by decide) (fun c_44 => ?_) (fun c_44 => ?_)
          · have zc_44 : lk ≠ 0 := jne (a := lk) (b := 0) (by omega) (by omega) c_44
            refine lv_iload hx hb dX2_judge_94 (lv_at hl 5 rfl) ?_
            refine lv_if_lt (tgt := 119) hx hb dX2_judge_96 (by decide) (fun c_45 => ?_) (fun c_45 => ?_)
            · have zc_45 : lk < 0 := jlt (a := lk) (b := 0) (by omega) (by omega) c_45
              exfalso; omega
            · have zc_45 : 0 ≤ lk := jnlt (a := lk) (b := 0) (by omega) (by omega) c_45
              refine lv_iload hx hb dX2_judge_99 (lv_at hl 0 rfl) ?_
              refine lv_if_ne (tgt := 119) hx hb dX2_judge_101 (by decide) (fun c_46 => ?_) (fun c_46 => ?_)
              · have zc_46 : sp ≠ 0 := jne (a := sp) (b := 0) (by omega) (by omega) c_46
                exfalso; omega
              · have zc_46 : sp = 0 := jeq (a := sp) (b := 0) (by omega) (by omega) c_46
                refine lv_aload_n hx hb dX2_judge_104 rfl (lv_at hl 1 rfl) ?_
                refine lv_sipush (v := iI 400) hx hb dX2_judge_105 (by decide) ?_
                refine x_put (ci := 2) (C := RX2) (T := TX2) (N := 13) (ty := .int) (v := .int (iI 400)) B tyX2_ok nmX2 0 rfl rfl in_X2 8 (by decide) mw_137 (fun _ h9 => h9) rfl (by decide +kernel) rfl rfl (Nat.le_of_ble_eq_true rfl) dX2_judge_108 (fun H locs B => ?_)
                have B := bd_to (ws' := [(ln, .inr (2, [.int (iI n), .ref wa, .ref ga, .ref wt, .ref wo, .int (iI wd), .int (iI nw), .int (iI dp), .int (iI 400), .int (iI cl), .ref bD, .ref bL, .ref bE])), (ga, .inl (k 0, 49, .inl (fun i9 : Nat => iI (fg i9)))), (wt, .inl (k 0, 49, .inl (fun i9 : Nat => iI (fw i9)))), (wo, .inl (k 0, 49, .inl (fun i9 : Nat => iI (fo i9))))]) rfl B
                refine lv_aload_n hx hb dX2_judge_111 rfl (lv_at hl 1 rfl) ?_
                refine lv_iconst (v := iI 3) hx hb dX2_judge_112 (by decide) ?_
                refine x_put (ci := 2) (C := RX2) (T := TX2) (N := 13) (ty := .int) (v := .int (iI 3)) B tyX2_ok nmX2 0 rfl rfl in_X2 9 (by decide) mw_139 (fun _ h9 => h9) rfl (by decide +kernel) rfl rfl (Nat.le_of_ble_eq_true rfl) dX2_judge_113 (fun H locs B => ?_)
                have B := bd_to (ws' := [(ln, .inr (2, [.int (iI n), .ref wa, .ref ga, .ref wt, .ref wo, .int (iI wd), .int (iI nw), .int (iI dp), .int (iI 400), .int (iI 3), .ref bD, .ref bL, .ref bE])), (ga, .inl (k 0, 49, .inl (fun i9 : Nat => iI (fg i9)))), (wt, .inl (k 0, 49, .inl (fun i9 : Nat => iI (fw i9)))), (wo, .inl (k 0, 49, .inl (fun i9 : Nat => iI (fo i9))))]) rfl B
                refine lv_goto (tgt := 261) hx hb dX2_judge_116 (by decide) ?_
                refine lv_iconst (v := iI 1) hx hb dX2_judge_261 (by decide) ?_
                have e_47 : (jSp (jLk fw fo fg fr to wz) (fo (to - 1) - fo fr) to n) = 400 := (by rw [← hk, ← hs]; first | (simp only [jCl, jSp, if_pos zc_4, if_neg (Int.not_lt.mpr zc_4), if_neg zc_25, if_pos zc_28, if_neg zc_44, if_pos zc_45, if_neg (Int.not_lt.mpr zc_45), if_pos zc_46]; done) | (simp only [jCl, jSp, if_pos zc_4, if_neg (Int.not_lt.mpr zc_4), if_neg zc_25, if_pos zc_28, if_neg zc_44, if_pos zc_45, if_neg (Int.not_lt.mpr zc_45), if_pos zc_46]; omega) | (simp only [jCl, jSp]; (repeat' split) <;> first | omega | rfl))
                have e_48 : (jCl (jLk fw fo fg fr to wz) (fo (to - 1) - fo fr) to n) = 3 := (by rw [← hk, ← hs]; first | (simp only [jCl, jSp, if_pos zc_4, if_neg (Int.not_lt.mpr zc_4), if_neg zc_25, if_pos zc_28, if_neg zc_44, if_pos zc_45, if_neg (Int.not_lt.mpr zc_45), if_pos zc_46]; done) | (simp only [jCl, jSp, if_pos zc_4, if_neg (Int.not_lt.mpr zc_4), if_neg zc_25, if_pos zc_28, if_neg zc_44, if_pos zc_45, if_neg (Int.not_lt.mpr zc_45), if_pos zc_46]; omega) | (simp only [jCl, jSp]; (repeat' split) <;> first | omega | rfl))
                have B := bd_to (ws' := [(ln, .inr (2, [.int (iI n), .ref wa, .ref ga, .ref wt, .ref wo, .int (iI wd), .int (iI nw), .int (iI dp), .int (iI (jSp (jLk fw fo fg fr to wz) (fo (to - 1) - fo fr) to n)), .int (iI (jCl (jLk fw fo fg fr to wz) (fo (to - 1) - fo fr) to n)), .ref bD, .ref bL, .ref bE])), (ga, .inl (k 0, 49, .inl (fun i9 : Nat => iI (fg i9)))), (wt, .inl (k 0, 49, .inl (fun i9 : Nat => iI (fw i9)))), (wo, .inl (k 0, 49, .inl (fun i9 : Nat => iI (fo i9))))]) (by first | rfl | (rw [e_47, e_48]) | (rw [e_48, e_47])) B
                exact k_zret B hr (by omega) (Or.inl (⟨(by rw [← hk, ← hs]; simp only [jOk]; omega), rfl, rfl, rfl, rfl⟩)) ⟨Nat.le_of_ble_eq_true rfl, Nat.le_of_ble_eq_true rfl⟩ ⟨Nat.le_of_ble_eq_true rfl, Nat.le_of_ble_eq_true rfl⟩ dX2_judge_262
          · have zc_44 : lk = 0 := jeq (a := lk) (b := 0) (by omega) (by omega) c_44
            refine lv_aload_n hx hb dX2_judge_81 rfl (lv_at hl 1 rfl) ?_
            refine lv_iconst (v := iI 0) hx hb dX2_judge_82 (by decide) ?_
            refine x_put (ci := 2) (C := RX2) (T := TX2) (N := 13) (ty := .int) (v := .int (iI 0)) B tyX2_ok nmX2 0 rfl rfl in_X2 8 (by decide) mw_137 (fun _ h9 => h9) rfl (by decide +kernel) rfl rfl (Nat.le_of_ble_eq_true rfl) dX2_judge_83 (fun H locs B => ?_)
            have B := bd_to (ws' := [(ln, .inr (2, [.int (iI n), .ref wa, .ref ga, .ref wt, .ref wo, .int (iI wd), .int (iI nw), .int (iI dp), .int (iI 0), .int (iI cl), .ref bD, .ref bL, .ref bE])), (ga, .inl (k 0, 49, .inl (fun i9 : Nat => iI (fg i9)))), (wt, .inl (k 0, 49, .inl (fun i9 : Nat => iI (fw i9)))), (wo, .inl (k 0, 49, .inl (fun i9 : Nat => iI (fo i9))))]) rfl B
            refine lv_aload_n hx hb dX2_judge_86 rfl (lv_at hl 1 rfl) ?_
            refine lv_iconst (v := iI 1) hx hb dX2_judge_87 (by decide) ?_
            refine x_put (ci := 2) (C := RX2) (T := TX2) (N := 13) (ty := .int) (v := .int (iI 1)) B tyX2_ok nmX2 0 rfl rfl in_X2 9 (by decide) mw_139 (fun _ h9 => h9) rfl (by decide +kernel) rfl rfl (Nat.le_of_ble_eq_true rfl) dX2_judge_88 (fun H locs B => ?_)
            have B := bd_to (ws' := [(ln, .inr (2, [.int (iI n), .ref wa, .ref ga, .ref wt, .ref wo, .int (iI wd), .int (iI nw), .int (iI dp), .int (iI 0), .int (iI 1), .ref bD, .ref bL, .ref bE])), (ga, .inl (k 0, 49, .inl (fun i9 : Nat => iI (fg i9)))), (wt, .inl (k 0, 49, .inl (fun i9 : Nat => iI (fw i9)))), (wo, .inl (k 0, 49, .inl (fun i9 : Nat => iI (fo i9))))]) rfl B
            refine lv_goto (tgt := 261) hx hb dX2_judge_91 (by decide) ?_
            refine lv_iconst (v := iI 1) hx hb dX2_judge_261 (by decide) ?_
            have e_49 : (jSp (jLk fw fo fg fr to wz) (fo (to - 1) - fo fr) to n) = 0 := (by rw [← hk, ← hs]; first | (simp only [jCl, jSp, if_pos zc_4, if_neg (Int.not_lt.mpr zc_4), if_neg zc_25, if_pos zc_28, if_pos zc_44]; done) | (simp only [jCl, jSp, if_pos zc_4, if_neg (Int.not_lt.mpr zc_4), if_neg zc_25, if_pos zc_28, if_pos zc_44]; omega) | (simp only [jCl, jSp]; (repeat' split) <;> first | omega | rfl))
            have e_50 : (jCl (jLk fw fo fg fr to wz) (fo (to - 1) - fo fr) to n) = 1 := (by rw [← hk, ← hs]; first | (simp only [jCl, jSp, if_pos zc_4, if_neg (Int.not_lt.mpr zc_4), if_neg zc_25, if_pos zc_28, if_pos zc_44]; done) | (simp only [jCl, jSp, if_pos zc_4, if_neg (Int.not_lt.mpr zc_4), if_neg zc_25, if_pos zc_28, if_pos zc_44]; omega) | (simp only [jCl, jSp]; (repeat' split) <;> first | omega | rfl))
            have B := bd_to (ws' := [(ln, .inr (2, [.int (iI n), .ref wa, .ref ga, .ref wt, .ref wo, .int (iI wd), .int (iI nw), .int (iI dp), .int (iI (jSp (jLk fw fo fg fr to wz) (fo (to - 1) - fo fr) to n)), .int (iI (jCl (jLk fw fo fg fr to wz) (fo (to - 1) - fo fr) to n)), .ref bD, .ref bL, .ref bE])), (ga, .inl (k 0, 49, .inl (fun i9 : Nat => iI (fg i9)))), (wt, .inl (k 0, 49, .inl (fun i9 : Nat => iI (fw i9)))), (wo, .inl (k 0, 49, .inl (fun i9 : Nat => iI (fo i9))))]) (by first | rfl | (rw [e_49, e_50]) | (rw [e_50, e_49])) B
            exact k_zret B hr (by omega) (Or.inl (⟨(by rw [← hk, ← hs]; simp only [jOk]; omega), rfl, rfl, rfl, rfl⟩)) ⟨Nat.le_of_ble_eq_true rfl, Nat.le_of_ble_eq_true rfl⟩ ⟨Nat.le_of_ble_eq_true rfl, Nat.le_of_ble_eq_true rfl⟩ dX2_judge_262
  refine lv_aload_n hx hb dX2_judge_17 rfl (lv_at hl 1 rfl) ?_
  refine x_get (ci := 2) (C := RX2) (T := TX2) (N := 13) (v := .ref ga) B 0 rfl rfl in_X2 2 (by decide) mw_130 (fun _ h9 => h9) rfl dX2_judge_18 ?_
  refine lv_iload_n hx hb dX2_judge_21 rfl (lv_at hl 3 rfl) ?_
  refine x_iald' (f := fg) (z := to) B 1 rfl (by omega) dX2_judge_22 ?_
  have z_51 : 0 ≤ (fg to) ∧ (fg to) ≤ 5 := hg to
  refine lv_if_le (tgt := 30) hx hb dX2_judge_23 (by decide) (fun c_52 => ?_) (fun c_52 => ?_)
  · have zc_52 : (fg to) ≤ 0 := jle (a := (fg to)) (b := 0) (by omega) (by omega) c_52
    refine lv_iconst (v := iI 0) hx hb dX2_judge_30 (by decide) ?_
    refine lv_istore (lv' := [(5, .int (iI 0)), (4, .int (iI ((fo (to - 1)) - (fo fr)))), (0, .ref ln), (1, .int (iI fr)), (2, .int (iI to)), (3, .int (iI wz))]) hx hb dX2_judge_31 hl (by decide) rfl (fun ls hl => ?_)
    refine lv_iload_n hx hb dX2_judge_33 rfl (lv_at hl 5 rfl) ?_
    refine lv_aload_n hx hb dX2_judge_34 rfl (lv_at hl 2 rfl) ?_
    refine x_get (ci := 2) (C := RX2) (T := TX2) (N := 13) (v := .ref wt) B 0 rfl rfl in_X2 3 (by decide) mw_132 (fun _ h9 => h9) rfl dX2_judge_35 ?_
    refine lv_iload_n hx hb dX2_judge_38 rfl (lv_at hl 4 rfl) ?_
    refine x_iald' (f := fw) (z := to) B 2 rfl (by omega) dX2_judge_39 ?_
    have z_53 : 0 ≤ (fw to) ∧ (fw to) ≤ 2000 := hw to
    refine lv_aload_n hx hb dX2_judge_40 rfl (lv_at hl 2 rfl) ?_
    refine x_get (ci := 2) (C := RX2) (T := TX2) (N := 13) (v := .ref wt) B 0 rfl rfl in_X2 3 (by decide) mw_132 (fun _ h9 => h9) rfl dX2_judge_41 ?_
    refine lv_iload_n hx hb dX2_judge_44 rfl (lv_at hl 3 rfl) ?_
    refine x_iald' (f := fw) (z := fr) B 2 rfl (by omega) dX2_judge_45 ?_
    have z_54 : 0 ≤ (fw fr) ∧ (fw fr) ≤ 2000 := hw fr
    refine y_sub hx hb dX2_judge_46 ?_
    refine lv_iconst (v := iI 3) hx hb dX2_judge_47 (by decide) ?_
    refine lv_iload hx hb dX2_judge_48 (lv_at hl 1 rfl) ?_
    refine y_mul hx hb dX2_judge_50 ?_
    refine y_add hx hb dX2_judge_51 ?_
    refine lv_iload hx hb dX2_judge_52 (lv_at hl 0 rfl) ?_
    refine y_add hx hb dX2_judge_54 ?_
    refine y_sub hx hb dX2_judge_55 ?_
    refine lv_istore (lv' := [(6, .int (iI (wz - ((((fw to) - (fw fr)) + (3 * ((fo (to - 1)) - (fo fr)))) + 0)))), (5, .int (iI 0)), (4, .int (iI ((fo (to - 1)) - (fo fr)))), (0, .ref ln), (1, .int (iI fr)), (2, .int (iI to)), (3, .int (iI wz))]) hx hb dX2_judge_56 hl (by decide) rfl (fun ls hl => ?_)
    exact J_3 ((wz - ((((fw to) - (fw fr)) + (3 * ((fo (to - 1)) - (fo fr)))) + 0)), ((fo (to - 1)) - (fo fr))) ⟨(show (wz - ((((fw to) - (fw fr)) + (3 * ((fo (to - 1)) - (fo fr)))) + 0)) = jLk fw fo fg fr to wz from (by unfold jLk; split <;> omega)), (show ((fo (to - 1)) - (fo fr)) = fo (to - 1) - fo fr from (by omega)), (show -3000 ≤ (wz - ((((fw to) - (fw fr)) + (3 * ((fo (to - 1)) - (fo fr)))) + 0)) ∧ (wz - ((((fw to) - (fw fr)) + (3 * ((fo (to - 1)) - (fo fr)))) + 0)) ≤ 3000 from (by omega)), (show -12 ≤ ((fo (to - 1)) - (fo fr)) ∧ ((fo (to - 1)) - (fo fr)) ≤ 12 from (by omega))⟩ _ _ _ (lv_sub hl [2, 3, 4, 5, 6, 0] rfl) (bd_to rfl B)
  · have zc_52 : 0 < (fg to) := jnle (a := (fg to)) (b := 0) (by omega) (by omega) c_52
    refine lv_iconst (v := iI 2) hx hb dX2_judge_26 (by decide) ?_
    refine lv_goto (tgt := 31) hx hb dX2_judge_27 (by decide) ?_
    refine lv_istore (lv' := [(5, .int (iI 2)), (4, .int (iI ((fo (to - 1)) - (fo fr)))), (0, .ref ln), (1, .int (iI fr)), (2, .int (iI to)), (3, .int (iI wz))]) hx hb dX2_judge_31 hl (by decide) rfl (fun ls hl => ?_)
    refine lv_iload_n hx hb dX2_judge_33 rfl (lv_at hl 5 rfl) ?_
    refine lv_aload_n hx hb dX2_judge_34 rfl (lv_at hl 2 rfl) ?_
    refine x_get (ci := 2) (C := RX2) (T := TX2) (N := 13) (v := .ref wt) B 0 rfl rfl in_X2 3 (by decide) mw_132 (fun _ h9 => h9) rfl dX2_judge_35 ?_
    refine lv_iload_n hx hb dX2_judge_38 rfl (lv_at hl 4 rfl) ?_
    refine x_iald' (f := fw) (z := to) B 2 rfl (by omega) dX2_judge_39 ?_
    have z_55 : 0 ≤ (fw to) ∧ (fw to) ≤ 2000 := hw to
    refine lv_aload_n hx hb dX2_judge_40 rfl (lv_at hl 2 rfl) ?_
    refine x_get (ci := 2) (C := RX2) (T := TX2) (N := 13) (v := .ref wt) B 0 rfl rfl in_X2 3 (by decide) mw_132 (fun _ h9 => h9) rfl dX2_judge_41 ?_
    refine lv_iload_n hx hb dX2_judge_44 rfl (lv_at hl 3 rfl) ?_
    refine x_iald' (f := fw) (z := fr) B 2 rfl (by omega) dX2_judge_45 ?_
    have z_56 : 0 ≤ (fw fr) ∧ (fw fr) ≤ 2000 := hw fr
    refine y_sub hx hb dX2_judge_46 ?_
    refine lv_iconst (v := iI 3) hx hb dX2_judge_47 (by decide) ?_
    refine lv_iload hx hb dX2_judge_48 (lv_at hl 1 rfl) ?_
    refine y_mul hx hb dX2_judge_50 ?_
    refine y_add hx hb dX2_judge_51 ?_
    refine lv_iload hx hb dX2_judge_52 (lv_at hl 0 rfl) ?_
    refine y_add hx hb dX2_judge_54 ?_
    refine y_sub hx hb dX2_judge_55 ?_
    refine lv_istore (lv' := [(6, .int (iI (wz - ((((fw to) - (fw fr)) + (3 * ((fo (to - 1)) - (fo fr)))) + 2)))), (5, .int (iI 2)), (4, .int (iI ((fo (to - 1)) - (fo fr)))), (0, .ref ln), (1, .int (iI fr)), (2, .int (iI to)), (3, .int (iI wz))]) hx hb dX2_judge_56 hl (by decide) rfl (fun ls hl => ?_)
    exact J_3 ((wz - ((((fw to) - (fw fr)) + (3 * ((fo (to - 1)) - (fo fr)))) + 2)), ((fo (to - 1)) - (fo fr))) ⟨(show (wz - ((((fw to) - (fw fr)) + (3 * ((fo (to - 1)) - (fo fr)))) + 2)) = jLk fw fo fg fr to wz from (by unfold jLk; split <;> omega)), (show ((fo (to - 1)) - (fo fr)) = fo (to - 1) - fo fr from (by omega)), (show -3000 ≤ (wz - ((((fw to) - (fw fr)) + (3 * ((fo (to - 1)) - (fo fr)))) + 2)) ∧ (wz - ((((fw to) - (fw fr)) + (3 * ((fo (to - 1)) - (fo fr)))) + 2)) ≤ 3000 from (by omega)), (show -12 ≤ ((fo (to - 1)) - (fo fr)) ∧ ((fo (to - 1)) - (fo fr)) ≤ 12 from (by omega))⟩ _ _ _ (lv_sub hl [2, 3, 4, 5, 6, 0] rfl) (bd_to rfl B)

/-- the demerits of a line by itself, and for the line ahead of it -/
def ownZ (sd g : Int) : Int := (10 + sd * sd * sd / 10000 + (if 0 < g then 50 else 0)) * (10 + sd * sd * sd / 10000 + (if 0 < g then 50 else 0))
def pnZ (cl ah gf gt : Int) : Int := if ah = 4 then 0 else (if 1 < cl - ah then 3000 else if 1 < ah - cl then 3000 else 0) + (if 0 < gf then (if 0 < gt then 2000 else 0) else 0)
theorem cube_in {x : Int} (h : 0 ≤ x ∧ x ≤ 400) : 0 ≤ x * x * x ∧ x * x * x ≤ 64000000 := by
  have h1 : 0 ≤ x * x ∧ x * x ≤ 160000 := ⟨Int.mul_nonneg h.1 h.1, by have := Int.mul_le_mul h.2 h.2 h.1 (by omega : (0:Int) ≤ 400); omega⟩
  exact ⟨Int.mul_nonneg h1.1 h.1, by have := Int.mul_le_mul h1.2 h.2 h.1 (by omega : (0:Int) ≤ 160000); omega⟩
theorem ownZ_in {sd g : Int} (h : 0 ≤ sd ∧ sd ≤ 400) : 100 ≤ ownZ sd g ∧ ownZ sd g ≤ 41731600 := by
  have hc := cube_in h
  have hx : 10 ≤ 10 + sd * sd * sd / 10000 + (if 0 < g then 50 else 0) ∧ 10 + sd * sd * sd / 10000 + (if 0 < g then 50 else 0) ≤ 6460 := by split <;> omega
  unfold ownZ
  generalize 10 + sd * sd * sd / 10000 + (if 0 < g then 50 else 0) = x at hx
  exact ⟨by have := Int.mul_le_mul hx.1 hx.1 (by omega) (by omega); omega, by have := Int.mul_le_mul hx.2 hx.2 (by omega) (by omega : (0:Int) ≤ 6460); omega⟩
theorem pnZ_in (cl ah gf gt : Int) : 0 ≤ pnZ cl ah gf gt ∧ pnZ cl ah gf gt ≤ 5000 := by
  unfold pnZ
  (repeat' split) <;> omega

theorem dX2_ownDemerits_0 : decode cX2_ownDemerits 0 = .ok (.bipush 10, 2) := by decide +kernel
theorem dX2_ownDemerits_2 : decode cX2_ownDemerits 2 = .ok (.aload_n 0, 1) := by decide +kernel
theorem dX2_ownDemerits_3 : decode cX2_ownDemerits 3 = .ok (.getfield 110, 3) := by decide +kernel
theorem dX2_ownDemerits_6 : decode cX2_ownDemerits 6 = .ok (.aload_n 0, 1) := by decide +kernel
theorem dX2_ownDemerits_7 : decode cX2_ownDemerits 7 = .ok (.getfield 110, 3) := by decide +kernel
theorem dX2_ownDemerits_10 : decode cX2_ownDemerits 10 = .ok (.imul, 1) := by decide +kernel
theorem dX2_ownDemerits_11 : decode cX2_ownDemerits 11 = .ok (.aload_n 0, 1) := by decide +kernel
theorem dX2_ownDemerits_12 : decode cX2_ownDemerits 12 = .ok (.getfield 110, 3) := by decide +kernel
theorem dX2_ownDemerits_15 : decode cX2_ownDemerits 15 = .ok (.imul, 1) := by decide +kernel
theorem dX2_ownDemerits_16 : decode cX2_ownDemerits 16 = .ok (.sipush 10000, 3) := by decide +kernel
theorem dX2_ownDemerits_19 : decode cX2_ownDemerits 19 = .ok (.idiv, 1) := by decide +kernel
theorem dX2_ownDemerits_20 : decode cX2_ownDemerits 20 = .ok (.iadd, 1) := by decide +kernel
theorem dX2_ownDemerits_21 : decode cX2_ownDemerits 21 = .ok (.aload_n 0, 1) := by decide +kernel
theorem dX2_ownDemerits_22 : decode cX2_ownDemerits 22 = .ok (.getfield 15, 3) := by decide +kernel
theorem dX2_ownDemerits_25 : decode cX2_ownDemerits 25 = .ok (.iload_n 1, 1) := by decide +kernel
theorem dX2_ownDemerits_26 : decode cX2_ownDemerits 26 = .ok (.iaload, 1) := by decide +kernel
theorem dX2_ownDemerits_27 : decode cX2_ownDemerits 27 = .ok (.ifCond .le 8, 3) := by decide +kernel
theorem dX2_ownDemerits_30 : decode cX2_ownDemerits 30 = .ok (.bipush 50, 2) := by decide +kernel
theorem dX2_ownDemerits_32 : decode cX2_ownDemerits 32 = .ok (.goto 4, 3) := by decide +kernel
theorem dX2_ownDemerits_35 : decode cX2_ownDemerits 35 = .ok (.iconst 0, 1) := by decide +kernel
theorem dX2_ownDemerits_36 : decode cX2_ownDemerits 36 = .ok (.iadd, 1) := by decide +kernel
theorem dX2_ownDemerits_37 : decode cX2_ownDemerits 37 = .ok (.i2l, 1) := by decide +kernel
theorem dX2_ownDemerits_38 : decode cX2_ownDemerits 38 = .ok (.lstore_n 2, 1) := by decide +kernel
theorem dX2_ownDemerits_39 : decode cX2_ownDemerits 39 = .ok (.lload_n 2, 1) := by decide +kernel
theorem dX2_ownDemerits_40 : decode cX2_ownDemerits 40 = .ok (.lload_n 2, 1) := by decide +kernel
theorem dX2_ownDemerits_41 : decode cX2_ownDemerits 41 = .ok (.lmul, 1) := by decide +kernel
theorem dX2_ownDemerits_42 : decode cX2_ownDemerits 42 = .ok (.lreturn, 1) := by decide +kernel
set_option maxHeartbeats 4000000 in
set_option maxRecDepth 100000 in
theorem k_own (l : Launch) (dC : Nat → ClassId) (dI : Nat → Nat → Nat) (k : Nat → ClassId) (ln : Nat) (wa : Nat) (ga : Nat) (wt : Nat) (wo : Nat) (bD : Nat) (bL : Nat) (bE : Nat) (n : Int) (wd : Int) (nw : Int) (dp : Int) (sd : Int) (cl : Int) (fg : Int → Int) (to : Int) (hg : Bd 0 5 fg) (h1 : 0 ≤ to ∧ to ≤ 48) (h2 : 0 ≤ sd ∧ sd ≤ 400) : Kn l dC dI k yX2_ownDemerits (.code yX2_ownDemerits cX2_ownDemerits 4 (some .long)) ({ frames := 0, cells := 0, slots := 0, locals := 0 } : Room) [.ref ln, .int (iI to)] [(ln, .inr (2, [.int (iI n), .ref wa, .ref ga, .ref wt, .ref wo, .int (iI wd), .int (iI nw), .int (iI dp), .int (iI sd), .int (iI cl), .ref bD, .ref bL, .ref bE])), (ga, .inl (k 0, 49, .inl (fun i9 : Nat => iI (fg i9))))] (fun r w gc gs => (r = some (.long (lI (ownZ sd (fg to)))) ∧ w = [(ln, .inr (2, [.int (iI n), .ref wa, .ref ga, .ref wt, .ref wo, .int (iI wd), .int (iI nw), .int (iI dp), .int (iI sd), .int (iI cl), .ref bD, .ref bL, .ref bE])), (ga, .inl (k 0, 49, .inl (fun i9 : Nat => iI (fg i9))))] ∧ gc = 0 ∧ gs = 0)) := by
  refine kn_of (by decide) (Nat.le_of_ble_eq_true rfl) ?_
  intro p e s m args below meth c H locs B hr hnm ls hl
  have hx := B.1.1
  have hb := B.1.2.1
  have hl : lv_has ls 4 [(0, .ref ln), (1, .int (iI to))] := hl
  have hcu := cube_in h2
  refine lv_bipush (v := iI 10) hx hb dX2_ownDemerits_0 (by decide) ?_
  refine lv_aload_n hx hb dX2_ownDemerits_2 rfl (lv_at hl 0 rfl) ?_
  refine x_get (ci := 2) (C := RX2) (T := TX2) (N := 13) (v := .int (iI sd)) B 0 rfl rfl in_X2 8 (by decide) mw_137 (fun _ h9 => h9) rfl dX2_ownDemerits_3 ?_
  refine lv_aload_n hx hb dX2_ownDemerits_6 rfl (lv_at hl 0 rfl) ?_
  refine x_get (ci := 2) (C := RX2) (T := TX2) (N := 13) (v := .int (iI sd)) B 0 rfl rfl in_X2 8 (by decide) mw_137 (fun _ h9 => h9) rfl dX2_ownDemerits_7 ?_
  refine y_mul hx hb dX2_ownDemerits_10 ?_
  refine lv_aload_n hx hb dX2_ownDemerits_11 rfl (lv_at hl 0 rfl) ?_
  refine x_get (ci := 2) (C := RX2) (T := TX2) (N := 13) (v := .int (iI sd)) B 0 rfl rfl in_X2 8 (by decide) mw_137 (fun _ h9 => h9) rfl dX2_ownDemerits_12 ?_
  refine y_mul hx hb dX2_ownDemerits_15 ?_
  refine lv_sipush (v := iI 10000) hx hb dX2_ownDemerits_16 (by decide) ?_
  refine y_div hx hb (a := ((sd * sd) * sd)) (b := 10000) (by omega) (by omega) dX2_ownDemerits_19 ?_
  refine y_add hx hb dX2_ownDemerits_20 ?_
  refine lv_aload_n hx hb dX2_ownDemerits_21 rfl (lv_at hl 0 rfl) ?_
  refine x_get (ci := 2) (C := RX2) (T := TX2) (N := 13) (v := .ref ga) B 0 rfl rfl in_X2 2 (by decide) mw_130 (fun _ h9 => h9) rfl dX2_ownDemerits_22 ?_
  refine lv_iload_n hx hb dX2_ownDemerits_25 rfl (lv_at hl 1 rfl) ?_
  refine x_iald' (f := fg) (z := to) B 1 rfl (by omega) dX2_ownDemerits_26 ?_
  have z_1 : 0 ≤ (fg to) ∧ (fg to) ≤ 5 := hg to
  refine lv_if_le (tgt := 35) hx hb dX2_ownDemerits_27 (by decide) (fun c_2 => ?_) (fun c_2 => ?_)
  · have zc_2 : (fg to) ≤ 0 := jle (a := (fg to)) (b := 0) (by omega) (by omega) c_2
    refine lv_iconst (v := iI 0) hx hb dX2_ownDemerits_35 (by decide) ?_
    refine y_add hx hb dX2_ownDemerits_36 ?_
    refine y_i2l hx hb (a := ((10 + (((sd * sd) * sd) / 10000)) + 0)) (by omega) dX2_ownDemerits_37 ?_
    refine lv_lstore_n (lv' := [(2, .long (lI ((10 + (((sd * sd) * sd) / 10000)) + 0))), (0, .ref ln), (1, .int (iI to))]) hx hb dX2_ownDemerits_38 rfl hl (by decide) rfl (fun ls hl => ?_)
    refine lv_lload_n hx hb dX2_ownDemerits_39 rfl (lv_at hl 0 rfl) ?_
    refine lv_lload_n hx hb dX2_ownDemerits_40 rfl (lv_at hl 0 rfl) ?_
    refine y_lmul hx hb dX2_ownDemerits_41 ?_
    have e_3 : (ownZ sd (fg to)) = (((10 + (((sd * sd) * sd) / 10000)) + 0) * ((10 + (((sd * sd) * sd) / 10000)) + 0)) := (by first | (simp only [ownZ, if_pos zc_2, if_neg (Int.not_lt.mpr zc_2)]; done) | (simp only [ownZ, if_pos zc_2, if_neg (Int.not_lt.mpr zc_2)]; omega) | (simp only [ownZ]; (repeat' split) <;> first | omega | rfl))
    skip
    exact k_lret B hr (⟨(by rw [e_3]), rfl, rfl, rfl⟩) ⟨Nat.le_of_ble_eq_true rfl, Nat.le_of_ble_eq_true rfl⟩ ⟨Nat.le_of_ble_eq_true rfl, Nat.le_of_ble_eq_true rfl⟩ dX2_ownDemerits_42
  · have zc_2 : 0 < (fg to) := jnle (a := (fg to)) (b := 0) (by omega) (by omega) c_2
    refine lv_bipush (v := iI 50) hx hb dX2_ownDemerits_30 (by decide) ?_
    refine lv_goto (tgt := 36) hx hb dX2_ownDemerits_32 (by decide) ?_
    refine y_add hx hb dX2_ownDemerits_36 ?_
    refine y_i2l hx hb (a := ((10 + (((sd * sd) * sd) / 10000)) + 50)) (by omega) dX2_ownDemerits_37 ?_
    refine lv_lstore_n (lv' := [(2, .long (lI ((10 + (((sd * sd) * sd) / 10000)) + 50))), (0, .ref ln), (1, .int (iI to))]) hx hb dX2_ownDemerits_38 rfl hl (by decide) rfl (fun ls hl => ?_)
    refine lv_lload_n hx hb dX2_ownDemerits_39 rfl (lv_at hl 0 rfl) ?_
    refine lv_lload_n hx hb dX2_ownDemerits_40 rfl (lv_at hl 0 rfl) ?_
    refine y_lmul hx hb dX2_ownDemerits_41 ?_
    have e_4 : (ownZ sd (fg to)) = (((10 + (((sd * sd) * sd) / 10000)) + 50) * ((10 + (((sd * sd) * sd) / 10000)) + 50)) := (by first | (simp only [ownZ, if_pos zc_2, if_neg (Int.not_le.mpr zc_2)]; done) | (simp only [ownZ, if_pos zc_2, if_neg (Int.not_le.mpr zc_2)]; omega) | (simp only [ownZ]; (repeat' split) <;> first | omega | rfl))
    skip
    exact k_lret B hr (⟨(by rw [e_4]), rfl, rfl, rfl⟩) ⟨Nat.le_of_ble_eq_true rfl, Nat.le_of_ble_eq_true rfl⟩ ⟨Nat.le_of_ble_eq_true rfl, Nat.le_of_ble_eq_true rfl⟩ dX2_ownDemerits_42

theorem dX2_demeritsForAhead_0 : decode cX2_demeritsForAhead 0 = .ok (.iload_n 3, 1) := by decide +kernel
theorem dX2_demeritsForAhead_1 : decode cX2_demeritsForAhead 1 = .ok (.iconst 4, 1) := by decide +kernel
theorem dX2_demeritsForAhead_2 : decode cX2_demeritsForAhead 2 = .ok (.if_icmp .ne 5, 3) := by decide +kernel
theorem dX2_demeritsForAhead_5 : decode cX2_demeritsForAhead 5 = .ok (.iconst 0, 1) := by decide +kernel
theorem dX2_demeritsForAhead_6 : decode cX2_demeritsForAhead 6 = .ok (.ireturn, 1) := by decide +kernel
theorem dX2_demeritsForAhead_7 : decode cX2_demeritsForAhead 7 = .ok (.aload_n 0, 1) := by decide +kernel
theorem dX2_demeritsForAhead_8 : decode cX2_demeritsForAhead 8 = .ok (.getfield 113, 3) := by decide +kernel
theorem dX2_demeritsForAhead_11 : decode cX2_demeritsForAhead 11 = .ok (.iload_n 3, 1) := by decide +kernel
theorem dX2_demeritsForAhead_12 : decode cX2_demeritsForAhead 12 = .ok (.isub, 1) := by decide +kernel
theorem dX2_demeritsForAhead_13 : decode cX2_demeritsForAhead 13 = .ok (.iconst 1, 1) := by decide +kernel
theorem dX2_demeritsForAhead_14 : decode cX2_demeritsForAhead 14 = .ok (.if_icmp .gt 13, 3) := by decide +kernel
theorem dX2_demeritsForAhead_17 : decode cX2_demeritsForAhead 17 = .ok (.iload_n 3, 1) := by decide +kernel
theorem dX2_demeritsForAhead_18 : decode cX2_demeritsForAhead 18 = .ok (.aload_n 0, 1) := by decide +kernel
theorem dX2_demeritsForAhead_19 : decode cX2_demeritsForAhead 19 = .ok (.getfield 113, 3) := by decide +kernel
theorem dX2_demeritsForAhead_22 : decode cX2_demeritsForAhead 22 = .ok (.isub, 1) := by decide +kernel
theorem dX2_demeritsForAhead_23 : decode cX2_demeritsForAhead 23 = .ok (.iconst 1, 1) := by decide +kernel
theorem dX2_demeritsForAhead_24 : decode cX2_demeritsForAhead 24 = .ok (.if_icmp .le 9, 3) := by decide +kernel
theorem dX2_demeritsForAhead_27 : decode cX2_demeritsForAhead 27 = .ok (.sipush 3000, 3) := by decide +kernel
theorem dX2_demeritsForAhead_30 : decode cX2_demeritsForAhead 30 = .ok (.goto 4, 3) := by decide +kernel
theorem dX2_demeritsForAhead_33 : decode cX2_demeritsForAhead 33 = .ok (.iconst 0, 1) := by decide +kernel
theorem dX2_demeritsForAhead_34 : decode cX2_demeritsForAhead 34 = .ok (.istore 4, 2) := by decide +kernel
theorem dX2_demeritsForAhead_36 : decode cX2_demeritsForAhead 36 = .ok (.aload_n 0, 1) := by decide +kernel
theorem dX2_demeritsForAhead_37 : decode cX2_demeritsForAhead 37 = .ok (.getfield 15, 3) := by decide +kernel
theorem dX2_demeritsForAhead_40 : decode cX2_demeritsForAhead 40 = .ok (.iload_n 1, 1) := by decide +kernel
theorem dX2_demeritsForAhead_41 : decode cX2_demeritsForAhead 41 = .ok (.iaload, 1) := by decide +kernel
theorem dX2_demeritsForAhead_42 : decode cX2_demeritsForAhead 42 = .ok (.ifCond .le 21, 3) := by decide +kernel
theorem dX2_demeritsForAhead_45 : decode cX2_demeritsForAhead 45 = .ok (.aload_n 0, 1) := by decide +kernel
theorem dX2_demeritsForAhead_46 : decode cX2_demeritsForAhead 46 = .ok (.getfield 15, 3) := by decide +kernel
theorem dX2_demeritsForAhead_49 : decode cX2_demeritsForAhead 49 = .ok (.iload_n 2, 1) := by decide +kernel
theorem dX2_demeritsForAhead_50 : decode cX2_demeritsForAhead 50 = .ok (.iaload, 1) := by decide +kernel
theorem dX2_demeritsForAhead_51 : decode cX2_demeritsForAhead 51 = .ok (.ifCond .le 12, 3) := by decide +kernel
theorem dX2_demeritsForAhead_54 : decode cX2_demeritsForAhead 54 = .ok (.iload 4, 2) := by decide +kernel
theorem dX2_demeritsForAhead_56 : decode cX2_demeritsForAhead 56 = .ok (.sipush 2000, 3) := by decide +kernel
theorem dX2_demeritsForAhead_59 : decode cX2_demeritsForAhead 59 = .ok (.iadd, 1) := by decide +kernel
theorem dX2_demeritsForAhead_60 : decode cX2_demeritsForAhead 60 = .ok (.goto 5, 3) := by decide +kernel
theorem dX2_demeritsForAhead_63 : decode cX2_demeritsForAhead 63 = .ok (.iload 4, 2) := by decide +kernel
theorem dX2_demeritsForAhead_65 : decode cX2_demeritsForAhead 65 = .ok (.ireturn, 1) := by decide +kernel
set_option maxHeartbeats 4000000 in
set_option maxRecDepth 100000 in
theorem k_pen (l : Launch) (dC : Nat → ClassId) (dI : Nat → Nat → Nat) (k : Nat → ClassId) (ln : Nat) (wa : Nat) (ga : Nat) (wt : Nat) (wo : Nat) (bD : Nat) (bL : Nat) (bE : Nat) (n : Int) (wd : Int) (nw : Int) (dp : Int) (sd : Int) (cl : Int) (fg : Int → Int) (fr : Int) (to : Int) (ah : Int) (hg : Bd 0 5 fg) (h1 : 0 ≤ fr ∧ fr ≤ 48 ∧ 0 ≤ to ∧ to ≤ 48) (h2 : 0 ≤ cl ∧ cl ≤ 3 ∧ 0 ≤ ah ∧ ah ≤ 4) : Kn l dC dI k yX2_demeritsForAhead (.code yX2_demeritsForAhead cX2_demeritsForAhead 5 (some .int)) ({ frames := 0, cells := 0, slots := 0, locals := 0 } : Room) [.ref ln, .int (iI fr), .int (iI to), .int (iI ah)] [(ln, .inr (2, [.int (iI n), .ref wa, .ref ga, .ref wt, .ref wo, .int (iI wd), .int (iI nw), .int (iI dp), .int (iI sd), .int (iI cl), .ref bD, .ref bL, .ref bE])), (ga, .inl (k 0, 49, .inl (fun i9 : Nat => iI (fg i9))))] (fun r w gc gs => (r = some (.int (iI (pnZ cl ah (fg fr) (fg to)))) ∧ w = [(ln, .inr (2, [.int (iI n), .ref wa, .ref ga, .ref wt, .ref wo, .int (iI wd), .int (iI nw), .int (iI dp), .int (iI sd), .int (iI cl), .ref bD, .ref bL, .ref bE])), (ga, .inl (k 0, 49, .inl (fun i9 : Nat => iI (fg i9))))] ∧ gc = 0 ∧ gs = 0)) := by
  refine kn_of (by decide) (Nat.le_of_ble_eq_true rfl) ?_
  intro p e s m args below meth c H locs B hr hnm ls hl
  have hx := B.1.1
  have hb := B.1.2.1
  have hl : lv_has ls 5 [(0, .ref ln), (1, .int (iI fr)), (2, .int (iI to)), (3, .int (iI ah))] := hl
  refine lv_iload_n hx hb dX2_demeritsForAhead_0 rfl (lv_at hl 3 rfl) ?_
  refine lv_iconst (v := iI 4) hx hb dX2_demeritsForAhead_1 (by decide) ?_
  refine lv_icmp_ne (tgt := 7) hx hb dX2_demeritsForAhead_2 (by decide) (fun c_1 => ?_) (fun c_1 => ?_)
  · have zc_1 : ah ≠ 4 := jne (a := ah) (b := 4) (by omega) (by omega) c_1
    refine lv_aload_n hx hb dX2_demeritsForAhead_7 rfl (lv_at hl 0 rfl) ?_
    refine x_get (ci := 2) (C := RX2) (T := TX2) (N := 13) (v := .int (iI cl)) B 0 rfl rfl in_X2 9 (by decide) mw_139 (fun _ h9 => h9) rfl dX2_demeritsForAhead_8 ?_
    refine lv_iload_n hx hb dX2_demeritsForAhead_11 rfl (lv_at hl 3 rfl) ?_
    refine y_sub hx hb dX2_demeritsForAhead_12 ?_
    refine lv_iconst (v := iI 1) hx hb dX2_demeritsForAhead_13 (by decide) ?_
    refine lv_icmp_gt (tgt := 27) hx hb dX2_demeritsForAhead_14 (by decide) (fun c_2 => ?_) (fun c_2 => ?_)
    · have zc_2 : 1 < (cl - ah) := jlt (a := 1) (b := (cl - ah)) (by omega) (by omega) c_2
      refine lv_sipush (v := iI 3000) hx hb dX2_demeritsForAhead_27 (by decide) ?_
      refine lv_goto (tgt := 34) hx hb dX2_demeritsForAhead_30 (by decide) ?_
      refine lv_istore (lv' := [(4, .int (iI 3000)), (0, .ref ln), (1, .int (iI fr)), (2, .int (iI to)), (3, .int (iI ah))]) hx hb dX2_demeritsForAhead_34 hl (by decide) rfl (fun ls hl => ?_)
      refine lv_aload_n hx hb dX2_demeritsForAhead_36 rfl (lv_at hl 1 rfl) ?_
      refine x_get (ci := 2) (C := RX2) (T := TX2) (N := 13) (v := .ref ga) B 0 rfl rfl in_X2 2 (by decide) mw_130 (fun _ h9 => h9) rfl dX2_demeritsForAhead_37 ?_
      refine lv_iload_n hx hb dX2_demeritsForAhead_40 rfl (lv_at hl 2 rfl) ?_
      refine x_iald' (f := fg) (z := fr) B 1 rfl (by omega) dX2_demeritsForAhead_41 ?_
      have z_3 : 0 ≤ (fg fr) ∧ (fg fr) ≤ 5 := hg fr
      refine lv_if_le (tgt := 63) hx hb dX2_demeritsForAhead_42 (by decide) (fun c_4 => ?_) (fun c_4 => ?_)
      · have zc_4 : (fg fr) ≤ 0 := jle (a := (fg fr)) (b := 0) (by omega) (by omega) c_4
        refine lv_iload hx hb dX2_demeritsForAhead_63 (lv_at hl 0 rfl) ?_
        have e_5 : (pnZ cl ah (fg fr) (fg to)) = 3000 := (by first | (simp only [pnZ, if_neg zc_1, if_pos zc_2, if_neg (Int.not_le.mpr zc_2), if_pos zc_4, if_neg (Int.not_lt.mpr zc_4)]; done) | (simp only [pnZ, if_neg zc_1, if_pos zc_2, if_neg (Int.not_le.mpr zc_2), if_pos zc_4, if_neg (Int.not_lt.mpr zc_4)]; omega) | (simp only [pnZ]; (repeat' split) <;> first | omega | rfl))
        skip
        exact k_iret B hr (⟨(by rw [e_5]), rfl, rfl, rfl⟩) ⟨Nat.le_of_ble_eq_true rfl, Nat.le_of_ble_eq_true rfl⟩ ⟨Nat.le_of_ble_eq_true rfl, Nat.le_of_ble_eq_true rfl⟩ dX2_demeritsForAhead_65
      · have zc_4 : 0 < (fg fr) := jnle (a := (fg fr)) (b := 0) (by omega) (by omega) c_4
        refine lv_aload_n hx hb dX2_demeritsForAhead_45 rfl (lv_at hl 1 rfl) ?_
        refine x_get (ci := 2) (C := RX2) (T := TX2) (N := 13) (v := .ref ga) B 0 rfl rfl in_X2 2 (by decide) mw_130 (fun _ h9 => h9) rfl dX2_demeritsForAhead_46 ?_
        refine lv_iload_n hx hb dX2_demeritsForAhead_49 rfl (lv_at hl 3 rfl) ?_
        refine x_iald' (f := fg) (z := to) B 1 rfl (by omega) dX2_demeritsForAhead_50 ?_
        have z_6 : 0 ≤ (fg to) ∧ (fg to) ≤ 5 := hg to
        refine lv_if_le (tgt := 63) hx hb dX2_demeritsForAhead_51 (by decide) (fun c_7 => ?_) (fun c_7 => ?_)
        · have zc_7 : (fg to) ≤ 0 := jle (a := (fg to)) (b := 0) (by omega) (by omega) c_7
          refine lv_iload hx hb dX2_demeritsForAhead_63 (lv_at hl 0 rfl) ?_
          have e_8 : (pnZ cl ah (fg fr) (fg to)) = 3000 := (by first | (simp only [pnZ, if_neg zc_1, if_pos zc_2, if_neg (Int.not_le.mpr zc_2), if_pos zc_4, if_neg (Int.not_le.mpr zc_4), if_pos zc_7, if_neg (Int.not_lt.mpr zc_7)]; done) | (simp only [pnZ, if_neg zc_1, if_pos zc_2, if_neg (Int.not_le.mpr zc_2), if_pos zc_4, if_neg (Int.not_le.mpr zc_4), if_pos zc_7, if_neg (Int.not_lt.mpr zc_7)]; omega) | (simp only [pnZ]; (repeat' split) <;> first | omega | rfl))
          skip
          exact k_iret B hr (⟨(by rw [e_8]), rfl, rfl, rfl⟩) ⟨Nat.le_of_ble_eq_true rfl, Nat.le_of_ble_eq_true rfl⟩ ⟨Nat.le_of_ble_eq_true rfl, Nat.le_of_ble_eq_true rfl⟩ dX2_demeritsForAhead_65
        · have zc_7 : 0 < (fg to) := jnle (a := (fg to)) (b := 0) (by omega) (by omega) c_7
          refine lv_iload hx hb dX2_demeritsForAhead_54 (lv_at hl 0 rfl) ?_
          refine lv_sipush (v := iI 2000) hx hb dX2_demeritsForAhead_56 (by decide) ?_
          refine lv_iadd hx hb dX2_demeritsForAhead_59 ?_
          refine lv_seti (y := iI 5000) (by decide) ?_
          refine lv_goto (tgt := 65) hx hb dX2_demeritsForAhead_60 (by decide) ?_
          have e_9 : (pnZ cl ah (fg fr) (fg to)) = 5000 := (by first | (simp only [pnZ, if_neg zc_1, if_pos zc_2, if_neg (Int.not_le.mpr zc_2), if_pos zc_4, if_neg (Int.not_le.mpr zc_4), if_pos zc_7, if_neg (Int.not_le.mpr zc_7)]; done) | (simp only [pnZ, if_neg zc_1, if_pos zc_2, if_neg (Int.not_le.mpr zc_2), if_pos zc_4, if_neg (Int.not_le.mpr zc_4), if_pos zc_7, if_neg (Int.not_le.mpr zc_7)]; omega) | (simp only [pnZ]; (repeat' split) <;> first | omega | rfl))
          skip
          exact k_iret B hr (⟨(by rw [e_9]), rfl, rfl, rfl⟩) ⟨Nat.le_of_ble_eq_true rfl, Nat.le_of_ble_eq_true rfl⟩ ⟨Nat.le_of_ble_eq_true rfl, Nat.le_of_ble_eq_true rfl⟩ dX2_demeritsForAhead_65
    · have zc_2 : (cl - ah) ≤ 1 := jnlt (a := 1) (b := (cl - ah)) (by omega) (by omega) c_2
      refine lv_iload_n hx hb dX2_demeritsForAhead_17 rfl (lv_at hl 3 rfl) ?_
      refine lv_aload_n hx hb dX2_demeritsForAhead_18 rfl (lv_at hl 0 rfl) ?_
      refine x_get (ci := 2) (C := RX2) (T := TX2) (N := 13) (v := .int (iI cl)) B 0 rfl rfl in_X2 9 (by decide) mw_139 (fun _ h9 => h9) rfl dX2_demeritsForAhead_19 ?_
      refine y_sub hx hb dX2_demeritsForAhead_22 ?_
      refine lv_iconst (v := iI 1) hx hb dX2_demeritsForAhead_23 (by decide) ?_
      refine lv_icmp_le (tgt := 33) hx hb dX2_demeritsForAhead_24 (by decide) (fun c_10 => ?_) (fun c_10 => ?_)
      · have zc_10 : (ah - cl) ≤ 1 := jle (a := (ah - cl)) (b := 1) (by omega) (by omega) c_10
        refine lv_iconst (v := iI 0) hx hb dX2_demeritsForAhead_33 (by decide) ?_
        refine lv_istore (lv' := [(4, .int (iI 0)), (0, .ref ln), (1, .int (iI fr)), (2, .int (iI to)), (3, .int (iI ah))]) hx hb dX2_demeritsForAhead_34 hl (by decide) rfl (fun ls hl => ?_)
        refine lv_aload_n hx hb dX2_demeritsForAhead_36 rfl (lv_at hl 1 rfl) ?_
        refine x_get (ci := 2) (C := RX2) (T := TX2) (N := 13) (v := .ref ga) B 0 rfl rfl in_X2 2 (by decide) mw_130 (fun _ h9 => h9) rfl dX2_demeritsForAhead_37 ?_
        refine lv_iload_n hx hb dX2_demeritsForAhead_40 rfl (lv_at hl 2 rfl) ?_
        refine x_iald' (f := fg) (z := fr) B 1 rfl (by omega) dX2_demeritsForAhead_41 ?_
        have z_11 : 0 ≤ (fg fr) ∧ (fg fr) ≤ 5 := hg fr
        refine lv_if_le (tgt := 63) hx hb dX2_demeritsForAhead_42 (by decide) (fun c_12 => ?_) (fun c_12 => ?_)
        · have zc_12 : (fg fr) ≤ 0 := jle (a := (fg fr)) (b := 0) (by omega) (by omega) c_12
          refine lv_iload hx hb dX2_demeritsForAhead_63 (lv_at hl 0 rfl) ?_
          have e_13 : (pnZ cl ah (fg fr) (fg to)) = 0 := (by first | (simp only [pnZ, if_neg zc_1, if_pos zc_2, if_neg (Int.not_lt.mpr zc_2), if_pos zc_10, if_neg (Int.not_lt.mpr zc_10), if_pos zc_12, if_neg (Int.not_lt.mpr zc_12)]; done) | (simp only [pnZ, if_neg zc_1, if_pos zc_2, if_neg (Int.not_lt.mpr zc_2), if_pos zc_10, if_neg (Int.not_lt.mpr zc_10), if_pos zc_12, if_neg (Int.not_lt.mpr zc_12)]; omega) | (simp only [pnZ]; (repeat' split) <;> first | omega | rfl))
          skip
          exact k_iret B hr (⟨(by rw [e_13]), rfl, rfl, rfl⟩) ⟨Nat.le_of_ble_eq_true rfl, Nat.le_of_ble_eq_true rfl⟩ ⟨Nat.le_of_ble_eq_true rfl, Nat.le_of_ble_eq_true rfl⟩ dX2_demeritsForAhead_65
        · have zc_12 : 0 < (fg fr) := jnle (a := (fg fr)) (b := 0) (by omega) (by omega) c_12
          refine lv_aload_n hx hb dX2_demeritsForAhead_45 rfl (lv_at hl 1 rfl) ?_
          refine x_get (ci := 2) (C := RX2) (T := TX2) (N := 13) (v := .ref ga) B 0 rfl rfl in_X2 2 (by decide) mw_130 (fun _ h9 => h9) rfl dX2_demeritsForAhead_46 ?_
          refine lv_iload_n hx hb dX2_demeritsForAhead_49 rfl (lv_at hl 3 rfl) ?_
          refine x_iald' (f := fg) (z := to) B 1 rfl (by omega) dX2_demeritsForAhead_50 ?_
          have z_14 : 0 ≤ (fg to) ∧ (fg to) ≤ 5 := hg to
          refine lv_if_le (tgt := 63) hx hb dX2_demeritsForAhead_51 (by decide) (fun c_15 => ?_) (fun c_15 => ?_)
          · have zc_15 : (fg to) ≤ 0 := jle (a := (fg to)) (b := 0) (by omega) (by omega) c_15
            refine lv_iload hx hb dX2_demeritsForAhead_63 (lv_at hl 0 rfl) ?_
            have e_16 : (pnZ cl ah (fg fr) (fg to)) = 0 := (by first | (simp only [pnZ, if_neg zc_1, if_pos zc_2, if_neg (Int.not_lt.mpr zc_2), if_pos zc_10, if_neg (Int.not_lt.mpr zc_10), if_pos zc_12, if_neg (Int.not_le.mpr zc_12), if_pos zc_15, if_neg (Int.not_lt.mpr zc_15)]; done) | (simp only [pnZ, if_neg zc_1, if_pos zc_2, if_neg (Int.not_lt.mpr zc_2), if_pos zc_10, if_neg (Int.not_lt.mpr zc_10), if_pos zc_12, if_neg (Int.not_le.mpr zc_12), if_pos zc_15, if_neg (Int.not_lt.mpr zc_15)]; omega) | (simp only [pnZ]; (repeat' split) <;> first | omega | rfl))
            skip
            exact k_iret B hr (⟨(by rw [e_16]), rfl, rfl, rfl⟩) ⟨Nat.le_of_ble_eq_true rfl, Nat.le_of_ble_eq_true rfl⟩ ⟨Nat.le_of_ble_eq_true rfl, Nat.le_of_ble_eq_true rfl⟩ dX2_demeritsForAhead_65
          · have zc_15 : 0 < (fg to) := jnle (a := (fg to)) (b := 0) (by omega) (by omega) c_15
            refine lv_iload hx hb dX2_demeritsForAhead_54 (lv_at hl 0 rfl) ?_
            refine lv_sipush (v := iI 2000) hx hb dX2_demeritsForAhead_56 (by decide) ?_
            refine lv_iadd hx hb dX2_demeritsForAhead_59 ?_
            refine lv_seti (y := iI 2000) (by decide) ?_
            refine lv_goto (tgt := 65) hx hb dX2_demeritsForAhead_60 (by decide) ?_
            have e_17 : (pnZ cl ah (fg fr) (fg to)) = 2000 := (by first | (simp only [pnZ, if_neg zc_1, if_pos zc_2, if_neg (Int.not_lt.mpr zc_2), if_pos zc_10, if_neg (Int.not_lt.mpr zc_10), if_pos zc_12, if_neg (Int.not_le.mpr zc_12), if_pos zc_15, if_neg (Int.not_le.mpr zc_15)]; done) | (simp only [pnZ, if_neg zc_1, if_pos zc_2, if_neg (Int.not_lt.mpr zc_2), if_pos zc_10, if_neg (Int.not_lt.mpr zc_10), if_pos zc_12, if_neg (Int.not_le.mpr zc_12), if_pos zc_15, if_neg (Int.not_le.mpr zc_15)]; omega) | (simp only [pnZ]; (repeat' split) <;> first | omega | rfl))
            skip
            exact k_iret B hr (⟨(by rw [e_17]), rfl, rfl, rfl⟩) ⟨Nat.le_of_ble_eq_true rfl, Nat.le_of_ble_eq_true rfl⟩ ⟨Nat.le_of_ble_eq_true rfl, Nat.le_of_ble_eq_true rfl⟩ dX2_demeritsForAhead_65
      · have zc_10 : 1 < (ah - cl) := jnle (a := (ah - cl)) (b := 1) (by omega) (by omega) c_10
        refine lv_sipush (v := iI 3000) hx hb dX2_demeritsForAhead_27 (by decide) ?_
        refine lv_goto (tgt := 34) hx hb dX2_demeritsForAhead_30 (by decide) ?_
        refine lv_istore (lv' := [(4, .int (iI 3000)), (0, .ref ln), (1, .int (iI fr)), (2, .int (iI to)), (3, .int (iI ah))]) hx hb dX2_demeritsForAhead_34 hl (by decide) rfl (fun ls hl => ?_)
        refine lv_aload_n hx hb dX2_demeritsForAhead_36 rfl (lv_at hl 1 rfl) ?_
        refine x_get (ci := 2) (C := RX2) (T := TX2) (N := 13) (v := .ref ga) B 0 rfl rfl in_X2 2 (by decide) mw_130 (fun _ h9 => h9) rfl dX2_demeritsForAhead_37 ?_
        refine lv_iload_n hx hb dX2_demeritsForAhead_40 rfl (lv_at hl 2 rfl) ?_
        refine x_iald' (f := fg) (z := fr) B 1 rfl (by omega) dX2_demeritsForAhead_41 ?_
        have z_18 : 0 ≤ (fg fr) ∧ (fg fr) ≤ 5 := hg fr
        refine lv_if_le (tgt := 63) hx hb dX2_demeritsForAhead_42 (by decide) (fun c_19 => ?_) (fun c_19 => ?_)
        · have zc_19 : (fg fr) ≤ 0 := jle (a := (fg fr)) (b := 0) (by omega) (by omega) c_19
          refine lv_iload hx hb dX2_demeritsForAhead_63 (lv_at hl 0 rfl) ?_
          have e_20 : (pnZ cl ah (fg fr) (fg to)) = 3000 := (by first | (simp only [pnZ, if_neg zc_1, if_pos zc_2, if_neg (Int.not_lt.mpr zc_2), if_pos zc_10, if_neg (Int.not_le.mpr zc_10), if_pos zc_19, if_neg (Int.not_lt.mpr zc_19)]; done) | (simp only [pnZ, if_neg zc_1, if_pos zc_2, if_neg (Int.not_lt.mpr zc_2), if_pos zc_10, if_neg (Int.not_le.mpr zc_10), if_pos zc_19, if_neg (Int.not_lt.mpr zc_19)]; omega) | (simp only [pnZ]; (repeat' split) <;> first | omega | rfl))
          skip
          exact k_iret B hr (⟨(by rw [e_20]), rfl, rfl, rfl⟩) ⟨Nat.le_of_ble_eq_true rfl, Nat.le_of_ble_eq_true rfl⟩ ⟨Nat.le_of_ble_eq_true rfl, Nat.le_of_ble_eq_true rfl⟩ dX2_demeritsForAhead_65
        · have zc_19 : 0 < (fg fr) := jnle (a := (fg fr)) (b := 0) (by omega) (by omega) c_19
          refine lv_aload_n hx hb dX2_demeritsForAhead_45 rfl (lv_at hl 1 rfl) ?_
          refine x_get (ci := 2) (C := RX2) (T := TX2) (N := 13) (v := .ref ga) B 0 rfl rfl in_X2 2 (by decide) mw_130 (fun _ h9 => h9) rfl dX2_demeritsForAhead_46 ?_
          refine lv_iload_n hx hb dX2_demeritsForAhead_49 rfl (lv_at hl 3 rfl) ?_
          refine x_iald' (f := fg) (z := to) B 1 rfl (by omega) dX2_demeritsForAhead_50 ?_
          have z_21 : 0 ≤ (fg to) ∧ (fg to) ≤ 5 := hg to
          refine lv_if_le (tgt := 63) hx hb dX2_demeritsForAhead_51 (by decide) (fun c_22 => ?_) (fun c_22 => ?_)
          · have zc_22 : (fg to) ≤ 0 := jle (a := (fg to)) (b := 0) (by omega) (by omega) c_22
            refine lv_iload hx hb dX2_demeritsForAhead_63 (lv_at hl 0 rfl) ?_
            have e_23 : (pnZ cl ah (fg fr) (fg to)) = 3000 := (by first | (simp only [pnZ, if_neg zc_1, if_pos zc_2, if_neg (Int.not_lt.mpr zc_2), if_pos zc_10, if_neg (Int.not_le.mpr zc_10), if_pos zc_19, if_neg (Int.not_le.mpr zc_19), if_pos zc_22, if_neg (Int.not_lt.mpr zc_22)]; done) | (simp only [pnZ, if_neg zc_1, if_pos zc_2, if_neg (Int.not_lt.mpr zc_2), if_pos zc_10, if_neg (Int.not_le.mpr zc_10), if_pos zc_19, if_neg (Int.not_le.mpr zc_19), if_pos zc_22, if_neg (Int.not_lt.mpr zc_22)]; omega) | (simp only [pnZ]; (repeat' split) <;> first | omega | rfl))
            skip
            exact k_iret B hr (⟨(by rw [e_23]), rfl, rfl, rfl⟩) ⟨Nat.le_of_ble_eq_true rfl, Nat.le_of_ble_eq_true rfl⟩ ⟨Nat.le_of_ble_eq_true rfl, Nat.le_of_ble_eq_true rfl⟩ dX2_demeritsForAhead_65
          · have zc_22 : 0 < (fg to) := jnle (a := (fg to)) (b := 0) (by omega) (by omega) c_22
            refine lv_iload hx hb dX2_demeritsForAhead_54 (lv_at hl 0 rfl) ?_
            refine lv_sipush (v := iI 2000) hx hb dX2_demeritsForAhead_56 (by decide) ?_
            refine lv_iadd hx hb dX2_demeritsForAhead_59 ?_
            refine lv_seti (y := iI 5000) (by decide) ?_
            refine lv_goto (tgt := 65) hx hb dX2_demeritsForAhead_60 (by decide) ?_
            have e_24 : (pnZ cl ah (fg fr) (fg to)) = 5000 := (by first | (simp only [pnZ, if_neg zc_1, if_pos zc_2, if_neg (Int.not_lt.mpr zc_2), if_pos zc_10, if_neg (Int.not_le.mpr zc_10), if_pos zc_19, if_neg (Int.not_le.mpr zc_19), if_pos zc_22, if_neg (Int.not_le.mpr zc_22)]; done) | (simp only [pnZ, if_neg zc_1, if_pos zc_2, if_neg (Int.not_lt.mpr zc_2), if_pos zc_10, if_neg (Int.not_le.mpr zc_10), if_pos zc_19, if_neg (Int.not_le.mpr zc_19), if_pos zc_22, if_neg (Int.not_le.mpr zc_22)]; omega) | (simp only [pnZ]; (repeat' split) <;> first | omega | rfl))
            skip
            exact k_iret B hr (⟨(by rw [e_24]), rfl, rfl, rfl⟩) ⟨Nat.le_of_ble_eq_true rfl, Nat.le_of_ble_eq_true rfl⟩ ⟨Nat.le_of_ble_eq_true rfl, Nat.le_of_ble_eq_true rfl⟩ dX2_demeritsForAhead_65
  · have zc_1 : ah = 4 := jeq (a := ah) (b := 4) (by omega) (by omega) c_1
    refine lv_iconst (v := iI 0) hx hb dX2_demeritsForAhead_5 (by decide) ?_
    have e_25 : (pnZ cl ah (fg fr) (fg to)) = 0 := (by first | (simp only [pnZ, if_pos zc_1]; done) | (simp only [pnZ, if_pos zc_1]; omega) | (simp only [pnZ]; (repeat' split) <;> first | omega | rfl))
    skip
    exact k_iret B hr (⟨(by rw [e_25]), rfl, rfl, rfl⟩) ⟨Nat.le_of_ble_eq_true rfl, Nat.le_of_ble_eq_true rfl⟩ ⟨Nat.le_of_ble_eq_true rfl, Nat.le_of_ble_eq_true rfl⟩ dX2_demeritsForAhead_6

theorem dX2_wayIndex_0 : decode cX2_wayIndex 0 = .ok (.iload_n 0, 1) := by decide +kernel
theorem dX2_wayIndex_1 : decode cX2_wayIndex 1 = .ok (.iconst 4, 1) := by decide +kernel
theorem dX2_wayIndex_2 : decode cX2_wayIndex 2 = .ok (.imul, 1) := by decide +kernel
theorem dX2_wayIndex_3 : decode cX2_wayIndex 3 = .ok (.iload_n 1, 1) := by decide +kernel
theorem dX2_wayIndex_4 : decode cX2_wayIndex 4 = .ok (.iadd, 1) := by decide +kernel
theorem dX2_wayIndex_5 : decode cX2_wayIndex 5 = .ok (.iconst 5, 1) := by decide +kernel
theorem dX2_wayIndex_6 : decode cX2_wayIndex 6 = .ok (.imul, 1) := by decide +kernel
theorem dX2_wayIndex_7 : decode cX2_wayIndex 7 = .ok (.iload_n 2, 1) := by decide +kernel
theorem dX2_wayIndex_8 : decode cX2_wayIndex 8 = .ok (.iadd, 1) := by decide +kernel
theorem dX2_wayIndex_9 : decode cX2_wayIndex 9 = .ok (.ireturn, 1) := by decide +kernel
set_option maxHeartbeats 4000000 in
set_option maxRecDepth 100000 in
theorem k_way (l : Launch) (dC : Nat → ClassId) (dI : Nat → Nat → Nat) (k : Nat → ClassId) (pl : Int) (la : Int) (ah : Int) : Kn l dC dI k yX2_wayIndex (.code yX2_wayIndex cX2_wayIndex 3 (some .int)) ({ frames := 0, cells := 0, slots := 0, locals := 0 } : Room) [.int (iI pl), .int (iI la), .int (iI ah)] [] (fun r w gc gs => (r = some (.int (iI ((((pl * 4) + la) * 5) + ah))) ∧ w = [] ∧ gc = 0 ∧ gs = 0)) := by
  refine kn_of (by decide) (Nat.le_of_ble_eq_true rfl) ?_
  intro p e s m args below meth c H locs B hr hnm ls hl
  have hx := B.1.1
  have hb := B.1.2.1
  have hl : lv_has ls 3 [(0, .int (iI pl)), (1, .int (iI la)), (2, .int (iI ah))] := hl
  refine lv_iload_n hx hb dX2_wayIndex_0 rfl (lv_at hl 0 rfl) ?_
  refine lv_iconst (v := iI 4) hx hb dX2_wayIndex_1 (by decide) ?_
  refine y_mul hx hb dX2_wayIndex_2 ?_
  refine lv_iload_n hx hb dX2_wayIndex_3 rfl (lv_at hl 1 rfl) ?_
  refine y_add hx hb dX2_wayIndex_4 ?_
  refine lv_iconst (v := iI 5) hx hb dX2_wayIndex_5 (by decide) ?_
  refine y_mul hx hb dX2_wayIndex_6 ?_
  refine lv_iload_n hx hb dX2_wayIndex_7 rfl (lv_at hl 2 rfl) ?_
  refine y_add hx hb dX2_wayIndex_8 ?_
  exact k_iret B hr (⟨rfl, rfl, rfl, rfl⟩) ⟨Nat.le_of_ble_eq_true rfl, Nat.le_of_ble_eq_true rfl⟩ ⟨Nat.le_of_ble_eq_true rfl, Nat.le_of_ble_eq_true rfl⟩ dX2_wayIndex_9

/-- a run of places filled with one value -/
def fil (f : Int → Int) (b n v : Int) : Int → Int := fun i => if b ≤ i ∧ i < b + n then v else f i
theorem fil_0 (f : Int → Int) (b v : Int) : f = fil f b 0 v := by
  funext i
  exact (if_neg (by omega)).symm
theorem fil_s (f : Int → Int) {b n v : Int} (hn : 0 ≤ n) : uz (fil f b n v) (b + n) v = fil f b (n + 1) v := by
  funext i
  simp only [uz, fil]
  by_cases h : i = b + n
  · rw [if_pos h, if_pos (by omega)]
  · rw [if_neg h]
    by_cases h2 : b ≤ i ∧ i < b + n
    · rw [if_pos h2, if_pos (by omega)]
    · rw [if_neg h2, if_neg (by omega)]
theorem fil_j (f : Int → Int) {b n c q v : Int} (hn : 0 ≤ n) (hq : 0 ≤ q) (hc : c = b + n) : fil (fil f b n v) c q v = fil f b (n + q) v := by
  funext i
  simp only [fil]
  by_cases h : c ≤ i ∧ i < c + q
  · rw [if_pos h, if_pos (by omega)]
  · rw [if_neg h]
    by_cases h2 : b ≤ i ∧ i < b + n
    · rw [if_pos h2, if_pos (by omega)]
    · rw [if_neg h2, if_neg (by omega)]
theorem fil_Bd {f : Int → Int} {b n v lo hi : Int} (h : Bd lo hi f) (hv : lo ≤ v ∧ v ≤ hi) : Bd lo hi (fil f b n v) := fun i => by
  simp only [fil]
  split
  · exact hv
  · exact h i
theorem fil_in {f : Int → Int} {b n v i : Int} (h : b ≤ i ∧ i < b + n) : fil f b n v i = v := if_pos h
theorem fil_out {f : Int → Int} {b n v i : Int} (h : ¬ (b ≤ i ∧ i < b + n)) : fil f b n v i = f i := if_neg h

theorem mw_6 : (Jvm.Cond.initialized "Galleyforge$Lines") ∈ gt := gt_at 76 (by decide +kernel) (by decide +kernel)
theorem mw_140 : (Jvm.Cond.fieldLink "Galleyforge$Lines" (24 : Nat) "Galleyforge$Lines" "bestDemerits" "[J") ∈ gt := gt_at 210 (by decide +kernel) (by decide +kernel)
theorem mw_141 : (Jvm.Cond.fieldLink "Galleyforge$Lines" (28 : Nat) "Galleyforge$Lines" "bestLines" "[I") ∈ gt := gt_at 211 (by decide +kernel) (by decide +kernel)
theorem mw_142 : (Jvm.Cond.fieldLink "Galleyforge$Lines" (31 : Nat) "Galleyforge$Lines" "bestEnds" "[I") ∈ gt := gt_at 212 (by decide +kernel) (by decide +kernel)
theorem mw_1421 : (Jvm.Cond.methodLink "Galleyforge$Lines" (141 : Nat) ({ cls := "Galleyforge$Lines", name := "wayIndex", desc := "(III)I" } : Jvm.MethodName)) ∈ gt := gt_at 1491 (by decide +kernel) (by decide +kernel)
theorem mw_1422 : (Jvm.Cond.static ({ cls := "Galleyforge$Lines", name := "wayIndex", desc := "(III)I" } : Jvm.MethodName)) ∈ gt := gt_at 1492 (by decide +kernel) (by decide +kernel)
theorem mw_1423 : (Jvm.Cond.code ({ cls := "Galleyforge$Lines", name := "wayIndex", desc := "(III)I" } : Jvm.MethodName) prog_4_method_10_code (3 : Nat) (Option.some Jvm.ClassFile.FieldType.int)) ∈ gt := gt_at 1493 (by decide +kernel) (by decide +kernel)
theorem mS_X2_wayIndex : mS yX2_wayIndex cX2_wayIndex 3 (some .int) 3 := ⟨⟨mw_1423, mw_6, by decide, by decide, by decide +kernel⟩, mw_1422⟩
theorem dX2_clearWays_0 : decode cX2_clearWays 0 = .ok (.iconst 0, 1) := by decide +kernel
theorem dX2_clearWays_1 : decode cX2_clearWays 1 = .ok (.istore 4, 2) := by decide +kernel
theorem dX2_clearWays_3 : decode cX2_clearWays 3 = .ok (.iload 4, 2) := by decide +kernel
theorem dX2_clearWays_5 : decode cX2_clearWays 5 = .ok (.iconst 5, 1) := by decide +kernel
theorem dX2_clearWays_6 : decode cX2_clearWays 6 = .ok (.if_icmp .ge 43, 3) := by decide +kernel
theorem dX2_clearWays_9 : decode cX2_clearWays 9 = .ok (.iload_n 1, 1) := by decide +kernel
theorem dX2_clearWays_10 : decode cX2_clearWays 10 = .ok (.iload_n 2, 1) := by decide +kernel
theorem dX2_clearWays_11 : decode cX2_clearWays 11 = .ok (.iload 4, 2) := by decide +kernel
theorem dX2_clearWays_13 : decode cX2_clearWays 13 = .ok (.invokestatic 141, 3) := by decide +kernel
theorem dX2_clearWays_16 : decode cX2_clearWays 16 = .ok (.istore 5, 2) := by decide +kernel
theorem dX2_clearWays_18 : decode cX2_clearWays 18 = .ok (.aload_n 0, 1) := by decide +kernel
theorem dX2_clearWays_19 : decode cX2_clearWays 19 = .ok (.getfield 24, 3) := by decide +kernel
theorem dX2_clearWays_22 : decode cX2_clearWays 22 = .ok (.iload 5, 2) := by decide +kernel
theorem dX2_clearWays_24 : decode cX2_clearWays 24 = .ok (.iload_n 3, 1) := by decide +kernel
theorem dX2_clearWays_25 : decode cX2_clearWays 25 = .ok (.i2l, 1) := by decide +kernel
theorem dX2_clearWays_26 : decode cX2_clearWays 26 = .ok (.lastore, 1) := by decide +kernel
theorem dX2_clearWays_27 : decode cX2_clearWays 27 = .ok (.aload_n 0, 1) := by decide +kernel
theorem dX2_clearWays_28 : decode cX2_clearWays 28 = .ok (.getfield 28, 3) := by decide +kernel
theorem dX2_clearWays_31 : decode cX2_clearWays 31 = .ok (.iload 5, 2) := by decide +kernel
theorem dX2_clearWays_33 : decode cX2_clearWays 33 = .ok (.iconst 0, 1) := by decide +kernel
theorem dX2_clearWays_34 : decode cX2_clearWays 34 = .ok (.iastore, 1) := by decide +kernel
theorem dX2_clearWays_35 : decode cX2_clearWays 35 = .ok (.aload_n 0, 1) := by decide +kernel
theorem dX2_clearWays_36 : decode cX2_clearWays 36 = .ok (.getfield 31, 3) := by decide +kernel
theorem dX2_clearWays_39 : decode cX2_clearWays 39 = .ok (.iload 5, 2) := by decide +kernel
theorem dX2_clearWays_41 : decode cX2_clearWays 41 = .ok (.iconst (-1), 1) := by decide +kernel
theorem dX2_clearWays_42 : decode cX2_clearWays 42 = .ok (.iastore, 1) := by decide +kernel
theorem dX2_clearWays_43 : decode cX2_clearWays 43 = .ok (.iinc 4 1, 3) := by decide +kernel
theorem dX2_clearWays_46 : decode cX2_clearWays 46 = .ok (.goto (-43), 3) := by decide +kernel
theorem dX2_clearWays_49 : decode cX2_clearWays 49 = .ok (.return_, 1) := by decide +kernel
set_option maxHeartbeats 4000000 in
set_option maxRecDepth 100000 in
theorem k_clear (l : Launch) (dC : Nat → ClassId) (dI : Nat → Nat → Nat) (k : Nat → ClassId) (ln : Nat) (wa : Nat) (ga : Nat) (wt : Nat) (wo : Nat) (bD : Nat) (bL : Nat) (bE : Nat) (n : Int) (wd : Int) (nw : Int) (dp : Int) (sd : Int) (cl : Int) (fD : Int → Int) (fL : Int → Int) (fE : Int → Int) (pl : Int) (la : Int) (dm : Int) (hD : Bd (-1) 1099511627776 fD) (hL : Bd 0 1000 fL) (hE : Bd (-1) 48 fE) (h1 : 0 ≤ pl ∧ pl ≤ 48 ∧ 0 ≤ la ∧ la ≤ 3) (h2 : -1 ≤ dm ∧ dm ≤ 1000) : Kn l dC dI k yX2_clearWays (.code yX2_clearWays cX2_clearWays 6 none) ({ frames := 1, cells := 0, slots := 0, locals := 22 } : Room) [.ref ln, .int (iI pl), .int (iI la), .int (iI dm)] [(ln, .inr (2, [.int (iI n), .ref wa, .ref ga, .ref wt, .ref wo, .int (iI wd), .int (iI nw), .int (iI dp), .int (iI sd), .int (iI cl), .ref bD, .ref bL, .ref bE])), (bD, .inl (k 2, 980, .inr (.inl (fun i9 : Nat => lI (fD i9))))), (bL, .inl (k 0, 980, .inl (fun i9 : Nat => iI (fL i9)))), (bE, .inl (k 0, 980, .inl (fun i9 : Nat => iI (fE i9))))] (fun r w gc gs => ((Bd (-1) 1099511627776 (fil fD (((pl * 4) + la) * 5) 5 dm)) ∧ (Bd 0 1000 (fil fL (((pl * 4) + la) * 5) 5 0)) ∧ (Bd (-1) 48 (fil fE (((pl * 4) + la) * 5) 5 (-1))) ∧ r = none ∧ w = [(ln, .inr (2, [.int (iI n), .ref wa, .ref ga, .ref wt, .ref wo, .int (iI wd), .int (iI nw), .int (iI dp), .int (iI sd), .int (iI cl), .ref bD, .ref bL, .ref bE])), (bD, .inl (k 2, 980, .inr (.inl (fun i9 : Nat => lI ((fil fD (((pl * 4) + la) * 5) 5 dm) i9))))), (bL, .inl (k 0, 980, .inl (fun i9 : Nat => iI ((fil fL (((pl * 4) + la) * 5) 5 0) i9)))), (bE, .inl (k 0, 980, .inl (fun i9 : Nat => iI ((fil fE (((pl * 4) + la) * 5) 5 (-1)) i9))))] ∧ gc = 0 ∧ gs = 0)) := by
  refine kn_of (by decide) (Nat.le_of_ble_eq_true rfl) ?_
  intro p e s m args below meth c H locs B hr hnm ls hl
  have hx := B.1.1
  have hb := B.1.2.1
  have hl : lv_has ls 6 [(0, .ref ln), (1, .int (iI pl)), (2, .int (iI la)), (3, .int (iI dm))] := hl
  refine lv_iconst (v := iI 0) hx hb dX2_clearWays_0 (by decide) ?_
  refine lv_istore (lv' := [(4, .int (iI 0)), (0, .ref ln), (1, .int (iI pl)), (2, .int (iI la)), (3, .int (iI dm))]) hx hb dX2_clearWays_1 hl (by decide) rfl (fun ls hl => ?_)
  have e_1 : fD = (fil fD (((pl * 4) + la) * 5) 0 dm) := (fil_0 _ _ _)
  have e_2 : fL = (fil fL (((pl * 4) + la) * 5) 0 0) := (fil_0 _ _ _)
  have e_3 : fE = (fil fE (((pl * 4) + la) * 5) 0 (-1)) := (fil_0 _ _ _)
  have hl : lv_has ls 6 [(4, .int (iI 0)), (0, .ref ln), (1, .int (iI pl)), (2, .int (iI la)), (3, .int (iI dm))] := by first | exact lv_sub hl [0, 1, 2, 3, 4] rfl | (try rw [← e_1]; try rw [← e_2]; try rw [← e_3]; exact lv_sub hl [0, 1, 2, 3, 4] rfl)
  have B := bd_to (ws' := [(ln, .inr (2, [.int (iI n), .ref wa, .ref ga, .ref wt, .ref wo, .int (iI wd), .int (iI nw), .int (iI dp), .int (iI sd), .int (iI cl), .ref bD, .ref bL, .ref bE])), (bD, .inl (k 2, 980, .inr (.inl (fun i9 : Nat => lI ((fil fD (((pl * 4) + la) * 5) 0 dm) i9))))), (bL, .inl (k 0, 980, .inl (fun i9 : Nat => iI ((fil fL (((pl * 4) + la) * 5) 0 0) i9)))), (bE, .inl (k 0, 980, .inl (fun i9 : Nat => iI ((fil fE (((pl * 4) + la) * 5) 0 (-1)) i9))))]) (by first | rfl | (try rw [← e_1]; try rw [← e_2]; try rw [← e_3]; done) | (try rw [← e_1]; try rw [← e_2]; try rw [← e_3]; rfl)) B
  refine k_loop (σ := Int) B (fun g9 : Int => (0 ≤ g9 ∧ g9 ≤ 5)) (fun g9 : Int => (5 - g9).toNat) (fun g9 : Int => [(4, .int (iI g9)), (0, .ref ln), (1, .int (iI pl)), (2, .int (iI la)), (3, .int (iI dm))]) (fun g9 : Int => [(ln, .inr (2, [.int (iI n), .ref wa, .ref ga, .ref wt, .ref wo, .int (iI wd), .int (iI nw), .int (iI dp), .int (iI sd), .int (iI cl), .ref bD, .ref bL, .ref bE])), (bD, .inl (k 2, 980, .inr (.inl (fun i9 : Nat => lI ((fil fD (((pl * 4) + la) * 5) g9 dm) i9))))), (bL, .inl (k 0, 980, .inl (fun i9 : Nat => iI ((fil fL (((pl * 4) + la) * 5) g9 0) i9)))), (bE, .inl (k 0, 980, .inl (fun i9 : Nat => iI ((fil fE (((pl * 4) + la) * 5) g9 (-1)) i9))))]) ?_ 0 (show 0 ≤ 0 ∧ 0 ≤ 5 from (by omega)) ls H locs (lv_sub hl [0, 1, 2, 3, 4] rfl) (bd_to rfl B)
  clear hl B
  rintro j hj ih_4 ls H locs hl B
  have hl : lv_has ls 6 [(4, .int (iI j)), (0, .ref ln), (1, .int (iI pl)), (2, .int (iI la)), (3, .int (iI dm))] := hl
  have B := bd_to (ws' := [(ln, .inr (2, [.int (iI n), .ref wa, .ref ga, .ref wt, .ref wo, .int (iI wd), .int (iI nw), .int (iI dp), .int (iI sd), .int (iI cl), .ref bD, .ref bL, .ref bE])), (bD, .inl (k 2, 980, .inr (.inl (fun i9 : Nat => lI ((fil fD (((pl * 4) + la) * 5) j dm) i9))))), (bL, .inl (k 0, 980, .inl (fun i9 : Nat => iI ((fil fL (((pl * 4) + la) * 5) j 0) i9)))), (bE, .inl (k 0, 980, .inl (fun i9 : Nat => iI ((fil fE (((pl * 4) + la) * 5) j (-1)) i9))))]) rfl B
  refine lv_iload hx hb dX2_clearWays_3 (lv_at hl 0 rfl) ?_
  refine lv_iconst (v := iI 5) hx hb dX2_clearWays_5 (by decide) ?_
  refine lv_icmp_ge (tgt := 49) hx hb dX2_clearWays_6 (by decide) (fun c_5 => ?_) (fun c_5 => ?_)
  · have zc_5 : 5 ≤ j := jle (a := 5) (b := j) (by omega) (by omega) c_5
    have e_6 : (fil fD (((pl * 4) + la) * 5) 5 dm) = (fil fD (((pl * 4) + la) * 5) j dm) := (by rw [show j = 5 by omega])
    have e_7 : (fil fL (((pl * 4) + la) * 5) 5 0) = (fil fL (((pl * 4) + la) * 5) j 0) := (by rw [show j = 5 by omega])
    have e_8 : (fil fE (((pl * 4) + la) * 5) 5 (-1)) = (fil fE (((pl * 4) + la) * 5) j (-1)) := (by rw [show j = 5 by omega])
    have B := bd_to (ws' := [(ln, .inr (2, [.int (iI n), .ref wa, .ref ga, .ref wt, .ref wo, .int (iI wd), .int (iI nw), .int (iI dp), .int (iI sd), .int (iI cl), .ref bD, .ref bL, .ref bE])), (bD, .inl (k 2, 980, .inr (.inl (fun i9 : Nat => lI ((fil fD (((pl * 4) + la) * 5) 5 dm) i9))))), (bL, .inl (k 0, 980, .inl (fun i9 : Nat => iI ((fil fL (((pl * 4) + la) * 5) 5 0) i9)))), (bE, .inl (k 0, 980, .inl (fun i9 : Nat => iI ((fil fE (((pl * 4) + la) * 5) 5 (-1)) i9))))]) (by first | rfl | (rw [e_6, e_7, e_8]) | (rw [e_8, e_7, e_6])) B
    exact k_vret B hr (⟨(fil_Bd hD (by omega)), (fil_Bd hL (by omega)), (fil_Bd hE (by omega)), rfl, rfl, rfl, rfl⟩) ⟨Nat.le_of_ble_eq_true rfl, Nat.le_of_ble_eq_true rfl⟩ ⟨Nat.le_of_ble_eq_true rfl, Nat.le_of_ble_eq_true rfl⟩ dX2_clearWays_49
  · have zc_5 : j < 5 := jnle (a := 5) (b := j) (by omega) (by omega) c_5
    refine lv_iload_n hx hb dX2_clearWays_9 rfl (lv_at hl 2 rfl) ?_
    refine lv_iload_n hx hb dX2_clearWays_10 rfl (lv_at hl 3 rfl) ?_
    refine lv_iload hx hb dX2_clearWays_11 (lv_at hl 0 rfl) ?_
    have B := bd_to (ws' := [] ++ [(ln, .inr (2, [.int (iI n), .ref wa, .ref ga, .ref wt, .ref wo, .int (iI wd), .int (iI nw), .int (iI dp), .int (iI sd), .int (iI cl), .ref bD, .ref bL, .ref bE])), (bD, .inl (k 2, 980, .inr (.inl (fun i9 : Nat => lI ((fil fD (((pl * 4) + la) * 5) j dm) i9))))), (bL, .inl (k 0, 980, .inl (fun i9 : Nat => iI ((fil fL (((pl * 4) + la) * 5) j 0) i9)))), (bE, .inl (k 0, 980, .inl (fun i9 : Nat => iI ((fil fE (((pl * 4) + la) * 5) j (-1)) i9))))]) rfl B
    refine k_S (rest := []) (wc := []) (wr := [(ln, .inr (2, [.int (iI n), .ref wa, .ref ga, .ref wt, .ref wo, .int (iI wd), .int (iI nw), .int (iI dp), .int (iI sd), .int (iI cl), .ref bD, .ref bL, .ref bE])), (bD, .inl (k 2, 980, .inr (.inl (fun i9 : Nat => lI ((fil fD (((pl * 4) + la) * 5) j dm) i9))))), (bL, .inl (k 0, 980, .inl (fun i9 : Nat => iI ((fil fL (((pl * 4) + la) * 5) j 0) i9)))), (bE, .inl (k 0, 980, .inl (fun i9 : Nat => iI ((fil fE (((pl * 4) + la) * 5) j (-1)) i9))))]) (k_way l dC dI k pl la j) B mS_X2_wayIndex mw_1421 hl ⟨Nat.le_of_ble_eq_true rfl, Nat.le_of_ble_eq_true rfl⟩ (Nat.le_of_ble_eq_true rfl) rfl dX2_clearWays_13 ⟨Nat.le_of_ble_eq_true rfl, Nat.le_of_ble_eq_true rfl⟩ (fun r w gc gs H locs hp B => ?_)
    obtain ⟨rfl, hw9, rfl, rfl⟩ := hp
    rw [hw9] at B; clear hw9
    have B := bd_to (ws' := [(ln, .inr (2, [.int (iI n), .ref wa, .ref ga, .ref wt, .ref wo, .int (iI wd), .int (iI nw), .int (iI dp), .int (iI sd), .int (iI cl), .ref bD, .ref bL, .ref bE])), (bD, .inl (k 2, 980, .inr (.inl (fun i9 : Nat => lI ((fil fD (((pl * 4) + la) * 5) j dm) i9))))), (bL, .inl (k 0, 980, .inl (fun i9 : Nat => iI ((fil fL (((pl * 4) + la) * 5) j 0) i9)))), (bE, .inl (k 0, 980, .inl (fun i9 : Nat => iI ((fil fE (((pl * 4) + la) * 5) j (-1)) i9))))]) rfl B
    refine lv_istore (lv' := [(5, .int (iI ((((pl * 4) + la) * 5) + j))), (4, .int (iI j)), (0, .ref ln), (1, .int (iI pl)), (2, .int (iI la)), (3, .int (iI dm))]) hx hb dX2_clearWays_16 hl (by decide) rfl (fun ls hl => ?_)
    refine lv_aload_n hx hb dX2_clearWays_18 rfl (lv_at hl 2 rfl) ?_
    refine x_get (ci := 2) (C := RX2) (T := TX2) (N := 13) (v := .ref bD) B 0 rfl rfl in_X2 10 (by decide) mw_140 (fun _ h9 => h9) rfl dX2_clearWays_19 ?_
    refine lv_iload hx hb dX2_clearWays_22 (lv_at hl 0 rfl) ?_
    refine lv_iload_n hx hb dX2_clearWays_24 rfl (lv_at hl 5 rfl) ?_
    refine y_i2l hx hb (a := dm) (by omega) dX2_clearWays_25 ?_
    refine x_last' (f := (fil fD (((pl * 4) + la) * 5) j dm)) (z := ((((pl * 4) + la) * 5) + j)) (v := dm) B 1 rfl (by omega) dX2_clearWays_26 (fun H locs B => ?_)
    have B := bd_to (ws' := [(ln, .inr (2, [.int (iI n), .ref wa, .ref ga, .ref wt, .ref wo, .int (iI wd), .int (iI nw), .int (iI dp), .int (iI sd), .int (iI cl), .ref bD, .ref bL, .ref bE])), (bD, .inl (k 2, 980, .inr (.inl (fun i9 : Nat => lI ((uz (fil fD (((pl * 4) + la) * 5) j dm) ((((pl * 4) + la) * 5) + j) dm) i9))))), (bL, .inl (k 0, 980, .inl (fun i9 : Nat => iI ((fil fL (((pl * 4) + la) * 5) j 0) i9)))), (bE, .inl (k 0, 980, .inl (fun i9 : Nat => iI ((fil fE (((pl * 4) + la) * 5) j (-1)) i9))))]) rfl B
    refine lv_aload_n hx hb dX2_clearWays_27 rfl (lv_at hl 2 rfl) ?_
    refine x_get (ci := 2) (C := RX2) (T := TX2) (N := 13) (v := .ref bL) B 0 rfl rfl in_X2 11 (by decide) mw_141 (fun _ h9 => h9) rfl dX2_clearWays_28 ?_
    refine lv_iload hx hb dX2_clearWays_31 (lv_at hl 0 rfl) ?_
    refine lv_iconst (v := iI 0) hx hb dX2_clearWays_33 (by decide) ?_
    refine x_iast' (f := (fil fL (((pl * 4) + la) * 5) j 0)) (z := ((((pl * 4) + la) * 5) + j)) (v := 0) B 2 rfl (by omega) dX2_clearWays_34 (fun H locs B => ?_)
    have B := bd_to (ws' := [(ln, .inr (2, [.int (iI n), .ref wa, .ref ga, .ref wt, .ref wo, .int (iI wd), .int (iI nw), .int (iI dp), .int (iI sd), .int (iI cl), .ref bD, .ref bL, .ref bE])), (bD, .inl (k 2, 980, .inr (.inl (fun i9 : Nat => lI ((uz (fil fD (((pl * 4) + la) * 5) j dm) ((((pl * 4) + la) * 5) + j) dm) i9))))), (bL, .inl (k 0, 980, .inl (fun i9 : Nat => iI ((uz (fil fL (((pl * 4) + la) * 5) j 0) ((((pl * 4) + la) * 5) + j) 0) i9)))), (bE, .inl (k 0, 980, .inl (fun i9 : Nat => iI ((fil fE (((pl * 4) + la) * 5) j (-1)) i9))))]) rfl B
    refine lv_aload_n hx hb dX2_clearWays_35 rfl (lv_at hl 2 rfl) ?_
    refine x_get (ci := 2) (C := RX2) (T := TX2) (N := 13) (v := .ref bE) B 0 rfl rfl in_X2 12 (by decide) mw_142 (fun _ h9 => h9) rfl dX2_clearWays_36 ?_
    refine lv_iload hx hb dX2_clearWays_39 (lv_at hl 0 rfl) ?_
    refine lv_iconst (v := iI (-1)) hx hb dX2_clearWays_41 (by decide) ?_
    refine x_iast' (f := (fil fE (((pl * 4) + la) * 5) j (-1))) (z := ((((pl * 4) + la) * 5) + j)) (v := (-1)) B 3 rfl (by omega) dX2_clearWays_42 (fun H locs B => ?_)
    have B := bd_to (ws' := [(ln, .inr (2, [.int (iI n), .ref wa, .ref ga, .ref wt, .ref wo, .int (iI wd), .int (iI nw), .int (iI dp), .int (iI sd), .int (iI cl), .ref bD, .ref bL, .ref bE])), (bD, .inl (k 2, 980, .inr (.inl (fun i9 : Nat => lI ((uz (fil fD (((pl * 4) + la) * 5) j dm) ((((pl * 4) + la) * 5) + j) dm) i9))))), (bL, .inl (k 0, 980, .inl (fun i9 : Nat => iI ((uz (fil fL (((pl * 4) + la) * 5) j 0) ((((pl * 4) + la) * 5) + j) 0) i9)))), (bE, .inl (k 0, 980, .inl (fun i9 : Nat => iI ((uz (fil fE (((pl * 4) + la) * 5) j (-1)) ((((pl * 4) + la) * 5) + j) (-1)) i9))))]) rfl B
    refine lv_iinc (v := iI (j + 1)) (lv' := [(4, .int (iI (j + 1))), (5, .int (iI ((((pl * 4) + la) * 5) + j))), (0, .ref ln), (1, .int (iI pl)), (2, .int (iI la)), (3, .int (iI dm))]) hx hb dX2_clearWays_43 hl (k := 1) rfl (iI_add _ _) (by decide) rfl (fun ls hl => ?_)
    refine lv_goto (tgt := 3) hx hb dX2_clearWays_46 (by decide) ?_
    have e_9 : (uz (fil fD (((pl * 4) + la) * 5) j dm) ((((pl * 4) + la) * 5) + j) dm) = (fil fD (((pl * 4) + la) * 5) (j + 1) dm) := (by rw [← fil_s _ (by omega)])
    have e_10 : (uz (fil fL (((pl * 4) + la) * 5) j 0) ((((pl * 4) + la) * 5) + j) 0) = (fil fL (((pl * 4) + la) * 5) (j + 1) 0) := (by rw [← fil_s _ (by omega)])
    have e_11 : (uz (fil fE (((pl * 4) + la) * 5) j (-1)) ((((pl * 4) + la) * 5) + j) (-1)) = (fil fE (((pl * 4) + la) * 5) (j + 1) (-1)) := (by rw [← fil_s _ (by omega)])
    have hl : lv_has ls 6 [(4, .int (iI (j + 1))), (0, .ref ln), (1, .int (iI pl)), (2, .int (iI la)), (3, .int (iI dm))] := by first | exact lv_sub hl [0, 2, 3, 4, 5] rfl | (try rw [← e_9]; try rw [← e_10]; try rw [← e_11]; exact lv_sub hl [0, 2, 3, 4, 5] rfl)
    have B := bd_sub (ws' := [(ln, .inr (2, [.int (iI n), .ref wa, .ref ga, .ref wt, .ref wo, .int (iI wd), .int (iI nw), .int (iI dp), .int (iI sd), .int (iI cl), .ref bD, .ref bL, .ref bE])), (bD, .inl (k 2, 980, .inr (.inl (fun i9 : Nat => lI ((uz (fil fD (((pl * 4) + la) * 5) j dm) ((((pl * 4) + la) * 5) + j) dm) i9))))), (bL, .inl (k 0, 980, .inl (fun i9 : Nat => iI ((uz (fil fL (((pl * 4) + la) * 5) j 0) ((((pl * 4) + la) * 5) + j) 0) i9)))), (bE, .inl (k 0, 980, .inl (fun i9 : Nat => iI ((uz (fil fE (((pl * 4) + la) * 5) j (-1)) ((((pl * 4) + la) * 5) + j) (-1)) i9))))]) [0, 1, 2, 3] (by decide) rfl B
    have B := bd_to (ws' := [(ln, .inr (2, [.int (iI n), .ref wa, .ref ga, .ref wt, .ref wo, .int (iI wd), .int (iI nw), .int (iI dp), .int (iI sd), .int (iI cl), .ref bD, .ref bL, .ref bE])), (bD, .inl (k 2, 980, .inr (.inl (fun i9 : Nat => lI ((fil fD (((pl * 4) + la) * 5) (j + 1) dm) i9))))), (bL, .inl (k 0, 980, .inl (fun i9 : Nat => iI ((fil fL (((pl * 4) + la) * 5) (j + 1) 0) i9)))), (bE, .inl (k 0, 980, .inl (fun i9 : Nat => iI ((fil fE (((pl * 4) + la) * 5) (j + 1) (-1)) i9))))]) (by first | rfl | (try rw [e_9]; try rw [e_10]; try rw [e_11]; done) | (try rw [e_9]; try rw [e_10]; try rw [e_11]; rfl)) B
    exact ih_4 (j + 1) (show 0 ≤ (j + 1) ∧ (j + 1) ≤ 5 from (by omega)) (by first | omega | (dsimp only; omega)) _ _ _ (lv_sub hl [0, 1, 2, 3, 4] rfl) (bd_to rfl B)

theorem mw_1417 : (Jvm.Cond.methodLink "Galleyforge$Lines" (123 : Nat) ({ cls := "Galleyforge$Lines", name := "clearWays", desc := "(III)V" } : Jvm.MethodName)) ∈ gt := gt_at 1487 (by decide +kernel) (by decide +kernel)
theorem mw_1419 : (Jvm.Cond.instanceMethod ({ cls := "Galleyforge$Lines", name := "clearWays", desc := "(III)V" } : Jvm.MethodName)) ∈ gt := gt_at 1489 (by decide +kernel) (by decide +kernel)
theorem mw_1420 : (Jvm.Cond.code ({ cls := "Galleyforge$Lines", name := "clearWays", desc := "(III)V" } : Jvm.MethodName) prog_4_method_14_code (6 : Nat) (Option.none : Option Jvm.ClassFile.FieldType)) ∈ gt := gt_at 1490 (by decide +kernel) (by decide +kernel)
theorem ms_24 : Cond.selects "Galleyforge$Lines" (⟨"Galleyforge$Lines", "clearWays", "(III)V"⟩ : MethodName) (⟨"Galleyforge$Lines", "clearWays", "(III)V"⟩ : MethodName) ∈ gt := gt_at 24 (by decide +kernel) (by decide +kernel)
theorem mV_X2_clearWays : mV yX2_clearWays cX2_clearWays 6 none 3 := ⟨⟨mw_1420, mw_6, by decide, by decide, by decide +kernel⟩, mw_1419, ms_24⟩
theorem dX2_clearWaysFrom_0 : decode cX2_clearWaysFrom 0 = .ok (.iconst 0, 1) := by decide +kernel
theorem dX2_clearWaysFrom_1 : decode cX2_clearWaysFrom 1 = .ok (.istore_n 3, 1) := by decide +kernel
theorem dX2_clearWaysFrom_2 : decode cX2_clearWaysFrom 2 = .ok (.iload_n 3, 1) := by decide +kernel
theorem dX2_clearWaysFrom_3 : decode cX2_clearWaysFrom 3 = .ok (.aload_n 0, 1) := by decide +kernel
theorem dX2_clearWaysFrom_4 : decode cX2_clearWaysFrom 4 = .ok (.getfield 79, 3) := by decide +kernel
theorem dX2_clearWaysFrom_7 : decode cX2_clearWaysFrom 7 = .ok (.if_icmp .gt 16, 3) := by decide +kernel
theorem dX2_clearWaysFrom_10 : decode cX2_clearWaysFrom 10 = .ok (.aload_n 0, 1) := by decide +kernel
theorem dX2_clearWaysFrom_11 : decode cX2_clearWaysFrom 11 = .ok (.iload_n 1, 1) := by decide +kernel
theorem dX2_clearWaysFrom_12 : decode cX2_clearWaysFrom 12 = .ok (.iload_n 3, 1) := by decide +kernel
theorem dX2_clearWaysFrom_13 : decode cX2_clearWaysFrom 13 = .ok (.iload_n 2, 1) := by decide +kernel
theorem dX2_clearWaysFrom_14 : decode cX2_clearWaysFrom 14 = .ok (.invokevirtual 123, 3) := by decide +kernel
theorem dX2_clearWaysFrom_17 : decode cX2_clearWaysFrom 17 = .ok (.iinc 3 1, 3) := by decide +kernel
theorem dX2_clearWaysFrom_20 : decode cX2_clearWaysFrom 20 = .ok (.goto (-18), 3) := by decide +kernel
theorem dX2_clearWaysFrom_23 : decode cX2_clearWaysFrom 23 = .ok (.return_, 1) := by decide +kernel
set_option maxHeartbeats 4000000 in
set_option maxRecDepth 100000 in
theorem k_clearF (l : Launch) (dC : Nat → ClassId) (dI : Nat → Nat → Nat) (k : Nat → ClassId) (ln : Nat) (wa : Nat) (ga : Nat) (wt : Nat) (wo : Nat) (bD : Nat) (bL : Nat) (bE : Nat) (n : Int) (wd : Int) (nw : Int) (dp : Int) (sd : Int) (cl : Int) (fD : Int → Int) (fL : Int → Int) (fE : Int → Int) (pl : Int) (dm : Int) (hD : Bd (-1) 1099511627776 fD) (hL : Bd 0 1000 fL) (hE : Bd (-1) 48 fE) (h1 : 0 ≤ pl ∧ pl ≤ 48) (h2 : -1 ≤ dm ∧ dm ≤ 1000) (h3 : 0 ≤ dp ∧ dp ≤ 3) : Kn l dC dI k yX2_clearWaysFrom (.code yX2_clearWaysFrom cX2_clearWaysFrom 4 none) ({ frames := 2, cells := 0, slots := 0, locals := 47 } : Room) [.ref ln, .int (iI pl), .int (iI dm)] [(ln, .inr (2, [.int (iI n), .ref wa, .ref ga, .ref wt, .ref wo, .int (iI wd), .int (iI nw), .int (iI dp), .int (iI sd), .int (iI cl), .ref bD, .ref bL, .ref bE])), (bD, .inl (k 2, 980, .inr (.inl (fun i9 : Nat => lI (fD i9))))), (bL, .inl (k 0, 980, .inl (fun i9 : Nat => iI (fL i9)))), (bE, .inl (k 0, 980, .inl (fun i9 : Nat => iI (fE i9))))] (fun r w gc gs => ((Bd (-1) 1099511627776 (fil fD (pl * 20) (5 * (dp + 1)) dm)) ∧ (Bd 0 1000 (fil fL (pl * 20) (5 * (dp + 1)) 0)) ∧ (Bd (-1) 48 (fil fE (pl * 20) (5 * (dp + 1)) (-1))) ∧ r = none ∧ w = [(ln, .inr (2, [.int (iI n), .ref wa, .ref ga, .ref wt, .ref wo, .int (iI wd), .int (iI nw), .int (iI dp), .int (iI sd), .int (iI cl), .ref bD, .ref bL, .ref bE])), (bD, .inl (k 2, 980, .inr (.inl (fun i9 : Nat => lI ((fil fD (pl * 20) (5 * (dp + 1)) dm) i9))))), (bL, .inl (k 0, 980, .inl (fun i9 : Nat => iI ((fil fL (pl * 20) (5 * (dp + 1)) 0) i9)))), (bE, .inl (k 0, 980, .inl (fun i9 : Nat => iI ((fil fE (pl * 20) (5 * (dp + 1)) (-1)) i9))))] ∧ gc = 0 ∧ gs = 0)) := by
  refine kn_of (by decide) (Nat.le_of_ble_eq_true rfl) ?_
  intro p e s m args below meth c H locs B hr hnm ls hl
  have hx := B.1.1
  have hb := B.1.2.1
  have hl : lv_has ls 4 [(0, .ref ln), (1, .int (iI pl)), (2, .int (iI dm))] := hl
  refine lv_iconst (v := iI 0) hx hb dX2_clearWaysFrom_0 (by decide) ?_
  refine lv_istore_n (lv' := [(3, .int (iI 0)), (0, .ref ln), (1, .int (iI pl)), (2, .int (iI dm))]) hx hb dX2_clearWaysFrom_1 rfl hl (by decide) rfl (fun ls hl => ?_)
  have e_1 : fD = (fil fD (pl * 20) (5 * 0) dm) := (fil_0 _ _ _)
  have e_2 : fL = (fil fL (pl * 20) (5 * 0) 0) := (fil_0 _ _ _)
  have e_3 : fE = (fil fE (pl * 20) (5 * 0) (-1)) := (fil_0 _ _ _)
  have hl : lv_has ls 4 [(3, .int (iI 0)), (0, .ref ln), (1, .int (iI pl)), (2, .int (iI dm))] := by first | exact lv_sub hl [0, 1, 2, 3] rfl | (try rw [← e_1]; try rw [← e_2]; try rw [← e_3]; exact lv_sub hl [0, 1, 2, 3] rfl)
  have B := bd_to (ws' := [(ln, .inr (2, [.int (iI n), .ref wa, .ref ga, .ref wt, .ref wo, .int (iI wd), .int (iI nw), .int (iI dp), .int (iI sd), .int (iI cl), .ref bD, .ref bL, .ref bE])), (bD, .inl (k 2, 980, .inr (.inl (fun i9 : Nat => lI ((fil fD (pl * 20) (5 * 0) dm) i9))))), (bL, .inl (k 0, 980, .inl (fun i9 : Nat => iI ((fil fL (pl * 20) (5 * 0) 0) i9)))), (bE, .inl (k 0, 980, .inl (fun i9 : Nat => iI ((fil fE (pl * 20) (5 * 0) (-1)) i9))))]) (by first | rfl | (try rw [← e_1]; try rw [← e_2]; try rw [← e_3]; done) | (try rw [← e_1]; try rw [← e_2]; try rw [← e_3]; rfl)) B
  refine k_loop (σ := Int) B (fun g9 : Int => (0 ≤ g9 ∧ g9 ≤ dp + 1)) (fun g9 : Int => (dp + 1 - g9).toNat) (fun g9 : Int => [(3, .int (iI g9)), (0, .ref ln), (1, .int (iI pl)), (2, .int (iI dm))]) (fun g9 : Int => [(ln, .inr (2, [.int (iI n), .ref wa, .ref ga, .ref wt, .ref wo, .int (iI wd), .int (iI nw), .int (iI dp), .int (iI sd), .int (iI cl), .ref bD, .ref bL, .ref bE])), (bD, .inl (k 2, 980, .inr (.inl (fun i9 : Nat => lI ((fil fD (pl * 20) (5 * g9) dm) i9))))), (bL, .inl (k 0, 980, .inl (fun i9 : Nat => iI ((fil fL (pl * 20) (5 * g9) 0) i9)))), (bE, .inl (k 0, 980, .inl (fun i9 : Nat => iI ((fil fE (pl * 20) (5 * g9) (-1)) i9))))]) ?_ 0 (show 0 ≤ 0 ∧ 0 ≤ dp + 1 from (by omega)) ls H locs (lv_sub hl [0, 1, 2, 3] rfl) (bd_to rfl B)
  clear hl B
  rintro j hj ih_4 ls H locs hl B
  have hl : lv_has ls 4 [(3, .int (iI j)), (0, .ref ln), (1, .int (iI pl)), (2, .int (iI dm))] := hl
  have B := bd_to (ws' := [(ln, .inr (2, [.int (iI n), .ref wa, .ref ga, .ref wt, .ref wo, .int (iI wd), .int (iI nw), .int (iI dp), .int (iI sd), .int (iI cl), .ref bD, .ref bL, .ref bE])), (bD, .inl (k 2, 980, .inr (.inl (fun i9 : Nat => lI ((fil fD (pl * 20) (5 * j) dm) i9))))), (bL, .inl (k 0, 980, .inl (fun i9 : Nat => iI ((fil fL (pl * 20) (5 * j) 0) i9)))), (bE, .inl (k 0, 980, .inl (fun i9 : Nat => iI ((fil fE (pl * 20) (5 * j) (-1)) i9))))]) rfl B
  refine lv_iload_n hx hb dX2_clearWaysFrom_2 rfl (lv_at hl 0 rfl) ?_
  refine lv_aload_n hx hb dX2_clearWaysFrom_3 rfl (lv_at hl 1 rfl) ?_
  refine x_get (ci := 2) (C := RX2) (T := TX2) (N := 13) (v := .int (iI dp)) B 0 rfl rfl in_X2 7 (by decide) mw_136 (fun _ h9 => h9) rfl dX2_clearWaysFrom_4 ?_
  refine lv_icmp_gt (tgt := 23) hx hb dX2_clearWaysFrom_7 (by decide) (fun c_5 => ?_) (fun c_5 => ?_)
  · have zc_5 : dp < j := jlt (a := dp) (b := j) (by omega) (by omega) c_5
    have e_6 : (fil fD (pl * 20) (5 * (dp + 1)) dm) = (fil fD (pl * 20) (5 * j) dm) := (by rw [show j = dp + 1 by omega])
    have e_7 : (fil fL (pl * 20) (5 * (dp + 1)) 0) = (fil fL (pl * 20) (5 * j) 0) := (by rw [show j = dp + 1 by omega])
    have e_8 : (fil fE (pl * 20) (5 * (dp + 1)) (-1)) = (fil fE (pl * 20) (5 * j) (-1)) := (by rw [show j = dp + 1 by omega])
    have B := bd_to (ws' := [(ln, .inr (2, [.int (iI n), .ref wa, .ref ga, .ref wt, .ref wo, .int (iI wd), .int (iI nw), .int (iI dp), .int (iI sd), .int (iI cl), .ref bD, .ref bL, .ref bE])), (bD, .inl (k 2, 980, .inr (.inl (fun i9 : Nat => lI ((fil fD (pl * 20) (5 * (dp + 1)) dm) i9))))), (bL, .inl (k 0, 980, .inl (fun i9 : Nat => iI ((fil fL (pl * 20) (5 * (dp + 1)) 0) i9)))), (bE, .inl (k 0, 980, .inl (fun i9 : Nat => iI ((fil fE (pl * 20) (5 * (dp + 1)) (-1)) i9))))]) (by first | rfl | (rw [e_6, e_7, e_8]) | (rw [e_8, e_7, e_6])) B
    exact k_vret B hr (⟨(fil_Bd hD (by omega)), (fil_Bd hL (by omega)), (fil_Bd hE (by omega)), rfl, rfl, rfl, rfl⟩) ⟨Nat.le_of_ble_eq_true rfl, Nat.le_of_ble_eq_true rfl⟩ ⟨Nat.le_of_ble_eq_true rfl, Nat.le_of_ble_eq_true rfl⟩ dX2_clearWaysFrom_23
  · have zc_5 : j ≤ dp := jnlt (a := dp) (b := j) (by omega) (by omega) c_5
    refine lv_aload_n hx hb dX2_clearWaysFrom_10 rfl (lv_at hl 1 rfl) ?_
    refine lv_iload_n hx hb dX2_clearWaysFrom_11 rfl (lv_at hl 2 rfl) ?_
    refine lv_iload_n hx hb dX2_clearWaysFrom_12 rfl (lv_at hl 0 rfl) ?_
    refine lv_iload_n hx hb dX2_clearWaysFrom_13 rfl (lv_at hl 3 rfl) ?_
    have B := bd_to (ws' := [(ln, .inr (2, [.int (iI n), .ref wa, .ref ga, .ref wt, .ref wo, .int (iI wd), .int (iI nw), .int (iI dp), .int (iI sd), .int (iI cl), .ref bD, .ref bL, .ref bE])), (bD, .inl (k 2, 980, .inr (.inl (fun i9 : Nat => lI ((fil fD (pl * 20) (5 * j) dm) i9))))), (bL, .inl (k 0, 980, .inl (fun i9 : Nat => iI ((fil fL (pl * 20) (5 * j) 0) i9)))), (bE, .inl (k 0, 980, .inl (fun i9 : Nat => iI ((fil fE (pl * 20) (5 * j) (-1)) i9))))] ++ []) rfl B
    refine k_V (rest := []) (wc := [(ln, .inr (2, [.int (iI n), .ref wa, .ref ga, .ref wt, .ref wo, .int (iI wd), .int (iI nw), .int (iI dp), .int (iI sd), .int (iI cl), .ref bD, .ref bL, .ref bE])), (bD, .inl (k 2, 980, .inr (.inl (fun i9 : Nat => lI ((fil fD (pl * 20) (5 * j) dm) i9))))), (bL, .inl (k 0, 980, .inl (fun i9 : Nat => iI ((fil fL (pl * 20) (5 * j) 0) i9)))), (bE, .inl (k 0, 980, .inl (fun i9 : Nat => iI ((fil fE (pl * 20) (5 * j) (-1)) i9))))]) (wr := []) (k_clear l dC dI k ln wa ga wt wo bD bL bE n wd nw dp sd cl (fil fD (pl * 20) (5 * j) dm) (fil fL (pl * 20) (5 * j) 0) (fil fE (pl * 20) (5 * j) (-1)) pl j dm (fil_Bd hD (by omega)) (fil_Bd hL (by omega)) (fil_Bd hE (by omega)) (by omega) h2) B mV_X2_clearWays mw_1417 hl (q0 := 0) rfl rfl rfl ⟨Nat.le_of_ble_eq_true rfl, Nat.le_of_ble_eq_true rfl⟩ (Nat.le_of_ble_eq_true rfl) rfl dX2_clearWaysFrom_14 ⟨Nat.le_of_ble_eq_true rfl, Nat.le_of_ble_eq_true rfl⟩ (fun r w gc gs H locs hp B => ?_)
    obtain ⟨z_9, z_10, z_11, rfl, hw9, rfl, rfl⟩ := hp
    rw [hw9] at B; clear hw9
    have B := bd_to (ws' := [(ln, .inr (2, [.int (iI n), .ref wa, .ref ga, .ref wt, .ref wo, .int (iI wd), .int (iI nw), .int (iI dp), .int (iI sd), .int (iI cl), .ref bD, .ref bL, .ref bE])), (bD, .inl (k 2, 980, .inr (.inl (fun i9 : Nat => lI ((fil (fil fD (pl * 20) (5 * j) dm) (((pl * 4) + j) * 5) 5 dm) i9))))), (bL, .inl (k 0, 980, .inl (fun i9 : Nat => iI ((fil (fil fL (pl * 20) (5 * j) 0) (((pl * 4) + j) * 5) 5 0) i9)))), (bE, .inl (k 0, 980, .inl (fun i9 : Nat => iI ((fil (fil fE (pl * 20) (5 * j) (-1)) (((pl * 4) + j) * 5) 5 (-1)) i9))))]) rfl B
    refine lv_iinc (v := iI (j + 1)) (lv' := [(3, .int (iI (j + 1))), (0, .ref ln), (1, .int (iI pl)), (2, .int (iI dm))]) hx hb dX2_clearWaysFrom_17 hl (k := 0) rfl (iI_add _ _) (by decide) rfl (fun ls hl => ?_)
    refine lv_goto (tgt := 2) hx hb dX2_clearWaysFrom_20 (by decide) ?_
    have e_12 : (fil (fil fD (pl * 20) (5 * j) dm) (((pl * 4) + j) * 5) 5 dm) = (fil fD (pl * 20) (5 * (j + 1)) dm) := (by rw [fil_j _ (by omega) (by omega) (by omega)]; congr 1; omega)
    have e_13 : (fil (fil fL (pl * 20) (5 * j) 0) (((pl * 4) + j) * 5) 5 0) = (fil fL (pl * 20) (5 * (j + 1)) 0) := (by rw [fil_j _ (by omega) (by omega) (by omega)]; congr 1; omega)
    have e_14 : (fil (fil fE (pl * 20) (5 * j) (-1)) (((pl * 4) + j) * 5) 5 (-1)) = (fil fE (pl * 20) (5 * (j + 1)) (-1)) := (by rw [fil_j _ (by omega) (by omega) (by omega)]; congr 1; omega)
    have hl : lv_has ls 4 [(3, .int (iI (j + 1))), (0, .ref ln), (1, .int (iI pl)), (2, .int (iI dm))] := by first | exact lv_sub hl [0, 1, 2, 3] rfl | (try rw [← e_12]; try rw [← e_13]; try rw [← e_14]; exact lv_sub hl [0, 1, 2, 3] rfl)
    have B := bd_sub (ws' := [(ln, .inr (2, [.int (iI n), .ref wa, .ref ga, .ref wt, .ref wo, .int (iI wd), .int (iI nw), .int (iI dp), .int (iI sd), .int (iI cl), .ref bD, .ref bL, .ref bE])), (bD, .inl (k 2, 980, .inr (.inl (fun i9 : Nat => lI ((fil (fil fD (pl * 20) (5 * j) dm) (((pl * 4) + j) * 5) 5 dm) i9))))), (bL, .inl (k 0, 980, .inl (fun i9 : Nat => iI ((fil (fil fL (pl * 20) (5 * j) 0) (((pl * 4) + j) * 5) 5 0) i9)))), (bE, .inl (k 0, 980, .inl (fun i9 : Nat => iI ((fil (fil fE (pl * 20) (5 * j) (-1)) (((pl * 4) + j) * 5) 5 (-1)) i9))))]) [0, 1, 2, 3] (by decide) rfl B
    have B := bd_to (ws' := [(ln, .inr (2, [.int (iI n), .ref wa, .ref ga, .ref wt, .ref wo, .int (iI wd), .int (iI nw), .int (iI dp), .int (iI sd), .int (iI cl), .ref bD, .ref bL, .ref bE])), (bD, .inl (k 2, 980, .inr (.inl (fun i9 : Nat => lI ((fil fD (pl * 20) (5 * (j + 1)) dm) i9))))), (bL, .inl (k 0, 980, .inl (fun i9 : Nat => iI ((fil fL (pl * 20) (5 * (j + 1)) 0) i9)))), (bE, .inl (k 0, 980, .inl (fun i9 : Nat => iI ((fil fE (pl * 20) (5 * (j + 1)) (-1)) i9))))]) (by first | rfl | (try rw [e_12]; try rw [e_13]; try rw [e_14]; done) | (try rw [e_12]; try rw [e_13]; try rw [e_14]; rfl)) B
    exact ih_4 (j + 1) (show 0 ≤ (j + 1) ∧ (j + 1) ≤ dp + 1 from (by omega)) (by first | omega | (dsimp only; omega)) _ _ _ (lv_sub hl [0, 1, 2, 3] rfl) (bd_to rfl B)

/-- an entry of the ways, with one more way: its demerits, lines, end -/
def btr (d lc s ct : Int) : Prop := d = -1 ∨ s < d ∨ (s = d ∧ ct < lc)
def tlD (d lc s ct : Int) : Int := if (d = -1 ∨ s < d ∨ (s = d ∧ ct < lc)) then s else d
def tlL (d lc s ct : Int) : Int := if (d = -1 ∨ s < d ∨ (s = d ∧ ct < lc)) then ct else lc
def tlE (d lc e s ct to : Int) : Int := if (d = -1 ∨ s < d ∨ (s = d ∧ ct < lc)) then to else e
/-- outside a run of n places from b on nothing has changed; in it, place b + a holds g a -/
def Ro (D f : Int → Int) (b n : Int) : Prop := ∀ i, ¬ (b ≤ i ∧ i < b + n) → D i = f i
def Ri (D : Int → Int) (b n : Int) (g : Int → Int) : Prop := ∀ a, 0 ≤ a → a < n → D (b + a) = g a
theorem Ro_0 (f : Int → Int) (b : Int) : Ro f f b 0 := fun _ _ => rfl
theorem Ri_0 (f : Int → Int) (b : Int) (g : Int → Int) : Ri f b 0 g := fun a h1 h2 => by omega
theorem Ro_s {D f : Int → Int} {b n w v : Int} (h : Ro D f b n) (hn : 0 ≤ n) (hw : w = b + n) : Ro (uz D w v) f b (n + 1) := fun i hi => by
  rw [uz_n (by omega)]; exact h i (by omega)
theorem Ro_k {D f : Int → Int} {b n : Int} (h : Ro D f b n) : Ro D f b (n + 1) := fun i hi => h i (by omega)
theorem Ri_s {D : Int → Int} {b n w v : Int} {g : Int → Int} (h : Ri D b n g) (hw : w = b + n) (hv : v = g n) : Ri (uz D w v) b (n + 1) g := fun a h1 h2 => by
  by_cases e : a = n
  · subst e; rw [← hw, uz_s]; exact hv
  · rw [uz_n (by omega)]; exact h a h1 (by omega)
theorem Ri_k {D : Int → Int} {b n : Int} {g : Int → Int} (h : Ri D b n g) (hv : D (b + n) = g n) : Ri D b (n + 1) g := fun a h1 h2 => by
  by_cases e : a = n
  · subst e; exact hv
  · exact h a h1 (by omega)

theorem mw_1441 : (Jvm.Cond.methodLink "Galleyforge$Lines" (145 : Nat) ({ cls := "Galleyforge$Lines", name := "ownDemerits", desc := "(I)J" } : Jvm.MethodName)) ∈ gt := gt_at 1511 (by decide +kernel) (by decide +kernel)
theorem mw_1443 : (Jvm.Cond.instanceMethod ({ cls := "Galleyforge$Lines", name := "ownDemerits", desc := "(I)J" } : Jvm.MethodName)) ∈ gt := gt_at 1513 (by decide +kernel) (by decide +kernel)
theorem mw_1444 : (Jvm.Cond.code ({ cls := "Galleyforge$Lines", name := "ownDemerits", desc := "(I)J" } : Jvm.MethodName) prog_4_method_8_code (4 : Nat) (Option.some Jvm.ClassFile.FieldType.long)) ∈ gt := gt_at 1514 (by decide +kernel) (by decide +kernel)
theorem mw_1445 : (Jvm.Cond.methodLink "Galleyforge$Lines" (149 : Nat) ({ cls := "Galleyforge$Lines", name := "demeritsForAhead", desc := "(III)I" } : Jvm.MethodName)) ∈ gt := gt_at 1515 (by decide +kernel) (by decide +kernel)
theorem mw_1447 : (Jvm.Cond.instanceMethod ({ cls := "Galleyforge$Lines", name := "demeritsForAhead", desc := "(III)I" } : Jvm.MethodName)) ∈ gt := gt_at 1517 (by decide +kernel) (by decide +kernel)
theorem mw_1448 : (Jvm.Cond.code ({ cls := "Galleyforge$Lines", name := "demeritsForAhead", desc := "(III)I" } : Jvm.MethodName) prog_4_method_9_code (5 : Nat) (Option.some Jvm.ClassFile.FieldType.int)) ∈ gt := gt_at 1518 (by decide +kernel) (by decide +kernel)
theorem mw_1449 : (Jvm.Cond.constantLong "Galleyforge$Lines" (152 : Nat) (-1 : Int64)) ∈ gt := gt_at 1519 (by decide +kernel) (by decide +kernel)
theorem ms_30 : Cond.selects "Galleyforge$Lines" (⟨"Galleyforge$Lines", "demeritsForAhead", "(III)I"⟩ : MethodName) (⟨"Galleyforge$Lines", "demeritsForAhead", "(III)I"⟩ : MethodName) ∈ gt := gt_at 30 (by decide +kernel) (by decide +kernel)
theorem mV_X2_demeritsForAhead : mV yX2_demeritsForAhead cX2_demeritsForAhead 5 (some .int) 3 := ⟨⟨mw_1448, mw_6, by decide, by decide, by decide +kernel⟩, mw_1447, ms_30⟩
theorem ms_29 : Cond.selects "Galleyforge$Lines" (⟨"Galleyforge$Lines", "ownDemerits", "(I)J"⟩ : MethodName) (⟨"Galleyforge$Lines", "ownDemerits", "(I)J"⟩ : MethodName) ∈ gt := gt_at 29 (by decide +kernel) (by decide +kernel)
theorem mV_X2_ownDemerits : mV yX2_ownDemerits cX2_ownDemerits 4 (some .long) 1 := ⟨⟨mw_1444, mw_6, by decide, by decide, by decide +kernel⟩, mw_1443, ms_29⟩
theorem dX2_tryLine_0 : decode cX2_tryLine 0 = .ok (.aload_n 0, 1) := by decide +kernel
theorem dX2_tryLine_1 : decode cX2_tryLine 1 = .ok (.iload_n 2, 1) := by decide +kernel
theorem dX2_tryLine_2 : decode cX2_tryLine 2 = .ok (.invokevirtual 145, 3) := by decide +kernel
theorem dX2_tryLine_5 : decode cX2_tryLine 5 = .ok (.lstore 4, 2) := by decide +kernel
theorem dX2_tryLine_7 : decode cX2_tryLine 7 = .ok (.iload_n 2, 1) := by decide +kernel
theorem dX2_tryLine_8 : decode cX2_tryLine 8 = .ok (.iload_n 3, 1) := by decide +kernel
theorem dX2_tryLine_9 : decode cX2_tryLine 9 = .ok (.iconst 1, 1) := by decide +kernel
theorem dX2_tryLine_10 : decode cX2_tryLine 10 = .ok (.iadd, 1) := by decide +kernel
theorem dX2_tryLine_11 : decode cX2_tryLine 11 = .ok (.aload_n 0, 1) := by decide +kernel
theorem dX2_tryLine_12 : decode cX2_tryLine 12 = .ok (.getfield 79, 3) := by decide +kernel
theorem dX2_tryLine_15 : decode cX2_tryLine 15 = .ok (.invokestatic 116, 3) := by decide +kernel
theorem dX2_tryLine_18 : decode cX2_tryLine 18 = .ok (.aload_n 0, 1) := by decide +kernel
theorem dX2_tryLine_19 : decode cX2_tryLine 19 = .ok (.getfield 113, 3) := by decide +kernel
theorem dX2_tryLine_22 : decode cX2_tryLine 22 = .ok (.invokestatic 141, 3) := by decide +kernel
theorem dX2_tryLine_25 : decode cX2_tryLine 25 = .ok (.istore 6, 2) := by decide +kernel
theorem dX2_tryLine_27 : decode cX2_tryLine 27 = .ok (.iconst 0, 1) := by decide +kernel
theorem dX2_tryLine_28 : decode cX2_tryLine 28 = .ok (.istore 7, 2) := by decide +kernel
theorem dX2_tryLine_30 : decode cX2_tryLine 30 = .ok (.iload 7, 2) := by decide +kernel
theorem dX2_tryLine_32 : decode cX2_tryLine 32 = .ok (.iconst 5, 1) := by decide +kernel
theorem dX2_tryLine_33 : decode cX2_tryLine 33 = .ok (.if_icmp .ge 129, 3) := by decide +kernel
theorem dX2_tryLine_36 : decode cX2_tryLine 36 = .ok (.iload_n 1, 1) := by decide +kernel
theorem dX2_tryLine_37 : decode cX2_tryLine 37 = .ok (.iload_n 3, 1) := by decide +kernel
theorem dX2_tryLine_38 : decode cX2_tryLine 38 = .ok (.iload 7, 2) := by decide +kernel
theorem dX2_tryLine_40 : decode cX2_tryLine 40 = .ok (.invokestatic 141, 3) := by decide +kernel
theorem dX2_tryLine_43 : decode cX2_tryLine 43 = .ok (.istore 8, 2) := by decide +kernel
theorem dX2_tryLine_45 : decode cX2_tryLine 45 = .ok (.lload 4, 2) := by decide +kernel
theorem dX2_tryLine_47 : decode cX2_tryLine 47 = .ok (.aload_n 0, 1) := by decide +kernel
theorem dX2_tryLine_48 : decode cX2_tryLine 48 = .ok (.iload_n 1, 1) := by decide +kernel
theorem dX2_tryLine_49 : decode cX2_tryLine 49 = .ok (.iload_n 2, 1) := by decide +kernel
theorem dX2_tryLine_50 : decode cX2_tryLine 50 = .ok (.iload 7, 2) := by decide +kernel
theorem dX2_tryLine_52 : decode cX2_tryLine 52 = .ok (.invokevirtual 149, 3) := by decide +kernel
theorem dX2_tryLine_55 : decode cX2_tryLine 55 = .ok (.i2l, 1) := by decide +kernel
theorem dX2_tryLine_56 : decode cX2_tryLine 56 = .ok (.ladd, 1) := by decide +kernel
theorem dX2_tryLine_57 : decode cX2_tryLine 57 = .ok (.aload_n 0, 1) := by decide +kernel
theorem dX2_tryLine_58 : decode cX2_tryLine 58 = .ok (.getfield 24, 3) := by decide +kernel
theorem dX2_tryLine_61 : decode cX2_tryLine 61 = .ok (.iload 6, 2) := by decide +kernel
theorem dX2_tryLine_63 : decode cX2_tryLine 63 = .ok (.laload, 1) := by decide +kernel
theorem dX2_tryLine_64 : decode cX2_tryLine 64 = .ok (.ladd, 1) := by decide +kernel
theorem dX2_tryLine_65 : decode cX2_tryLine 65 = .ok (.lstore 9, 2) := by decide +kernel
theorem dX2_tryLine_67 : decode cX2_tryLine 67 = .ok (.aload_n 0, 1) := by decide +kernel
theorem dX2_tryLine_68 : decode cX2_tryLine 68 = .ok (.getfield 28, 3) := by decide +kernel
theorem dX2_tryLine_71 : decode cX2_tryLine 71 = .ok (.iload 6, 2) := by decide +kernel
theorem dX2_tryLine_73 : decode cX2_tryLine 73 = .ok (.iaload, 1) := by decide +kernel
theorem dX2_tryLine_74 : decode cX2_tryLine 74 = .ok (.iconst 1, 1) := by decide +kernel
theorem dX2_tryLine_75 : decode cX2_tryLine 75 = .ok (.iadd, 1) := by decide +kernel
theorem dX2_tryLine_76 : decode cX2_tryLine 76 = .ok (.istore 11, 2) := by decide +kernel
theorem dX2_tryLine_78 : decode cX2_tryLine 78 = .ok (.aload_n 0, 1) := by decide +kernel
theorem dX2_tryLine_79 : decode cX2_tryLine 79 = .ok (.getfield 24, 3) := by decide +kernel
theorem dX2_tryLine_82 : decode cX2_tryLine 82 = .ok (.iload 8, 2) := by decide +kernel
theorem dX2_tryLine_84 : decode cX2_tryLine 84 = .ok (.laload, 1) := by decide +kernel
theorem dX2_tryLine_85 : decode cX2_tryLine 85 = .ok (.ldc2_w 152, 3) := by decide +kernel
theorem dX2_tryLine_88 : decode cX2_tryLine 88 = .ok (.lcmp, 1) := by decide +kernel
theorem dX2_tryLine_89 : decode cX2_tryLine 89 = .ok (.ifCond .eq 41, 3) := by decide +kernel
theorem dX2_tryLine_92 : decode cX2_tryLine 92 = .ok (.lload 9, 2) := by decide +kernel
theorem dX2_tryLine_94 : decode cX2_tryLine 94 = .ok (.aload_n 0, 1) := by decide +kernel
theorem dX2_tryLine_95 : decode cX2_tryLine 95 = .ok (.getfield 24, 3) := by decide +kernel
theorem dX2_tryLine_98 : decode cX2_tryLine 98 = .ok (.iload 8, 2) := by decide +kernel
theorem dX2_tryLine_100 : decode cX2_tryLine 100 = .ok (.laload, 1) := by decide +kernel
theorem dX2_tryLine_101 : decode cX2_tryLine 101 = .ok (.lcmp, 1) := by decide +kernel
theorem dX2_tryLine_102 : decode cX2_tryLine 102 = .ok (.ifCond .lt 28, 3) := by decide +kernel
theorem dX2_tryLine_105 : decode cX2_tryLine 105 = .ok (.lload 9, 2) := by decide +kernel
theorem dX2_tryLine_107 : decode cX2_tryLine 107 = .ok (.aload_n 0, 1) := by decide +kernel
theorem dX2_tryLine_108 : decode cX2_tryLine 108 = .ok (.getfield 24, 3) := by decide +kernel
theorem dX2_tryLine_111 : decode cX2_tryLine 111 = .ok (.iload 8, 2) := by decide +kernel
theorem dX2_tryLine_113 : decode cX2_tryLine 113 = .ok (.laload, 1) := by decide +kernel
theorem dX2_tryLine_114 : decode cX2_tryLine 114 = .ok (.lcmp, 1) := by decide +kernel
theorem dX2_tryLine_115 : decode cX2_tryLine 115 = .ok (.ifCond .ne 41, 3) := by decide +kernel
theorem dX2_tryLine_118 : decode cX2_tryLine 118 = .ok (.iload 11, 2) := by decide +kernel
theorem dX2_tryLine_120 : decode cX2_tryLine 120 = .ok (.aload_n 0, 1) := by decide +kernel
theorem dX2_tryLine_121 : decode cX2_tryLine 121 = .ok (.getfield 28, 3) := by decide +kernel
theorem dX2_tryLine_124 : decode cX2_tryLine 124 = .ok (.iload 8, 2) := by decide +kernel
theorem dX2_tryLine_126 : decode cX2_tryLine 126 = .ok (.iaload, 1) := by decide +kernel
theorem dX2_tryLine_127 : decode cX2_tryLine 127 = .ok (.if_icmp .ge 29, 3) := by decide +kernel
theorem dX2_tryLine_130 : decode cX2_tryLine 130 = .ok (.aload_n 0, 1) := by decide +kernel
theorem dX2_tryLine_131 : decode cX2_tryLine 131 = .ok (.getfield 24, 3) := by decide +kernel
theorem dX2_tryLine_134 : decode cX2_tryLine 134 = .ok (.iload 8, 2) := by decide +kernel
theorem dX2_tryLine_136 : decode cX2_tryLine 136 = .ok (.lload 9, 2) := by decide +kernel
theorem dX2_tryLine_138 : decode cX2_tryLine 138 = .ok (.lastore, 1) := by decide +kernel
theorem dX2_tryLine_139 : decode cX2_tryLine 139 = .ok (.aload_n 0, 1) := by decide +kernel
theorem dX2_tryLine_140 : decode cX2_tryLine 140 = .ok (.getfield 28, 3) := by decide +kernel
theorem dX2_tryLine_143 : decode cX2_tryLine 143 = .ok (.iload 8, 2) := by decide +kernel
theorem dX2_tryLine_145 : decode cX2_tryLine 145 = .ok (.iload 11, 2) := by decide +kernel
theorem dX2_tryLine_147 : decode cX2_tryLine 147 = .ok (.iastore, 1) := by decide +kernel
theorem dX2_tryLine_148 : decode cX2_tryLine 148 = .ok (.aload_n 0, 1) := by decide +kernel
theorem dX2_tryLine_149 : decode cX2_tryLine 149 = .ok (.getfield 31, 3) := by decide +kernel
theorem dX2_tryLine_152 : decode cX2_tryLine 152 = .ok (.iload 8, 2) := by decide +kernel
theorem dX2_tryLine_154 : decode cX2_tryLine 154 = .ok (.iload_n 2, 1) := by decide +kernel
theorem dX2_tryLine_155 : decode cX2_tryLine 155 = .ok (.iastore, 1) := by decide +kernel
theorem dX2_tryLine_156 : decode cX2_tryLine 156 = .ok (.iinc 7 1, 3) := by decide +kernel
theorem dX2_tryLine_159 : decode cX2_tryLine 159 = .ok (.goto (-129), 3) := by decide +kernel
theorem dX2_tryLine_162 : decode cX2_tryLine 162 = .ok (.return_, 1) := by decide +kernel
set_option maxHeartbeats 4000000 in
set_option maxRecDepth 100000 in
theorem k_tryLine (l : Launch) (dC : Nat → ClassId) (dI : Nat → Nat → Nat) (k : Nat → ClassId) (ln : Nat) (wa : Nat) (ga : Nat) (wt : Nat) (wo : Nat) (bD : Nat) (bL : Nat) (bE : Nat) (n : Int) (wd : Int) (nw : Int) (dp : Int) (sd : Int) (cl : Int) (fg : Int → Int) (fD : Int → Int) (fL : Int → Int) (fE : Int → Int) (fr : Int) (to : Int) (la : Int) (hg : Bd 0 5 fg) (hD : Bd (-1) 1099511627776 fD) (hL : Bd 0 1000 fL) (hE : Bd (-1) 48 fE) (h1 : 0 ≤ fr ∧ fr < to ∧ to ≤ n ∧ n ≤ 48) (h2 : 0 ≤ la ∧ la ≤ dp ∧ dp ≤ 3) (h3 : 0 ≤ cl ∧ cl ≤ 3) (h4 : 0 ≤ sd ∧ sd ≤ 400) (h5 : 0 ≤ fD ((((to * 4) + (min (la + 1) dp)) * 5) + cl) ∧ fD ((((to * 4) + (min (la + 1) dp)) * 5) + cl) ≤ 549755813888) (h6 : 0 ≤ fL ((((to * 4) + (min (la + 1) dp)) * 5) + cl) ∧ fL ((((to * 4) + (min (la + 1) dp)) * 5) + cl) ≤ 500) : Kn l dC dI k yX2_tryLine (.code yX2_tryLine cX2_tryLine 12 none) ({ frames := 1, cells := 0, slots := 0, locals := 24 } : Room) [.ref ln, .int (iI fr), .int (iI to), .int (iI la)] [(ln, .inr (2, [.int (iI n), .ref wa, .ref ga, .ref wt, .ref wo, .int (iI wd), .int (iI nw), .int (iI dp), .int (iI sd), .int (iI cl), .ref bD, .ref bL, .ref bE])), (ga, .inl (k 0, 49, .inl (fun i9 : Nat => iI (fg i9)))), (bD, .inl (k 2, 980, .inr (.inl (fun i9 : Nat => lI (fD i9))))), (bL, .inl (k 0, 980, .inl (fun i9 : Nat => iI (fL i9)))), (bE, .inl (k 0, 980, .inl (fun i9 : Nat => iI (fE i9))))] (fun r w gc gs => (∃ (dD : Int → Int) (dL : Int → Int) (dE : Int → Int), (Ro dD fD (((fr * 4) + la) * 5) 5) ∧ (Ro dL fL (((fr * 4) + la) * 5) 5) ∧ (Ro dE fE (((fr * 4) + la) * 5) 5) ∧ (Ri dD (((fr * 4) + la) * 5) 5 (fun a => tlD (fD ((((fr * 4) + la) * 5) + a)) (fL ((((fr * 4) + la) * 5) + a)) ((ownZ sd (fg to) + pnZ cl a (fg fr) (fg to)) + fD ((((to * 4) + (min (la + 1) dp)) * 5) + cl)) (fL ((((to * 4) + (min (la + 1) dp)) * 5) + cl) + 1))) ∧ (Ri dL (((fr * 4) + la) * 5) 5 (fun a => tlL (fD ((((fr * 4) + la) * 5) + a)) (fL ((((fr * 4) + la) * 5) + a)) ((ownZ sd (fg to) + pnZ cl a (fg fr) (fg to)) + fD ((((to * 4) + (min (la + 1) dp)) * 5) + cl)) (fL ((((to * 4) + (min (la + 1) dp)) * 5) + cl) + 1))) ∧ (Ri dE (((fr * 4) + la) * 5) 5 (fun a => tlE (fD ((((fr * 4) + la) * 5) + a)) (fL ((((fr * 4) + la) * 5) + a)) (fE ((((fr * 4) + la) * 5) + a)) ((ownZ sd (fg to) + pnZ cl a (fg fr) (fg to)) + fD ((((to * 4) + (min (la + 1) dp)) * 5) + cl)) (fL ((((to * 4) + (min (la + 1) dp)) * 5) + cl) + 1) to)) ∧ (Bd (-1) 1099511627776 dD) ∧ (Bd 0 1000 dL) ∧ (Bd (-1) 48 dE) ∧ r = none ∧ w = [(ln, .inr (2, [.int (iI n), .ref wa, .ref ga, .ref wt, .ref wo, .int (iI wd), .int (iI nw), .int (iI dp), .int (iI sd), .int (iI cl), .ref bD, .ref bL, .ref bE])), (ga, .inl (k 0, 49, .inl (fun i9 : Nat => iI (fg i9)))), (bD, .inl (k 2, 980, .inr (.inl (fun i9 : Nat => lI (dD i9))))), (bL, .inl (k 0, 980, .inl (fun i9 : Nat => iI (dL i9)))), (bE, .inl (k 0, 980, .inl (fun i9 : Nat => iI (dE i9))))] ∧ gc = 0 ∧ gs = 0)) := by
  refine kn_of (by decide) (Nat.le_of_ble_eq_true rfl) ?_
  intro p e s m args below meth c H locs B hr hnm ls hl
  have hx := B.1.1
  have hb := B.1.2.1
  have hl : lv_has ls 12 [(0, .ref ln), (1, .int (iI fr)), (2, .int (iI to)), (3, .int (iI la))] := hl
  have ho := ownZ_in (g := fg to) h4
  have hbh : (((fr * 4) + la) * 5) + 5 ≤ ((((to * 4) + (min (la + 1) dp)) * 5) + cl) ∧ ((((to * 4) + (min (la + 1) dp)) * 5) + cl) < 980 ∧ 0 ≤ (((fr * 4) + la) * 5) := by omega
  refine lv_aload_n hx hb dX2_tryLine_0 rfl (lv_at hl 0 rfl) ?_
  refine lv_iload_n hx hb dX2_tryLine_1 rfl (lv_at hl 2 rfl) ?_
  have B := bd_to (ws' := [(ln, .inr (2, [.int (iI n), .ref wa, .ref ga, .ref wt, .ref wo, .int (iI wd), .int (iI nw), .int (iI dp), .int (iI sd), .int (iI cl), .ref bD, .ref bL, .ref bE])), (ga, .inl (k 0, 49, .inl (fun i9 : Nat => iI (fg i9))))] ++ [(bD, .inl (k 2, 980, .inr (.inl (fun i9 : Nat => lI (fD i9))))), (bL, .inl (k 0, 980, .inl (fun i9 : Nat => iI (fL i9)))), (bE, .inl (k 0, 980, .inl (fun i9 : Nat => iI (fE i9))))]) rfl B
  refine k_V (rest := []) (wc := [(ln, .inr (2, [.int (iI n), .ref wa, .ref ga, .ref wt, .ref wo, .int (iI wd), .int (iI nw), .int (iI dp), .int (iI sd), .int (iI cl), .ref bD, .ref bL, .ref bE])), (ga, .inl (k 0, 49, .inl (fun i9 : Nat => iI (fg i9))))]) (wr := [(bD, .inl (k 2, 980, .inr (.inl (fun i9 : Nat => lI (fD i9))))), (bL, .inl (k 0, 980, .inl (fun i9 : Nat => iI (fL i9)))), (bE, .inl (k 0, 980, .inl (fun i9 : Nat => iI (fE i9))))]) (k_own l dC dI k ln wa ga wt wo bD bL bE n wd nw dp sd cl fg to hg (by omega) h4) B mV_X2_ownDemerits mw_1441 hl (q0 := 0) rfl rfl rfl ⟨Nat.le_of_ble_eq_true rfl, Nat.le_of_ble_eq_true rfl⟩ (Nat.le_of_ble_eq_true rfl) rfl dX2_tryLine_2 ⟨Nat.le_of_ble_eq_true rfl, Nat.le_of_ble_eq_true rfl⟩ (fun r w gc gs H locs hp B => ?_)
  obtain ⟨rfl, hw9, rfl, rfl⟩ := hp
  rw [hw9] at B; clear hw9
  have B := bd_to (ws' := [(bD, .inl (k 2, 980, .inr (.inl (fun i9 : Nat => lI (fD i9))))), (bL, .inl (k 0, 980, .inl (fun i9 : Nat => iI (fL i9)))), (bE, .inl (k 0, 980, .inl (fun i9 : Nat => iI (fE i9)))), (ln, .inr (2, [.int (iI n), .ref wa, .ref ga, .ref wt, .ref wo, .int (iI wd), .int (iI nw), .int (iI dp), .int (iI sd), .int (iI cl), .ref bD, .ref bL, .ref bE])), (ga, .inl (k 0, 49, .inl (fun i9 : Nat => iI (fg i9))))]) rfl B
  refine lv_lstore (lv' := [(4, .long (lI (ownZ sd (fg to)))), (0, .ref ln), (1, .int (iI fr)), (2, .int (iI to)), (3, .int (iI la))]) hx hb dX2_tryLine_5 hl (by decide) rfl (fun ls hl => ?_)
  refine lv_iload_n hx hb dX2_tryLine_7 rfl (lv_at hl 3 rfl) ?_
  refine lv_iload_n hx hb dX2_tryLine_8 rfl (lv_at hl 4 rfl) ?_
  refine lv_iconst (v := iI 1) hx hb dX2_tryLine_9 (by decide) ?_
  refine y_add hx hb dX2_tryLine_10 ?_
  refine lv_aload_n hx hb dX2_tryLine_11 rfl (lv_at hl 1 rfl) ?_
  refine x_get (ci := 2) (C := RX2) (T := TX2) (N := 13) (v := .int (iI dp)) B 3 rfl rfl in_X2 7 (by decide) mw_136 (fun _ h9 => h9) rfl dX2_tryLine_12 ?_
  refine y_min (a := (la + 1)) (b := dp) B hl mw_1436 mw_655 mw_26 mw_656 (Nat.le_of_ble_eq_true rfl) (Nat.le_of_ble_eq_true rfl) (Nat.le_of_ble_eq_true rfl) (Nat.le_of_ble_eq_true rfl) (by omega) (by omega) dX2_tryLine_15 ?_
  refine lv_aload_n hx hb dX2_tryLine_18 rfl (lv_at hl 1 rfl) ?_
  refine x_get (ci := 2) (C := RX2) (T := TX2) (N := 13) (v := .int (iI cl)) B 3 rfl rfl in_X2 9 (by decide) mw_139 (fun _ h9 => h9) rfl dX2_tryLine_19 ?_
  have B := bd_to (ws' := [] ++ [(bD, .inl (k 2, 980, .inr (.inl (fun i9 : Nat => lI (fD i9))))), (bL, .inl (k 0, 980, .inl (fun i9 : Nat => iI (fL i9)))), (bE, .inl (k 0, 980, .inl (fun i9 : Nat => iI (fE i9)))), (ln, .inr (2, [.int (iI n), .ref wa, .ref ga, .ref wt, .ref wo, .int (iI wd), .int (iI nw), .int (iI dp), .int (iI sd), .int (iI cl), .ref bD, .ref bL, .ref bE])), (ga, .inl (k 0, 49, .inl (fun i9 : Nat => iI (fg i9))))]) rfl B
  refine k_S (rest := []) (wc := []) (wr := [(bD, .inl (k 2, 980, .inr (.inl (fun i9 : Nat => lI (fD i9))))), (bL, .inl (k 0, 980, .inl (fun i9 : Nat => iI (fL i9)))), (bE, .inl (k 0, 980, .inl (fun i9 : Nat => iI (fE i9)))), (ln, .inr (2, [.int (iI n), .ref wa, .ref ga, .ref wt, .ref wo, .int (iI wd), .int (iI nw), .int (iI dp), .int (iI sd), .int (iI cl), .ref bD, .ref bL, .ref bE])), (ga, .inl (k 0, 49, .inl (fun i9 : Nat => iI (fg i9))))]) (k_way l dC dI k to (min (la + 1) dp) cl) B mS_X2_wayIndex mw_1421 hl ⟨Nat.le_of_ble_eq_true rfl, Nat.le_of_ble_eq_true rfl⟩ (Nat.le_of_ble_eq_true rfl) rfl dX2_tryLine_22 ⟨Nat.le_of_ble_eq_true rfl, Nat.le_of_ble_eq_true rfl⟩ (fun r w gc gs H locs hp B => ?_)
  obtain ⟨rfl, hw9, rfl, rfl⟩ := hp
  rw [hw9] at B; clear hw9
  have B := bd_to (ws' := [(bD, .inl (k 2, 980, .inr (.inl (fun i9 : Nat => lI (fD i9))))), (bL, .inl (k 0, 980, .inl (fun i9 : Nat => iI (fL i9)))), (bE, .inl (k 0, 980, .inl (fun i9 : Nat => iI (fE i9)))), (ln, .inr (2, [.int (iI n), .ref wa, .ref ga, .ref wt, .ref wo, .int (iI wd), .int (iI nw), .int (iI dp), .int (iI sd), .int (iI cl), .ref bD, .ref bL, .ref bE])), (ga, .inl (k 0, 49, .inl (fun i9 : Nat => iI (fg i9))))]) rfl B
  refine lv_istore (lv' := [(6, .int (iI ((((to * 4) + (min (la + 1) dp)) * 5) + cl))), (4, .long (lI (ownZ sd (fg to)))), (0, .ref ln), (1, .int (iI fr)), (2, .int (iI to)), (3, .int (iI la))]) hx hb dX2_tryLine_25 hl (by decide) rfl (fun ls hl => ?_)
  refine lv_iconst (v := iI 0) hx hb dX2_tryLine_27 (by decide) ?_
  refine lv_istore (lv' := [(7, .int (iI 0)), (6, .int (iI ((((to * 4) + (min (la + 1) dp)) * 5) + cl))), (4, .long (lI (ownZ sd (fg to)))), (0, .ref ln), (1, .int (iI fr)), (2, .int (iI to)), (3, .int (iI la))]) hx hb dX2_tryLine_28 hl (by decide) rfl (fun ls hl => ?_)
  refine k_loop (σ := Int × (Int → Int) × (Int → Int) × (Int → Int)) B (fun g9 : Int × (Int → Int) × (Int → Int) × (Int → Int) => (0 ≤ g9.1 ∧ g9.1 ≤ 5) ∧ (Ro g9.2.1 fD (((fr * 4) + la) * 5) g9.1) ∧ (Ro g9.2.2.1 fL (((fr * 4) + la) * 5) g9.1) ∧ (Ro g9.2.2.2 fE (((fr * 4) + la) * 5) g9.1) ∧ (Ri g9.2.1 (((fr * 4) + la) * 5) g9.1 (fun a => tlD (fD ((((fr * 4) + la) * 5) + a)) (fL ((((fr * 4) + la) * 5) + a)) ((ownZ sd (fg to) + pnZ cl a (fg fr) (fg to)) + fD ((((to * 4) + (min (la + 1) dp)) * 5) + cl)) (fL ((((to * 4) + (min (la + 1) dp)) * 5) + cl) + 1))) ∧ (Ri g9.2.2.1 (((fr * 4) + la) * 5) g9.1 (fun a => tlL (fD ((((fr * 4) + la) * 5) + a)) (fL ((((fr * 4) + la) * 5) + a)) ((ownZ sd (fg to) + pnZ cl a (fg fr) (fg to)) + fD ((((to * 4) + (min (la + 1) dp)) * 5) + cl)) (fL ((((to * 4) + (min (la + 1) dp)) * 5) + cl) + 1))) ∧ (Ri g9.2.2.2 (((fr * 4) + la) * 5) g9.1 (fun a => tlE (fD ((((fr * 4) + la) * 5) + a)) (fL ((((fr * 4) + la) * 5) + a)) (fE ((((fr * 4) + la) * 5) + a)) ((ownZ sd (fg to) + pnZ cl a (fg fr) (fg to)) + fD ((((to * 4) + (min (la + 1) dp)) * 5) + cl)) (fL ((((to * 4) + (min (la + 1) dp)) * 5) + cl) + 1) to)) ∧ (Bd (-1) 1099511627776 g9.2.1) ∧ (Bd 0 1000 g9.2.2.1) ∧ (Bd (-1) 48 g9.2.2.2)) (fun g9 : Int × (Int → Int) × (Int → Int) × (Int → Int) => (5 - g9.1).toNat) (fun g9 : Int × (Int → Int) × (Int → Int) × (Int → Int) => [(7, .int (iI g9.1)), (6, .int (iI ((((to * 4) + (min (la + 1) dp)) * 5) + cl))), (4, .long (lI (ownZ sd (fg to)))), (0, .ref ln), (1, .int (iI fr)), (2, .int (iI to)), (3, .int (iI la))]) (fun g9 : Int × (Int → Int) × (Int → Int) × (Int → Int) => [(bD, .inl (k 2, 980, .inr (.inl (fun i9 : Nat => lI (g9.2.1 i9))))), (bL, .inl (k 0, 980, .inl (fun i9 : Nat => iI (g9.2.2.1 i9)))), (bE, .inl (k 0, 980, .inl (fun i9 : Nat => iI (g9.2.2.2 i9)))), (ln, .inr (2, [.int (iI n), .ref wa, .ref ga, .ref wt, .ref wo, .int (iI wd), .int (iI nw), .int (iI dp), .int (iI sd), .int (iI cl), .ref bD, .ref bL, .ref bE])), (ga, .inl (k 0, 49, .inl (fun i9 : Nat => iI (fg i9))))]) ?_ (0, fD, fL, fE) ⟨(show 0 ≤ 0 ∧ 0 ≤ 5 from (by omega)), (show Ro fD fD (((fr * 4) + la) * 5) 0 from (Ro_0 _ _)), (show Ro fL fL (((fr * 4) + la) * 5) 0 from (Ro_0 _ _)), (show Ro fE fE (((fr * 4) + la) * 5) 0 from (Ro_0 _ _)), (show Ri fD (((fr * 4) + la) * 5) 0 (fun a => tlD (fD ((((fr * 4) + la) * 5) + a)) (fL ((((fr * 4) + la) * 5) + a)) ((ownZ sd (fg to) + pnZ cl a (fg fr) (fg to)) + fD ((((to * 4) + (min (la + 1) dp)) * 5) + cl)) (fL ((((to * 4) + (min (la + 1) dp)) * 5) + cl) + 1)) from (Ri_0 _ _ _)), (show Ri fL (((fr * 4) + la) * 5) 0 (fun a => tlL (fD ((((fr * 4) + la) * 5) + a)) (fL ((((fr * 4) + la) * 5) + a)) ((ownZ sd (fg to) + pnZ cl a (fg fr) (fg to)) + fD ((((to * 4) + (min (la + 1) dp)) * 5) + cl)) (fL ((((to * 4) + (min (la + 1) dp)) * 5) + cl) + 1)) from (Ri_0 _ _ _)), (show Ri fE (((fr * 4) + la) * 5) 0 (fun a => tlE (fD ((((fr * 4) + la) * 5) + a)) (fL ((((fr * 4) + la) * 5) + a)) (fE ((((fr * 4) + la) * 5) + a)) ((ownZ sd (fg to) + pnZ cl a (fg fr) (fg to)) + fD ((((to * 4) + (min (la + 1) dp)) * 5) + cl)) (fL ((((to * 4) + (min (la + 1) dp)) * 5) + cl) + 1) to) from (Ri_0 _ _ _)), (show Bd (-1) 1099511627776 fD from hD), (show Bd 0 1000 fL from hL), (show Bd (-1) 48 fE from hE)⟩ ls H locs (lv_sub hl [0, 1, 2, 3, 4, 5, 6] rfl) (bd_to rfl B)
  clear hl B
  rintro ⟨j, dD, dL, dE⟩ ⟨hj, oD, oL, oE, iD, iL, iE, bD9, bL9, bE9⟩ ih_1 ls H locs hl B
  have hj : 0 ≤ j ∧ j ≤ 5 := hj
  have oD : Ro dD fD (((fr * 4) + la) * 5) j := oD
  have oL : Ro dL fL (((fr * 4) + la) * 5) j := oL
  have oE : Ro dE fE (((fr * 4) + la) * 5) j := oE
  have iD : Ri dD (((fr * 4) + la) * 5) j (fun a => tlD (fD ((((fr * 4) + la) * 5) + a)) (fL ((((fr * 4) + la) * 5) + a)) ((ownZ sd (fg to) + pnZ cl a (fg fr) (fg to)) + fD ((((to * 4) + (min (la + 1) dp)) * 5) + cl)) (fL ((((to * 4) + (min (la + 1) dp)) * 5) + cl) + 1)) := iD
  have iL : Ri dL (((fr * 4) + la) * 5) j (fun a => tlL (fD ((((fr * 4) + la) * 5) + a)) (fL ((((fr * 4) + la) * 5) + a)) ((ownZ sd (fg to) + pnZ cl a (fg fr) (fg to)) + fD ((((to * 4) + (min (la + 1) dp)) * 5) + cl)) (fL ((((to * 4) + (min (la + 1) dp)) * 5) + cl) + 1)) := iL
  have iE : Ri dE (((fr * 4) + la) * 5) j (fun a => tlE (fD ((((fr * 4) + la) * 5) + a)) (fL ((((fr * 4) + la) * 5) + a)) (fE ((((fr * 4) + la) * 5) + a)) ((ownZ sd (fg to) + pnZ cl a (fg fr) (fg to)) + fD ((((to * 4) + (min (la + 1) dp)) * 5) + cl)) (fL ((((to * 4) + (min (la + 1) dp)) * 5) + cl) + 1) to) := iE
  have bD9 : Bd (-1) 1099511627776 dD := bD9
  have bL9 : Bd 0 1000 dL := bL9
  have bE9 : Bd (-1) 48 dE := bE9
  have hl : lv_has ls 12 [(7, .int (iI j)), (6, .int (iI ((((to * 4) + (min (la + 1) dp)) * 5) + cl))), (4, .long (lI (ownZ sd (fg to)))), (0, .ref ln), (1, .int (iI fr)), (2, .int (iI to)), (3, .int (iI la))] := hl
  have B := bd_to (ws' := [(bD, .inl (k 2, 980, .inr (.inl (fun i9 : Nat => lI (dD i9))))), (bL, .inl (k 0, 980, .inl (fun i9 : Nat => iI (dL i9)))), (bE, .inl (k 0, 980, .inl (fun i9 : Nat => iI (dE i9)))), (ln, .inr (2, [.int (iI n), .ref wa, .ref ga, .ref wt, .ref wo, .int (iI wd), .int (iI nw), .int (iI dp), .int (iI sd), .int (iI cl), .ref bD, .ref bL, .ref bE])), (ga, .inl (k 0, 49, .inl (fun i9 : Nat => iI (fg i9))))]) rfl B
  have q1 := oD ((((to * 4) + (min (la + 1) dp)) * 5) + cl) (by omega)
  have q2 := oL ((((to * 4) + (min (la + 1) dp)) * 5) + cl) (by omega)
  refine lv_iload hx hb dX2_tryLine_30 (lv_at hl 0 rfl) ?_
  refine lv_iconst (v := iI 5) hx hb dX2_tryLine_32 (by decide) ?_
  refine lv_icmp_ge (tgt := 162) hx hb dX2_tryLine_33 (by decide) (fun c_2 => ?_) (fun c_2 => ?_)
  · have zc_2 : 5 ≤ j := jle (a := 5) (b := j) (by omega) (by omega) c_2
    have B := bd_sub (ws' := [(ln, .inr (2, [.int (iI n), .ref wa, .ref ga, .ref wt, .ref wo, .int (iI wd), .int (iI nw), .int (iI dp), .int (iI sd), .int (iI cl), .ref bD, .ref bL, .ref bE])), (ga, .inl (k 0, 49, .inl (fun i9 : Nat => iI (fg i9)))), (bD, .inl (k 2, 980, .inr (.inl (fun i9 : Nat => lI (dD i9))))), (bL, .inl (k 0, 980, .inl (fun i9 : Nat => iI (dL i9)))), (bE, .inl (k 0, 980, .inl (fun i9 : Nat => iI (dE i9))))]) [3, 4, 0, 1, 2] (by decide) rfl B
    exact k_vret B hr (⟨dD, dL, dE, (by have e9 : j = 5 := (by omega); subst e9; assumption), (by have e9 : j = 5 := (by omega); subst e9; assumption), (by have e9 : j = 5 := (by omega); subst e9; assumption), (by have e9 : j = 5 := (by omega); subst e9; assumption), (by have e9 : j = 5 := (by omega); subst e9; assumption), (by have e9 : j = 5 := (by omega); subst e9; assumption), bD9, bL9, bE9, rfl, rfl, rfl, rfl⟩) ⟨Nat.le_of_ble_eq_true rfl, Nat.le_of_ble_eq_true rfl⟩ ⟨Nat.le_of_ble_eq_true rfl, Nat.le_of_ble_eq_true rfl⟩ dX2_tryLine_162
  · have zc_2 : j < 5 := jnle (a := 5) (b := j) (by omega) (by omega) c_2
    refine lv_iload_n hx hb dX2_tryLine_36 rfl (lv_at hl 4 rfl) ?_
    refine lv_iload_n hx hb dX2_tryLine_37 rfl (lv_at hl 6 rfl) ?_
    refine lv_iload hx hb dX2_tryLine_38 (lv_at hl 0 rfl) ?_
    have B := bd_to (ws' := [] ++ [(bD, .inl (k 2, 980, .inr (.inl (fun i9 : Nat => lI (dD i9))))), (bL, .inl (k 0, 980, .inl (fun i9 : Nat => iI (dL i9)))), (bE, .inl (k 0, 980, .inl (fun i9 : Nat => iI (dE i9)))), (ln, .inr (2, [.int (iI n), .ref wa, .ref ga, .ref wt, .ref wo, .int (iI wd), .int (iI nw), .int (iI dp), .int (iI sd), .int (iI cl), .ref bD, .ref bL, .ref bE])), (ga, .inl (k 0, 49, .inl (fun i9 : Nat => iI (fg i9))))]) rfl B
    refine k_S (rest := []) (wc := []) (wr := [(bD, .inl (k 2, 980, .inr (.inl (fun i9 : Nat => lI (dD i9))))), (bL, .inl (k 0, 980, .inl (fun i9 : Nat => iI (dL i9)))), (bE, .inl (k 0, 980, .inl (fun i9 : Nat => iI (dE i9)))), (ln, .inr (2, [.int (iI n), .ref wa, .ref ga, .ref wt, .ref wo, .int (iI wd), .int (iI nw), .int (iI dp), .int (iI sd), .int (iI cl), .ref bD, .ref bL, .ref bE])), (ga, .inl (k 0, 49, .inl (fun i9 : Nat => iI (fg i9))))]) (k_way l dC dI k fr la j) B mS_X2_wayIndex mw_1421 hl ⟨Nat.le_of_ble_eq_true rfl, Nat.le_of_ble_eq_true rfl⟩ (Nat.le_of_ble_eq_true rfl) rfl dX2_tryLine_40 ⟨Nat.le_of_ble_eq_true rfl, Nat.le_of_ble_eq_true rfl⟩ (fun r w gc gs H locs hp B => ?_)
    obtain ⟨rfl, hw9, rfl, rfl⟩ := hp
    rw [hw9] at B; clear hw9
    have B := bd_to (ws' := [(bD, .inl (k 2, 980, .inr (.inl (fun i9 : Nat => lI (dD i9))))), (bL, .inl (k 0, 980, .inl (fun i9 : Nat => iI (dL i9)))), (bE, .inl (k 0, 980, .inl (fun i9 : Nat => iI (dE i9)))), (ln, .inr (2, [.int (iI n), .ref wa, .ref ga, .ref wt, .ref wo, .int (iI wd), .int (iI nw), .int (iI dp), .int (iI sd), .int (iI cl), .ref bD, .ref bL, .ref bE])), (ga, .inl (k 0, 49, .inl (fun i9 : Nat => iI (fg i9))))]) rfl B
    refine lv_istore (lv' := [(8, .int (iI ((((fr * 4) + la) * 5) + j))), (7, .int (iI j)), (6, .int (iI ((((to * 4) + (min (la + 1) dp)) * 5) + cl))), (4, .long (lI (ownZ sd (fg to)))), (0, .ref ln), (1, .int (iI fr)), (2, .int (iI to)), (3, .int (iI la))]) hx hb dX2_tryLine_43 hl (by decide) rfl (fun ls hl => ?_)
    refine lv_lload hx hb dX2_tryLine_45 (lv_at hl 3 rfl) ?_
    refine lv_aload_n hx hb dX2_tryLine_47 rfl (lv_at hl 4 rfl) ?_
    refine lv_iload_n hx hb dX2_tryLine_48 rfl (lv_at hl 5 rfl) ?_
    refine lv_iload_n hx hb dX2_tryLine_49 rfl (lv_at hl 6 rfl) ?_
    refine lv_iload hx hb dX2_tryLine_50 (lv_at hl 1 rfl) ?_
    have B := bd_sub (ws' := [(ln, .inr (2, [.int (iI n), .ref wa, .ref ga, .ref wt, .ref wo, .int (iI wd), .int (iI nw), .int (iI dp), .int (iI sd), .int (iI cl), .ref bD, .ref bL, .ref bE])), (ga, .inl (k 0, 49, .inl (fun i9 : Nat => iI (fg i9)))), (bD, .inl (k 2, 980, .inr (.inl (fun i9 : Nat => lI (dD i9))))), (bL, .inl (k 0, 980, .inl (fun i9 : Nat => iI (dL i9)))), (bE, .inl (k 0, 980, .inl (fun i9 : Nat => iI (dE i9))))]) [3, 4, 0, 1, 2] (by decide) rfl B
    have B := bd_to (ws' := [(ln, .inr (2, [.int (iI n), .ref wa, .ref ga, .ref wt, .ref wo, .int (iI wd), .int (iI nw), .int (iI dp), .int (iI sd), .int (iI cl), .ref bD, .ref bL, .ref bE])), (ga, .inl (k 0, 49, .inl (fun i9 : Nat => iI (fg i9))))] ++ [(bD, .inl (k 2, 980, .inr (.inl (fun i9 : Nat => lI (dD i9))))), (bL, .inl (k 0, 980, .inl (fun i9 : Nat => iI (dL i9)))), (bE, .inl (k 0, 980, .inl (fun i9 : Nat => iI (dE i9))))]) rfl B
    refine k_V (rest := [.long (lI (ownZ sd (fg to)))]) (wc := [(ln, .inr (2, [.int (iI n), .ref wa, .ref ga, .ref wt, .ref wo, .int (iI wd), .int (iI nw), .int (iI dp), .int (iI sd), .int (iI cl), .ref bD, .ref bL, .ref bE])), (ga, .inl (k 0, 49, .inl (fun i9 : Nat => iI (fg i9))))]) (wr := [(bD, .inl (k 2, 980, .inr (.inl (fun i9 : Nat => lI (dD i9))))), (bL, .inl (k 0, 980, .inl (fun i9 : Nat => iI (dL i9)))), (bE, .inl (k 0, 980, .inl (fun i9 : Nat => iI (dE i9))))]) (k_pen l dC dI k ln wa ga wt wo bD bL bE n wd nw dp sd cl fg fr to j hg (by omega) (by omega)) B mV_X2_demeritsForAhead mw_1445 hl (q0 := 0) rfl rfl rfl ⟨Nat.le_of_ble_eq_true rfl, Nat.le_of_ble_eq_true rfl⟩ (Nat.le_of_ble_eq_true rfl) rfl dX2_tryLine_52 ⟨Nat.le_of_ble_eq_true rfl, Nat.le_of_ble_eq_true rfl⟩ (fun r w gc gs H locs hp B => ?_)
    obtain ⟨rfl, hw9, rfl, rfl⟩ := hp
    rw [hw9] at B; clear hw9
    have B := bd_to (ws' := [(bD, .inl (k 2, 980, .inr (.inl (fun i9 : Nat => lI (dD i9))))), (bL, .inl (k 0, 980, .inl (fun i9 : Nat => iI (dL i9)))), (bE, .inl (k 0, 980, .inl (fun i9 : Nat => iI (dE i9)))), (ln, .inr (2, [.int (iI n), .ref wa, .ref ga, .ref wt, .ref wo, .int (iI wd), .int (iI nw), .int (iI dp), .int (iI sd), .int (iI cl), .ref bD, .ref bL, .ref bE])), (ga, .inl (k 0, 49, .inl (fun i9 : Nat => iI (fg i9))))]) rfl B
    have z_3 : 0 ≤ (pnZ cl j (fg fr) (fg to)) ∧ (pnZ cl j (fg fr) (fg to)) ≤ 5000 := pnZ_in _ _ _ _
    refine y_i2l hx hb (a := (pnZ cl j (fg fr) (fg to))) (by omega) dX2_tryLine_55 ?_
    refine y_ladd hx hb dX2_tryLine_56 ?_
    refine lv_aload_n hx hb dX2_tryLine_57 rfl (lv_at hl 4 rfl) ?_
    refine x_get (ci := 2) (C := RX2) (T := TX2) (N := 13) (v := .ref bD) B 3 rfl rfl in_X2 10 (by decide) mw_140 (fun _ h9 => h9) rfl dX2_tryLine_58 ?_
    refine lv_iload hx hb dX2_tryLine_61 (lv_at hl 2 rfl) ?_
    refine x_lald' (f := dD) (z := ((((to * 4) + (min (la + 1) dp)) * 5) + cl)) B 0 rfl (by omega) dX2_tryLine_63 ?_
    have z_4 : (-1) ≤ (dD ((((to * 4) + (min (la + 1) dp)) * 5) + cl)) ∧ (dD ((((to * 4) + (min (la + 1) dp)) * 5) + cl)) ≤ 1099511627776 := bD9 ((((to * 4) + (min (la + 1) dp)) * 5) + cl)
    refine y_ladd hx hb dX2_tryLine_64 ?_
    refine lv_lstore (lv' := [(9, .long (lI (((ownZ sd (fg to)) + (pnZ cl j (fg fr) (fg to))) + (dD ((((to * 4) + (min (la + 1) dp)) * 5) + cl))))), (8, .int (iI ((((fr * 4) + la) * 5) + j))), (7, .int (iI j)), (6, .int (iI ((((to * 4) + (min (la + 1) dp)) * 5) + cl))), (4, .long (lI (ownZ sd (fg to)))), (0, .ref ln), (1, .int (iI fr)), (2, .int (iI to)), (3, .int (iI la))]) hx hb dX2_tryLine_65 hl (by decide) rfl (fun ls hl => ?_)
    refine lv_aload_n hx hb dX2_tryLine_67 rfl (lv_at hl 5 rfl) ?_
    refine x_get (ci := 2) (C := RX2) (T := TX2) (N := 13) (v := .ref bL) B 3 rfl rfl in_X2 11 (by decide) mw_141 (fun _ h9 => h9) rfl dX2_tryLine_68 ?_
    refine lv_iload hx hb dX2_tryLine_71 (lv_at hl 3 rfl) ?_
    refine x_iald' (f := dL) (z := ((((to * 4) + (min (la + 1) dp)) * 5) + cl)) B 1 rfl (by omega) dX2_tryLine_73 ?_
    have z_5 : 0 ≤ (dL ((((to * 4) + (min (la + 1) dp)) * 5) + cl)) ∧ (dL ((((to * 4) + (min (la + 1) dp)) * 5) + cl)) ≤ 1000 := bL9 ((((to * 4) + (min (la + 1) dp)) * 5) + cl)
    refine lv_iconst (v := iI 1) hx hb dX2_tryLine_74 (by decide) ?_
    refine y_add hx hb dX2_tryLine_75 ?_
    refine lv_istore (lv' := [(11, .int (iI ((dL ((((to * 4) + (min (la + 1) dp)) * 5) + cl)) + 1))), (9, .long (lI (((ownZ sd (fg to)) + (pnZ cl j (fg fr) (fg to))) + (dD ((((to * 4) + (min (la + 1) dp)) * 5) + cl))))), (8, .int (iI ((((fr * 4) + la) * 5) + j))), (7, .int (iI j)), (6, .int (iI ((((to * 4) + (min (la + 1) dp)) * 5) + cl))), (4, .long (lI (ownZ sd (fg to)))), (0, .ref ln), (1, .int (iI fr)), (2, .int (iI to)), (3, .int (iI la))]) hx hb dX2_tryLine_76 hl (by decide) rfl (fun ls hl => ?_)
    refine lv_aload_n hx hb dX2_tryLine_78 rfl (lv_at hl 6 rfl) ?_
    refine x_get (ci := 2) (C := RX2) (T := TX2) (N := 13) (v := .ref bD) B 3 rfl rfl in_X2 10 (by decide) mw_140 (fun _ h9 => h9) rfl dX2_tryLine_79 ?_
    refine lv_iload hx hb dX2_tryLine_82 (lv_at hl 2 rfl) ?_
    refine x_lald' (f := dD) (z := ((((fr * 4) + la) * 5) + j)) B 0 rfl (by omega) dX2_tryLine_84 ?_
    have z_6 : (-1) ≤ (dD ((((fr * 4) + la) * 5) + j)) ∧ (dD ((((fr * 4) + la) * 5) + j)) ≤ 1099511627776 := bD9 ((((fr * 4) + la) * 5) + j)
    refine lv_ldc2 (v := (-1)) hx hb B.1.2.2.2.1 (B.1.2.2.2.2.1 _ mw_1449) dX2_tryLine_85 ?_
    refine lv_setl (y := lI (-1)) (by decide) ?_
    refine y_lcmp B (a := (dD ((((fr * 4) + la) * 5) + j))) (b := (-1)) (by omega) (by omega) dX2_tryLine_88 ?_
    rcases (show (dD ((((fr * 4) + la) * 5) + j)) < (-1) ∨ (dD ((((fr * 4) + la) * 5) + j)) = (-1) ∨ (-1) < (dD ((((fr * 4) + la) * 5) + j)) by omega) with zc_7 | zc_7 | zc_7
    · refine lv_seti (y := iI (-1)) (congrArg iI (show cmpZ (dD ((((fr * 4) + la) * 5) + j)) (-1) = (-1) from if_pos zc_7)) ?_
      refine lv_if_eq (tgt := 130) hx hb dX2_tryLine_89 (by decide) (fun c9 => absurd c9 (by decide)) (fun _ => ?_)
      refine lv_lload hx hb dX2_tryLine_92 (lv_at hl 1 rfl) ?_
      refine lv_aload_n hx hb dX2_tryLine_94 rfl (lv_at hl 6 rfl) ?_
      refine x_get (ci := 2) (C := RX2) (T := TX2) (N := 13) (v := .ref bD) B 3 rfl rfl in_X2 10 (by decide) mw_140 (fun _ h9 => h9) rfl dX2_tryLine_95 ?_
      refine lv_iload hx hb dX2_tryLine_98 (lv_at hl 2 rfl) ?_
      refine x_lald' (f := dD) (z := ((((fr * 4) + la) * 5) + j)) B 0 rfl (by omega) dX2_tryLine_100 ?_
      have z_8 : (-1) ≤ (dD ((((fr * 4) + la) * 5) + j)) ∧ (dD ((((fr * 4) + la) * 5) + j)) ≤ 1099511627776 := bD9 ((((fr * 4) + la) * 5) + j)
      refine y_lcmp B (a := (((ownZ sd (fg to)) + (pnZ cl j (fg fr) (fg to))) + (dD ((((to * 4) + (min (la + 1) dp)) * 5) + cl)))) (b := (dD ((((fr * 4) + la) * 5) + j))) (by omega) (by omega) dX2_tryLine_101 ?_
      rcases (show (((ownZ sd (fg to)) + (pnZ cl j (fg fr) (fg to))) + (dD ((((to * 4) + (min (la + 1) dp)) * 5) + cl))) < (dD ((((fr * 4) + la) * 5) + j)) ∨ (((ownZ sd (fg to)) + (pnZ cl j (fg fr) (fg to))) + (dD ((((to * 4) + (min (la + 1) dp)) * 5) + cl))) = (dD ((((fr * 4) + la) * 5) + j)) ∨ (dD ((((fr * 4) + la) * 5) + j)) < (((ownZ sd (fg to)) + (pnZ cl j (fg fr) (fg to))) + (dD ((((to * 4) + (min (la + 1) dp)) * 5) + cl))) by omega) with zc_9 | zc_9 | zc_9
      · refine lv_seti (y := iI (-1)) (congrArg iI (show cmpZ (((ownZ sd (fg to)) + (pnZ cl j (fg fr) (fg to))) + (dD ((((to * 4) + (min (la + 1) dp)) * 5) + cl))) (dD ((((fr * 4) + la) * 5) + j)) = (-1) from if_pos zc_9)) ?_
        refine lv_if_lt (tgt := 130) hx hb dX2_tryLine_102 (by decide) (fun _ => ?_) (fun c9 => absurd (by decide) c9)
        refine lv_aload_n hx hb dX2_tryLine_130 rfl (lv_at hl 6 rfl) ?_
        refine x_get (ci := 2) (C := RX2) (T := TX2) (N := 13) (v := .ref bD) B 3 rfl rfl in_X2 10 (by decide) mw_140 (fun _ h9 => h9) rfl dX2_tryLine_131 ?_
        refine lv_iload hx hb dX2_tryLine_134 (lv_at hl 2 rfl) ?_
        refine lv_lload hx hb dX2_tryLine_136 (lv_at hl 1 rfl) ?_
        refine x_last' (f := dD) (z := ((((fr * 4) + la) * 5) + j)) (v := (((ownZ sd (fg to)) + (pnZ cl j (fg fr) (fg to))) + (dD ((((to * 4) + (min (la + 1) dp)) * 5) + cl)))) B 0 rfl (by omega) dX2_tryLine_138 (fun H locs B => ?_)
        have b_10 : Bd (-1) 1099511627776 (uz dD ((((fr * 4) + la) * 5) + j) (((ownZ sd (fg to)) + (pnZ cl j (fg fr) (fg to))) + (dD ((((to * 4) + (min (la + 1) dp)) * 5) + cl)))) := Bd_uz bD9 (by omega)
        have B := bd_to (ws' := [(bD, .inl (k 2, 980, .inr (.inl (fun i9 : Nat => lI ((uz dD ((((fr * 4) + la) * 5) + j) (((ownZ sd (fg to)) + (pnZ cl j (fg fr) (fg to))) + (dD ((((to * 4) + (min (la + 1) dp)) * 5) + cl)))) i9))))), (bL, .inl (k 0, 980, .inl (fun i9 : Nat => iI (dL i9)))), (bE, .inl (k 0, 980, .inl (fun i9 : Nat => iI (dE i9)))), (ln, .inr (2, [.int (iI n), .ref wa, .ref ga, .ref wt, .ref wo, .int (iI wd), .int (iI nw), .int (iI dp), .int (iI sd), .int (iI cl), .ref bD, .ref bL, .ref bE])), (ga, .inl (k 0, 49, .inl (fun i9 : Nat => iI (fg i9))))]) rfl B
        refine lv_aload_n hx hb dX2_tryLine_139 rfl (lv_at hl 6 rfl) ?_
        refine x_get (ci := 2) (C := RX2) (T := TX2) (N := 13) (v := .ref bL) B 3 rfl rfl in_X2 11 (by decide) mw_141 (fun _ h9 => h9) rfl dX2_tryLine_140 ?_
        refine lv_iload hx hb dX2_tryLine_143 (lv_at hl 2 rfl) ?_
        refine lv_iload hx hb dX2_tryLine_145 (lv_at hl 0 rfl) ?_
        refine x_iast' (f := dL) (z := ((((fr * 4) + la) * 5) + j)) (v := ((dL ((((to * 4) + (min (la + 1) dp)) * 5) + cl)) + 1)) B 1 rfl (by omega) dX2_tryLine_147 (fun H locs B => ?_)
        have b_11 : Bd 0 1000 (uz dL ((((fr * 4) + la) * 5) + j) ((dL ((((to * 4) + (min (la + 1) dp)) * 5) + cl)) + 1)) := Bd_uz bL9 (by omega)
        have B := bd_to (ws' := [(bD, .inl (k 2, 980, .inr (.inl (fun i9 : Nat => lI ((uz dD ((((fr * 4) + la) * 5) + j) (((ownZ sd (fg to)) + (pnZ cl j (fg fr) (fg to))) + (dD ((((to * 4) + (min (la + 1) dp)) * 5) + cl)))) i9))))), (bL, .inl (k 0, 980, .inl (fun i9 : Nat => iI ((uz dL ((((fr * 4) + la) * 5) + j) ((dL ((((to * 4) + (min (la + 1) dp)) * 5) + cl)) + 1)) i9)))), (bE, .inl (k 0, 980, .inl (fun i9 : Nat => iI (dE i9)))), (ln, .inr (2, [.int (iI n), .ref wa, .ref ga, .ref wt, .ref wo, .int (iI wd), .int (iI nw), .int (iI dp), .int (iI sd), .int (iI cl), .ref bD, .ref bL, .ref bE])), (ga, .inl (k 0, 49, .inl (fun i9 : Nat => iI (fg i9))))]) rfl B
        refine lv_aload_n hx hb dX2_tryLine_148 rfl (lv_at hl 6 rfl) ?_
        refine x_get (ci := 2) (C := RX2) (T := TX2) (N := 13) (v := .ref bE) B 3 rfl rfl in_X2 12 (by decide) mw_142 (fun _ h9 => h9) rfl dX2_tryLine_149 ?_
        refine lv_iload hx hb dX2_tryLine_152 (lv_at hl 2 rfl) ?_
        refine lv_iload_n hx hb dX2_tryLine_154 rfl (lv_at hl 8 rfl) ?_
        refine x_iast' (f := dE) (z := ((((fr * 4) + la) * 5) + j)) (v := to) B 2 rfl (by omega) dX2_tryLine_155 (fun H locs B => ?_)
        have b_12 : Bd (-1) 48 (uz dE ((((fr * 4) + la) * 5) + j) to) := Bd_uz bE9 (by omega)
        have B := bd_to (ws' := [(bD, .inl (k 2, 980, .inr (.inl (fun i9 : Nat => lI ((uz dD ((((fr * 4) + la) * 5) + j) (((ownZ sd (fg to)) + (pnZ cl j (fg fr) (fg to))) + (dD ((((to * 4) + (min (la + 1) dp)) * 5) + cl)))) i9))))), (bL, .inl (k 0, 980, .inl (fun i9 : Nat => iI ((uz dL ((((fr * 4) + la) * 5) + j) ((dL ((((to * 4) + (min (la + 1) dp)) * 5) + cl)) + 1)) i9)))), (bE, .inl (k 0, 980, .inl (fun i9 : Nat => iI ((uz dE ((((fr * 4) + la) * 5) + j) to) i9)))), (ln, .inr (2, [.int (iI n), .ref wa, .ref ga, .ref wt, .ref wo, .int (iI wd), .int (iI nw), .int (iI dp), .int (iI sd), .int (iI cl), .ref bD, .ref bL, .ref bE])), (ga, .inl (k 0, 49, .inl (fun i9 : Nat => iI (fg i9))))]) rfl B
        refine lv_iinc (v := iI (j + 1)) (lv' := [(7, .int (iI (j + 1))), (11, .int (iI ((dL ((((to * 4) + (min (la + 1) dp)) * 5) + cl)) + 1))), (9, .long (lI (((ownZ sd (fg to)) + (pnZ cl j (fg fr) (fg to))) + (dD ((((to * 4) + (min (la + 1) dp)) * 5) + cl))))), (8, .int (iI ((((fr * 4) + la) * 5) + j))), (6, .int (iI ((((to * 4) + (min (la + 1) dp)) * 5) + cl))), (4, .long (lI (ownZ sd (fg to)))), (0, .ref ln), (1, .int (iI fr)), (2, .int (iI to)), (3, .int (iI la))]) hx hb dX2_tryLine_156 hl (k := 3) rfl (iI_add _ _) (by decide) rfl (fun ls hl => ?_)
        refine lv_goto (tgt := 30) hx hb dX2_tryLine_159 (by decide) ?_
        exact ih_1 ((j + 1), (uz dD ((((fr * 4) + la) * 5) + j) (((ownZ sd (fg to)) + (pnZ cl j (fg fr) (fg to))) + (dD ((((to * 4) + (min (la + 1) dp)) * 5) + cl)))), (uz dL ((((fr * 4) + la) * 5) + j) ((dL ((((to * 4) + (min (la + 1) dp)) * 5) + cl)) + 1)), (uz dE ((((fr * 4) + la) * 5) + j) to)) ⟨(show 0 ≤ (j + 1) ∧ (j + 1) ≤ 5 from (by omega)), (show Ro (uz dD ((((fr * 4) + la) * 5) + j) (((ownZ sd (fg to)) + (pnZ cl j (fg fr) (fg to))) + (dD ((((to * 4) + (min (la + 1) dp)) * 5) + cl)))) fD (((fr * 4) + la) * 5) (j + 1) from (Ro_s oD (by omega) rfl)), (show Ro (uz dL ((((fr * 4) + la) * 5) + j) ((dL ((((to * 4) + (min (la + 1) dp)) * 5) + cl)) + 1)) fL (((fr * 4) + la) * 5) (j + 1) from (Ro_s oL (by omega) rfl)), (show Ro (uz dE ((((fr * 4) + la) * 5) + j) to) fE (((fr * 4) + la) * 5) (j + 1) from (Ro_s oE (by omega) rfl)), (show Ri (uz dD ((((fr * 4) + la) * 5) + j) (((ownZ sd (fg to)) + (pnZ cl j (fg fr) (fg to))) + (dD ((((to * 4) + (min (la + 1) dp)) * 5) + cl)))) (((fr * 4) + la) * 5) (j + 1) (fun a => tlD (fD ((((fr * 4) + la) * 5) + a)) (fL ((((fr * 4) + la) * 5) + a)) ((ownZ sd (fg to) + pnZ cl a (fg fr) (fg to)) + fD ((((to * 4) + (min (la + 1) dp)) * 5) + cl)) (fL ((((to * 4) + (min (la + 1) dp)) * 5) + cl) + 1)) from (Ri_s iD rfl (by have q1 := oD ((((to * 4) + (min (la + 1) dp)) * 5) + cl) (by omega); have q2 := oL ((((to * 4) + (min (la + 1) dp)) * 5) + cl) (by omega); have q3 := oD ((((fr * 4) + la) * 5) + j) (by omega); have q4 := oL ((((fr * 4) + la) * 5) + j) (by omega); have q5 := oE ((((fr * 4) + la) * 5) + j) (by omega); show _ = tlD _ _ _ _; unfold tlD; rw [if_pos (by omega)]; omega))), (show Ri (uz dL ((((fr * 4) + la) * 5) + j) ((dL ((((to * 4) + (min (la + 1) dp)) * 5) + cl)) + 1)) (((fr * 4) + la) * 5) (j + 1) (fun a => tlL (fD ((((fr * 4) + la) * 5) + a)) (fL ((((fr * 4) + la) * 5) + a)) ((ownZ sd (fg to) + pnZ cl a (fg fr) (fg to)) + fD ((((to * 4) + (min (la + 1) dp)) * 5) + cl)) (fL ((((to * 4) + (min (la + 1) dp)) * 5) + cl) + 1)) from (Ri_s iL rfl (by have q1 := oD ((((to * 4) + (min (la + 1) dp)) * 5) + cl) (by omega); have q2 := oL ((((to * 4) + (min (la + 1) dp)) * 5) + cl) (by omega); have q3 := oD ((((fr * 4) + la) * 5) + j) (by omega); have q4 := oL ((((fr * 4) + la) * 5) + j) (by omega); have q5 := oE ((((fr * 4) + la) * 5) + j) (by omega); show _ = tlL _ _ _ _; unfold tlL; rw [if_pos (by omega)]; omega))), (show Ri (uz dE ((((fr * 4) + la) * 5) + j) to) (((fr * 4) + la) * 5) (j + 1) (fun a => tlE (fD ((((fr * 4) + la) * 5) + a)) (fL ((((fr * 4) + la) * 5) + a)) (fE ((((fr * 4) + la) * 5) + a)) ((ownZ sd (fg to) + pnZ cl a (fg fr) (fg to)) + fD ((((to * 4) + (min (la + 1) dp)) * 5) + cl)) (fL ((((to * 4) + (min (la + 1) dp)) * 5) + cl) + 1) to) from (Ri_s iE rfl (by have q1 := oD ((((to * 4) + (min (la + 1) dp)) * 5) + cl) (by omega); have q2 := oL ((((to * 4) + (min (la + 1) dp)) * 5) + cl) (by omega); have q3 := oD ((((fr * 4) + la) * 5) + j) (by omega); have q4 := oL ((((fr * 4) + la) * 5) + j) (by omega); have q5 := oE ((((fr * 4) + la) * 5) + j) (by omega); show _ = tlE _ _ _ _ _ _; unfold tlE; rw [if_pos (by omega)]))), (show Bd (-1) 1099511627776 (uz dD ((((fr * 4) + la) * 5) + j) (((ownZ sd (fg to)) + (pnZ cl j (fg fr) (fg to))) + (dD ((((to * 4) + (min (la + 1) dp)) * 5) + cl)))) from b_10), (show Bd 0 1000 (uz dL ((((fr * 4) + la) * 5) + j) ((dL ((((to * 4) + (min (la + 1) dp)) * 5) + cl)) + 1)) from b_11), (show Bd (-1) 48 (uz dE ((((fr * 4) + la) * 5) + j) to) from b_12)⟩ (by first | omega | (dsimp only; omega)) _ _ _ (lv_sub hl [0, 4, 5, 6, 7, 8, 9] rfl) (bd_to rfl B)
      · refine lv_seti (y := iI 0) (congrArg iI (show cmpZ (((ownZ sd (fg to)) + (pnZ cl j (fg fr) (fg to))) + (dD ((((to * 4) + (min (la + 1) dp)) * 5) + cl))) (dD ((((fr * 4) + la) * 5) + j)) = 0 from (if_neg (by omega)).trans (if_pos zc_9))) ?_
        refine lv_if_lt (tgt := 130) hx hb dX2_tryLine_102 (by decide) (fun c9 => absurd c9 (by decide)) (fun _ => ?_)
        refine lv_lload hx hb dX2_tryLine_105 (lv_at hl 1 rfl) ?_
        refine lv_aload_n hx hb dX2_tryLine_107 rfl (lv_at hl 6 rfl) ?_
        refine x_get (ci := 2) (C := RX2) (T := TX2) (N := 13) (v := .ref bD) B 3 rfl rfl in_X2 10 (by decide) mw_140 (fun _ h9 => h9) rfl dX2_tryLine_108 ?_
        refine lv_iload hx hb dX2_tryLine_111 (lv_at hl 2 rfl) ?_
        refine x_lald' (f := dD) (z := ((((fr * 4) + la) * 5) + j)) B 0 rfl (by omega) dX2_tryLine_113 ?_
        have z_13 : (-1) ≤ (dD ((((fr * 4) + la) * 5) + j)) ∧ (dD ((((fr * 4) + la) * 5) + j)) ≤ 1099511627776 := bD9 ((((fr * 4) + la) * 5) + j)
        refine y_lcmp B (a := (((ownZ sd (fg to)) + (pnZ cl j (fg fr) (fg to))) + (dD ((((to * 4) + (min (la + 1) dp)) * 5) + cl)))) (b := (dD ((((fr * 4) + la) * 5) + j))) (by omega) (by omega) dX2_tryLine_114 ?_
        rcases (show (((ownZ sd (fg to)) + (pnZ cl j (fg fr) (fg to))) + (dD ((((to * 4) + (min (la + 1) dp)) * 5) + cl))) < (dD ((((fr * 4) + la) * 5) + j)) ∨ (((ownZ sd (fg to)) + (pnZ cl j (fg fr) (fg to))) + (dD ((((to * 4) + (min (la + 1) dp)) * 5) + cl))) = (dD ((((fr * 4) + la) * 5) + j)) ∨ (dD ((((fr * 4) + la) * 5) + j)) < (((ownZ sd (fg to)) + (pnZ cl j (fg fr) (fg to))) + (dD ((((to * 4) + (min (la + 1) dp)) * 5) + cl))) by omega) with zc_14 | zc_14 | zc_14
        · refine lv_seti (y := iI (-1)) (congrArg iI (show cmpZ (((ownZ sd (fg to)) + (pnZ cl j (fg fr) (fg to))) + (dD ((((to * 4) + (min (la + 1) dp)) * 5) + cl))) (dD ((((fr * 4) + la) * 5) + j)) = (-1) from if_pos zc_14)) ?_
          refine lv_if_ne (tgt := 156) hx hb dX2_tryLine_115 (by decide) (fun _ => ?_) (fun c9 => absurd c9 (by decide))
          refine lv_iinc (v := iI (j + 1)) (lv' := [(7, .int (iI (j + 1))), (11, .int (iI ((dL ((((to * 4) + (min (la + 1) dp)) * 5) + cl)) + 1))), (9, .long (lI (((ownZ sd (fg to)) + (pnZ cl j (fg fr) (fg to))) + (dD ((((to * 4) + (min (la + 1) dp)) * 5) + cl))))), (8, .int (iI ((((fr * 4) + la) * 5) + j))), (6, .int (iI ((((to * 4) + (min (la + 1) dp)) * 5) + cl))), (4, .long (lI (ownZ sd (fg to)))), (0, .ref ln), (1, .int (iI fr)), (2, .int (iI to)), (3, .int (iI la))]) hx hb dX2_tryLine_156 hl (k := 3) rfl (iI_add _ _) (by decide) rfl (fun ls hl => ?_)
          refine lv_goto (tgt := 30) hx hb dX2_tryLine_159 (by decide) ?_
          exact ih_1 ((j + 1), dD, dL, dE) ⟨(show 0 ≤ (j + 1) ∧ (j + 1) ≤ 5 from (by omega)), (show Ro dD fD (((fr * 4) + la) * 5) (j + 1) from (Ro_k oD)), (show Ro dL fL (((fr * 4) + la) * 5) (j + 1) from (Ro_k oL)), (show Ro dE fE (((fr * 4) + la) * 5) (j + 1) from (Ro_k oE)), (show Ri dD (((fr * 4) + la) * 5) (j + 1) (fun a => tlD (fD ((((fr * 4) + la) * 5) + a)) (fL ((((fr * 4) + la) * 5) + a)) ((ownZ sd (fg to) + pnZ cl a (fg fr) (fg to)) + fD ((((to * 4) + (min (la + 1) dp)) * 5) + cl)) (fL ((((to * 4) + (min (la + 1) dp)) * 5) + cl) + 1)) from (Ri_k iD (by have q1 := oD ((((to * 4) + (min (la + 1) dp)) * 5) + cl) (by omega); have q2 := oL ((((to * 4) + (min (la + 1) dp)) * 5) + cl) (by omega); have q3 := oD ((((fr * 4) + la) * 5) + j) (by omega); have q4 := oL ((((fr * 4) + la) * 5) + j) (by omega); have q5 := oE ((((fr * 4) + la) * 5) + j) (by omega); show _ = tlD _ _ _ _; unfold tlD; rw [if_neg (by omega)]; omega))), (show Ri dL (((fr * 4) + la) * 5) (j + 1) (fun a => tlL (fD ((((fr * 4) + la) * 5) + a)) (fL ((((fr * 4) + la) * 5) + a)) ((ownZ sd (fg to) + pnZ cl a (fg fr) (fg to)) + fD ((((to * 4) + (min (la + 1) dp)) * 5) + cl)) (fL ((((to * 4) + (min (la + 1) dp)) * 5) + cl) + 1)) from (Ri_k iL (by have q1 := oD ((((to * 4) + (min (la + 1) dp)) * 5) + cl) (by omega); have q2 := oL ((((to * 4) + (min (la + 1) dp)) * 5) + cl) (by omega); have q3 := oD ((((fr * 4) + la) * 5) + j) (by omega); have q4 := oL ((((fr * 4) + la) * 5) + j) (by omega); have q5 := oE ((((fr * 4) + la) * 5) + j) (by omega); show _ = tlL _ _ _ _; unfold tlL; rw [if_neg (by omega)]; omega))), (show Ri dE (((fr * 4) + la) * 5) (j + 1) (fun a => tlE (fD ((((fr * 4) + la) * 5) + a)) (fL ((((fr * 4) + la) * 5) + a)) (fE ((((fr * 4) + la) * 5) + a)) ((ownZ sd (fg to) + pnZ cl a (fg fr) (fg to)) + fD ((((to * 4) + (min (la + 1) dp)) * 5) + cl)) (fL ((((to * 4) + (min (la + 1) dp)) * 5) + cl) + 1) to) from (Ri_k iE (by have q1 := oD ((((to * 4) + (min (la + 1) dp)) * 5) + cl) (by omega); have q2 := oL ((((to * 4) + (min (la + 1) dp)) * 5) + cl) (by omega); have q3 := oD ((((fr * 4) + la) * 5) + j) (by omega); have q4 := oL ((((fr * 4) + la) * 5) + j) (by omega); have q5 := oE ((((fr * 4) + la) * 5) + j) (by omega); show _ = tlE _ _ _ _ _ _; unfold tlE; rw [if_neg (by omega)]; omega))), (show Bd (-1) 1099511627776 dD from bD9), (show Bd 0 1000 dL from bL9), (show Bd (-1) 48 dE from bE9)⟩ (by first | omega | (dsimp only; omega)) _ _ _ (lv_sub hl [0, 4, 5, 6, 7, 8, 9] rfl) (bd_to rfl B)
        · refine lv_seti (y := iI 0) (congrArg iI (show cmpZ (((ownZ sd (fg to)) + (pnZ cl j (fg fr) (fg to))) + (dD ((((to * 4) + (min (la + 1) dp)) * 5) + cl))) (dD ((((fr * 4) + la) * 5) + j)) = 0 from (if_neg (by omega)).trans (if_pos zc_14))) ?_
          refine lv_if_ne (tgt := 156) hx hb dX2_tryLine_115 (by decide) (fun c9 => absurd c9 (by decide)) (fun _ => ?_)
          refine lv_iload hx hb dX2_tryLine_118 (lv_at hl 0 rfl) ?_
          refine lv_aload_n hx hb dX2_tryLine_120 rfl (lv_at hl 6 rfl) ?_
          refine x_get (ci := 2) (C := RX2) (T := TX2) (N := 13) (v := .ref bL) B 3 rfl rfl in_X2 11 (by decide) mw_141 (fun _ h9 => h9) rfl dX2_tryLine_121 ?_
          refine lv_iload hx hb dX2_tryLine_124 (lv_at hl 2 rfl) ?_
          refine x_iald' (f := dL) (z := ((((fr * 4) + la) * 5) + j)) B 1 rfl (by omega) dX2_tryLine_126 ?_
          have z_15 : 0 ≤ (dL ((((fr * 4) + la) * 5) + j)) ∧ (dL ((((fr * 4) + la) * 5) + j)) ≤ 1000 := bL9 ((((fr * 4) + la) * 5) + j)
          refine lv_icmp_ge (tgt := 156) hx hb dX2_tryLine_127 (by decide) (fun c_16 => ?_) (fun c_16 => ?_)
          · have zc_16 : (dL ((((fr * 4) + la) * 5) + j)) ≤ ((dL ((((to * 4) + (min (la + 1) dp)) * 5) + cl)) + 1) := jle (a := (dL ((((fr * 4) + la) * 5) + j))) (b := ((dL ((((to * 4) + (min (la + 1) dp)) * 5) + cl)) + 1)) (by omega) (by omega) c_16
            refine lv_iinc (v := iI (j + 1)) (lv' := [(7, .int (iI (j + 1))), (11, .int (iI ((dL ((((to * 4) + (min (la + 1) dp)) * 5) + cl)) + 1))), (9, .long (lI (((ownZ sd (fg to)) + (pnZ cl j (fg fr) (fg to))) + (dD ((((to * 4) + (min (la + 1) dp)) * 5) + cl))))), (8, .int (iI ((((fr * 4) + la) * 5) + j))), (6, .int (iI ((((to * 4) + (min (la + 1) dp)) * 5) + cl))), (4, .long (lI (ownZ sd (fg to)))), (0, .ref ln), (1, .int (iI fr)), (2, .int (iI to)), (3, .int (iI la))]) hx hb dX2_tryLine_156 hl (k := 3) rfl (iI_add _ _) (by decide) rfl (fun ls hl => ?_)
            refine lv_goto (tgt := 30) hx hb dX2_tryLine_159 (by decide) ?_
            exact ih_1 ((j + 1), dD, dL, dE) ⟨(show 0 ≤ (j + 1) ∧ (j + 1) ≤ 5 from (by omega)), (show Ro dD fD (((fr * 4) + la) * 5) (j + 1) from (Ro_k oD)), (show Ro dL fL (((fr * 4) + la) * 5) (j + 1) from (Ro_k oL)), (show Ro dE fE (((fr * 4) + la) * 5) (j + 1) from (Ro_k oE)), (show Ri dD (((fr * 4) + la) * 5) (j + 1) (fun a => tlD (fD ((((fr * 4) + la) * 5) + a)) (fL ((((fr * 4) + la) * 5) + a)) ((ownZ sd (fg to) + pnZ cl a (fg fr) (fg to)) + fD ((((to * 4) + (min (la + 1) dp)) * 5) + cl)) (fL ((((to * 4) + (min (la + 1) dp)) * 5) + cl) + 1)) from (Ri_k iD (by have q1 := oD ((((to * 4) + (min (la + 1) dp)) * 5) + cl) (by omega); have q2 := oL ((((to * 4) + (min (la + 1) dp)) * 5) + cl) (by omega); have q3 := oD ((((fr * 4) + la) * 5) + j) (by omega); have q4 := oL ((((fr * 4) + la) * 5) + j) (by omega); have q5 := oE ((((fr * 4) + la) * 5) + j) (by omega); show _ = tlD _ _ _ _; unfold tlD; rw [if_neg (by omega)]; omega))), (show Ri dL (((fr * 4) + la) * 5) (j + 1) (fun a => tlL (fD ((((fr * 4) + la) * 5) + a)) (fL ((((fr * 4) + la) * 5) + a)) ((ownZ sd (fg to) + pnZ cl a (fg fr) (fg to)) + fD ((((to * 4) + (min (la + 1) dp)) * 5) + cl)) (fL ((((to * 4) + (min (la + 1) dp)) * 5) + cl) + 1)) from (Ri_k iL (by have q1 := oD ((((to * 4) + (min (la + 1) dp)) * 5) + cl) (by omega); have q2 := oL ((((to * 4) + (min (la + 1) dp)) * 5) + cl) (by omega); have q3 := oD ((((fr * 4) + la) * 5) + j) (by omega); have q4 := oL ((((fr * 4) + la) * 5) + j) (by omega); have q5 := oE ((((fr * 4) + la) * 5) + j) (by omega); show _ = tlL _ _ _ _; unfold tlL; rw [if_neg (by omega)]; omega))), (show Ri dE (((fr * 4) + la) * 5) (j + 1) (fun a => tlE (fD ((((fr * 4) + la) * 5) + a)) (fL ((((fr * 4) + la) * 5) + a)) (fE ((((fr * 4) + la) * 5) + a)) ((ownZ sd (fg to) + pnZ cl a (fg fr) (fg to)) + fD ((((to * 4) + (min (la + 1) dp)) * 5) + cl)) (fL ((((to * 4) + (min (la + 1) dp)) * 5) + cl) + 1) to) from (Ri_k iE (by have q1 := oD ((((to * 4) + (min (la + 1) dp)) * 5) + cl) (by omega); have q2 := oL ((((to * 4) + (min (la + 1) dp)) * 5) + cl) (by omega); have q3 := oD ((((fr * 4) + la) * 5) + j) (by omega); have q4 := oL ((((fr * 4) + la) * 5) + j) (by omega); have q5 := oE ((((fr * 4) + la) * 5) + j) (by omega); show _ = tlE _ _ _ _ _ _; unfold tlE; rw [if_neg (by omega)]; omega))), (show Bd (-1) 1099511627776 dD from bD9), (show Bd 0 1000 dL from bL9), (show Bd (-1) 48 dE from bE9)⟩ (by first | omega | (dsimp only; omega)) _ _ _ (lv_sub hl [0, 4, 5, 6, 7, 8, 9] rfl) (bd_to rfl B)
          · have zc_16 : ((dL ((((to * 4) + (min (la + 1) dp)) * 5) + cl)) + 1) < (dL ((((fr * 4) + la) * 5) + j)) := jnle (a := (dL ((((fr * 4) + la) * 5) + j))) (b := ((dL ((((to * 4) + (min (la + 1) dp)) * 5) + cl)) + 1)) (by omega) (by omega) c_16
            refine lv_aload_n hx hb dX2_tryLine_130 rfl (lv_at hl 6 rfl) ?_
            refine x_get (ci := 2) (C := RX2) (T := TX2) (N := 13) (v := .ref bD) B 3 rfl rfl in_X2 10 (by decide) mw_140 (fun _ h9 => h9) rfl dX2_tryLine_131 ?_
            refine lv_iload hx hb dX2_tryLine_134 (lv_at hl 2 rfl) ?_
            refine lv_lload hx hb dX2_tryLine_136 (lv_at hl 1 rfl) ?_
            refine x_last' (f := dD) (z := ((((fr * 4) + la) * 5) + j)) (v := (((ownZ sd (fg to)) + (pnZ cl j (fg fr) (fg to))) + (dD ((((to * 4) + (min (la + 1) dp)) * 5) + cl)))) B 0 rfl (by omega) dX2_tryLine_138 (fun H locs B => ?_)
            have b_17 : Bd (-1) 1099511627776 (uz dD ((((fr * 4) + la) * 5) + j) (((ownZ sd (fg to)) + (pnZ cl j (fg fr) (fg to))) + (dD ((((to * 4) + (min (la + 1) dp)) * 5) + cl)))) := Bd_uz bD9 (by omega)
            have B := bd_to (ws' := [(bD, .inl (k 2, 980, .inr (.inl (fun i9 : Nat => lI ((uz dD ((((fr * 4) + la) * 5) + j) (((ownZ sd (fg to)) + (pnZ cl j (fg fr) (fg to))) + (dD ((((to * 4) + (min (la + 1) dp)) * 5) + cl)))) i9))))), (bL, .inl (k 0, 980, .inl (fun i9 : Nat => iI (dL i9)))), (bE, .inl (k 0, 980, .inl (fun i9 : Nat => iI (dE i9)))), (ln, .inr (2, [.int (iI n), .ref wa, .ref ga, .ref wt, .ref wo, .int (iI wd), .int (iI nw), .int (iI dp), .int (iI sd), .int (iI cl), .ref bD, .ref bL, .ref bE])), (ga, .inl (k 0, 49, .inl (fun i9 : Nat => iI (fg i9))))]) rfl B
            refine lv_aload_n hx hb dX2_tryLine_139 rfl (lv_at hl 6 rfl) ?_
            refine x_get (ci := 2) (C := RX2) (T := TX2) (N := 13) (v := .ref bL) B 3 rfl rfl in_X2 11 (by decide) mw_141 (fun _ h9 => h9) rfl dX2_tryLine_140 ?_
            refine lv_iload hx hb dX2_tryLine_143 (lv_at hl 2 rfl) ?_
            refine lv_iload hx hb dX2_tryLine_145 (lv_at hl 0 rfl) ?_
            refine x_iast' (f := dL) (z := ((((fr * 4) + la) * 5) + j)) (v := ((dL ((((to * 4) + (min (la + 1) dp)) * 5) + cl)) + 1)) B 1 rfl (by omega) dX2_tryLine_147 (fun H locs B => ?_)
            have b_18 : Bd 0 1000 (uz dL ((((fr * 4) + la) * 5) + j) ((dL ((((to * 4) + (min (la + 1) dp)) * 5) + cl)) + 1)) := Bd_uz bL9 (by omega)
            have B := bd_to (ws' := [(bD, .inl (k 2, 980, .inr (.inl (fun i9 : Nat => lI ((uz dD ((((fr * 4) + la) * 5) + j) (((ownZ sd (fg to)) + (pnZ cl j (fg fr) (fg to))) + (dD ((((to * 4) + (min (la + 1) dp)) * 5) + cl)))) i9))))), (bL, .inl (k 0, 980, .inl (fun i9 : Nat => iI ((uz dL ((((fr * 4) + la) * 5) + j) ((dL ((((to * 4) + (min (la + 1) dp)) * 5) + cl)) + 1)) i9)))), (bE, .inl (k 0, 980, .inl (fun i9 : Nat => iI (dE i9)))), (ln, .inr (2, [.int (iI n), .ref wa, .ref ga, .ref wt, .ref wo, .int (iI wd), .int (iI nw), .int (iI dp), .int (iI sd), .int (iI cl), .ref bD, .ref bL, .ref bE])), (ga, .inl (k 0, 49, .inl (fun i9 : Nat => iI (fg i9))))]) rfl B
            refine lv_aload_n hx hb dX2_tryLine_148 rfl (lv_at hl 6 rfl) ?_
            refine x_get (ci := 2) (C := RX2) (T := TX2) (N := 13) (v := .ref bE) B 3 rfl rfl in_X2 12 (by decide) mw_142 (fun _ h9 => h9) rfl dX2_tryLine_149 ?_
            refine lv_iload hx hb dX2_tryLine_152 (lv_at hl 2 rfl) ?_
            refine lv_iload_n hx hb dX2_tryLine_154 rfl (lv_at hl 8 rfl) ?_
            refine x_iast' (f := dE) (z := ((((fr * 4) + la) * 5) + j)) (v := to) B 2 rfl (by omega) dX2_tryLine_155 (fun H locs B => ?_)
            have b_19 : Bd (-1) 48 (uz dE ((((fr * 4) + la) * 5) + j) to) := Bd_uz bE9 (by omega)
            have B := bd_to (ws' := [(bD, .inl (k 2, 980, .inr (.inl (fun i9 : Nat => lI ((uz dD ((((fr * 4) + la) * 5) + j) (((ownZ sd (fg to)) + (pnZ cl j (fg fr) (fg to))) + (dD ((((to * 4) + (min (la + 1) dp)) * 5) + cl)))) i9))))), (bL, .inl (k 0, 980, .inl (fun i9 : Nat => iI ((uz dL ((((fr * 4) + la) * 5) + j) ((dL ((((to * 4) + (min (la + 1) dp)) * 5) + cl)) + 1)) i9)))), (bE, .inl (k 0, 980, .inl (fun i9 : Nat => iI ((uz dE ((((fr * 4) + la) * 5) + j) to) i9)))), (ln, .inr (2, [.int (iI n), .ref wa, .ref ga, .ref wt, .ref wo, .int (iI wd), .int (iI nw), .int (iI dp), .int (iI sd), .int (iI cl), .ref bD, .ref bL, .ref bE])), (ga, .inl (k 0, 49, .inl (fun i9 : Nat => iI (fg i9))))]) rfl B
            refine lv_iinc (v := iI (j + 1)) (lv' := [(7, .int (iI (j + 1))), (11, .int (iI ((dL ((((to * 4) + (min (la + 1) dp)) * 5) + cl)) + 1))), (9, .long (lI (((ownZ sd (fg to)) + (pnZ cl j (fg fr) (fg to))) + (dD ((((to * 4) + (min (la + 1) dp)) * 5) + cl))))), (8, .int (iI ((((fr * 4) + la) * 5) + j))), (6, .int (iI ((((to * 4) + (min (la + 1) dp)) * 5) + cl))), (4, .long (lI (ownZ sd (fg to)))), (0, .ref ln), (1, .int (iI fr)), (2, .int (iI to)), (3, .int (iI la))]) hx hb dX2_tryLine_156 hl (k := 3) rfl (iI_add _ _) (by decide) rfl (fun ls hl => ?_)
            refine lv_goto (tgt := 30) hx hb dX2_tryLine_159 (by decide) ?_
            exact ih_1 ((j + 1), (uz dD ((((fr * 4) + la) * 5) + j) (((ownZ sd (fg to)) + (pnZ cl j (fg fr) (fg to))) + (dD ((((to * 4) + (min (la + 1) dp)) * 5) + cl)))), (uz dL ((((fr * 4) + la) * 5) + j) ((dL ((((to * 4) + (min (la + 1) dp)) * 5) + cl)) + 1)), (uz dE ((((fr * 4) + la) * 5) + j) to)) ⟨(show 0 ≤ (j + 1) ∧ (j + 1) ≤ 5 from (by omega)), (show Ro (uz dD ((((fr * 4) + la) * 5) + j) (((ownZ sd (fg to)) + (pnZ cl j (fg fr) (fg to))) + (dD ((((to * 4) + (min (la + 1) dp)) * 5) + cl)))) fD (((fr * 4) + la) * 5) (j + 1) from (Ro_s oD (by omega) rfl)), (show Ro (uz dL ((((fr * 4) + la) * 5) + j) ((dL ((((to * 4) + (min (la + 1) dp)) * 5) + cl)) + 1)) fL (((fr * 4) + la) * 5) (j + 1) from (Ro_s oL (by omega) rfl)), (show Ro (uz dE ((((fr * 4) + la) * 5) + j) to) fE (((fr * 4) + la) * 5) (j + 1) from (Ro_s oE (by omega) rfl)), (show Ri (uz dD ((((fr * 4) + la) * 5) + j) (((ownZ sd (fg to)) + (pnZ cl j (fg fr) (fg to))) + (dD ((((to * 4) + (min (la + 1) dp)) * 5) + cl)))) (((fr * 4) + la) * 5) (j + 1) (fun a => tlD (fD ((((fr * 4) + la) * 5) + a)) (fL ((((fr * 4) + la) * 5) + a)) ((ownZ sd (fg to) + pnZ cl a (fg fr) (fg to)) + fD ((((to * 4) + (min (la + 1) dp)) * 5) + cl)) (fL ((((to * 4) + (min (la + 1) dp)) * 5) + cl) + 1)) from (Ri_s iD rfl (by have q1 := oD ((((to * 4) + (min (la + 1) dp)) * 5) + cl) (by omega); have q2 := oL ((((to * 4) + (min (la + 1) dp)) * 5) + cl) (by omega); have q3 := oD ((((fr * 4) + la) * 5) + j) (by omega); have q4 := oL ((((fr * 4) + la) * 5) + j) (by omega); have q5 := oE ((((fr * 4) + la) * 5) + j) (by omega); show _ = tlD _ _ _ _; unfold tlD; rw [if_pos (by omega)]; omega))), (show Ri (uz dL ((((fr * 4) + la) * 5) + j) ((dL ((((to * 4) + (min (la + 1) dp)) * 5) + cl)) + 1)) (((fr * 4) + la) * 5) (j + 1) (fun a => tlL (fD ((((fr * 4) + la) * 5) + a)) (fL ((((fr * 4) + la) * 5) + a)) ((ownZ sd (fg to) + pnZ cl a (fg fr) (fg to)) + fD ((((to * 4) + (min (la + 1) dp)) * 5) + cl)) (fL ((((to * 4) + (min (la + 1) dp)) * 5) + cl) + 1)) from (Ri_s iL rfl (by have q1 := oD ((((to * 4) + (min (la + 1) dp)) * 5) + cl) (by omega); have q2 := oL ((((to * 4) + (min (la + 1) dp)) * 5) + cl) (by omega); have q3 := oD ((((fr * 4) + la) * 5) + j) (by omega); have q4 := oL ((((fr * 4) + la) * 5) + j) (by omega); have q5 := oE ((((fr * 4) + la) * 5) + j) (by omega); show _ = tlL _ _ _ _; unfold tlL; rw [if_pos (by omega)]; omega))), (show Ri (uz dE ((((fr * 4) + la) * 5) + j) to) (((fr * 4) + la) * 5) (j + 1) (fun a => tlE (fD ((((fr * 4) + la) * 5) + a)) (fL ((((fr * 4) + la) * 5) + a)) (fE ((((fr * 4) + la) * 5) + a)) ((ownZ sd (fg to) + pnZ cl a (fg fr) (fg to)) + fD ((((to * 4) + (min (la + 1) dp)) * 5) + cl)) (fL ((((to * 4) + (min (la + 1) dp)) * 5) + cl) + 1) to) from (Ri_s iE rfl (by have q1 := oD ((((to * 4) + (min (la + 1) dp)) * 5) + cl) (by omega); have q2 := oL ((((to * 4) + (min (la + 1) dp)) * 5) + cl) (by omega); have q3 := oD ((((fr * 4) + la) * 5) + j) (by omega); have q4 := oL ((((fr * 4) + la) * 5) + j) (by omega); have q5 := oE ((((fr * 4) + la) * 5) + j) (by omega); show _ = tlE _ _ _ _ _ _; unfold tlE; rw [if_pos (by omega)]))), (show Bd (-1) 1099511627776 (uz dD ((((fr * 4) + la) * 5) + j) (((ownZ sd (fg to)) + (pnZ cl j (fg fr) (fg to))) + (dD ((((to * 4) + (min (la + 1) dp)) * 5) + cl)))) from b_17), (show Bd 0 1000 (uz dL ((((fr * 4) + la) * 5) + j) ((dL ((((to * 4) + (min (la + 1) dp)) * 5) + cl)) + 1)) from b_18), (show Bd (-1) 48 (uz dE ((((fr * 4) + la) * 5) + j) to) from b_19)⟩ (by first | omega | (dsimp only; omega)) _ _ _ (lv_sub hl [0, 4, 5, 6, 7, 8, 9] rfl) (bd_to rfl B)
        · refine lv_seti (y := iI 1) (congrArg iI (show cmpZ (((ownZ sd (fg to)) + (pnZ cl j (fg fr) (fg to))) + (dD ((((to * 4) + (min (la + 1) dp)) * 5) + cl))) (dD ((((fr * 4) + la) * 5) + j)) = 1 from (if_neg (by omega)).trans (if_neg (by omega)))) ?_
          refine lv_if_ne (tgt := 156) hx hb dX2_tryLine_115 (by decide) (fun _ => ?_) (fun c9 => absurd c9 (by decide))
          refine lv_iinc (v := iI (j + 1)) (lv' := [(7, .int (iI (j + 1))), (11, .int (iI ((dL ((((to * 4) + (min (la + 1) dp)) * 5) + cl)) + 1))), (9, .long (lI (((ownZ sd (fg to)) + (pnZ cl j (fg fr) (fg to))) + (dD ((((to * 4) + (min (la + 1) dp)) * 5) + cl))))), (8, .int (iI ((((fr * 4) + la) * 5) + j))), (6, .int (iI ((((to * 4) + (min (la + 1) dp)) * 5) + cl))), (4, .long (lI (ownZ sd (fg to)))), (0, .ref ln), (1, .int (iI fr)), (2, .int (iI to)), (3, .int (iI la))]) hx hb dX2_tryLine_156 hl (k := 3) rfl (iI_add _ _) (by decide) rfl (fun ls hl => ?_)
          refine lv_goto (tgt := 30) hx hb dX2_tryLine_159 (by decide) ?_
          exact ih_1 ((j + 1), dD, dL, dE) ⟨(show 0 ≤ (j + 1) ∧ (j + 1) ≤ 5 from (by omega)), (show Ro dD fD (((fr * 4) + la) * 5) (j + 1) from (Ro_k oD)), (show Ro dL fL (((fr * 4) + la) * 5) (j + 1) from (Ro_k oL)), (show Ro dE fE (((fr * 4) + la) * 5) (j + 1) from (Ro_k oE)), (show Ri dD (((fr * 4) + la) * 5) (j + 1) (fun a => tlD (fD ((((fr * 4) + la) * 5) + a)) (fL ((((fr * 4) + la) * 5) + a)) ((ownZ sd (fg to) + pnZ cl a (fg fr) (fg to)) + fD ((((to * 4) + (min (la + 1) dp)) * 5) + cl)) (fL ((((to * 4) + (min (la + 1) dp)) * 5) + cl) + 1)) from (Ri_k iD (by have q1 := oD ((((to * 4) + (min (la + 1) dp)) * 5) + cl) (by omega); have q2 := oL ((((to * 4) + (min (la + 1) dp)) * 5) + cl) (by omega); have q3 := oD ((((fr * 4) + la) * 5) + j) (by omega); have q4 := oL ((((fr * 4) + la) * 5) + j) (by omega); have q5 := oE ((((fr * 4) + la) * 5) + j) (by omega); show _ = tlD _ _ _ _; unfold tlD; rw [if_neg (by omega)]; omega))), (show Ri dL (((fr * 4) + la) * 5) (j + 1) (fun a => tlL (fD ((((fr * 4) + la) * 5) + a)) (fL ((((fr * 4) + la) * 5) + a)) ((ownZ sd (fg to) + pnZ cl a (fg fr) (fg to)) + fD ((((to * 4) + (min (la + 1) dp)) * 5) + cl)) (fL ((((to * 4) + (min (la + 1) dp)) * 5) + cl) + 1)) from (Ri_k iL (by have q1 := oD ((((to * 4) + (min (la + 1) dp)) * 5) + cl) (by omega); have q2 := oL ((((to * 4) + (min (la + 1) dp)) * 5) + cl) (by omega); have q3 := oD ((((fr * 4) + la) * 5) + j) (by omega); have q4 := oL ((((fr * 4) + la) * 5) + j) (by omega); have q5 := oE ((((fr * 4) + la) * 5) + j) (by omega); show _ = tlL _ _ _ _; unfold tlL; rw [if_neg (by omega)]; omega))), (show Ri dE (((fr * 4) + la) * 5) (j + 1) (fun a => tlE (fD ((((fr * 4) + la) * 5) + a)) (fL ((((fr * 4) + la) * 5) + a)) (fE ((((fr * 4) + la) * 5) + a)) ((ownZ sd (fg to) + pnZ cl a (fg fr) (fg to)) + fD ((((to * 4) + (min (la + 1) dp)) * 5) + cl)) (fL ((((to * 4) + (min (la + 1) dp)) * 5) + cl) + 1) to) from (Ri_k iE (by have q1 := oD ((((to * 4) + (min (la + 1) dp)) * 5) + cl) (by omega); have q2 := oL ((((to * 4) + (min (la + 1) dp)) * 5) + cl) (by omega); have q3 := oD ((((fr * 4) + la) * 5) + j) (by omega); have q4 := oL ((((fr * 4) + la) * 5) + j) (by omega); have q5 := oE ((((fr * 4) + la) * 5) + j) (by omega); show _ = tlE _ _ _ _ _ _; unfold tlE; rw [if_neg (by omega)]; omega))), (show Bd (-1) 1099511627776 dD from bD9), (show Bd 0 1000 dL from bL9), (show Bd (-1) 48 dE from bE9)⟩ (by first | omega | (dsimp only; omega)) _ _ _ (lv_sub hl [0, 4, 5, 6, 7, 8, 9] rfl) (bd_to rfl B)
      · refine lv_seti (y := iI 1) (congrArg iI (show cmpZ (((ownZ sd (fg to)) + (pnZ cl j (fg fr) (fg to))) + (dD ((((to * 4) + (min (la + 1) dp)) * 5) + cl))) (dD ((((fr * 4) + la) * 5) + j)) = 1 from (if_neg (by omega)).trans (if_neg (by omega)))) ?_
        refine lv_if_lt (tgt := 130) hx hb dX2_tryLine_102 (by decide) (fun c9 => absurd c9 (by decide)) (fun _ => ?_)
        refine lv_lload hx hb dX2_tryLine_105 (lv_at hl 1 rfl) ?_
        refine lv_aload_n hx hb dX2_tryLine_107 rfl (lv_at hl 6 rfl) ?_
        refine x_get (ci := 2) (C := RX2) (T := TX2) (N := 13) (v := .ref bD) B 3 rfl rfl in_X2 10 (by decide) mw_140 (fun _ h9 => h9) rfl dX2_tryLine_108 ?_
        refine lv_iload hx hb dX2_tryLine_111 (lv_at hl 2 rfl) ?_
        refine x_lald' (f := dD) (z := ((((fr * 4) + la) * 5) + j)) B 0 rfl (by omega) dX2_tryLine_113 ?_
        have z_20 : (-1) ≤ (dD ((((fr * 4) + la) * 5) + j)) ∧ (dD ((((fr * 4) + la) * 5) + j)) ≤ 1099511627776 := bD9 ((((fr * 4) + la) * 5) + j)
        refine y_lcmp B (a := (((ownZ sd (fg to)) + (pnZ cl j (fg fr) (fg to))) + (dD ((((to * 4) + (min (la + 1) dp)) * 5) + cl)))) (b := (dD ((((fr * 4) + la) * 5) + j))) (by omega) (by omega) dX2_tryLine_114 ?_
        rcases (show (((ownZ sd (fg to)) + (pnZ cl j (fg fr) (fg to))) + (dD ((((to * 4) + (min (la + 1) dp)) * 5) + cl))) < (dD ((((fr * 4) + la) * 5) + j)) ∨ (((ownZ sd (fg to)) + (pnZ cl j (fg fr) (fg to))) + (dD ((((to * 4) + (min (la + 1) dp)) * 5) + cl))) = (dD ((((fr * 4) + la) * 5) + j)) ∨ (dD ((((fr * 4) + la) * 5) + j)) < (((ownZ sd (fg to)) + (pnZ cl j (fg fr) (fg to))) + (dD ((((to * 4) + (min (la + 1) dp)) * 5) + cl))) by omega) with zc_21 | zc_21 | zc_21
        · refine lv_seti (y := iI (-1)) (congrArg iI (show cmpZ (((ownZ sd (fg to)) + (pnZ cl j (fg fr) (fg to))) + (dD ((((to * 4) + (min (la + 1) dp)) * 5) + cl))) (dD ((((fr * 4) + la) * 5) + j)) = (-1) from if_pos zc_21)) ?_
          refine lv_if_ne (tgt := 156) hx hb dX2_tryLine_115 (by decide) (fun _ => ?_) (fun c9 => absurd c9 (by decide))
          refine lv_iinc (v := iI (j + 1)) (lv' := [(7, .int (iI (j + 1))), (11, .int (iI ((dL ((((to * 4) + (min (la + 1) dp)) * 5) + cl)) + 1))), (9, .long (lI (((ownZ sd (fg to)) + (pnZ cl j (fg fr) (fg to))) + (dD ((((to * 4) + (min (la + 1) dp)) * 5) + cl))))), (8, .int (iI ((((fr * 4) + la) * 5) + j))), (6, .int (iI ((((to * 4) + (min (la + 1) dp)) * 5) + cl))), (4, .long (lI (ownZ sd (fg to)))), (0, .ref ln), (1, .int (iI fr)), (2, .int (iI to)), (3, .int (iI la))]) hx hb dX2_tryLine_156 hl (k := 3) rfl (iI_add _ _) (by decide) rfl (fun ls hl => ?_)
          refine lv_goto (tgt := 30) hx hb dX2_tryLine_159 (by decide) ?_
          exact ih_1 ((j + 1), dD, dL, dE) ⟨(show 0 ≤ (j + 1) ∧ (j + 1) ≤ 5 from (by omega)), (show Ro dD fD (((fr * 4) + la) * 5) (j + 1) from (Ro_k oD)), (show Ro dL fL (((fr * 4) + la) * 5) (j + 1) from (Ro_k oL)), (show Ro dE fE (((fr * 4) + la) * 5) (j + 1) from (Ro_k oE)), (show Ri dD (((fr * 4) + la) * 5) (j + 1) (fun a => tlD (fD ((((fr * 4) + la) * 5) + a)) (fL ((((fr * 4) + la) * 5) + a)) ((ownZ sd (fg to) + pnZ cl a (fg fr) (fg to)) + fD ((((to * 4) + (min (la + 1) dp)) * 5) + cl)) (fL ((((to * 4) + (min (la + 1) dp)) * 5) + cl) + 1)) from (Ri_k iD (by have q1 := oD ((((to * 4) + (min (la + 1) dp)) * 5) + cl) (by omega); have q2 := oL ((((to * 4) + (min (la + 1) dp)) * 5) + cl) (by omega); have q3 := oD ((((fr * 4) + la) * 5) + j) (by omega); have q4 := oL ((((fr * 4) + la) * 5) + j) (by omega); have q5 := oE ((((fr * 4) + la) * 5) + j) (by omega); show _ = tlD _ _ _ _; unfold tlD; rw [if_neg (by omega)]; omega))), (show Ri dL (((fr * 4) + la) * 5) (j + 1) (fun a => tlL (fD ((((fr * 4) + la) * 5) + a)) (fL ((((fr * 4) + la) * 5) + a)) ((ownZ sd (fg to) + pnZ cl a (fg fr) (fg to)) + fD ((((to * 4) + (min (la + 1) dp)) * 5) + cl)) (fL ((((to * 4) + (min (la + 1) dp)) * 5) + cl) + 1)) from (Ri_k iL (by have q1 := oD ((((to * 4) + (min (la + 1) dp)) * 5) + cl) (by omega); have q2 := oL ((((to * 4) + (min (la + 1) dp)) * 5) + cl) (by omega); have q3 := oD ((((fr * 4) + la) * 5) + j) (by omega); have q4 := oL ((((fr * 4) + la) * 5) + j) (by omega); have q5 := oE ((((fr * 4) + la) * 5) + j) (by omega); show _ = tlL _ _ _ _; unfold tlL; rw [if_neg (by omega)]; omega))), (show Ri dE (((fr * 4) + la) * 5) (j + 1) (fun a => tlE (fD ((((fr * 4) + la) * 5) + a)) (fL ((((fr * 4) + la) * 5) + a)) (fE ((((fr * 4) + la) * 5) + a)) ((ownZ sd (fg to) + pnZ cl a (fg fr) (fg to)) + fD ((((to * 4) + (min (la + 1) dp)) * 5) + cl)) (fL ((((to * 4) + (min (la + 1) dp)) * 5) + cl) + 1) to) from (Ri_k iE (by have q1 := oD ((((to * 4) + (min (la + 1) dp)) * 5) + cl) (by omega); have q2 := oL ((((to * 4) + (min (la + 1) dp)) * 5) + cl) (by omega); have q3 := oD ((((fr * 4) + la) * 5) + j) (by omega); have q4 := oL ((((fr * 4) + la) * 5) + j) (by omega); have q5 := oE ((((fr * 4) + la) * 5) + j) (by omega); show _ = tlE _ _ _ _ _ _; unfold tlE; rw [if_neg (by omega)]; omega))), (show Bd (-1) 1099511627776 dD from bD9), (show Bd 0 1000 dL from bL9), (show Bd (-1) 48 dE from bE9)⟩ (by first | omega | (dsimp only; omega)) _ _ _ (lv_sub hl [0, 4, 5, 6, 7, 8, 9] rfl) (bd_to rfl B)
        · refine lv_seti (y := iI 0) (congrArg iI (show cmpZ (((ownZ sd (fg to)) + (pnZ cl j (fg fr) (fg to))) + (dD ((((to * 4) + (min (la + 1) dp)) * 5) + cl))) (dD ((((fr * 4) + la) * 5) + j)) = 0 from (if_neg (by omega)).trans (if_pos zc_21))) ?_
          refine lv_if_ne (tgt := 156) hx hb dX2_tryLine_115 (by decide) (fun c9 => absurd c9 (by decide)) (fun _ => ?_)
          refine lv_iload hx hb dX2_tryLine_118 (lv_at hl 0 rfl) ?_
          refine lv_aload_n hx hb dX2_tryLine_120 rfl (lv_at hl 6 rfl) ?_
          refine x_get (ci := 2) (C := RX2) (T := TX2) (N := 13) (v := .ref bL) B 3 rfl rfl in_X2 11 (by decide) mw_141 (fun _ h9 => h9) rfl dX2_tryLine_121 ?_
          refine lv_iload hx hb dX2_tryLine_124 (lv_at hl 2 rfl) ?_
          refine x_iald' (f := dL) (z := ((((fr * 4) + la) * 5) + j)) B 1 rfl (by omega) dX2_tryLine_126 ?_
          have z_22 : 0 ≤ (dL ((((fr * 4) + la) * 5) + j)) ∧ (dL ((((fr * 4) + la) * 5) + j)) ≤ 1000 := bL9 ((((fr * 4) + la) * 5) + j)
          refine lv_icmp_ge (tgt := 156) hx hb dX2_tryLine_127 (by decide) (fun c_23 => ?_) (fun c_23 => ?_)
          · have zc_23 : (dL ((((fr * 4) + la) * 5) + j)) ≤ ((dL ((((to * 4) + (min (la + 1) dp)) * 5) + cl)) + 1) := jle (a := (dL ((((fr * 4) + la) * 5) + j))) (b := ((dL ((((to * 4) + (min (la + 1) dp)) * 5) + cl)) + 1)) (by omega) (by omega) c_23
            refine lv_iinc (v := iI (j + 1)) (lv' := [(7, .int (iI (j + 1))), (11, .int (iI ((dL ((((to * 4) + (min (la + 1) dp)) * 5) + cl)) + 1))), (9, .long (lI (((ownZ sd (fg to)) + (pnZ cl j (fg fr) (fg to))) + (dD ((((to * 4) + (min (la + 1) dp)) * 5) + cl))))), (8, .int (iI ((((fr * 4) + la) * 5) + j))), (6, .int (iI ((((to * 4) + (min (la + 1) dp)) * 5) + cl))), (4, .long (lI (ownZ sd (fg to)))), (0, .ref ln), (1, .int (iI fr)), (2, .int (iI to)), (3, .int (iI la))]) hx hb dX2_tryLine_156 hl (k := 3) rfl (iI_add _ _) (by decide) rfl (fun ls hl => ?_)
            refine lv_goto (tgt := 30) hx hb dX2_tryLine_159 (by decide) ?_
            exact ih_1 ((j + 1), dD, dL, dE) ⟨(show 0 ≤ (j + 1) ∧ (j + 1) ≤ 5 from (by omega)), (show Ro dD fD (((fr * 4) + la) * 5) (j + 1) from (Ro_k oD)), (show Ro dL fL (((fr * 4) + la) * 5) (j + 1) from (Ro_k oL)), (show Ro dE fE (((fr * 4) + la) * 5) (j + 1) from (Ro_k oE)), (show Ri dD (((fr * 4) + la) * 5) (j + 1) (fun a => tlD (fD ((((fr * 4) + la) * 5) + a)) (fL ((((fr * 4) + la) * 5) + a)) ((ownZ sd (fg to) + pnZ cl a (fg fr) (fg to)) + fD ((((to * 4) + (min (la + 1) dp)) * 5) + cl)) (fL ((((to * 4) + (min (la + 1) dp)) * 5) + cl) + 1)) from (Ri_k iD (by have q1 := oD ((((to * 4) + (min (la + 1) dp)) * 5) + cl) (by omega); have q2 := oL ((((to * 4) + (min (la + 1) dp)) * 5) + cl) (by omega); have q3 := oD ((((fr * 4) + la) * 5) + j) (by omega); have q4 := oL ((((fr * 4) + la) * 5) + j) (by omega); have q5 := oE ((((fr * 4) + la) * 5) + j) (by omega); show _ = tlD _ _ _ _; unfold tlD; rw [if_neg (by omega)]; omega))), (show Ri dL (((fr * 4) + la) * 5) (j + 1) (fun a => tlL (fD ((((fr * 4) + la) * 5) + a)) (fL ((((fr * 4) + la) * 5) + a)) ((ownZ sd (fg to) + pnZ cl a (fg fr) (fg to)) + fD ((((to * 4) + (min (la + 1) dp)) * 5) + cl)) (fL ((((to * 4) + (min (la + 1) dp)) * 5) + cl) + 1)) from (Ri_k iL (by have q1 := oD ((((to * 4) + (min (la + 1) dp)) * 5) + cl) (by omega); have q2 := oL ((((to * 4) + (min (la + 1) dp)) * 5) + cl) (by omega); have q3 := oD ((((fr * 4) + la) * 5) + j) (by omega); have q4 := oL ((((fr * 4) + la) * 5) + j) (by omega); have q5 := oE ((((fr * 4) + la) * 5) + j) (by omega); show _ = tlL _ _ _ _; unfold tlL; rw [if_neg (by omega)]; omega))), (show Ri dE (((fr * 4) + la) * 5) (j + 1) (fun a => tlE (fD ((((fr * 4) + la) * 5) + a)) (fL ((((fr * 4) + la) * 5) + a)) (fE ((((fr * 4) + la) * 5) + a)) ((ownZ sd (fg to) + pnZ cl a (fg fr) (fg to)) + fD ((((to * 4) + (min (la + 1) dp)) * 5) + cl)) (fL ((((to * 4) + (min (la + 1) dp)) * 5) + cl) + 1) to) from (Ri_k iE (by have q1 := oD ((((to * 4) + (min (la + 1) dp)) * 5) + cl) (by omega); have q2 := oL ((((to * 4) + (min (la + 1) dp)) * 5) + cl) (by omega); have q3 := oD ((((fr * 4) + la) * 5) + j) (by omega); have q4 := oL ((((fr * 4) + la) * 5) + j) (by omega); have q5 := oE ((((fr * 4) + la) * 5) + j) (by omega); show _ = tlE _ _ _ _ _ _; unfold tlE; rw [if_neg (by omega)]; omega))), (show Bd (-1) 1099511627776 dD from bD9), (show Bd 0 1000 dL from bL9), (show Bd (-1) 48 dE from bE9)⟩ (by first | omega | (dsimp only; omega)) _ _ _ (lv_sub hl [0, 4, 5, 6, 7, 8, 9] rfl) (bd_to rfl B)
          · have zc_23 : ((dL ((((to * 4) + (min (la + 1) dp)) * 5) + cl)) + 1) < (dL ((((fr * 4) + la) * 5) + j)) := jnle (a := (dL ((((fr * 4) + la) * 5) + j))) (b := ((dL ((((to * 4) + (min (la + 1) dp)) * 5) + cl)) + 1)) (by omega) (by omega) c_23
            refine lv_aload_n hx hb dX2_tryLine_130 rfl (lv_at hl 6 rfl) ?_
            refine x_get (ci := 2) (C := RX2) (T := TX2) (N := 13) (v := .ref bD) B 3 rfl rfl in_X2 10 (by decide) mw_140 (fun _ h9 => h9) rfl dX2_tryLine_131 ?_
            refine lv_iload hx hb dX2_tryLine_134 (lv_at hl 2 rfl) ?_
            refine lv_lload hx hb dX2_tryLine_136 (lv_at hl 1 rfl) ?_
            refine x_last' (f := dD) (z := ((((fr * 4) + la) * 5) + j)) (v := (((ownZ sd (fg to)) + (pnZ cl j (fg fr) (fg to))) + (dD ((((to * 4) + (min (la + 1) dp)) * 5) + cl)))) B 0 rfl (by omega) dX2_tryLine_138 (fun H locs B => ?_)
            have b_24 : Bd (-1) 1099511627776 (uz dD ((((fr * 4) + la) * 5) + j) (((ownZ sd (fg to)) + (pnZ cl j (fg fr) (fg to))) + (dD ((((to * 4) + (min (la + 1) dp)) * 5) + cl)))) := Bd_uz bD9 (by omega)
            have B := bd_to (ws' := [(bD, .inl (k 2, 980, .inr (.inl (fun i9 : Nat => lI ((uz dD ((((fr * 4) + la) * 5) + j) (((ownZ sd (fg to)) + (pnZ cl j (fg fr) (fg to))) + (dD ((((to * 4) + (min (la + 1) dp)) * 5) + cl)))) i9))))), (bL, .inl (k 0, 980, .inl (fun i9 : Nat => iI (dL i9)))), (bE, .inl (k 0, 980, .inl (fun i9 : Nat => iI (dE i9)))), (ln, .inr (2, [.int (iI n), .ref wa, .ref ga, .ref wt, .ref wo, .int (iI wd), .int (iI nw), .int (iI dp), .int (iI sd), .int (iI cl), .ref bD, .ref bL, .ref bE])), (ga, .inl (k 0, 49, .inl (fun i9 : Nat => iI (fg i9))))]) rfl B
            refine lv_aload_n hx hb dX2_tryLine_139 rfl (lv_at hl 6 rfl) ?_
            refine x_get (ci := 2) (C := RX2) (T := TX2) (N := 13) (v := .ref bL) B 3 rfl rfl in_X2 11 (by decide) mw_141 (fun _ h9 => h9) rfl dX2_tryLine_140 ?_
            refine lv_iload hx hb dX2_tryLine_143 (lv_at hl 2 rfl) ?_
            refine lv_iload hx hb dX2_tryLine_145 (lv_at hl 0 rfl) ?_
            refine x_iast' (f := dL) (z := ((((fr * 4) + la) * 5) + j)) (v := ((dL ((((to * 4) + (min (la + 1) dp)) * 5) + cl)) + 1)) B 1 rfl (by omega) dX2_tryLine_147 (fun H locs B => ?_)
            have b_25 : Bd 0 1000 (uz dL ((((fr * 4) + la) * 5) + j) ((dL ((((to * 4) + (min (la + 1) dp)) * 5) + cl)) + 1)) := Bd_uz bL9 (by omega)
            have B := bd_to (ws' := [(bD, .inl (k 2, 980, .inr (.inl (fun i9 : Nat => lI ((uz dD ((((fr * 4) + la) * 5) + j) (((ownZ sd (fg to)) + (pnZ cl j (fg fr) (fg to))) + (dD ((((to * 4) + (min (la + 1) dp)) * 5) + cl)))) i9))))), (bL, .inl (k 0, 980, .inl (fun i9 : Nat => iI ((uz dL ((((fr * 4) + la) * 5) + j) ((dL ((((to * 4) + (min (la + 1) dp)) * 5) + cl)) + 1)) i9)))), (bE, .inl (k 0, 980, .inl (fun i9 : Nat => iI (dE i9)))), (ln, .inr (2, [.int (iI n), .ref wa, .ref ga, .ref wt, .ref wo, .int (iI wd), .int (iI nw), .int (iI dp), .int (iI sd), .int (iI cl), .ref bD, .ref bL, .ref bE])), (ga, .inl (k 0, 49, .inl (fun i9 : Nat => iI (fg i9))))]) rfl B
            refine lv_aload_n hx hb dX2_tryLine_148 rfl (lv_at hl 6 rfl) ?_
            refine x_get (ci := 2) (C := RX2) (T := TX2) (N := 13) (v := .ref bE) B 3 rfl rfl in_X2 12 (by decide) mw_142 (fun _ h9 => h9) rfl dX2_tryLine_149 ?_
            refine lv_iload hx hb dX2_tryLine_152 (lv_at hl 2 rfl) ?_
            refine lv_iload_n hx hb dX2_tryLine_154 rfl (lv_at hl 8 rfl) ?_
            refine x_iast' (f := dE) (z := ((((fr * 4) + la) * 5) + j)) (v := to) B 2 rfl (by omega) dX2_tryLine_155 (fun H locs B => ?_)
            have b_26 : Bd (-1) 48 (uz dE ((((fr * 4) + la) * 5) + j) to) := Bd_uz bE9 (by omega)
            have B := bd_to (ws' := [(bD, .inl (k 2, 980, .inr (.inl (fun i9 : Nat => lI ((uz dD ((((fr * 4) + la) * 5) + j) (((ownZ sd (fg to)) + (pnZ cl j (fg fr) (fg to))) + (dD ((((to * 4) + (min (la + 1) dp)) * 5) + cl)))) i9))))), (bL, .inl (k 0, 980, .inl (fun i9 : Nat => iI ((uz dL ((((fr * 4) + la) * 5) + j) ((dL ((((to * 4) + (min (la + 1) dp)) * 5) + cl)) + 1)) i9)))), (bE, .inl (k 0, 980, .inl (fun i9 : Nat => iI ((uz dE ((((fr * 4) + la) * 5) + j) to) i9)))), (ln, .inr (2, [.int (iI n), .ref wa, .ref ga, .ref wt, .ref wo, .int (iI wd), .int (iI nw), .int (iI dp), .int (iI sd), .int (iI cl), .ref bD, .ref bL, .ref bE])), (ga, .inl (k 0, 49, .inl (fun i9 : Nat => iI (fg i9))))]) rfl B
            refine lv_iinc (v := iI (j + 1)) (lv' := [(7, .int (iI (j + 1))), (11, .int (iI ((dL ((((to * 4) + (min (la + 1) dp)) * 5) + cl)) + 1))), (9, .long (lI (((ownZ sd (fg to)) + (pnZ cl j (fg fr) (fg to))) + (dD ((((to * 4) + (min (la + 1) dp)) * 5) + cl))))), (8, .int (iI ((((fr * 4) + la) * 5) + j))), (6, .int (iI ((((to * 4) + (min (la + 1) dp)) * 5) + cl))), (4, .long (lI (ownZ sd (fg to)))), (0, .ref ln), (1, .int (iI fr)), (2, .int (iI to)), (3, .int (iI la))]) hx hb dX2_tryLine_156 hl (k := 3) rfl (iI_add _ _) (by decide) rfl (fun ls hl => ?_)
            refine lv_goto (tgt := 30) hx hb dX2_tryLine_159 (by decide) ?_
            exact ih_1 ((j + 1), (uz dD ((((fr * 4) + la) * 5) + j) (((ownZ sd (fg to)) + (pnZ cl j (fg fr) (fg to))) + (dD ((((to * 4) + (min (la + 1) dp)) * 5) + cl)))), (uz dL ((((fr * 4) + la) * 5) + j) ((dL ((((to * 4) + (min (la + 1) dp)) * 5) + cl)) + 1)), (uz dE ((((fr * 4) + la) * 5) + j) to)) ⟨(show 0 ≤ (j + 1) ∧ (j + 1) ≤ 5 from (by omega)), (show Ro (uz dD ((((fr * 4) + la) * 5) + j) (((ownZ sd (fg to)) + (pnZ cl j (fg fr) (fg to))) + (dD ((((to * 4) + (min (la + 1) dp)) * 5) + cl)))) fD (((fr * 4) + la) * 5) (j + 1) from (Ro_s oD (by omega) rfl)), (show Ro (uz dL ((((fr * 4) + la) * 5) + j) ((dL ((((to * 4) + (min (la + 1) dp)) * 5) + cl)) + 1)) fL (((fr * 4) + la) * 5) (j + 1) from (Ro_s oL (by omega) rfl)), (show Ro (uz dE ((((fr * 4) + la) * 5) + j) to) fE (((fr * 4) + la) * 5) (j + 1) from (Ro_s oE (by omega) rfl)), (show Ri (uz dD ((((fr * 4) + la) * 5) + j) (((ownZ sd (fg to)) + (pnZ cl j (fg fr) (fg to))) + (dD ((((to * 4) + (min (la + 1) dp)) * 5) + cl)))) (((fr * 4) + la) * 5) (j + 1) (fun a => tlD (fD ((((fr * 4) + la) * 5) + a)) (fL ((((fr * 4) + la) * 5) + a)) ((ownZ sd (fg to) + pnZ cl a (fg fr) (fg to)) + fD ((((to * 4) + (min (la + 1) dp)) * 5) + cl)) (fL ((((to * 4) + (min (la + 1) dp)) * 5) + cl) + 1)) from (Ri_s iD rfl (by have q1 := oD ((((to * 4) + (min (la + 1) dp)) * 5) + cl) (by omega); have q2 := oL ((((to * 4) + (min (la + 1) dp)) * 5) + cl) (by omega); have q3 := oD ((((fr * 4) + la) * 5) + j) (by omega); have q4 := oL ((((fr * 4) + la) * 5) + j) (by omega); have q5 := oE ((((fr * 4) + la) * 5) + j) (by omega); show _ = tlD _ _ _ _; unfold tlD; rw [if_pos (by omega)]; omega))), (show Ri (uz dL ((((fr * 4) + la) * 5) + j) ((dL ((((to * 4) + (min (la + 1) dp)) * 5) + cl)) + 1)) (((fr * 4) + la) * 5) (j + 1) (fun a => tlL (fD ((((fr * 4) + la) * 5) + a)) (fL ((((fr * 4) + la) * 5) + a)) ((ownZ sd (fg to) + pnZ cl a (fg fr) (fg to)) + fD ((((to * 4) + (min (la + 1) dp)) * 5) + cl)) (fL ((((to * 4) + (min (la + 1) dp)) * 5) + cl) + 1)) from (Ri_s iL rfl (by have q1 := oD ((((to * 4) + (min (la + 1) dp)) * 5) + cl) (by omega); have q2 := oL ((((to * 4) + (min (la + 1) dp)) * 5) + cl) (by omega); have q3 := oD ((((fr * 4) + la) * 5) + j) (by omega); have q4 := oL ((((fr * 4) + la) * 5) + j) (by omega); have q5 := oE ((((fr * 4) + la) * 5) + j) (by omega); show _ = tlL _ _ _ _; unfold tlL; rw [if_pos (by omega)]; omega))), (show Ri (uz dE ((((fr * 4) + la) * 5) + j) to) (((fr * 4) + la) * 5) (j + 1) (fun a => tlE (fD ((((fr * 4) + la) * 5) + a)) (fL ((((fr * 4) + la) * 5) + a)) (fE ((((fr * 4) + la) * 5) + a)) ((ownZ sd (fg to) + pnZ cl a (fg fr) (fg to)) + fD ((((to * 4) + (min (la + 1) dp)) * 5) + cl)) (fL ((((to * 4) + (min (la + 1) dp)) * 5) + cl) + 1) to) from (Ri_s iE rfl (by have q1 := oD ((((to * 4) + (min (la + 1) dp)) * 5) + cl) (by omega); have q2 := oL ((((to * 4) + (min (la + 1) dp)) * 5) + cl) (by omega); have q3 := oD ((((fr * 4) + la) * 5) + j) (by omega); have q4 := oL ((((fr * 4) + la) * 5) + j) (by omega); have q5 := oE ((((fr * 4) + la) * 5) + j) (by omega); show _ = tlE _ _ _ _ _ _; unfold tlE; rw [if_pos (by omega)]))), (show Bd (-1) 1099511627776 (uz dD ((((fr * 4) + la) * 5) + j) (((ownZ sd (fg to)) + (pnZ cl j (fg fr) (fg to))) + (dD ((((to * 4) + (min (la + 1) dp)) * 5) + cl)))) from b_24), (show Bd 0 1000 (uz dL ((((fr * 4) + la) * 5) + j) ((dL ((((to * 4) + (min (la + 1) dp)) * 5) + cl)) + 1)) from b_25), (show Bd (-1) 48 (uz dE ((((fr * 4) + la) * 5) + j) to) from b_26)⟩ (by first | omega | (dsimp only; omega)) _ _ _ (lv_sub hl [0, 4, 5, 6, 7, 8, 9] rfl) (bd_to rfl B)
        · refine lv_seti (y := iI 1) (congrArg iI (show cmpZ (((ownZ sd (fg to)) + (pnZ cl j (fg fr) (fg to))) + (dD ((((to * 4) + (min (la + 1) dp)) * 5) + cl))) (dD ((((fr * 4) + la) * 5) + j)) = 1 from (if_neg (by omega)).trans (if_neg (by omega)))) ?_
          refine lv_if_ne (tgt := 156) hx hb dX2_tryLine_115 (by decide) (fun _ => ?_) (fun c9 => absurd c9 (by decide))
          refine lv_iinc (v := iI (j + 1)) (lv' := [(7, .int (iI (j + 1))), (11, .int (iI ((dL ((((to * 4) + (min (la + 1) dp)) * 5) + cl)) + 1))), (9, .long (lI (((ownZ sd (fg to)) + (pnZ cl j (fg fr) (fg to))) + (dD ((((to * 4) + (min (la + 1) dp)) * 5) + cl))))), (8, .int (iI ((((fr * 4) + la) * 5) + j))), (6, .int (iI ((((to * 4) + (min (la + 1) dp)) * 5) + cl))), (4, .long (lI (ownZ sd (fg to)))), (0, .ref ln), (1, .int (iI fr)), (2, .int (iI to)), (3, .int (iI la))]) hx hb dX2_tryLine_156 hl (k := 3) rfl (iI_add _ _) (by decide) rfl (fun ls hl => ?_)
          refine lv_goto (tgt := 30) hx hb dX2_tryLine_159 (by decide) ?_
          exact ih_1 ((j + 1), dD, dL, dE) ⟨(show 0 ≤ (j + 1) ∧ (j + 1) ≤ 5 from (by omega)), (show Ro dD fD (((fr * 4) + la) * 5) (j + 1) from (Ro_k oD)), (show Ro dL fL (((fr * 4) + la) * 5) (j + 1) from (Ro_k oL)), (show Ro dE fE (((fr * 4) + la) * 5) (j + 1) from (Ro_k oE)), (show Ri dD (((fr * 4) + la) * 5) (j + 1) (fun a => tlD (fD ((((fr * 4) + la) * 5) + a)) (fL ((((fr * 4) + la) * 5) + a)) ((ownZ sd (fg to) + pnZ cl a (fg fr) (fg to)) + fD ((((to * 4) + (min (la + 1) dp)) * 5) + cl)) (fL ((((to * 4) + (min (la + 1) dp)) * 5) + cl) + 1)) from (Ri_k iD (by have q1 := oD ((((to * 4) + (min (la + 1) dp)) * 5) + cl) (by omega); have q2 := oL ((((to * 4) + (min (la + 1) dp)) * 5) + cl) (by omega); have q3 := oD ((((fr * 4) + la) * 5) + j) (by omega); have q4 := oL ((((fr * 4) + la) * 5) + j) (by omega); have q5 := oE ((((fr * 4) + la) * 5) + j) (by omega); show _ = tlD _ _ _ _; unfold tlD; rw [if_neg (by omega)]; omega))), (show Ri dL (((fr * 4) + la) * 5) (j + 1) (fun a => tlL (fD ((((fr * 4) + la) * 5) + a)) (fL ((((fr * 4) + la) * 5) + a)) ((ownZ sd (fg to) + pnZ cl a (fg fr) (fg to)) + fD ((((to * 4) + (min (la + 1) dp)) * 5) + cl)) (fL ((((to * 4) + (min (la + 1) dp)) * 5) + cl) + 1)) from (Ri_k iL (by have q1 := oD ((((to * 4) + (min (la + 1) dp)) * 5) + cl) (by omega); have q2 := oL ((((to * 4) + (min (la + 1) dp)) * 5) + cl) (by omega); have q3 := oD ((((fr * 4) + la) * 5) + j) (by omega); have q4 := oL ((((fr * 4) + la) * 5) + j) (by omega); have q5 := oE ((((fr * 4) + la) * 5) + j) (by omega); show _ = tlL _ _ _ _; unfold tlL; rw [if_neg (by omega)]; omega))), (show Ri dE (((fr * 4) + la) * 5) (j + 1) (fun a => tlE (fD ((((fr * 4) + la) * 5) + a)) (fL ((((fr * 4) + la) * 5) + a)) (fE ((((fr * 4) + la) * 5) + a)) ((ownZ sd (fg to) + pnZ cl a (fg fr) (fg to)) + fD ((((to * 4) + (min (la + 1) dp)) * 5) + cl)) (fL ((((to * 4) + (min (la + 1) dp)) * 5) + cl) + 1) to) from (Ri_k iE (by have q1 := oD ((((to * 4) + (min (la + 1) dp)) * 5) + cl) (by omega); have q2 := oL ((((to * 4) + (min (la + 1) dp)) * 5) + cl) (by omega); have q3 := oD ((((fr * 4) + la) * 5) + j) (by omega); have q4 := oL ((((fr * 4) + la) * 5) + j) (by omega); have q5 := oE ((((fr * 4) + la) * 5) + j) (by omega); show _ = tlE _ _ _ _ _ _; unfold tlE; rw [if_neg (by omega)]; omega))), (show Bd (-1) 1099511627776 dD from bD9), (show Bd 0 1000 dL from bL9), (show Bd (-1) 48 dE from bE9)⟩ (by first | omega | (dsimp only; omega)) _ _ _ (lv_sub hl [0, 4, 5, 6, 7, 8, 9] rfl) (bd_to rfl B)
    · refine lv_seti (y := iI 0) (congrArg iI (show cmpZ (dD ((((fr * 4) + la) * 5) + j)) (-1) = 0 from (if_neg (by omega)).trans (if_pos zc_7))) ?_
      refine lv_if_eq (tgt := 130) hx hb dX2_tryLine_89 (by decide) (fun _ => ?_) (fun c9 => absurd (by decide) c9)
      refine lv_aload_n hx hb dX2_tryLine_130 rfl (lv_at hl 6 rfl) ?_
      refine x_get (ci := 2) (C := RX2) (T := TX2) (N := 13) (v := .ref bD) B 3 rfl rfl in_X2 10 (by decide) mw_140 (fun _ h9 => h9) rfl dX2_tryLine_131 ?_
      refine lv_iload hx hb dX2_tryLine_134 (lv_at hl 2 rfl) ?_
      refine lv_lload hx hb dX2_tryLine_136 (lv_at hl 1 rfl) ?_
      refine x_last' (f := dD) (z := ((((fr * 4) + la) * 5) + j)) (v := (((ownZ sd (fg to)) + (pnZ cl j (fg fr) (fg to))) + (dD ((((to * 4) + (min (la + 1) dp)) * 5) + cl)))) B 0 rfl (by omega) dX2_tryLine_138 (fun H locs B => ?_)
      have b_27 : Bd (-1) 1099511627776 (uz dD ((((fr * 4) + la) * 5) + j) (((ownZ sd (fg to)) + (pnZ cl j (fg fr) (fg to))) + (dD ((((to * 4) + (min (la + 1) dp)) * 5) + cl)))) := Bd_uz bD9 (by omega)
      have B := bd_to (ws' := [(bD, .inl (k 2, 980, .inr (.inl (fun i9 : Nat => lI ((uz dD ((((fr * 4) + la) * 5) + j) (((ownZ sd (fg to)) + (pnZ cl j (fg fr) (fg to))) + (dD ((((to * 4) + (min (la + 1) dp)) * 5) + cl)))) i9))))), (bL, .inl (k 0, 980, .inl (fun i9 : Nat => iI (dL i9)))), (bE, .inl (k 0, 980, .inl (fun i9 : Nat => iI (dE i9)))), (ln, .inr (2, [.int (iI n), .ref wa, .ref ga, .ref wt, .ref wo, .int (iI wd), .int (iI nw), .int (iI dp), .int (iI sd), .int (iI cl), .ref bD, .ref bL, .ref bE])), (ga, .inl (k 0, 49, .inl (fun i9 : Nat => iI (fg i9))))]) rfl B
      refine lv_aload_n hx hb dX2_tryLine_139 rfl (lv_at hl 6 rfl) ?_
      refine x_get (ci := 2) (C := RX2) (T := TX2) (N := 13) (v := .ref bL) B 3 rfl rfl in_X2 11 (by decide) mw_141 (fun _ h9 => h9) rfl dX2_tryLine_140 ?_
      refine lv_iload hx hb dX2_tryLine_143 (lv_at hl 2 rfl) ?_
      refine lv_iload hx hb dX2_tryLine_145 (lv_at hl 0 rfl) ?_
      refine x_iast' (f := dL) (z := ((((fr * 4) + la) * 5) + j)) (v := ((dL ((((to * 4) + (min (la + 1) dp)) * 5) + cl)) + 1)) B 1 rfl (by omega) dX2_tryLine_147 (fun H locs B => ?_)
      have b_28 : Bd 0 1000 (uz dL ((((fr * 4) + la) * 5) + j) ((dL ((((to * 4) + (min (la + 1) dp)) * 5) + cl)) + 1)) := Bd_uz bL9 (by omega)
      have B := bd_to (ws' := [(bD, .inl (k 2, 980, .inr (.inl (fun i9 : Nat => lI ((uz dD ((((fr * 4) + la) * 5) + j) (((ownZ sd (fg to)) + (pnZ cl j (fg fr) (fg to))) + (dD ((((to * 4) + (min (la + 1) dp)) * 5) + cl)))) i9))))), (bL, .inl (k 0, 980, .inl (fun i9 : Nat => iI ((uz dL ((((fr * 4) + la) * 5) + j) ((dL ((((to * 4) + (min (la + 1) dp)) * 5) + cl)) + 1)) i9)))), (bE, .inl (k 0, 980, .inl (fun i9 : Nat => iI (dE i9)))), (ln, .inr (2, [.int (iI n), .ref wa, .ref ga, .ref wt, .ref wo, .int (iI wd), .int (iI nw), .int (iI dp), .int (iI sd), .int (iI cl), .ref bD, .ref bL, .ref bE])), (ga, .inl (k 0, 49, .inl (fun i9 : Nat => iI (fg i9))))]) rfl B
      refine lv_aload_n hx hb dX2_tryLine_148 rfl (lv_at hl 6 rfl) ?_
      refine x_get (ci := 2) (C := RX2) (T := TX2) (N := 13) (v := .ref bE) B 3 rfl rfl in_X2 12 (by decide) mw_142 (fun _ h9 => h9) rfl dX2_tryLine_149 ?_
      refine lv_iload hx hb dX2_tryLine_152 (lv_at hl 2 rfl) ?_
      refine lv_iload_n hx hb dX2_tryLine_154 rfl (lv_at hl 8 rfl) ?_
      refine x_iast' (f := dE) (z := ((((fr * 4) + la) * 5) + j)) (v := to) B 2 rfl (by omega) dX2_tryLine_155 (fun H locs B => ?_)
      have b_29 : Bd (-1) 48 (uz dE ((((fr * 4) + la) * 5) + j) to) := Bd_uz bE9 (by omega)
      have B := bd_to (ws' := [(bD, .inl (k 2, 980, .inr (.inl (fun i9 : Nat => lI ((uz dD ((((fr * 4) + la) * 5) + j) (((ownZ sd (fg to)) + (pnZ cl j (fg fr) (fg to))) + (dD ((((to * 4) + (min (la + 1) dp)) * 5) + cl)))) i9))))), (bL, .inl (k 0, 980, .inl (fun i9 : Nat => iI ((uz dL ((((fr * 4) + la) * 5) + j) ((dL ((((to * 4) + (min (la + 1) dp)) * 5) + cl)) + 1)) i9)))), (bE, .inl (k 0, 980, .inl (fun i9 : Nat => iI ((uz dE ((((fr * 4) + la) * 5) + j) to) i9)))), (ln, .inr (2, [.int (iI n), .ref wa, .ref ga, .ref wt, .ref wo, .int (iI wd), .int (iI nw), .int (iI dp), .int (iI sd), .int (iI cl), .ref bD, .ref bL, .ref bE])), (ga, .inl (k 0, 49, .inl (fun i9 : Nat => iI (fg i9))))]) rfl B
      refine lv_iinc (v := iI (j + 1)) (lv' := [(7, .int (iI (j + 1))), (11, .int (iI ((dL ((((to * 4) + (min (la + 1) dp)) * 5) + cl)) + 1))), (9, .long (lI (((ownZ sd (fg to)) + (pnZ cl j (fg fr) (fg to))) + (dD ((((to * 4) + (min (la + 1) dp)) * 5) + cl))))), (8, .int (iI ((((fr * 4) + la) * 5) + j))), (6, .int (iI ((((to * 4) + (min (la + 1) dp)) * 5) + cl))), (4, .long (lI (ownZ sd (fg to)))), (0, .ref ln), (1, .int (iI fr)), (2, .int (iI to)), (3, .int (iI la))]) hx hb dX2_tryLine_156 hl (k := 3) rfl (iI_add _ _) (by decide) rfl (fun ls hl => ?_)
      refine lv_goto (tgt := 30) hx hb dX2_tryLine_159 (by decide) ?_
      exact ih_1 ((j + 1), (uz dD ((((fr * 4) + la) * 5) + j) (((ownZ sd (fg to)) + (pnZ cl j (fg fr) (fg to))) + (dD ((((to * 4) + (min (la + 1) dp)) * 5) + cl)))), (uz dL ((((fr * 4) + la) * 5) + j) ((dL ((((to * 4) + (min (la + 1) dp)) * 5) + cl)) + 1)), (uz dE ((((fr * 4) + la) * 5) + j) to)) ⟨(show 0 ≤ (j + 1) ∧ (j + 1) ≤ 5 from (by omega)), (show Ro (uz dD ((((fr * 4) + la) * 5) + j) (((ownZ sd (fg to)) + (pnZ cl j (fg fr) (fg to))) + (dD ((((to * 4) + (min (la + 1) dp)) * 5) + cl)))) fD (((fr * 4) + la) * 5) (j + 1) from (Ro_s oD (by omega) rfl)), (show Ro (uz dL ((((fr * 4) + la) * 5) + j) ((dL ((((to * 4) + (min (la + 1) dp)) * 5) + cl)) + 1)) fL (((fr * 4) + la) * 5) (j + 1) from (Ro_s oL (by omega) rfl)), (show Ro (uz dE ((((fr * 4) + la) * 5) + j) to) fE (((fr * 4) + la) * 5) (j + 1) from (Ro_s oE (by omega) rfl)), (show Ri (uz dD ((((fr * 4) + la) * 5) + j) (((ownZ sd (fg to)) + (pnZ cl j (fg fr) (fg to))) + (dD ((((to * 4) + (min (la + 1) dp)) * 5) + cl)))) (((fr * 4) + la) * 5) (j + 1) (fun a => tlD (fD ((((fr * 4) + la) * 5) + a)) (fL ((((fr * 4) + la) * 5) + a)) ((ownZ sd (fg to) + pnZ cl a (fg fr) (fg to)) + fD ((((to * 4) + (min (la + 1) dp)) * 5) + cl)) (fL ((((to * 4) + (min (la + 1) dp)) * 5) + cl) + 1)) from (Ri_s iD rfl (by have q1 := oD ((((to * 4) + (min (la + 1) dp)) * 5) + cl) (by omega); have q2 := oL ((((to * 4) + (min (la + 1) dp)) * 5) + cl) (by omega); have q3 := oD ((((fr * 4) + la) * 5) + j) (by omega); have q4 := oL ((((fr * 4) + la) * 5) + j) (by omega); have q5 := oE ((((fr * 4) + la) * 5) + j) (by omega); show _ = tlD _ _ _ _; unfold tlD; rw [if_pos (by omega)]; omega))), (show Ri (uz dL ((((fr * 4) + la) * 5) + j) ((dL ((((to * 4) + (min (la + 1) dp)) * 5) + cl)) + 1)) (((fr * 4) + la) * 5) (j + 1) (fun a => tlL (fD ((((fr * 4) + la) * 5) + a)) (fL ((((fr * 4) + la) * 5) + a)) ((ownZ sd (fg to) + pnZ cl a (fg fr) (fg to)) + fD ((((to * 4) + (min (la + 1) dp)) * 5) + cl)) (fL ((((to * 4) + (min (la + 1) dp)) * 5) + cl) + 1)) from (Ri_s iL rfl (by have q1 := oD ((((to * 4) + (min (la + 1) dp)) * 5) + cl) (by omega); have q2 := oL ((((to * 4) + (min (la + 1) dp)) * 5) + cl) (by omega); have q3 := oD ((((fr * 4) + la) * 5) + j) (by omega); have q4 := oL ((((fr * 4) + la) * 5) + j) (by omega); have q5 := oE ((((fr * 4) + la) * 5) + j) (by omega); show _ = tlL _ _ _ _; unfold tlL; rw [if_pos (by omega)]; omega))), (show Ri (uz dE ((((fr * 4) + la) * 5) + j) to) (((fr * 4) + la) * 5) (j + 1) (fun a => tlE (fD ((((fr * 4) + la) * 5) + a)) (fL ((((fr * 4) + la) * 5) + a)) (fE ((((fr * 4) + la) * 5) + a)) ((ownZ sd (fg to) + pnZ cl a (fg fr) (fg to)) + fD ((((to * 4) + (min (la + 1) dp)) * 5) + cl)) (fL ((((to * 4) + (min (la + 1) dp)) * 5) + cl) + 1) to) from (Ri_s iE rfl (by have q1 := oD ((((to * 4) + (min (la + 1) dp)) * 5) + cl) (by omega); have q2 := oL ((((to * 4) + (min (la + 1) dp)) * 5) + cl) (by omega); have q3 := oD ((((fr * 4) + la) * 5) + j) (by omega); have q4 := oL ((((fr * 4) + la) * 5) + j) (by omega); have q5 := oE ((((fr * 4) + la) * 5) + j) (by omega); show _ = tlE _ _ _ _ _ _; unfold tlE; rw [if_pos (by omega)]))), (show Bd (-1) 1099511627776 (uz dD ((((fr * 4) + la) * 5) + j) (((ownZ sd (fg to)) + (pnZ cl j (fg fr) (fg to))) + (dD ((((to * 4) + (min (la + 1) dp)) * 5) + cl)))) from b_27), (show Bd 0 1000 (uz dL ((((fr * 4) + la) * 5) + j) ((dL ((((to * 4) + (min (la + 1) dp)) * 5) + cl)) + 1)) from b_28), (show Bd (-1) 48 (uz dE ((((fr * 4) + la) * 5) + j) to) from b_29)⟩ (by first | omega | (dsimp only; omega)) _ _ _ (lv_sub hl [0, 4, 5, 6, 7, 8, 9] rfl) (bd_to rfl B)
    · refine lv_seti (y := iI 1) (congrArg iI (show cmpZ (dD ((((fr * 4) + la) * 5) + j)) (-1) = 1 from (if_neg (by omega)).trans (if_neg (by omega)))) ?_
      refine lv_if_eq (tgt := 130) hx hb dX2_tryLine_89 (by decide) (fun c9 => absurd c9 (by decide)) (fun _ => ?_)
      refine lv_lload hx hb dX2_tryLine_92 (lv_at hl 1 rfl) ?_
      refine lv_aload_n hx hb dX2_tryLine_94 rfl (lv_at hl 6 rfl) ?_
      refine x_get (ci := 2) (C := RX2) (T := TX2) (N := 13) (v := .ref bD) B 3 rfl rfl in_X2 10 (by decide) mw_140 (fun _ h9 => h9) rfl dX2_tryLine_95 ?_
      refine lv_iload hx hb dX2_tryLine_98 (lv_at hl 2 rfl) ?_
      refine x_lald' (f := dD) (z := ((((fr * 4) + la) * 5) + j)) B 0 rfl (by omega) dX2_tryLine_100 ?_
      have z_30 : (-1) ≤ (dD ((((fr * 4) + la) * 5) + j)) ∧ (dD ((((fr * 4) + la) * 5) + j)) ≤ 1099511627776 := bD9 ((((fr * 4) + la) * 5) + j)
      refine y_lcmp B (a := (((ownZ sd (fg to)) + (pnZ cl j (fg fr) (fg to))) + (dD ((((to * 4) + (min (la + 1) dp)) * 5) + cl)))) (b := (dD ((((fr * 4) + la) * 5) + j))) (by omega) (by omega) dX2_tryLine_101 ?_
      rcases (show (((ownZ sd (fg to)) + (pnZ cl j (fg fr) (fg to))) + (dD ((((to * 4) + (min (la + 1) dp)) * 5) + cl))) < (dD ((((fr * 4) + la) * 5) + j)) ∨ (((ownZ sd (fg to)) + (pnZ cl j (fg fr) (fg to))) + (dD ((((to * 4) + (min (la + 1) dp)) * 5) + cl))) = (dD ((((fr * 4) + la) * 5) + j)) ∨ (dD ((((fr * 4) + la) * 5) + j)) < (((ownZ sd (fg to)) + (pnZ cl j (fg fr) (fg to))) + (dD ((((to * 4) + (min (la + 1) dp)) * 5) + cl))) by omega) with zc_31 | zc_31 | zc_31
      · refine lv_seti (y := iI (-1)) (congrArg iI (show cmpZ (((ownZ sd (fg to)) + (pnZ cl j (fg fr) (fg to))) + (dD ((((to * 4) + (min (la + 1) dp)) * 5) + cl))) (dD ((((fr * 4) + la) * 5) + j)) = (-1) from if_pos zc_31)) ?_
        refine lv_if_lt (tgt := 130) hx hb dX2_tryLine_102 (by decide) (fun _ => ?_) (fun c9 => absurd (by decide) c9)
        refine lv_aload_n hx hb dX2_tryLine_130 rfl (lv_at hl 6 rfl) ?_
        refine x_get (ci := 2) (C := RX2) (T := TX2) (N := 13) (v := .ref bD) B 3 rfl rfl in_X2 10 (by decide) mw_140 (fun _ h9 => h9) rfl dX2_tryLine_131 ?_
        refine lv_iload hx hb dX2_tryLine_134 (lv_at hl 2 rfl) ?_
        refine lv_lload hx hb dX2_tryLine_136 (lv_at hl 1 rfl) ?_
        refine x_last' (f := dD) (z := ((((fr * 4) + la) * 5) + j)) (v := (((ownZ sd (fg to)) + (pnZ cl j (fg fr) (fg to))) + (dD ((((to * 4) + (min (la + 1) dp)) * 5) + cl)))) B 0 rfl (by omega) dX2_tryLine_138 (fun H locs B => ?_)
        have b_32 : Bd (-1) 1099511627776 (uz dD ((((fr * 4) + la) * 5) + j) (((ownZ sd (fg to)) + (pnZ cl j (fg fr) (fg to))) + (dD ((((to * 4) + (min (la + 1) dp)) * 5) + cl)))) := Bd_uz bD9 (by omega)
        have B := bd_to (ws' := [(bD, .inl (k 2, 980, .inr (.inl (fun i9 : Nat => lI ((uz dD ((((fr * 4) + la) * 5) + j) (((ownZ sd (fg to)) + (pnZ cl j (fg fr) (fg to))) + (dD ((((to * 4) + (min (la + 1) dp)) * 5) + cl)))) i9))))), (bL, .inl (k 0, 980, .inl (fun i9 : Nat => iI (dL i9)))), (bE, .inl (k 0, 980, .inl (fun i9 : Nat => iI (dE i9)))), (ln, .inr (2, [.int (iI n), .ref wa, .ref ga, .ref wt, .ref wo, .int (iI wd), .int (iI nw), .int (iI dp), .int (iI sd), .int (iI cl), .ref bD, .ref bL, .ref bE])), (ga, .inl (k 0, 49, .inl (fun i9 : Nat => iI (fg i9))))]) rfl B
        refine lv_aload_n hx hb dX2_tryLine_139 rfl (lv_at hl 6 rfl) ?_
        refine x_get (ci := 2) (C := RX2) (T := TX2) (N := 13) (v := .ref bL) B 3 rfl rfl in_X2 11 (by decide) mw_141 (fun _ h9 => h9) rfl dX2_tryLine_140 ?_
        refine lv_iload hx hb dX2_tryLine_143 (lv_at hl 2 rfl) ?_
        refine lv_iload hx hb dX2_tryLine_145 (lv_at hl 0 rfl) ?_
        refine x_iast' (f := dL) (z := ((((fr * 4) + la) * 5) + j)) (v := ((dL ((((to * 4) + (min (la + 1) dp)) * 5) + cl)) + 1)) B 1 rfl (by omega) dX2_tryLine_147 (fun H locs B => ?_)
        have b_33 : Bd 0 1000 (uz dL ((((fr * 4) + la) * 5) + j) ((dL ((((to * 4) + (min (la + 1) dp)) * 5) + cl)) + 1)) := Bd_uz bL9 (by omega)
        have B := bd_to (ws' := [(bD, .inl (k 2, 980, .inr (.inl (fun i9 : Nat => lI ((uz dD ((((fr * 4) + la) * 5) + j) (((ownZ sd (fg to)) + (pnZ cl j (fg fr) (fg to))) + (dD ((((to * 4) + (min (la + 1) dp)) * 5) + cl)))) i9))))), (bL, .inl (k 0, 980, .inl (fun i9 : Nat => iI ((uz dL ((((fr * 4) + la) * 5) + j) ((dL ((((to * 4) + (min (la + 1) dp)) * 5) + cl)) + 1)) i9)))), (bE, .inl (k 0, 980, .inl (fun i9 : Nat => iI (dE i9)))), (ln, .inr (2, [.int (iI n), .ref wa, .ref ga, .ref wt, .ref wo, .int (iI wd), .int (iI nw), .int (iI dp), .int (iI sd), .int (iI cl), .ref bD, .ref bL, .ref bE])), (ga, .inl (k 0, 49, .inl (fun i9 : Nat => iI (fg i9))))]) rfl B
        refine lv_aload_n hx hb dX2_tryLine_148 rfl (lv_at hl 6 rfl) ?_
        refine x_get (ci := 2) (C := RX2) (T := TX2) (N := 13) (v := .ref bE) B 3 rfl rfl in_X2 12 (by decide) mw_142 (fun _ h9 => h9) rfl dX2_tryLine_149 ?_
        refine lv_iload hx hb dX2_tryLine_152 (lv_at hl 2 rfl) ?_
        refine lv_iload_n hx hb dX2_tryLine_154 rfl (lv_at hl 8 rfl) ?_
        refine x_iast' (f := dE) (z := ((((fr * 4) + la) * 5) + j)) (v := to) B 2 rfl (by omega) dX2_tryLine_155 (fun H locs B => ?_)
        have b_34 : Bd (-1) 48 (uz dE ((((fr * 4) + la) * 5) + j) to) := Bd_uz bE9 (by omega)
        have B := bd_to (ws' := [(bD, .inl (k 2, 980, .inr (.inl (fun i9 : Nat => lI ((uz dD ((((fr * 4) + la) * 5) + j) (((ownZ sd (fg to)) + (pnZ cl j (fg fr) (fg to))) + (dD ((((to * 4) + (min (la + 1) dp)) * 5) + cl)))) i9))))), (bL, .inl (k 0, 980, .inl (fun i9 : Nat => iI ((uz dL ((((fr * 4) + la) * 5) + j) ((dL ((((to * 4) + (min (la + 1) dp)) * 5) + cl)) + 1)) i9)))), (bE, .inl (k 0, 980, .inl (fun i9 : Nat => iI ((uz dE ((((fr * 4) + la) * 5) + j) to) i9)))), (ln, .inr (2, [.int (iI n), .ref wa, .ref ga, .ref wt, .ref wo, .int (iI wd), .int (iI nw), .int (iI dp), .int (iI sd), .int (iI cl), .ref bD, .ref bL, .ref bE])), (ga, .inl (k 0, 49, .inl (fun i9 : Nat => iI (fg i9))))]) rfl B
        refine lv_iinc (v := iI (j + 1)) (lv' := [(7, .int (iI (j + 1))), (11, .int (iI ((dL ((((to * 4) + (min (la + 1) dp)) * 5) + cl)) + 1))), (9, .long (lI (((ownZ sd (fg to)) + (pnZ cl j (fg fr) (fg to))) + (dD ((((to * 4) + (min (la + 1) dp)) * 5) + cl))))), (8, .int (iI ((((fr * 4) + la) * 5) + j))), (6, .int (iI ((((to * 4) + (min (la + 1) dp)) * 5) + cl))), (4, .long (lI (ownZ sd (fg to)))), (0, .ref ln), (1, .int (iI fr)), (2, .int (iI to)), (3, .int (iI la))]) hx hb dX2_tryLine_156 hl (k := 3) rfl (iI_add _ _) (by decide) rfl (fun ls hl => ?_)
        refine lv_goto (tgt := 30) hx hb dX2_tryLine_159 (by decide) ?_
        exact ih_1 ((j + 1), (uz dD ((((fr * 4) + la) * 5) + j) (((ownZ sd (fg to)) + (pnZ cl j (fg fr) (fg to))) + (dD ((((to * 4) + (min (la + 1) dp)) * 5) + cl)))), (uz dL ((((fr * 4) + la) * 5) + j) ((dL ((((to * 4) + (min (la + 1) dp)) * 5) + cl)) + 1)), (uz dE ((((fr * 4) + la) * 5) + j) to)) ⟨(show 0 ≤ (j + 1) ∧ (j + 1) ≤ 5 from (by omega)), (show Ro (uz dD ((((fr * 4) + la) * 5) + j) (((ownZ sd (fg to)) + (pnZ cl j (fg fr) (fg to))) + (dD ((((to * 4) + (min (la + 1) dp)) * 5) + cl)))) fD (((fr * 4) + la) * 5) (j + 1) from (Ro_s oD (by omega) rfl)), (show Ro (uz dL ((((fr * 4) + la) * 5) + j) ((dL ((((to * 4) + (min (la + 1) dp)) * 5) + cl)) + 1)) fL (((fr * 4) + la) * 5) (j + 1) from (Ro_s oL (by omega) rfl)), (show Ro (uz dE ((((fr * 4) + la) * 5) + j) to) fE (((fr * 4) + la) * 5) (j + 1) from (Ro_s oE (by omega) rfl)), (show Ri (uz dD ((((fr * 4) + la) * 5) + j) (((ownZ sd (fg to)) + (pnZ cl j (fg fr) (fg to))) + (dD ((((to * 4) + (min (la + 1) dp)) * 5) + cl)))) (((fr * 4) + la) * 5) (j + 1) (fun a => tlD (fD ((((fr * 4) + la) * 5) + a)) (fL ((((fr * 4) + la) * 5) + a)) ((ownZ sd (fg to) + pnZ cl a (fg fr) (fg to)) + fD ((((to * 4) + (min (la + 1) dp)) * 5) + cl)) (fL ((((to * 4) + (min (la + 1) dp)) * 5) + cl) + 1)) from (Ri_s iD rfl (by have q1 := oD ((((to * 4) + (min (la + 1) dp)) * 5) + cl) (by omega); have q2 := oL ((((to * 4) + (min (la + 1) dp)) * 5) + cl) (by omega); have q3 := oD ((((fr * 4) + la) * 5) + j) (by omega); have q4 := oL ((((fr * 4) + la) * 5) + j) (by omega); have q5 := oE ((((fr * 4) + la) * 5) + j) (by omega); show _ = tlD _ _ _ _; unfold tlD; rw [if_pos (by omega)]; omega))), (show Ri (uz dL ((((fr * 4) + la) * 5) + j) ((dL ((((to * 4) + (min (la + 1) dp)) * 5) + cl)) + 1)) (((fr * 4) + la) * 5) (j + 1) (fun a => tlL (fD ((((fr * 4) + la) * 5) + a)) (fL ((((fr * 4) + la) * 5) + a)) ((ownZ sd (fg to) + pnZ cl a (fg fr) (fg to)) + fD ((((to * 4) + (min (la + 1) dp)) * 5) + cl)) (fL ((((to * 4) + (min (la + 1) dp)) * 5) + cl) + 1)) from (Ri_s iL rfl (by have q1 := oD ((((to * 4) + (min (la + 1) dp)) * 5) + cl) (by omega); have q2 := oL ((((to * 4) + (min (la + 1) dp)) * 5) + cl) (by omega); have q3 := oD ((((fr * 4) + la) * 5) + j) (by omega); have q4 := oL ((((fr * 4) + la) * 5) + j) (by omega); have q5 := oE ((((fr * 4) + la) * 5) + j) (by omega); show _ = tlL _ _ _ _; unfold tlL; rw [if_pos (by omega)]; omega))), (show Ri (uz dE ((((fr * 4) + la) * 5) + j) to) (((fr * 4) + la) * 5) (j + 1) (fun a => tlE (fD ((((fr * 4) + la) * 5) + a)) (fL ((((fr * 4) + la) * 5) + a)) (fE ((((fr * 4) + la) * 5) + a)) ((ownZ sd (fg to) + pnZ cl a (fg fr) (fg to)) + fD ((((to * 4) + (min (la + 1) dp)) * 5) + cl)) (fL ((((to * 4) + (min (la + 1) dp)) * 5) + cl) + 1) to) from (Ri_s iE rfl (by have q1 := oD ((((to * 4) + (min (la + 1) dp)) * 5) + cl) (by omega); have q2 := oL ((((to * 4) + (min (la + 1) dp)) * 5) + cl) (by omega); have q3 := oD ((((fr * 4) + la) * 5) + j) (by omega); have q4 := oL ((((fr * 4) + la) * 5) + j) (by omega); have q5 := oE ((((fr * 4) + la) * 5) + j) (by omega); show _ = tlE _ _ _ _ _ _; unfold tlE; rw [if_pos (by omega)]))), (show Bd (-1) 1099511627776 (uz dD ((((fr * 4) + la) * 5) + j) (((ownZ sd (fg to)) + (pnZ cl j (fg fr) (fg to))) + (dD ((((to * 4) + (min (la + 1) dp)) * 5) + cl)))) from b_32), (show Bd 0 1000 (uz dL ((((fr * 4) + la) * 5) + j) ((dL ((((to * 4) + (min (la + 1) dp)) * 5) + cl)) + 1)) from b_33), (show Bd (-1) 48 (uz dE ((((fr * 4) + la) * 5) + j) to) from b_34)⟩ (by first | omega | (dsimp only; omega)) _ _ _ (lv_sub hl [0, 4, 5, 6, 7, 8, 9] rfl) (bd_to rfl B)
      · refine lv_seti (y := iI 0) (congrArg iI (show cmpZ (((ownZ sd (fg to)) + (pnZ cl j (fg fr) (fg to))) + (dD ((((to * 4) + (min (la + 1) dp)) * 5) + cl))) (dD ((((fr * 4) + la) * 5) + j)) = 0 from (if_neg (by omega)).trans (if_pos zc_31))) ?_
        refine lv_if_lt (tgt := 130) hx hb dX2_tryLine_102 (by decide) (fun c9 => absurd c9 (by decide)) (fun _ => ?_)
        refine lv_lload hx hb dX2_tryLine_105 (lv_at hl 1 rfl) ?_
        refine lv_aload_n hx hb dX2_tryLine_107 rfl (lv_at hl 6 rfl) ?_
        refine x_get (ci := 2) (C := RX2) (T := TX2) (N := 13) (v := .ref bD) B 3 rfl rfl in_X2 10 (by decide) mw_140 (fun _ h9 => h9) rfl dX2_tryLine_108 ?_
        refine lv_iload hx hb dX2_tryLine_111 (lv_at hl 2 rfl) ?_
        refine x_lald' (f := dD) (z := ((((fr * 4) + la) * 5) + j)) B 0 rfl (by omega) dX2_tryLine_113 ?_
        have z_35 : (-1) ≤ (dD ((((fr * 4) + la) * 5) + j)) ∧ (dD ((((fr * 4) + la) * 5) + j)) ≤ 1099511627776 := bD9 ((((fr * 4) + la) * 5) + j)
        refine y_lcmp B (a := (((ownZ sd (fg to)) + (pnZ cl j (fg fr) (fg to))) + (dD ((((to * 4) + (min (la + 1) dp)) * 5) + cl)))) (b := (dD ((((fr * 4) + la) * 5) + j))) (by omega) (by omega) dX2_tryLine_114 ?_
        rcases (show (((ownZ sd (fg to)) + (pnZ cl j (fg fr) (fg to))) + (dD ((((to * 4) + (min (la + 1) dp)) * 5) + cl))) < (dD ((((fr * 4) + la) * 5) + j)) ∨ (((ownZ sd (fg to)) + (pnZ cl j (fg fr) (fg to))) + (dD ((((to * 4) + (min (la + 1) dp)) * 5) + cl))) = (dD ((((fr * 4) + la) * 5) + j)) ∨ (dD ((((fr * 4) + la) * 5) + j)) < (((ownZ sd (fg to)) + (pnZ cl j (fg fr) (fg to))) + (dD ((((to * 4) + (min (la + 1) dp)) * 5) + cl))) by omega) with zc_36 | zc_36 | zc_36
        · refine lv_seti (y := iI (-1)) (congrArg iI (show cmpZ (((ownZ sd (fg to)) + (pnZ cl j (fg fr) (fg to))) + (dD ((((to * 4) + (min (la + 1) dp)) * 5) + cl))) (dD ((((fr * 4) + la) * 5) + j)) = (-1) from if_pos zc_36)) ?_
          refine lv_if_ne (tgt := 156) hx hb dX2_tryLine_115 (by decide) (fun _ => ?_) (fun c9 => absurd c9 (by decide))
          refine lv_iinc (v := iI (j + 1)) (lv' := [(7, .int (iI (j + 1))), (11, .int (iI ((dL ((((to * 4) + (min (la + 1) dp)) * 5) + cl)) + 1))), (9, .long (lI (((ownZ sd (fg to)) + (pnZ cl j (fg fr) (fg to))) + (dD ((((to * 4) + (min (la + 1) dp)) * 5) + cl))))), (8, .int (iI ((((fr * 4) + la) * 5) + j))), (6, .int (iI ((((to * 4) + (min (la + 1) dp)) * 5) + cl))), (4, .long (lI (ownZ sd (fg to)))), (0, .ref ln), (1, .int (iI fr)), (2, .int (iI to)), (3, .int (iI la))]) hx hb dX2_tryLine_156 hl (k := 3) rfl (iI_add _ _) (by decide) rfl (fun ls hl => ?_)
          refine lv_goto (tgt := 30) hx hb dX2_tryLine_159 (by decide) ?_
          exact ih_1 ((j + 1), dD, dL, dE) ⟨(show 0 ≤ (j + 1) ∧ (j + 1) ≤ 5 from (by omega)), (show Ro dD fD (((fr * 4) + la) * 5) (j + 1) from (Ro_k oD)), (show Ro dL fL (((fr * 4) + la) * 5) (j + 1) from (Ro_k oL)), (show Ro dE fE (((fr * 4) + la) * 5) (j + 1) from (Ro_k oE)), (show Ri dD (((fr * 4) + la) * 5) (j + 1) (fun a => tlD (fD ((((fr * 4) + la) * 5) + a)) (fL ((((fr * 4) + la) * 5) + a)) ((ownZ sd (fg to) + pnZ cl a (fg fr) (fg to)) + fD ((((to * 4) + (min (la + 1) dp)) * 5) + cl)) (fL ((((to * 4) + (min (la + 1) dp)) * 5) + cl) + 1)) from (Ri_k iD (by have q1 := oD ((((to * 4) + (min (la + 1) dp)) * 5) + cl) (by omega); have q2 := oL ((((to * 4) + (min (la + 1) dp)) * 5) + cl) (by omega); have q3 := oD ((((fr * 4) + la) * 5) + j) (by omega); have q4 := oL ((((fr * 4) + la) * 5) + j) (by omega); have q5 := oE ((((fr * 4) + la) * 5) + j) (by omega); show _ = tlD _ _ _ _; unfold tlD; rw [if_neg (by omega)]; omega))), (show Ri dL (((fr * 4) + la) * 5) (j + 1) (fun a => tlL (fD ((((fr * 4) + la) * 5) + a)) (fL ((((fr * 4) + la) * 5) + a)) ((ownZ sd (fg to) + pnZ cl a (fg fr) (fg to)) + fD ((((to * 4) + (min (la + 1) dp)) * 5) + cl)) (fL ((((to * 4) + (min (la + 1) dp)) * 5) + cl) + 1)) from (Ri_k iL (by have q1 := oD ((((to * 4) + (min (la + 1) dp)) * 5) + cl) (by omega); have q2 := oL ((((to * 4) + (min (la + 1) dp)) * 5) + cl) (by omega); have q3 := oD ((((fr * 4) + la) * 5) + j) (by omega); have q4 := oL ((((fr * 4) + la) * 5) + j) (by omega); have q5 := oE ((((fr * 4) + la) * 5) + j) (by omega); show _ = tlL _ _ _ _; unfold tlL; rw [if_neg (by omega)]; omega))), (show Ri dE (((fr * 4) + la) * 5) (j + 1) (fun a => tlE (fD ((((fr * 4) + la) * 5) + a)) (fL ((((fr * 4) + la) * 5) + a)) (fE ((((fr * 4) + la) * 5) + a)) ((ownZ sd (fg to) + pnZ cl a (fg fr) (fg to)) + fD ((((to * 4) + (min (la + 1) dp)) * 5) + cl)) (fL ((((to * 4) + (min (la + 1) dp)) * 5) + cl) + 1) to) from (Ri_k iE (by have q1 := oD ((((to * 4) + (min (la + 1) dp)) * 5) + cl) (by omega); have q2 := oL ((((to * 4) + (min (la + 1) dp)) * 5) + cl) (by omega); have q3 := oD ((((fr * 4) + la) * 5) + j) (by omega); have q4 := oL ((((fr * 4) + la) * 5) + j) (by omega); have q5 := oE ((((fr * 4) + la) * 5) + j) (by omega); show _ = tlE _ _ _ _ _ _; unfold tlE; rw [if_neg (by omega)]; omega))), (show Bd (-1) 1099511627776 dD from bD9), (show Bd 0 1000 dL from bL9), (show Bd (-1) 48 dE from bE9)⟩ (by first | omega | (dsimp only; omega)) _ _ _ (lv_sub hl [0, 4, 5, 6, 7, 8, 9] rfl) (bd_to rfl B)
        · refine lv_seti (y := iI 0) (congrArg iI (show cmpZ (((ownZ sd (fg to)) + (pnZ cl j (fg fr) (fg to))) + (dD ((((to * 4) + (min (la + 1) dp)) * 5) + cl))) (dD ((((fr * 4) + la) * 5) + j)) = 0 from (if_neg (by omega)).trans (if_pos zc_36))) ?_
          refine lv_if_ne (tgt := 156) hx hb dX2_tryLine_115 (by decide) (fun c9 => absurd c9 (by decide)) (fun _ => ?_)
          refine lv_iload hx hb dX2_tryLine_118 (lv_at hl 0 rfl) ?_
          refine lv_aload_n hx hb dX2_tryLine_120 rfl (lv_at hl 6 rfl) ?_
          refine x_get (ci := 2) (C := RX2) (T := TX2) (N := 13) (v := .ref bL) B 3 rfl rfl in_X2 11 (by decide) mw_141 (fun _ h9 => h9) rfl dX2_tryLine_121 ?_
          refine lv_iload hx hb dX2_tryLine_124 (lv_at hl 2 rfl) ?_
          refine x_iald' (f := dL) (z := ((((fr * 4) + la) * 5) + j)) B 1 rfl (by omega) dX2_tryLine_126 ?_
          have z_37 : 0 ≤ (dL ((((fr * 4) + la) * 5) + j)) ∧ (dL ((((fr * 4) + la) * 5) + j)) ≤ 1000 := bL9 ((((fr * 4) + la) * 5) + j)
          refine lv_icmp_ge (tgt := 156) hx hb dX2_tryLine_127 (by decide) (fun c_38 => ?_) (fun c_38 => ?_)
          · have zc_38 : (dL ((((fr * 4) + la) * 5) + j)) ≤ ((dL ((((to * 4) + (min (la + 1) dp)) * 5) + cl)) + 1) := jle (a := (dL ((((fr * 4) + la) * 5) + j))) (b := ((dL ((((to * 4) + (min (la + 1) dp)) * 5) + cl)) + 1)) (by omega) (by omega) c_38
            refine lv_iinc (v := iI (j + 1)) (lv' := [(7, .int (iI (j + 1))), (11, .int (iI ((dL ((((to * 4) + (min (la + 1) dp)) * 5) + cl)) + 1))), (9, .long (lI (((ownZ sd (fg to)) + (pnZ cl j (fg fr) (fg to))) + (dD ((((to * 4) + (min (la + 1) dp)) * 5) + cl))))), (8, .int (iI ((((fr * 4) + la) * 5) + j))), (6, .int (iI ((((to * 4) + (min (la + 1) dp)) * 5) + cl))), (4, .long (lI (ownZ sd (fg to)))), (0, .ref ln), (1, .int (iI fr)), (2, .int (iI to)), (3, .int (iI la))]) hx hb dX2_tryLine_156 hl (k := 3) rfl (iI_add _ _) (by decide) rfl (fun ls hl => ?_)
            refine lv_goto (tgt := 30) hx hb dX2_tryLine_159 (by decide) ?_
            exact ih_1 ((j + 1), dD, dL, dE) ⟨(show 0 ≤ (j + 1) ∧ (j + 1) ≤ 5 from (by omega)), (show Ro dD fD (((fr * 4) + la) * 5) (j + 1) from (Ro_k oD)), (show Ro dL fL (((fr * 4) + la) * 5) (j + 1) from (Ro_k oL)), (show Ro dE fE (((fr * 4) + la) * 5) (j + 1) from (Ro_k oE)), (show Ri dD (((fr * 4) + la) * 5) (j + 1) (fun a => tlD (fD ((((fr * 4) + la) * 5) + a)) (fL ((((fr * 4) + la) * 5) + a)) ((ownZ sd (fg to) + pnZ cl a (fg fr) (fg to)) + fD ((((to * 4) + (min (la + 1) dp)) * 5) + cl)) (fL ((((to * 4) + (min (la + 1) dp)) * 5) + cl) + 1)) from (Ri_k iD (by have q1 := oD ((((to * 4) + (min (la + 1) dp)) * 5) + cl) (by omega); have q2 := oL ((((to * 4) + (min (la + 1) dp)) * 5) + cl) (by omega); have q3 := oD ((((fr * 4) + la) * 5) + j) (by omega); have q4 := oL ((((fr * 4) + la) * 5) + j) (by omega); have q5 := oE ((((fr * 4) + la) * 5) + j) (by omega); show _ = tlD _ _ _ _; unfold tlD; rw [if_neg (by omega)]; omega))), (show Ri dL (((fr * 4) + la) * 5) (j + 1) (fun a => tlL (fD ((((fr * 4) + la) * 5) + a)) (fL ((((fr * 4) + la) * 5) + a)) ((ownZ sd (fg to) + pnZ cl a (fg fr) (fg to)) + fD ((((to * 4) + (min (la + 1) dp)) * 5) + cl)) (fL ((((to * 4) + (min (la + 1) dp)) * 5) + cl) + 1)) from (Ri_k iL (by have q1 := oD ((((to * 4) + (min (la + 1) dp)) * 5) + cl) (by omega); have q2 := oL ((((to * 4) + (min (la + 1) dp)) * 5) + cl) (by omega); have q3 := oD ((((fr * 4) + la) * 5) + j) (by omega); have q4 := oL ((((fr * 4) + la) * 5) + j) (by omega); have q5 := oE ((((fr * 4) + la) * 5) + j) (by omega); show _ = tlL _ _ _ _; unfold tlL; rw [if_neg (by omega)]; omega))), (show Ri dE (((fr * 4) + la) * 5) (j + 1) (fun a => tlE (fD ((((fr * 4) + la) * 5) + a)) (fL ((((fr * 4) + la) * 5) + a)) (fE ((((fr * 4) + la) * 5) + a)) ((ownZ sd (fg to) + pnZ cl a (fg fr) (fg to)) + fD ((((to * 4) + (min (la + 1) dp)) * 5) + cl)) (fL ((((to * 4) + (min (la + 1) dp)) * 5) + cl) + 1) to) from (Ri_k iE (by have q1 := oD ((((to * 4) + (min (la + 1) dp)) * 5) + cl) (by omega); have q2 := oL ((((to * 4) + (min (la + 1) dp)) * 5) + cl) (by omega); have q3 := oD ((((fr * 4) + la) * 5) + j) (by omega); have q4 := oL ((((fr * 4) + la) * 5) + j) (by omega); have q5 := oE ((((fr * 4) + la) * 5) + j) (by omega); show _ = tlE _ _ _ _ _ _; unfold tlE; rw [if_neg (by omega)]; omega))), (show Bd (-1) 1099511627776 dD from bD9), (show Bd 0 1000 dL from bL9), (show Bd (-1) 48 dE from bE9)⟩ (by first | omega | (dsimp only; omega)) _ _ _ (lv_sub hl [0, 4, 5, 6, 7, 8, 9] rfl) (bd_to rfl B)
          · have zc_38 : ((dL ((((to * 4) + (min (la + 1) dp)) * 5) + cl)) + 1) < (dL ((((fr * 4) + la) * 5) + j)) := jnle (a := (dL ((((fr * 4) + la) * 5) + j))) (b := ((dL ((((to * 4) + (min (la + 1) dp)) * 5) + cl)) + 1)) (by omega) (by omega) c_38
            refine lv_aload_n hx hb dX2_tryLine_130 rfl (lv_at hl 6 rfl) ?_
            refine x_get (ci := 2) (C := RX2) (T := TX2) (N := 13) (v := .ref bD) B 3 rfl rfl in_X2 10 (by decide) mw_140 (fun _ h9 => h9) rfl dX2_tryLine_131 ?_
            refine lv_iload hx hb dX2_tryLine_134 (lv_at hl 2 rfl) ?_
            refine lv_lload hx hb dX2_tryLine_136 (lv_at hl 1 rfl) ?_
            refine x_last' (f := dD) (z := ((((fr * 4) + la) * 5) + j)) (v := (((ownZ sd (fg to)) + (pnZ cl j (fg fr) (fg to))) + (dD ((((to * 4) + (min (la + 1) dp)) * 5) + cl)))) B 0 rfl (by omega) dX2_tryLine_138 (fun H locs B => ?_)
            have b_39 : Bd (-1) 1099511627776 (uz dD ((((fr * 4) + la) * 5) + j) (((ownZ sd (fg to)) + (pnZ cl j (fg fr) (fg to))) + (dD ((((to * 4) + (min (la + 1) dp)) * 5) + cl)))) := Bd_uz bD9 (by omega)
            have B := bd_to (ws' := [(bD, .inl (k 2, 980, .inr (.inl (fun i9 : Nat => lI ((uz dD ((((fr * 4) + la) * 5) + j) (((ownZ sd (fg to)) + (pnZ cl j (fg fr) (fg to))) + (dD ((((to * 4) + (min (la + 1) dp)) * 5) + cl)))) i9))))), (bL, .inl (k 0, 980, .inl (fun i9 : Nat => iI (dL i9)))), (bE, .inl (k 0, 980, .inl (fun i9 : Nat => iI (dE i9)))), (ln, .inr (2, [.int (iI n), .ref wa, .ref ga, .ref wt, .ref wo, .int (iI wd), .int (iI nw), .int (iI dp), .int (iI sd), .int (iI cl), .ref bD, .ref bL, .ref bE])), (ga, .inl (k 0, 49, .inl (fun i9 : Nat => iI (fg i9))))]) rfl B
            refine lv_aload_n hx hb dX2_tryLine_139 rfl (lv_at hl 6 rfl) ?_
            refine x_get (ci := 2) (C := RX2) (T := TX2) (N := 13) (v := .ref bL) B 3 rfl rfl in_X2 11 (by decide) mw_141 (fun _ h9 => h9) rfl dX2_tryLine_140 ?_
            refine lv_iload hx hb dX2_tryLine_143 (lv_at hl 2 rfl) ?_
            refine lv_iload hx hb dX2_tryLine_145 (lv_at hl 0 rfl) ?_
            refine x_iast' (f := dL) (z := ((((fr * 4) + la) * 5) + j)) (v := ((dL ((((to * 4) + (min (la + 1) dp)) * 5) + cl)) + 1)) B 1 rfl (by omega) dX2_tryLine_147 (fun H locs B => ?_)
            have b_40 : Bd 0 1000 (uz dL ((((fr * 4) + la) * 5) + j) ((dL ((((to * 4) + (min (la + 1) dp)) * 5) + cl)) + 1)) := Bd_uz bL9 (by omega)
            have B := bd_to (ws' := [(bD, .inl (k 2, 980, .inr (.inl (fun i9 : Nat => lI ((uz dD ((((fr * 4) + la) * 5) + j) (((ownZ sd (fg to)) + (pnZ cl j (fg fr) (fg to))) + (dD ((((to * 4) + (min (la + 1) dp)) * 5) + cl)))) i9))))), (bL, .inl (k 0, 980, .inl (fun i9 : Nat => iI ((uz dL ((((fr * 4) + la) * 5) + j) ((dL ((((to * 4) + (min (la + 1) dp)) * 5) + cl)) + 1)) i9)))), (bE, .inl (k 0, 980, .inl (fun i9 : Nat => iI (dE i9)))), (ln, .inr (2, [.int (iI n), .ref wa, .ref ga, .ref wt, .ref wo, .int (iI wd), .int (iI nw), .int (iI dp), .int (iI sd), .int (iI cl), .ref bD, .ref bL, .ref bE])), (ga, .inl (k 0, 49, .inl (fun i9 : Nat => iI (fg i9))))]) rfl B
            refine lv_aload_n hx hb dX2_tryLine_148 rfl (lv_at hl 6 rfl) ?_
            refine x_get (ci := 2) (C := RX2) (T := TX2) (N := 13) (v := .ref bE) B 3 rfl rfl in_X2 12 (by decide) mw_142 (fun _ h9 => h9) rfl dX2_tryLine_149 ?_
            refine lv_iload hx hb dX2_tryLine_152 (lv_at hl 2 rfl) ?_
            refine lv_iload_n hx hb dX2_tryLine_154 rfl (lv_at hl 8 rfl) ?_
            refine x_iast' (f := dE) (z := ((((fr * 4) + la) * 5) + j)) (v := to) B 2 rfl (by omega) dX2_tryLine_155 (fun H locs B => ?_)
            have b_41 : Bd (-1) 48 (uz dE ((((fr * 4) + la) * 5) + j) to) := Bd_uz bE9 (by omega)
            have B := bd_to (ws' := [(bD, .inl (k 2, 980, .inr (.inl (fun i9 : Nat => lI ((uz dD ((((fr * 4) + la) * 5) + j) (((ownZ sd (fg to)) + (pnZ cl j (fg fr) (fg to))) + (dD ((((to * 4) + (min (la + 1) dp)) * 5) + cl)))) i9))))), (bL, .inl (k 0, 980, .inl (fun i9 : Nat => iI ((uz dL ((((fr * 4) + la) * 5) + j) ((dL ((((to * 4) + (min (la + 1) dp)) * 5) + cl)) + 1)) i9)))), (bE, .inl (k 0, 980, .inl (fun i9 : Nat => iI ((uz dE ((((fr * 4) + la) * 5) + j) to) i9)))), (ln, .inr (2, [.int (iI n), .ref wa, .ref ga, .ref wt, .ref wo, .int (iI wd), .int (iI nw), .int (iI dp), .int (iI sd), .int (iI cl), .ref bD, .ref bL, .ref bE])), (ga, .inl (k 0, 49, .inl (fun i9 : Nat => iI (fg i9))))]) rfl B
            refine lv_iinc (v := iI (j + 1)) (lv' := [(7, .int (iI (j + 1))), (11, .int (iI ((dL ((((to * 4) + (min (la + 1) dp)) * 5) + cl)) + 1))), (9, .long (lI (((ownZ sd (fg to)) + (pnZ cl j (fg fr) (fg to))) + (dD ((((to * 4) + (min (la + 1) dp)) * 5) + cl))))), (8, .int (iI ((((fr * 4) + la) * 5) + j))), (6, .int (iI ((((to * 4) + (min (la + 1) dp)) * 5) + cl))), (4, .long (lI (ownZ sd (fg to)))), (0, .ref ln), (1, .int (iI fr)), (2, .int (iI to)), (3, .int (iI la))]) hx hb dX2_tryLine_156 hl (k := 3) rfl (iI_add _ _) (by decide) rfl (fun ls hl => ?_)
            refine lv_goto (tgt := 30) hx hb dX2_tryLine_159 (by decide) ?_
            exact ih_1 ((j + 1), (uz dD ((((fr * 4) + la) * 5) + j) (((ownZ sd (fg to)) + (pnZ cl j (fg fr) (fg to))) + (dD ((((to * 4) + (min (la + 1) dp)) * 5) + cl)))), (uz dL ((((fr * 4) + la) * 5) + j) ((dL ((((to * 4) + (min (la + 1) dp)) * 5) + cl)) + 1)), (uz dE ((((fr * 4) + la) * 5) + j) to)) ⟨(show 0 ≤ (j + 1) ∧ (j + 1) ≤ 5 from (by omega)), (show Ro (uz dD ((((fr * 4) + la) * 5) + j) (((ownZ sd (fg to)) + (pnZ cl j (fg fr) (fg to))) + (dD ((((to * 4) + (min (la + 1) dp)) * 5) + cl)))) fD (((fr * 4) + la) * 5) (j + 1) from (Ro_s oD (by omega) rfl)), (show Ro (uz dL ((((fr * 4) + la) * 5) + j) ((dL ((((to * 4) + (min (la + 1) dp)) * 5) + cl)) + 1)) fL (((fr * 4) + la) * 5) (j + 1) from (Ro_s oL (by omega) rfl)), (show Ro (uz dE ((((fr * 4) + la) * 5) + j) to) fE (((fr * 4) + la) * 5) (j + 1) from (Ro_s oE (by omega) rfl)), (show Ri (uz dD ((((fr * 4) + la) * 5) + j) (((ownZ sd (fg to)) + (pnZ cl j (fg fr) (fg to))) + (dD ((((to * 4) + (min (la + 1) dp)) * 5) + cl)))) (((fr * 4) + la) * 5) (j + 1) (fun a => tlD (fD ((((fr * 4) + la) * 5) + a)) (fL ((((fr * 4) + la) * 5) + a)) ((ownZ sd (fg to) + pnZ cl a (fg fr) (fg to)) + fD ((((to * 4) + (min (la + 1) dp)) * 5) + cl)) (fL ((((to * 4) + (min (la + 1) dp)) * 5) + cl) + 1)) from (Ri_s iD rfl (by have q1 := oD ((((to * 4) + (min (la + 1) dp)) * 5) + cl) (by omega); have q2 := oL ((((to * 4) + (min (la + 1) dp)) * 5) + cl) (by omega); have q3 := oD ((((fr * 4) + la) * 5) + j) (by omega); have q4 := oL ((((fr * 4) + la) * 5) + j) (by omega); have q5 := oE ((((fr * 4) + la) * 5) + j) (by omega); show _ = tlD _ _ _ _; unfold tlD; rw [if_pos (by omega)]; omega))), (show Ri (uz dL ((((fr * 4) + la) * 5) + j) ((dL ((((to * 4) + (min (la + 1) dp)) * 5) + cl)) + 1)) (((fr * 4) + la) * 5) (j + 1) (fun a => tlL (fD ((((fr * 4) + la) * 5) + a)) (fL ((((fr * 4) + la) * 5) + a)) ((ownZ sd (fg to) + pnZ cl a (fg fr) (fg to)) + fD ((((to * 4) + (min (la + 1) dp)) * 5) + cl)) (fL ((((to * 4) + (min (la + 1) dp)) * 5) + cl) + 1)) from (Ri_s iL rfl (by have q1 := oD ((((to * 4) + (min (la + 1) dp)) * 5) + cl) (by omega); have q2 := oL ((((to * 4) + (min (la + 1) dp)) * 5) + cl) (by omega); have q3 := oD ((((fr * 4) + la) * 5) + j) (by omega); have q4 := oL ((((fr * 4) + la) * 5) + j) (by omega); have q5 := oE ((((fr * 4) + la) * 5) + j) (by omega); show _ = tlL _ _ _ _; unfold tlL; rw [if_pos (by omega)]; omega))), (show Ri (uz dE ((((fr * 4) + la) * 5) + j) to) (((fr * 4) + la) * 5) (j + 1) (fun a => tlE (fD ((((fr * 4) + la) * 5) + a)) (fL ((((fr * 4) + la) * 5) + a)) (fE ((((fr * 4) + la) * 5) + a)) ((ownZ sd (fg to) + pnZ cl a (fg fr) (fg to)) + fD ((((to * 4) + (min (la + 1) dp)) * 5) + cl)) (fL ((((to * 4) + (min (la + 1) dp)) * 5) + cl) + 1) to) from (Ri_s iE rfl (by have q1 := oD ((((to * 4) + (min (la + 1) dp)) * 5) + cl) (by omega); have q2 := oL ((((to * 4) + (min (la + 1) dp)) * 5) + cl) (by omega); have q3 := oD ((((fr * 4) + la) * 5) + j) (by omega); have q4 := oL ((((fr * 4) + la) * 5) + j) (by omega); have q5 := oE ((((fr * 4) + la) * 5) + j) (by omega); show _ = tlE _ _ _ _ _ _; unfold tlE; rw [if_pos (by omega)]))), (show Bd (-1) 1099511627776 (uz dD ((((fr * 4) + la) * 5) + j) (((ownZ sd (fg to)) + (pnZ cl j (fg fr) (fg to))) + (dD ((((to * 4) + (min (la + 1) dp)) * 5) + cl)))) from b_39), (show Bd 0 1000 (uz dL ((((fr * 4) + la) * 5) + j) ((dL ((((to * 4) + (min (la + 1) dp)) * 5) + cl)) + 1)) from b_40), (show Bd (-1) 48 (uz dE ((((fr * 4) + la) * 5) + j) to) from b_41)⟩ (by first | omega | (dsimp only; omega)) _ _ _ (lv_sub hl [0, 4, 5, 6, 7, 8, 9] rfl) (bd_to rfl B)
        · refine lv_seti (y := iI 1) (congrArg iI (show cmpZ (((ownZ sd (fg to)) + (pnZ cl j (fg fr) (fg to))) + (dD ((((to * 4) + (min (la + 1) dp)) * 5) + cl))) (dD ((((fr * 4) + la) * 5) + j)) = 1 from (if_neg (by omega)).trans (if_neg (by omega)))) ?_
          refine lv_if_ne (tgt := 156) hx hb dX2_tryLine_115 (by decide) (fun _ => ?_) (fun c9 => absurd c9 (by decide))
          refine lv_iinc (v := iI (j + 1)) (lv' := [(7, .int (iI (j + 1))), (11, .int (iI ((dL ((((to * 4) + (min (la + 1) dp)) * 5) + cl)) + 1))), (9, .long (lI (((ownZ sd (fg to)) + (pnZ cl j (fg fr) (fg to))) + (dD ((((to * 4) + (min (la + 1) dp)) * 5) + cl))))), (8, .int (iI ((((fr * 4) + la) * 5) + j))), (6, .int (iI ((((to * 4) + (min (la + 1) dp)) * 5) + cl))), (4, .long (lI (ownZ sd (fg to)))), (0, .ref ln), (1, .int (iI fr)), (2, .int (iI to)), (3, .int (iI la))]) hx hb dX2_tryLine_156 hl (k := 3) rfl (iI_add _ _) (by decide) rfl (fun ls hl => ?_)
          refine lv_goto (tgt := 30) hx hb dX2_tryLine_159 (by decide) ?_
          exact ih_1 ((j + 1), dD, dL, dE) ⟨(show 0 ≤ (j + 1) ∧ (j + 1) ≤ 5 from (by omega)), (show Ro dD fD (((fr * 4) + la) * 5) (j + 1) from (Ro_k oD)), (show Ro dL fL (((fr * 4) + la) * 5) (j + 1) from (Ro_k oL)), (show Ro dE fE (((fr * 4) + la) * 5) (j + 1) from (Ro_k oE)), (show Ri dD (((fr * 4) + la) * 5) (j + 1) (fun a => tlD (fD ((((fr * 4) + la) * 5) + a)) (fL ((((fr * 4) + la) * 5) + a)) ((ownZ sd (fg to) + pnZ cl a (fg fr) (fg to)) + fD ((((to * 4) + (min (la + 1) dp)) * 5) + cl)) (fL ((((to * 4) + (min (la + 1) dp)) * 5) + cl) + 1)) from (Ri_k iD (by have q1 := oD ((((to * 4) + (min (la + 1) dp)) * 5) + cl) (by omega); have q2 := oL ((((to * 4) + (min (la + 1) dp)) * 5) + cl) (by omega); have q3 := oD ((((fr * 4) + la) * 5) + j) (by omega); have q4 := oL ((((fr * 4) + la) * 5) + j) (by omega); have q5 := oE ((((fr * 4) + la) * 5) + j) (by omega); show _ = tlD _ _ _ _; unfold tlD; rw [if_neg (by omega)]; omega))), (show Ri dL (((fr * 4) + la) * 5) (j + 1) (fun a => tlL (fD ((((fr * 4) + la) * 5) + a)) (fL ((((fr * 4) + la) * 5) + a)) ((ownZ sd (fg to) + pnZ cl a (fg fr) (fg to)) + fD ((((to * 4) + (min (la + 1) dp)) * 5) + cl)) (fL ((((to * 4) + (min (la + 1) dp)) * 5) + cl) + 1)) from (Ri_k iL (by have q1 := oD ((((to * 4) + (min (la + 1) dp)) * 5) + cl) (by omega); have q2 := oL ((((to * 4) + (min (la + 1) dp)) * 5) + cl) (by omega); have q3 := oD ((((fr * 4) + la) * 5) + j) (by omega); have q4 := oL ((((fr * 4) + la) * 5) + j) (by omega); have q5 := oE ((((fr * 4) + la) * 5) + j) (by omega); show _ = tlL _ _ _ _; unfold tlL; rw [if_neg (by omega)]; omega))), (show Ri dE (((fr * 4) + la) * 5) (j + 1) (fun a => tlE (fD ((((fr * 4) + la) * 5) + a)) (fL ((((fr * 4) + la) * 5) + a)) (fE ((((fr * 4) + la) * 5) + a)) ((ownZ sd (fg to) + pnZ cl a (fg fr) (fg to)) + fD ((((to * 4) + (min (la + 1) dp)) * 5) + cl)) (fL ((((to * 4) + (min (la + 1) dp)) * 5) + cl) + 1) to) from (Ri_k iE (by have q1 := oD ((((to * 4) + (min (la + 1) dp)) * 5) + cl) (by omega); have q2 := oL ((((to * 4) + (min (la + 1) dp)) * 5) + cl) (by omega); have q3 := oD ((((fr * 4) + la) * 5) + j) (by omega); have q4 := oL ((((fr * 4) + la) * 5) + j) (by omega); have q5 := oE ((((fr * 4) + la) * 5) + j) (by omega); show _ = tlE _ _ _ _ _ _; unfold tlE; rw [if_neg (by omega)]; omega))), (show Bd (-1) 1099511627776 dD from bD9), (show Bd 0 1000 dL from bL9), (show Bd (-1) 48 dE from bE9)⟩ (by first | omega | (dsimp only; omega)) _ _ _ (lv_sub hl [0, 4, 5, 6, 7, 8, 9] rfl) (bd_to rfl B)
      · refine lv_seti (y := iI 1) (congrArg iI (show cmpZ (((ownZ sd (fg to)) + (pnZ cl j (fg fr) (fg to))) + (dD ((((to * 4) + (min (la + 1) dp)) * 5) + cl))) (dD ((((fr * 4) + la) * 5) + j)) = 1 from (if_neg (by omega)).trans (if_neg (by omega)))) ?_
        refine lv_if_lt (tgt := 130) hx hb dX2_tryLine_102 (by decide) (fun c9 => absurd c9 (by decide)) (fun _ => ?_)
        refine lv_lload hx hb dX2_tryLine_105 (lv_at hl 1 rfl) ?_
        refine lv_aload_n hx hb dX2_tryLine_107 rfl (lv_at hl 6 rfl) ?_
        refine x_get (ci := 2) (C := RX2) (T := TX2) (N := 13) (v := .ref bD) B 3 rfl rfl in_X2 10 (by decide) mw_140 (fun _ h9 => h9) rfl dX2_tryLine_108 ?_
        refine lv_iload hx hb dX2_tryLine_111 (lv_at hl 2 rfl) ?_
        refine x_lald' (f := dD) (z := ((((fr * 4) + la) * 5) + j)) B 0 rfl (by omega) dX2_tryLine_113 ?_
        have z_42 : (-1) ≤ (dD ((((fr * 4) + la) * 5) + j)) ∧ (dD ((((fr * 4) + la) * 5) + j)) ≤ 1099511627776 := bD9 ((((fr * 4) + la) * 5) + j)
        refine y_lcmp B (a := (((ownZ sd (fg to)) + (pnZ cl j (fg fr) (fg to))) + (dD ((((to * 4) + (min (la + 1) dp)) * 5) + cl)))) (b := (dD ((((fr * 4) + la) * 5) + j))) (by omega) (by omega) dX2_tryLine_114 ?_
        rcases (show (((ownZ sd (fg to)) + (pnZ cl j (fg fr) (fg to))) + (dD ((((to * 4) + (min (la + 1) dp)) * 5) + cl))) < (dD ((((fr * 4) + la) * 5) + j)) ∨ (((ownZ sd (fg to)) + (pnZ cl j (fg fr) (fg to))) + (dD ((((to * 4) + (min (la + 1) dp)) * 5) + cl))) = (dD ((((fr * 4) + la) * 5) + j)) ∨ (dD ((((fr * 4) + la) * 5) + j)) < (((ownZ sd (fg to)) + (pnZ cl j (fg fr) (fg to))) + (dD ((((to * 4) + (min (la + 1) dp)) * 5) + cl))) by omega) with zc_43 | zc_43 | zc_43
        · refine lv_seti (y := iI (-1)) (congrArg iI (show cmpZ (((ownZ sd (fg to)) + (pnZ cl j (fg fr) (fg to))) + (dD ((((to * 4) + (min (la + 1) dp)) * 5) + cl))) (dD ((((fr * 4) + la) * 5) + j)) = (-1) from if_pos zc_43)) ?_
          refine lv_if_ne (tgt := 156) hx hb dX2_tryLine_115 (by decide) (fun _ => ?_) (fun c9 => absurd c9 (by decide))
          refine lv_iinc (v := iI (j + 1)) (lv' := [(7, .int (iI (j + 1))), (11, .int (iI ((dL ((((to * 4) + (min (la + 1) dp)) * 5) + cl)) + 1))), (9, .long (lI (((ownZ sd (fg to)) + (pnZ cl j (fg fr) (fg to))) + (dD ((((to * 4) + (min (la + 1) dp)) * 5) + cl))))), (8, .int (iI ((((fr * 4) + la) * 5) + j))), (6, .int (iI ((((to * 4) + (min (la + 1) dp)) * 5) + cl))), (4, .long (lI (ownZ sd (fg to)))), (0, .ref ln), (1, .int (iI fr)), (2, .int (iI to)), (3, .int (iI la))]) hx hb dX2_tryLine_156 hl (k := 3) rfl (iI_add _ _) (by decide) rfl (fun ls hl => ?_)
          refine lv_goto (tgt := 30) hx hb dX2_tryLine_159 (by decide) ?_
          exact ih_1 ((j + 1), dD, dL, dE) ⟨(show 0 ≤ (j + 1) ∧ (j + 1) ≤ 5 from (by omega)), (show Ro dD fD (((fr * 4) + la) * 5) (j + 1) from (Ro_k oD)), (show Ro dL fL (((fr * 4) + la) * 5) (j + 1) from (Ro_k oL)), (show Ro dE fE (((fr * 4) + la) * 5) (j + 1) from (Ro_k oE)), (show Ri dD (((fr * 4) + la) * 5) (j + 1) (fun a => tlD (fD ((((fr * 4) + la) * 5) + a)) (fL ((((fr * 4) + la) * 5) + a)) ((ownZ sd (fg to) + pnZ cl a (fg fr) (fg to)) + fD ((((to * 4) + (min (la + 1) dp)) * 5) + cl)) (fL ((((to * 4) + (min (la + 1) dp)) * 5) + cl) + 1)) from (Ri_k iD (by have q1 := oD ((((to * 4) + (min (la + 1) dp)) * 5) + cl) (by omega); have q2 := oL ((((to * 4) + (min (la + 1) dp)) * 5) + cl) (by omega); have q3 := oD ((((fr * 4) + la) * 5) + j) (by omega); have q4 := oL ((((fr * 4) + la) * 5) + j) (by omega); have q5 := oE ((((fr * 4) + la) * 5) + j) (by omega); show _ = tlD _ _ _ _; unfold tlD; rw [if_neg (by omega)]; omega))), (show Ri dL (((fr * 4) + la) * 5) (j + 1) (fun a => tlL (fD ((((fr * 4) + la) * 5) + a)) (fL ((((fr * 4) + la) * 5) + a)) ((ownZ sd (fg to) + pnZ cl a (fg fr) (fg to)) + fD ((((to * 4) + (min (la + 1) dp)) * 5) + cl)) (fL ((((to * 4) + (min (la + 1) dp)) * 5) + cl) + 1)) from (Ri_k iL (by have q1 := oD ((((to * 4) + (min (la + 1) dp)) * 5) + cl) (by omega); have q2 := oL ((((to * 4) + (min (la + 1) dp)) * 5) + cl) (by omega); have q3 := oD ((((fr * 4) + la) * 5) + j) (by omega); have q4 := oL ((((fr * 4) + la) * 5) + j) (by omega); have q5 := oE ((((fr * 4) + la) * 5) + j) (by omega); show _ = tlL _ _ _ _; unfold tlL; rw [if_neg (by omega)]; omega))), (show Ri dE (((fr * 4) + la) * 5) (j + 1) (fun a => tlE (fD ((((fr * 4) + la) * 5) + a)) (fL ((((fr * 4) + la) * 5) + a)) (fE ((((fr * 4) + la) * 5) + a)) ((ownZ sd (fg to) + pnZ cl a (fg fr) (fg to)) + fD ((((to * 4) + (min (la + 1) dp)) * 5) + cl)) (fL ((((to * 4) + (min (la + 1) dp)) * 5) + cl) + 1) to) from (Ri_k iE (by have q1 := oD ((((to * 4) + (min (la + 1) dp)) * 5) + cl) (by omega); have q2 := oL ((((to * 4) + (min (la + 1) dp)) * 5) + cl) (by omega); have q3 := oD ((((fr * 4) + la) * 5) + j) (by omega); have q4 := oL ((((fr * 4) + la) * 5) + j) (by omega); have q5 := oE ((((fr * 4) + la) * 5) + j) (by omega); show _ = tlE _ _ _ _ _ _; unfold tlE; rw [if_neg (by omega)]; omega))), (show Bd (-1) 1099511627776 dD from bD9), (show Bd 0 1000 dL from bL9), (show Bd (-1) 48 dE from bE9)⟩ (by first | omega | (dsimp only; omega)) _ _ _ (lv_sub hl [0, 4, 5, 6, 7, 8, 9] rfl) (bd_to rfl B)
        · refine lv_seti (y := iI 0) (congrArg iI (show cmpZ (((ownZ sd (fg to)) + (pnZ cl j (fg fr) (fg to))) + (dD ((((to * 4) + (min (la + 1) dp)) * 5) + cl))) (dD ((((fr * 4) + la) * 5) + j)) = 0 from (if_neg (by omega)).trans (if_pos zc_43))) ?_
          refine lv_if_ne (tgt := 156) hx hb dX2_tryLine_115 (by decide) (fun c9 => absurd c9 (by decide)) (fun _ => ?_)
          refine lv_iload hx hb dX2_tryLine_118 (lv_at hl 0 rfl) ?_
          refine lv_aload_n hx hb dX2_tryLine_120 rfl (lv_at hl 6 rfl) ?_
          refine x_get (ci := 2) (C := RX2) (T := TX2) (N := 13) (v := .ref bL) B 3 rfl rfl in_X2 11 (by decide) mw_141 (fun _ h9 => h9) rfl dX2_tryLine_121 ?_
          refine lv_iload hx hb dX2_tryLine_124 (lv_at hl 2 rfl) ?_
          refine x_iald' (f := dL) (z := ((((fr * 4) + la) * 5) + j)) B 1 rfl (by omega) dX2_tryLine_126 ?_
          have z_44 : 0 ≤ (dL ((((fr * 4) + la) * 5) + j)) ∧ (dL ((((fr * 4) + la) * 5) + j)) ≤ 1000 := bL9 ((((fr * 4) + la) * 5) + j)
          refine lv_icmp_ge (tgt := 156) hx hb dX2_tryLine_127 (by decide) (fun c_45 => ?_) (fun c_45 => ?_)
          · have zc_45 : (dL ((((fr * 4) + la) * 5) + j)) ≤ ((dL ((((to * 4) + (min (la + 1) dp)) * 5) + cl)) + 1) := jle (a := (dL ((((fr * 4) + la) * 5) + j))) (b := ((dL ((((to * 4) + (min (la + 1) dp)) * 5) + cl)) + 1)) (by omega) (by omega) c_45
            refine lv_iinc (v := iI (j + 1)) (lv' := [(7, .int (iI (j + 1))), (11, .int (iI ((dL ((((to * 4) + (min (la + 1) dp)) * 5) + cl)) + 1))), (9, .long (lI (((ownZ sd (fg to)) + (pnZ cl j (fg fr) (fg to))) + (dD ((((to * 4) + (min (la + 1) dp)) * 5) + cl))))), (8, .int (iI ((((fr * 4) + la) * 5) + j))), (6, .int (iI ((((to * 4) + (min (la + 1) dp)) * 5) + cl))), (4, .long (lI (ownZ sd (fg to)))), (0, .ref ln), (1, .int (iI fr)), (2, .int (iI to)), (3, .int (iI la))]) hx hb dX2_tryLine_156 hl (k := 3) rfl (iI_add _ _) (by decide) rfl (fun ls hl => ?_)
            refine lv_goto (tgt := 30) hx hb dX2_tryLine_159 (by decide) ?_
            exact ih_1 ((j + 1), dD, dL, dE) ⟨(show 0 ≤ (j + 1) ∧ (j + 1) ≤ 5 from (by omega)), (show Ro dD fD (((fr * 4) + la) * 5) (j + 1) from (Ro_k oD)), (show Ro dL fL (((fr * 4) + la) * 5) (j + 1) from (Ro_k oL)), (show Ro dE fE (((fr * 4) + la) * 5) (j + 1) from (Ro_k oE)), (show Ri dD (((fr * 4) + la) * 5) (j + 1) (fun a => tlD (fD ((((fr * 4) + la) * 5) + a)) (fL ((((fr * 4) + la) * 5) + a)) ((ownZ sd (fg to) + pnZ cl a (fg fr) (fg to)) + fD ((((to * 4) + (min (la + 1) dp)) * 5) + cl)) (fL ((((to * 4) + (min (la + 1) dp)) * 5) + cl) + 1)) from (Ri_k iD (by have q1 := oD ((((to * 4) + (min (la + 1) dp)) * 5) + cl) (by omega); have q2 := oL ((((to * 4) + (min (la + 1) dp)) * 5) + cl) (by omega); have q3 := oD ((((fr * 4) + la) * 5) + j) (by omega); have q4 := oL ((((fr * 4) + la) * 5) + j) (by omega); have q5 := oE ((((fr * 4) + la) * 5) + j) (by omega); show _ = tlD _ _ _ _; unfold tlD; rw [if_neg (by omega)]; omega))), (show Ri dL (((fr * 4) + la) * 5) (j + 1) (fun a => tlL (fD ((((fr * 4) + la) * 5) + a)) (fL ((((fr * 4) + la) * 5) + a)) ((ownZ sd (fg to) + pnZ cl a (fg fr) (fg to)) + fD ((((to * 4) + (min (la + 1) dp)) * 5) + cl)) (fL ((((to * 4) + (min (la + 1) dp)) * 5) + cl) + 1)) from (Ri_k iL (by have q1 := oD ((((to * 4) + (min (la + 1) dp)) * 5) + cl) (by omega); have q2 := oL ((((to * 4) + (min (la + 1) dp)) * 5) + cl) (by omega); have q3 := oD ((((fr * 4) + la) * 5) + j) (by omega); have q4 := oL ((((fr * 4) + la) * 5) + j) (by omega); have q5 := oE ((((fr * 4) + la) * 5) + j) (by omega); show _ = tlL _ _ _ _; unfold tlL; rw [if_neg (by omega)]; omega))), (show Ri dE (((fr * 4) + la) * 5) (j + 1) (fun a => tlE (fD ((((fr * 4) + la) * 5) + a)) (fL ((((fr * 4) + la) * 5) + a)) (fE ((((fr * 4) + la) * 5) + a)) ((ownZ sd (fg to) + pnZ cl a (fg fr) (fg to)) + fD ((((to * 4) + (min (la + 1) dp)) * 5) + cl)) (fL ((((to * 4) + (min (la + 1) dp)) * 5) + cl) + 1) to) from (Ri_k iE (by have q1 := oD ((((to * 4) + (min (la + 1) dp)) * 5) + cl) (by omega); have q2 := oL ((((to * 4) + (min (la + 1) dp)) * 5) + cl) (by omega); have q3 := oD ((((fr * 4) + la) * 5) + j) (by omega); have q4 := oL ((((fr * 4) + la) * 5) + j) (by omega); have q5 := oE ((((fr * 4) + la) * 5) + j) (by omega); show _ = tlE _ _ _ _ _ _; unfold tlE; rw [if_neg (by omega)]; omega))), (show Bd (-1) 1099511627776 dD from bD9), (show Bd 0 1000 dL from bL9), (show Bd (-1) 48 dE from bE9)⟩ (by first | omega | (dsimp only; omega)) _ _ _ (lv_sub hl [0, 4, 5, 6, 7, 8, 9] rfl) (bd_to rfl B)
          · have zc_45 : ((dL ((((to * 4) + (min (la + 1) dp)) * 5) + cl)) + 1) < (dL ((((fr * 4) + la) * 5) + j)) := jnle (a := (dL ((((fr * 4) + la) * 5) + j))) (b := ((dL ((((to * 4) + (min (la + 1) dp)) * 5) + cl)) + 1)) (by omega) (by omega) c_45
            refine lv_aload_n hx hb dX2_tryLine_130 rfl (lv_at hl 6 rfl) ?_
            refine x_get (ci := 2) (C := RX2) (T := TX2) (N := 13) (v := .ref bD) B 3 rfl rfl in_X2 10 (by decide) mw_140 (fun _ h9 => h9) rfl dX2_tryLine_131 ?_
            refine lv_iload hx hb dX2_tryLine_134 (lv_at hl 2 rfl) ?_
            refine lv_lload hx hb dX2_tryLine_136 (lv_at hl 1 rfl) ?_
            refine x_last' (f := dD) (z := ((((fr * 4) + la) * 5) + j)) (v := (((ownZ sd (fg to)) + (pnZ cl j (fg fr) (fg to))) + (dD ((((to * 4) + (min (la + 1) dp)) * 5) + cl)))) B 0 rfl (by omega) dX2_tryLine_138 (fun H locs B => ?_)
            have b_46 : Bd (-1) 1099511627776 (uz dD ((((fr * 4) + la) * 5) + j) (((ownZ sd (fg to)) + (pnZ cl j (fg fr) (fg to))) + (dD ((((to * 4) + (min (la + 1) dp)) * 5) + cl)))) := Bd_uz bD9 (by omega)
            have B := bd_to (ws' := [(bD, .inl (k 2, 980, .inr (.inl (fun i9 : Nat => lI ((uz dD ((((fr * 4) + la) * 5) + j) (((ownZ sd (fg to)) + (pnZ cl j (fg fr) (fg to))) + (dD ((((to * 4) + (min (la + 1) dp)) * 5) + cl)))) i9))))), (bL, .inl (k 0, 980, .inl (fun i9 : Nat => iI (dL i9)))), (bE, .inl (k 0, 980, .inl (fun i9 : Nat => iI (dE i9)))), (ln, .inr (2, [.int (iI n), .ref wa, .ref ga, .ref wt, .ref wo, .int (iI wd), .int (iI nw), .int (iI dp), .int (iI sd), .int (iI cl), .ref bD, .ref bL, .ref bE])), (ga, .inl (k 0, 49, .inl (fun i9 : Nat => iI (fg i9))))]) rfl B
            refine lv_aload_n hx hb dX2_tryLine_139 rfl (lv_at hl 6 rfl) ?_
            refine x_get (ci := 2) (C := RX2) (T := TX2) (N := 13) (v := .ref bL) B 3 rfl rfl in_X2 11 (by decide) mw_141 (fun _ h9 => h9) rfl dX2_tryLine_140 ?_
            refine lv_iload hx hb dX2_tryLine_143 (lv_at hl 2 rfl) ?_
            refine lv_iload hx hb dX2_tryLine_145 (lv_at hl 0 rfl) ?_
            refine x_iast' (f := dL) (z := ((((fr * 4) + la) * 5) + j)) (v := ((dL ((((to * 4) + (min (la + 1) dp)) * 5) + cl)) + 1)) B 1 rfl (by omega) dX2_tryLine_147 (fun H locs B => ?_)
            have b_47 : Bd 0 1000 (uz dL ((((fr * 4) + la) * 5) + j) ((dL ((((to * 4) + (min (la + 1) dp)) * 5) + cl)) + 1)) := Bd_uz bL9 (by omega)
            have B := bd_to (ws' := [(bD, .inl (k 2, 980, .inr (.inl (fun i9 : Nat => lI ((uz dD ((((fr * 4) + la) * 5) + j) (((ownZ sd (fg to)) + (pnZ cl j (fg fr) (fg to))) + (dD ((((to * 4) + (min (la + 1) dp)) * 5) + cl)))) i9))))), (bL, .inl (k 0, 980, .inl (fun i9 : Nat => iI ((uz dL ((((fr * 4) + la) * 5) + j) ((dL ((((to * 4) + (min (la + 1) dp)) * 5) + cl)) + 1)) i9)))), (bE, .inl (k 0, 980, .inl (fun i9 : Nat => iI (dE i9)))), (ln, .inr (2, [.int (iI n), .ref wa, .ref ga, .ref wt, .ref wo, .int (iI wd), .int (iI nw), .int (iI dp), .int (iI sd), .int (iI cl), .ref bD, .ref bL, .ref bE])), (ga, .inl (k 0, 49, .inl (fun i9 : Nat => iI (fg i9))))]) rfl B
            refine lv_aload_n hx hb dX2_tryLine_148 rfl (lv_at hl 6 rfl) ?_
            refine x_get (ci := 2) (C := RX2) (T := TX2) (N := 13) (v := .ref bE) B 3 rfl rfl in_X2 12 (by decide) mw_142 (fun _ h9 => h9) rfl dX2_tryLine_149 ?_
            refine lv_iload hx hb dX2_tryLine_152 (lv_at hl 2 rfl) ?_
            refine lv_iload_n hx hb dX2_tryLine_154 rfl (lv_at hl 8 rfl) ?_
            refine x_iast' (f := dE) (z := ((((fr * 4) + la) * 5) + j)) (v := to) B 2 rfl (by omega) dX2_tryLine_155 (fun H locs B => ?_)
            have b_48 : Bd (-1) 48 (uz dE ((((fr * 4) + la) * 5) + j) to) := Bd_uz bE9 (by omega)
            have B := bd_to (ws' := [(bD, .inl (k 2, 980, .inr (.inl (fun i9 : Nat => lI ((uz dD ((((fr * 4) + la) * 5) + j) (((ownZ sd (fg to)) + (pnZ cl j (fg fr) (fg to))) + (dD ((((to * 4) + (min (la + 1) dp)) * 5) + cl)))) i9))))), (bL, .inl (k 0, 980, .inl (fun i9 : Nat => iI ((uz dL ((((fr * 4) + la) * 5) + j) ((dL ((((to * 4) + (min (la + 1) dp)) * 5) + cl)) + 1)) i9)))), (bE, .inl (k 0, 980, .inl (fun i9 : Nat => iI ((uz dE ((((fr * 4) + la) * 5) + j) to) i9)))), (ln, .inr (2, [.int (iI n), .ref wa, .ref ga, .ref wt, .ref wo, .int (iI wd), .int (iI nw), .int (iI dp), .int (iI sd), .int (iI cl), .ref bD, .ref bL, .ref bE])), (ga, .inl (k 0, 49, .inl (fun i9 : Nat => iI (fg i9))))]) rfl B
            refine lv_iinc (v := iI (j + 1)) (lv' := [(7, .int (iI (j + 1))), (11, .int (iI ((dL ((((to * 4) + (min (la + 1) dp)) * 5) + cl)) + 1))), (9, .long (lI (((ownZ sd (fg to)) + (pnZ cl j (fg fr) (fg to))) + (dD ((((to * 4) + (min (la + 1) dp)) * 5) + cl))))), (8, .int (iI ((((fr * 4) + la) * 5) + j))), (6, .int (iI ((((to * 4) + (min (la + 1) dp)) * 5) + cl))), (4, .long (lI (ownZ sd (fg to)))), (0, .ref ln), (1, .int (iI fr)), (2, .int (iI to)), (3, .int (iI la))]) hx hb dX2_tryLine_156 hl (k := 3) rfl (iI_add _ _) (by decide) rfl (fun ls hl => ?_)
            refine lv_goto (tgt := 30) hx hb dX2_tryLine_159 (by decide) ?_
            exact ih_1 ((j + 1), (uz dD ((((fr * 4) + la) * 5) + j) (((ownZ sd (fg to)) + (pnZ cl j (fg fr) (fg to))) + (dD ((((to * 4) + (min (la + 1) dp)) * 5) + cl)))), (uz dL ((((fr * 4) + la) * 5) + j) ((dL ((((to * 4) + (min (la + 1) dp)) * 5) + cl)) + 1)), (uz dE ((((fr * 4) + la) * 5) + j) to)) ⟨(show 0 ≤ (j + 1) ∧ (j + 1) ≤ 5 from (by omega)), (show Ro (uz dD ((((fr * 4) + la) * 5) + j) (((ownZ sd (fg to)) + (pnZ cl j (fg fr) (fg to))) + (dD ((((to * 4) + (min (la + 1) dp)) * 5) + cl)))) fD (((fr * 4) + la) * 5) (j + 1) from (Ro_s oD (by omega) rfl)), (show Ro (uz dL ((((fr * 4) + la) * 5) + j) ((dL ((((to * 4) + (min (la + 1) dp)) * 5) + cl)) + 1)) fL (((fr * 4) + la) * 5) (j + 1) from (Ro_s oL (by omega) rfl)), (show Ro (uz dE ((((fr * 4) + la) * 5) + j) to) fE (((fr * 4) + la) * 5) (j + 1) from (Ro_s oE (by omega) rfl)), (show Ri (uz dD ((((fr * 4) + la) * 5) + j) (((ownZ sd (fg to)) + (pnZ cl j (fg fr) (fg to))) + (dD ((((to * 4) + (min (la + 1) dp)) * 5) + cl)))) (((fr * 4) + la) * 5) (j + 1) (fun a => tlD (fD ((((fr * 4) + la) * 5) + a)) (fL ((((fr * 4) + la) * 5) + a)) ((ownZ sd (fg to) + pnZ cl a (fg fr) (fg to)) + fD ((((to * 4) + (min (la + 1) dp)) * 5) + cl)) (fL ((((to * 4) + (min (la + 1) dp)) * 5) + cl) + 1)) from (Ri_s iD rfl (by have q1 := oD ((((to * 4) + (min (la + 1) dp)) * 5) + cl) (by omega); have q2 := oL ((((to * 4) + (min (la + 1) dp)) * 5) + cl) (by omega); have q3 := oD ((((fr * 4) + la) * 5) + j) (by omega); have q4 := oL ((((fr * 4) + la) * 5) + j) (by omega); have q5 := oE ((((fr * 4) + la) * 5) + j) (by omega); show _ = tlD _ _ _ _; unfold tlD; rw [if_pos (by omega)]; omega))), (show Ri (uz dL ((((fr * 4) + la) * 5) + j) ((dL ((((to * 4) + (min (la + 1) dp)) * 5) + cl)) + 1)) (((fr * 4) + la) * 5) (j + 1) (fun a => tlL (fD ((((fr * 4) + la) * 5) + a)) (fL ((((fr * 4) + la) * 5) + a)) ((ownZ sd (fg to) + pnZ cl a (fg fr) (fg to)) + fD ((((to * 4) + (min (la + 1) dp)) * 5) + cl)) (fL ((((to * 4) + (min (la + 1) dp)) * 5) + cl) + 1)) from (Ri_s iL rfl (by have q1 := oD ((((to * 4) + (min (la + 1) dp)) * 5) + cl) (by omega); have q2 := oL ((((to * 4) + (min (la + 1) dp)) * 5) + cl) (by omega); have q3 := oD ((((fr * 4) + la) * 5) + j) (by omega); have q4 := oL ((((fr * 4) + la) * 5) + j) (by omega); have q5 := oE ((((fr * 4) + la) * 5) + j) (by omega); show _ = tlL _ _ _ _; unfold tlL; rw [if_pos (by omega)]; omega))), (show Ri (uz dE ((((fr * 4) + la) * 5) + j) to) (((fr * 4) + la) * 5) (j + 1) (fun a => tlE (fD ((((fr * 4) + la) * 5) + a)) (fL ((((fr * 4) + la) * 5) + a)) (fE ((((fr * 4) + la) * 5) + a)) ((ownZ sd (fg to) + pnZ cl a (fg fr) (fg to)) + fD ((((to * 4) + (min (la + 1) dp)) * 5) + cl)) (fL ((((to * 4) + (min (la + 1) dp)) * 5) + cl) + 1) to) from (Ri_s iE rfl (by have q1 := oD ((((to * 4) + (min (la + 1) dp)) * 5) + cl) (by omega); have q2 := oL ((((to * 4) + (min (la + 1) dp)) * 5) + cl) (by omega); have q3 := oD ((((fr * 4) + la) * 5) + j) (by omega); have q4 := oL ((((fr * 4) + la) * 5) + j) (by omega); have q5 := oE ((((fr * 4) + la) * 5) + j) (by omega); show _ = tlE _ _ _ _ _ _; unfold tlE; rw [if_pos (by omega)]))), (show Bd (-1) 1099511627776 (uz dD ((((fr * 4) + la) * 5) + j) (((ownZ sd (fg to)) + (pnZ cl j (fg fr) (fg to))) + (dD ((((to * 4) + (min (la + 1) dp)) * 5) + cl)))) from b_46), (show Bd 0 1000 (uz dL ((((fr * 4) + la) * 5) + j) ((dL ((((to * 4) + (min (la + 1) dp)) * 5) + cl)) + 1)) from b_47), (show Bd (-1) 48 (uz dE ((((fr * 4) + la) * 5) + j) to) from b_48)⟩ (by first | omega | (dsimp only; omega)) _ _ _ (lv_sub hl [0, 4, 5, 6, 7, 8, 9] rfl) (bd_to rfl B)
        · refine lv_seti (y := iI 1) (congrArg iI (show cmpZ (((ownZ sd (fg to)) + (pnZ cl j (fg fr) (fg to))) + (dD ((((to * 4) + (min (la + 1) dp)) * 5) + cl))) (dD ((((fr * 4) + la) * 5) + j)) = 1 from (if_neg (by omega)).trans (if_neg (by omega)))) ?_
          refine lv_if_ne (tgt := 156) hx hb dX2_tryLine_115 (by decide) (fun _ => ?_) (fun c9 => absurd c9 (by decide))
          refine lv_iinc (v := iI (j + 1)) (lv' := [(7, .int (iI (j + 1))), (11, .int (iI ((dL ((((to * 4) + (min (la + 1) dp)) * 5) + cl)) + 1))), (9, .long (lI (((ownZ sd (fg to)) + (pnZ cl j (fg fr) (fg to))) + (dD ((((to * 4) + (min (la + 1) dp)) * 5) + cl))))), (8, .int (iI ((((fr * 4) + la) * 5) + j))), (6, .int (iI ((((to * 4) + (min (la + 1) dp)) * 5) + cl))), (4, .long (lI (ownZ sd (fg to)))), (0, .ref ln), (1, .int (iI fr)), (2, .int (iI to)), (3, .int (iI la))]) hx hb dX2_tryLine_156 hl (k := 3) rfl (iI_add _ _) (by decide) rfl (fun ls hl => ?_)
          refine lv_goto (tgt := 30) hx hb dX2_tryLine_159 (by decide) ?_
          exact ih_1 ((j + 1), dD, dL, dE) ⟨(show 0 ≤ (j + 1) ∧ (j + 1) ≤ 5 from (by omega)), (show Ro dD fD (((fr * 4) + la) * 5) (j + 1) from (Ro_k oD)), (show Ro dL fL (((fr * 4) + la) * 5) (j + 1) from (Ro_k oL)), (show Ro dE fE (((fr * 4) + la) * 5) (j + 1) from (Ro_k oE)), (show Ri dD (((fr * 4) + la) * 5) (j + 1) (fun a => tlD (fD ((((fr * 4) + la) * 5) + a)) (fL ((((fr * 4) + la) * 5) + a)) ((ownZ sd (fg to) + pnZ cl a (fg fr) (fg to)) + fD ((((to * 4) + (min (la + 1) dp)) * 5) + cl)) (fL ((((to * 4) + (min (la + 1) dp)) * 5) + cl) + 1)) from (Ri_k iD (by have q1 := oD ((((to * 4) + (min (la + 1) dp)) * 5) + cl) (by omega); have q2 := oL ((((to * 4) + (min (la + 1) dp)) * 5) + cl) (by omega); have q3 := oD ((((fr * 4) + la) * 5) + j) (by omega); have q4 := oL ((((fr * 4) + la) * 5) + j) (by omega); have q5 := oE ((((fr * 4) + la) * 5) + j) (by omega); show _ = tlD _ _ _ _; unfold tlD; rw [if_neg (by omega)]; omega))), (show Ri dL (((fr * 4) + la) * 5) (j + 1) (fun a => tlL (fD ((((fr * 4) + la) * 5) + a)) (fL ((((fr * 4) + la) * 5) + a)) ((ownZ sd (fg to) + pnZ cl a (fg fr) (fg to)) + fD ((((to * 4) + (min (la + 1) dp)) * 5) + cl)) (fL ((((to * 4) + (min (la + 1) dp)) * 5) + cl) + 1)) from (Ri_k iL (by have q1 := oD ((((to * 4) + (min (la + 1) dp)) * 5) + cl) (by omega); have q2 := oL ((((to * 4) + (min (la + 1) dp)) * 5) + cl) (by omega); have q3 := oD ((((fr * 4) + la) * 5) + j) (by omega); have q4 := oL ((((fr * 4) + la) * 5) + j) (by omega); have q5 := oE ((((fr * 4) + la) * 5) + j) (by omega); show _ = tlL _ _ _ _; unfold tlL; rw [if_neg (by omega)]; omega))), (show Ri dE (((fr * 4) + la) * 5) (j + 1) (fun a => tlE (fD ((((fr * 4) + la) * 5) + a)) (fL ((((fr * 4) + la) * 5) + a)) (fE ((((fr * 4) + la) * 5) + a)) ((ownZ sd (fg to) + pnZ cl a (fg fr) (fg to)) + fD ((((to * 4) + (min (la + 1) dp)) * 5) + cl)) (fL ((((to * 4) + (min (la + 1) dp)) * 5) + cl) + 1) to) from (Ri_k iE (by have q1 := oD ((((to * 4) + (min (la + 1) dp)) * 5) + cl) (by omega); have q2 := oL ((((to * 4) + (min (la + 1) dp)) * 5) + cl) (by omega); have q3 := oD ((((fr * 4) + la) * 5) + j) (by omega); have q4 := oL ((((fr * 4) + la) * 5) + j) (by omega); have q5 := oE ((((fr * 4) + la) * 5) + j) (by omega); show _ = tlE _ _ _ _ _ _; unfold tlE; rw [if_neg (by omega)]; omega))), (show Bd (-1) 1099511627776 dD from bD9), (show Bd 0 1000 dL from bL9), (show Bd (-1) 48 dE from bE9)⟩ (by first | omega | (dsimp only; omega)) _ _ _ (lv_sub hl [0, 4, 5, 6, 7, 8, 9] rfl) (bd_to rfl B)

end
