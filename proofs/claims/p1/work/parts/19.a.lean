section
theorem dL_law_23 : decode cL_law 23 = .ok (.iload 4, 2) := by decide +kernel
theorem dL_law_25 : decode cL_law 25 = .ok (.aload_n 0, 1) := by decide +kernel
theorem dL_law_26 : decode cL_law 26 = .ok (.arraylength, 1) := by decide +kernel
theorem dL_law_27 : decode cL_law 27 = .ok (.bipush 7, 2) := by decide +kernel
theorem dL_law_29 : decode cL_law 29 = .ok (.isub, 1) := by decide +kernel
theorem dL_law_30 : decode cL_law 30 = .ok (.if_icmp .gt 2785, 3) := by decide +kernel
theorem dL_law_2809 : decode cL_law 2809 = .ok (.iinc 4 7, 3) := by decide +kernel
theorem dL_law_2812 : decode cL_law 2812 = .ok (.goto (-2789), 3) := by decide +kernel
theorem dL_law_2815 : decode cL_law 2815 = .ok (.iconst 1, 1) := by decide +kernel
theorem dL_law_2816 : decode cL_law 2816 = .ok (.ireturn, 1) := by decide +kernel
theorem law_end {l : Launch} {dC : Nat → ClassId} {dI : Nat → Nat → Nat} {k : Nat → ClassId} {p : Program} {e : Env} {s : State} {m : MethodId} {below : List Frame} {meth : Method} {c : Code} {b : Nat} {xs : Nat → Int32} (hX : va_X b 7 xs s s.heap) (hbl : b < s.heap.size) (hr : meth.sig.returnType = ret) {H : Heap} {locs : List Loc} {ls : Array Slot} {ws : va_W} {cells slots : Nat} (B : bd p s m #[Value.ref b] meth c cL_law 8 "GalleyforgeLaw" dC dI k (fun q => s.heap.size ≤ q) ws H locs) (hl : lv_has ls 8 [(0, .ref b), (4, .int 0)]) (hC : cells ≤ 600002) (hS : slots ≤ 7302232) : W p l e room_1 s m #[Value.ref b] below meth c H locs cells slots (lw_Z below #[Value.ref b] s) (F0 m 2809 ls []) := by
  have hx := B.1.1
  have hb := B.1.2.1
  refine lv_iinc (v := 7) (lv' := [(4, .int 7), (0, .ref b)]) hx hb dL_law_2809 hl (k := 1) rfl (by decide) (by decide) rfl (fun ls hl => ?_)
  refine lv_goto (tgt := 23) hx hb dL_law_2812 (by decide) ?_
  refine lv_iload hx hb dL_law_23 (lv_at hl 0 rfl) ?_
  refine lv_aload_n hx hb dL_law_25 rfl (lv_at hl 1 rfl) ?_
  refine va_slen hx hb hX hbl (Nat.not_le.mpr hbl) B.2.2.2.2.2 dL_law_26 ?_
  refine lv_bipush (v := 7) hx hb dL_law_27 (by decide) ?_
  refine lv_isub hx hb dL_law_29 ?_
  refine lv_seti (y := 0) (by decide) ?_
  refine lv_icmp_gt (tgt := 2815) hx hb dL_law_30 (by decide) (fun _ => ?_) (fun c9 => absurd (by decide) c9)
  refine lv_iconst (v := 1) hx hb dL_law_2815 (by decide) ?_
  refine va_forget (fun q hq => B.2.2.2.2.2.2.2 q hq) ?_
  refine W.widen hC hS ?_
  exact lw_ret hx hb hr B.1.2.2.2.2.2 dL_law_2816

theorem mw_0 : (Jvm.Cond.initialized "GalleyforgeLaw") ∈ gt := gt_at 135 (by decide +kernel) (by decide +kernel)
theorem mw_503 : (Jvm.Cond.methodLink "GalleyforgeLaw" (136 : Nat) ({ cls := "GalleyforgeLaw", name := "spell", desc := "(LGalleyforge;I[J)I" } : Jvm.MethodName)) ∈ gt := gt_at 638 (by decide +kernel) (by decide +kernel)
theorem mw_504 : (Jvm.Cond.static ({ cls := "GalleyforgeLaw", name := "spell", desc := "(LGalleyforge;I[J)I" } : Jvm.MethodName)) ∈ gt := gt_at 639 (by decide +kernel) (by decide +kernel)
theorem mw_505 : (Jvm.Cond.codeWith ({ cls := "GalleyforgeLaw", name := "spell", desc := "(LGalleyforge;I[J)I" } : Jvm.MethodName) method_3_code (4 : Nat) (Option.some Jvm.ClassFile.FieldType.int) [((0 : Nat), (9 : Nat), (12 : Nat), (13 : Nat)), ((0 : Nat), (9 : Nat), (15 : Nat), (15 : Nat))]) ∈ gt := gt_at 640 (by decide +kernel) (by decide +kernel)
theorem mw_2144 : (Jvm.Cond.methodLink "GalleyforgeLaw" (142 : Nat) ({ cls := "GalleyforgeModel", name := "thrown", desc := "()I" } : Jvm.MethodName)) ∈ gt := gt_at 2279 (by decide +kernel) (by decide +kernel)
theorem mw_2145 : (Jvm.Cond.instanceMethod ({ cls := "GalleyforgeModel", name := "thrown", desc := "()I" } : Jvm.MethodName)) ∈ gt := gt_at 2280 (by decide +kernel) (by decide +kernel)
theorem mw_2146 : (Jvm.Cond.selects "GalleyforgeModel" ({ cls := "GalleyforgeModel", name := "thrown", desc := "()I" } : Jvm.MethodName) ({ cls := "GalleyforgeModel", name := "thrown", desc := "()I" } : Jvm.MethodName)) ∈ gt := gt_at 2281 (by decide +kernel) (by decide +kernel)
theorem mw_2147 : (Jvm.Cond.code ({ cls := "GalleyforgeModel", name := "thrown", desc := "()I" } : Jvm.MethodName) prog_14_method_2_code (1 : Nat) (Option.some Jvm.ClassFile.FieldType.int)) ∈ gt := gt_at 2282 (by decide +kernel) (by decide +kernel)
theorem mw_2148 : (Jvm.Cond.methodLink "GalleyforgeLaw" (141 : Nat) ({ cls := "GalleyforgeModel", name := "spell", desc := "(I)I" } : Jvm.MethodName)) ∈ gt := gt_at 2283 (by decide +kernel) (by decide +kernel)
theorem mw_2149 : (Jvm.Cond.instanceMethod ({ cls := "GalleyforgeModel", name := "spell", desc := "(I)I" } : Jvm.MethodName)) ∈ gt := gt_at 2284 (by decide +kernel) (by decide +kernel)
theorem mw_2150 : (Jvm.Cond.selects "GalleyforgeModel" ({ cls := "GalleyforgeModel", name := "spell", desc := "(I)I" } : Jvm.MethodName) ({ cls := "GalleyforgeModel", name := "spell", desc := "(I)I" } : Jvm.MethodName)) ∈ gt := gt_at 2285 (by decide +kernel) (by decide +kernel)
theorem mw_2151 : (Jvm.Cond.code ({ cls := "GalleyforgeModel", name := "spell", desc := "(I)I" } : Jvm.MethodName) prog_14_method_10_code (2 : Nat) (Option.some Jvm.ClassFile.FieldType.int)) ∈ gt := gt_at 2286 (by decide +kernel) (by decide +kernel)
theorem mV_X12_spell : mV yX12_spell cX12_spell 2 (some .int) 1 := ⟨⟨mw_2151, mw_13, by decide, by decide, by decide +kernel⟩, mw_2149, mw_2150⟩
theorem mV_X12_thrown : mV yX12_thrown cX12_thrown 1 (some .int) 0 := ⟨⟨mw_2147, mw_13, by decide, by decide, by decide +kernel⟩, mw_2145, mw_2146⟩
theorem mW_L_spell : mW yL_spell cL_spell 4 (some .int) [((0 : Nat), (9 : Nat), (12 : Nat), (13 : Nat)), ((0 : Nat), (9 : Nat), (15 : Nat), (15 : Nat))] 3 := ⟨⟨mw_505, mw_0, by decide, by decide, by decide +kernel⟩, mw_504⟩
theorem dL_law_212 : decode cL_law 212 = .ok (.aload_n 1, 1) := by decide +kernel
theorem dL_law_213 : decode cL_law 213 = .ok (.aload_n 0, 1) := by decide +kernel
theorem dL_law_214 : decode cL_law 214 = .ok (.iload 4, 2) := by decide +kernel
theorem dL_law_216 : decode cL_law 216 = .ok (.iconst 1, 1) := by decide +kernel
theorem dL_law_217 : decode cL_law 217 = .ok (.iadd, 1) := by decide +kernel
theorem dL_law_218 : decode cL_law 218 = .ok (.iaload, 1) := by decide +kernel
theorem dL_law_219 : decode cL_law 219 = .ok (.aload_n 3, 1) := by decide +kernel
theorem dL_law_220 : decode cL_law 220 = .ok (.invokestatic 136, 3) := by decide +kernel
theorem dL_law_223 : decode cL_law 223 = .ok (.istore 5, 2) := by decide +kernel
theorem dL_law_225 : decode cL_law 225 = .ok (.aload_n 2, 1) := by decide +kernel
theorem dL_law_226 : decode cL_law 226 = .ok (.aload_n 0, 1) := by decide +kernel
theorem dL_law_227 : decode cL_law 227 = .ok (.iload 4, 2) := by decide +kernel
theorem dL_law_229 : decode cL_law 229 = .ok (.iconst 1, 1) := by decide +kernel
theorem dL_law_230 : decode cL_law 230 = .ok (.iadd, 1) := by decide +kernel
theorem dL_law_231 : decode cL_law 231 = .ok (.iaload, 1) := by decide +kernel
theorem dL_law_232 : decode cL_law 232 = .ok (.invokevirtual 141, 3) := by decide +kernel
theorem dL_law_235 : decode cL_law 235 = .ok (.istore 6, 2) := by decide +kernel
theorem dL_law_237 : decode cL_law 237 = .ok (.aload_n 2, 1) := by decide +kernel
theorem dL_law_238 : decode cL_law 238 = .ok (.invokevirtual 142, 3) := by decide +kernel
theorem dL_law_241 : decode cL_law 241 = .ok (.iload 5, 2) := by decide +kernel
theorem dL_law_243 : decode cL_law 243 = .ok (.if_icmp .eq 5, 3) := by decide +kernel
theorem dL_law_246 : decode cL_law 246 = .ok (.iconst 0, 1) := by decide +kernel
theorem dL_law_248 : decode cL_law 248 = .ok (.iload 5, 2) := by decide +kernel
theorem dL_law_250 : decode cL_law 250 = .ok (.ifCond .ne 15, 3) := by decide +kernel
theorem dL_law_253 : decode cL_law 253 = .ok (.aload_n 3, 1) := by decide +kernel
theorem dL_law_254 : decode cL_law 254 = .ok (.iconst 0, 1) := by decide +kernel
theorem dL_law_255 : decode cL_law 255 = .ok (.laload, 1) := by decide +kernel
theorem dL_law_256 : decode cL_law 256 = .ok (.iload 6, 2) := by decide +kernel
theorem dL_law_258 : decode cL_law 258 = .ok (.i2l, 1) := by decide +kernel
theorem dL_law_259 : decode cL_law 259 = .ok (.lcmp, 1) := by decide +kernel
theorem dL_law_260 : decode cL_law 260 = .ok (.ifCond .eq 5, 3) := by decide +kernel
theorem dL_law_265 : decode cL_law 265 = .ok (.goto 2544, 3) := by decide +kernel
set_option maxHeartbeats 4000000 in
set_option maxRecDepth 100000 in
theorem law_spell (l : Launch) (hl0 : l.stackTraces = false) (dC : Nat → ClassId) (dI : Nat → Nat → Nat) (k : Nat → ClassId) {p : Program} {e : Env} {s : State} {m : MethodId} {below : List Frame} {meth : Method} {c : Code} {b : Nat} {xs : Nat → Int32} (hX : va_X b 7 xs s s.heap) (hbl : b < s.heap.size) (hr : meth.sig.returnType = ret) {H : Heap} {locs : List Loc} {ls : Array Slot} (gx : Nat) (T : Nat) (LA : Nat) (sp : Nat) (dr : Nat) (ou : Nat) (mo : Nat) (V : Nat → Value) (aSp : Nat) (h1 : V 1 = .int 0) (h2 : V 2 = .ref aSp) (B : bd p s m #[Value.ref b] meth c cL_law 8 "GalleyforgeLaw" dC dI k (fun q => s.heap.size ≤ q) [(gx, .inr (9, [.ref T, .ref LA, .ref sp, .int 0, .ref dr])), (sp, .inl (k 0, 6, .inl (fun _ => 0))), (ou, .inl (k 2, 1, .inr (.inl (fun _ => 0)))), (mo, .inr (10, fvM V)), (aSp, .inl (k 0, 6, .inl (fun _ => 0)))] H locs) (hl : lv_has ls 8 [(4, .int 0), (3, .ref ou), (2, .ref mo), (1, .ref gx), (0, .ref b)]) : W p l e room_1 s m #[Value.ref b] below meth c H locs 157 183312 (lw_Z below #[Value.ref b] s) (F0 m 212 ls []) := by
  have hx := B.1.1
  have hb := B.1.2.1
  refine lv_aload_n hx hb dL_law_212 rfl (lv_at hl 3 rfl) ?_
  refine lv_aload_n hx hb dL_law_213 rfl (lv_at hl 4 rfl) ?_
  refine lv_iload hx hb dL_law_214 (lv_at hl 0 rfl) ?_
  refine lv_iconst (v := 1) hx hb dL_law_216 (by decide) ?_
  refine lv_iadd hx hb dL_law_217 ?_
  refine lv_seti (y := 1) (by decide) ?_
  refine va_sld hx hb hX hbl (Nat.not_le.mpr hbl) B.2.2.2.2.2 (vpc (by decide)) dL_law_218 ?_
  refine lv_seti (y := xs 1) rfl ?_
  refine lv_aload_n hx hb dL_law_219 rfl (lv_at hl 1 rfl) ?_
  refine x_callW (rest := []) (wr := [(mo, .inr (10, fvM V)), (aSp, .inl (k 0, 6, .inl (fun _ => 0)))]) (w_spell l dC dI k hl0 gx T LA sp dr (xs 1) ou) B mW_L_spell mw_503 hl [0, 1, 2] [3, 4] rfl rfl ⟨by decide, by decide⟩ (by decide) ⟨Nat.le_of_ble_eq_true rfl, Nat.le_of_ble_eq_true rfl⟩ (Nat.le_of_ble_eq_true rfl) rfl dL_law_220 ⟨Nat.le_of_ble_eq_true rfl, Nat.le_of_ble_eq_true rfl⟩ (fun r w H locs hp B => ?_)
  rcases hp with ⟨z_1, rfl, rfl⟩ | ⟨z_2, rfl, rfl⟩
  · skip
    have B := bd_to (ws' := [(mo, .inr (10, fvM V)), (aSp, .inl (k 0, 6, .inl (fun _ => 0))), (ou, .inl (k 2, 1, .inr (.inl (vp_updL (fun _ => 0) 0 1))))]) rfl B
    refine lv_istore (lv' := [(5, .int 0), (4, .int 0), (3, .ref ou), (2, .ref mo), (1, .ref gx), (0, .ref b)]) hx hb dL_law_223 hl (by decide) rfl (fun ls hl => ?_)
    refine lv_aload_n hx hb dL_law_225 rfl (lv_at hl 3 rfl) ?_
    refine lv_aload_n hx hb dL_law_226 rfl (lv_at hl 5 rfl) ?_
    refine lv_iload hx hb dL_law_227 (lv_at hl 1 rfl) ?_
    refine lv_iconst (v := 1) hx hb dL_law_229 (by decide) ?_
    refine lv_iadd hx hb dL_law_230 ?_
    refine lv_seti (y := 1) (by decide) ?_
    refine va_sld hx hb hX hbl (Nat.not_le.mpr hbl) B.2.2.2.2.2 (vpc (by decide)) dL_law_231 ?_
    refine lv_seti (y := xs 1) rfl ?_
    refine x_callV (rest := []) (wr := [(ou, .inl (k 2, 1, .inr (.inl (vp_updL (fun _ => 0) 0 1))))]) (m_spell l dC dI k mo V aSp (xs 1) h1 h2) B mV_X12_spell mw_2148 hl [0, 1] [2] rfl rfl ⟨by decide, by decide⟩ (by decide) (q0 := 0) rfl rfl rfl ⟨Nat.le_of_ble_eq_true rfl, Nat.le_of_ble_eq_true rfl⟩ (Nat.le_of_ble_eq_true rfl) rfl dL_law_232 ⟨Nat.le_of_ble_eq_true rfl, Nat.le_of_ble_eq_true rfl⟩ (fun r w H locs hp B => ?_)
    rcases hp with ⟨V1_3, z_4, z_5, rfl, rfl⟩ | ⟨V1_6, z_7, z_8, rfl, rfl⟩
    · skip
      have B := bd_to (ws' := [(ou, .inl (k 2, 1, .inr (.inl (vp_updL (fun _ => 0) 0 1)))), (mo, .inr (10, fvM V1_3))]) rfl B
      refine lv_istore (lv' := [(6, .int 1), (5, .int 0), (4, .int 0), (3, .ref ou), (2, .ref mo), (1, .ref gx), (0, .ref b)]) hx hb dL_law_235 hl (by decide) rfl (fun ls hl => ?_)
      refine lv_aload_n hx hb dL_law_237 rfl (lv_at hl 4 rfl) ?_
      refine x_callV (rest := []) (wr := [(ou, .inl (k 2, 1, .inr (.inl (vp_updL (fun _ => 0) 0 1))))]) (m_thrown l dC dI k mo V1_3 0 z_5) B mV_X12_thrown mw_2144 hl [1] [0] rfl rfl ⟨by decide, by decide⟩ (by decide) (q0 := 0) rfl rfl rfl ⟨Nat.le_of_ble_eq_true rfl, Nat.le_of_ble_eq_true rfl⟩ (Nat.le_of_ble_eq_true rfl) rfl dL_law_238 ⟨Nat.le_of_ble_eq_true rfl, Nat.le_of_ble_eq_true rfl⟩ (fun r w H locs hp B => ?_)
      obtain ⟨rfl, rfl⟩ := hp
      have B := bd_to (ws' := [(ou, .inl (k 2, 1, .inr (.inl (vp_updL (fun _ => 0) 0 1)))), (mo, .inr (10, fvM V1_3))]) rfl B
      refine lv_iload hx hb dL_law_241 (lv_at hl 1 rfl) ?_
      refine lv_icmp_eq (tgt := 248) hx hb dL_law_243 (by decide) (fun _ => ?_) (fun c9 => absurd (by decide) c9)
      refine lv_iload hx hb dL_law_248 (lv_at hl 1 rfl) ?_
      refine lv_if_ne (tgt := 265) hx hb dL_law_250 (by decide) (fun c9 => absurd c9 (by decide)) (fun _ => ?_)
      refine lv_aload_n hx hb dL_law_253 rfl (lv_at hl 3 rfl) ?_
      refine lv_iconst (v := 0) hx hb dL_law_254 (by decide) ?_
      refine x_lald (v := 1) B 0 rfl (vpc (by decide)) dL_law_255 (by rfl) ?_
      refine lv_iload hx hb dL_law_256 (lv_at hl 0 rfl) ?_
      refine lv_i2l (v := 1) hx hb dL_law_258 (by decide) ?_
      refine x_lcmp (z := 0) B (by decide) dL_law_259 ?_
      refine lv_if_eq (tgt := 265) hx hb dL_law_260 (by decide) (fun _ => ?_) (fun c9 => absurd (by decide) c9)
      refine lv_goto (tgt := 2809) hx hb dL_law_265 (by decide) ?_
      exact law_end hX hbl hr B (lv_sub hl [6, 2] rfl) (Nat.le_of_ble_eq_true rfl) (Nat.le_of_ble_eq_true rfl)
    · skip
      exfalso; first | omega | exact absurd z_7 (by decide) | exact absurd z_8 (by decide)
  · skip
    have B := bd_to (ws' := [(mo, .inr (10, fvM V)), (aSp, .inl (k 0, 6, .inl (fun _ => 0)))]) rfl B
    refine lv_istore (lv' := [(5, .int 1), (4, .int 0), (3, .ref ou), (2, .ref mo), (1, .ref gx), (0, .ref b)]) hx hb dL_law_223 hl (by decide) rfl (fun ls hl => ?_)
    refine lv_aload_n hx hb dL_law_225 rfl (lv_at hl 3 rfl) ?_
    refine lv_aload_n hx hb dL_law_226 rfl (lv_at hl 5 rfl) ?_
    refine lv_iload hx hb dL_law_227 (lv_at hl 1 rfl) ?_
    refine lv_iconst (v := 1) hx hb dL_law_229 (by decide) ?_
    refine lv_iadd hx hb dL_law_230 ?_
    refine lv_seti (y := 1) (by decide) ?_
    refine va_sld hx hb hX hbl (Nat.not_le.mpr hbl) B.2.2.2.2.2 (vpc (by decide)) dL_law_231 ?_
    refine lv_seti (y := xs 1) rfl ?_
    refine x_callV (rest := []) (wr := []) (m_spell l dC dI k mo V aSp (xs 1) h1 h2) B mV_X12_spell mw_2148 hl [0, 1] [] rfl rfl ⟨by decide, by decide⟩ (by decide) (q0 := 0) rfl rfl rfl ⟨Nat.le_of_ble_eq_true rfl, Nat.le_of_ble_eq_true rfl⟩ (Nat.le_of_ble_eq_true rfl) rfl dL_law_232 ⟨Nat.le_of_ble_eq_true rfl, Nat.le_of_ble_eq_true rfl⟩ (fun r w H locs hp B => ?_)
    rcases hp with ⟨V1_9, z_10, z_11, rfl, rfl⟩ | ⟨V1_12, z_13, z_14, rfl, rfl⟩
    · skip
      have B := bd_to (ws' := [(mo, .inr (10, fvM V1_9))]) rfl B
      refine lv_istore (lv' := [(6, .int 1), (5, .int 1), (4, .int 0), (3, .ref ou), (2, .ref mo), (1, .ref gx), (0, .ref b)]) hx hb dL_law_235 hl (by decide) rfl (fun ls hl => ?_)
      refine lv_aload_n hx hb dL_law_237 rfl (lv_at hl 4 rfl) ?_
      refine x_callV (rest := []) (wr := []) (m_thrown l dC dI k mo V1_9 0 z_11) B mV_X12_thrown mw_2144 hl [0] [] rfl rfl ⟨by decide, by decide⟩ (by decide) (q0 := 0) rfl rfl rfl ⟨Nat.le_of_ble_eq_true rfl, Nat.le_of_ble_eq_true rfl⟩ (Nat.le_of_ble_eq_true rfl) rfl dL_law_238 ⟨Nat.le_of_ble_eq_true rfl, Nat.le_of_ble_eq_true rfl⟩ (fun r w H locs hp B => ?_)
      obtain ⟨rfl, rfl⟩ := hp
      have B := bd_to (ws' := [(mo, .inr (10, fvM V1_9))]) rfl B
      refine lv_iload hx hb dL_law_241 (lv_at hl 1 rfl) ?_
      refine lv_icmp_eq (tgt := 248) hx hb dL_law_243 (by decide) (fun c9 => absurd c9 (by decide)) (fun _ => ?_)
      refine lv_iconst (v := 0) hx hb dL_law_246 (by decide) ?_
      exfalso; omega
    · skip
      have B := bd_to (ws' := [(mo, .inr (10, fvM V1_12))]) rfl B
      refine lv_istore (lv' := [(6, .int 0), (5, .int 1), (4, .int 0), (3, .ref ou), (2, .ref mo), (1, .ref gx), (0, .ref b)]) hx hb dL_law_235 hl (by decide) rfl (fun ls hl => ?_)
      refine lv_aload_n hx hb dL_law_237 rfl (lv_at hl 4 rfl) ?_
      refine x_callV (rest := []) (wr := []) (m_thrown l dC dI k mo V1_12 1 z_14) B mV_X12_thrown mw_2144 hl [0] [] rfl rfl ⟨by decide, by decide⟩ (by decide) (q0 := 0) rfl rfl rfl ⟨Nat.le_of_ble_eq_true rfl, Nat.le_of_ble_eq_true rfl⟩ (Nat.le_of_ble_eq_true rfl) rfl dL_law_238 ⟨Nat.le_of_ble_eq_true rfl, Nat.le_of_ble_eq_true rfl⟩ (fun r w H locs hp B => ?_)
      obtain ⟨rfl, rfl⟩ := hp
      have B := bd_to (ws' := [(mo, .inr (10, fvM V1_12))]) rfl B
      refine lv_iload hx hb dL_law_241 (lv_at hl 1 rfl) ?_
      refine lv_icmp_eq (tgt := 248) hx hb dL_law_243 (by decide) (fun _ => ?_) (fun c9 => absurd (by decide) c9)
      refine lv_iload hx hb dL_law_248 (lv_at hl 1 rfl) ?_
      refine lv_if_ne (tgt := 265) hx hb dL_law_250 (by decide) (fun _ => ?_) (fun c9 => absurd c9 (by decide))
      refine lv_goto (tgt := 2809) hx hb dL_law_265 (by decide) ?_
      exact law_end hX hbl hr B (lv_sub hl [6, 2] rfl) (Nat.le_of_ble_eq_true rfl) (Nat.le_of_ble_eq_true rfl)

theorem mw_491 : (Jvm.Cond.methodLink "GalleyforgeLaw" (146 : Nat) ({ cls := "Galleyforge", name := "unspell", desc := "()I" } : Jvm.MethodName)) ∈ gt := gt_at 626 (by decide +kernel) (by decide +kernel)
theorem mw_492 : (Jvm.Cond.instanceMethod ({ cls := "Galleyforge", name := "unspell", desc := "()I" } : Jvm.MethodName)) ∈ gt := gt_at 627 (by decide +kernel) (by decide +kernel)
theorem mw_493 : (Jvm.Cond.selects "Galleyforge" ({ cls := "Galleyforge", name := "unspell", desc := "()I" } : Jvm.MethodName) ({ cls := "Galleyforge", name := "unspell", desc := "()I" } : Jvm.MethodName)) ∈ gt := gt_at 628 (by decide +kernel) (by decide +kernel)
theorem mw_494 : (Jvm.Cond.code ({ cls := "Galleyforge", name := "unspell", desc := "()I" } : Jvm.MethodName) prog_1_method_3_code (2 : Nat) (Option.some Jvm.ClassFile.FieldType.int)) ∈ gt := gt_at 629 (by decide +kernel) (by decide +kernel)
theorem mw_2159 : (Jvm.Cond.methodLink "GalleyforgeLaw" (149 : Nat) ({ cls := "GalleyforgeModel", name := "unspell", desc := "()I" } : Jvm.MethodName)) ∈ gt := gt_at 2294 (by decide +kernel) (by decide +kernel)
theorem mw_2160 : (Jvm.Cond.instanceMethod ({ cls := "GalleyforgeModel", name := "unspell", desc := "()I" } : Jvm.MethodName)) ∈ gt := gt_at 2295 (by decide +kernel) (by decide +kernel)
theorem mw_2161 : (Jvm.Cond.selects "GalleyforgeModel" ({ cls := "GalleyforgeModel", name := "unspell", desc := "()I" } : Jvm.MethodName) ({ cls := "GalleyforgeModel", name := "unspell", desc := "()I" } : Jvm.MethodName)) ∈ gt := gt_at 2296 (by decide +kernel) (by decide +kernel)
theorem mw_2162 : (Jvm.Cond.code ({ cls := "GalleyforgeModel", name := "unspell", desc := "()I" } : Jvm.MethodName) prog_14_method_11_code (2 : Nat) (Option.some Jvm.ClassFile.FieldType.int)) ∈ gt := gt_at 2297 (by decide +kernel) (by decide +kernel)
theorem mV_X11_unspell : mV yX11_unspell cX11_unspell 2 (some .int) 0 := ⟨⟨mw_494, mw_1, by decide, by decide, by decide +kernel⟩, mw_492, mw_493⟩
theorem mV_X12_unspell : mV yX12_unspell cX12_unspell 2 (some .int) 0 := ⟨⟨mw_2162, mw_13, by decide, by decide, by decide +kernel⟩, mw_2160, mw_2161⟩
theorem dL_law_268 : decode cL_law 268 = .ok (.aload_n 1, 1) := by decide +kernel
theorem dL_law_269 : decode cL_law 269 = .ok (.invokevirtual 146, 3) := by decide +kernel
theorem dL_law_272 : decode cL_law 272 = .ok (.aload_n 2, 1) := by decide +kernel
theorem dL_law_273 : decode cL_law 273 = .ok (.invokevirtual 149, 3) := by decide +kernel
theorem dL_law_276 : decode cL_law 276 = .ok (.if_icmp .eq 2533, 3) := by decide +kernel
set_option maxHeartbeats 4000000 in
set_option maxRecDepth 100000 in
theorem law_unspell (l : Launch) (hl0 : l.stackTraces = false) (dC : Nat → ClassId) (dI : Nat → Nat → Nat) (k : Nat → ClassId) {p : Program} {e : Env} {s : State} {m : MethodId} {below : List Frame} {meth : Method} {c : Code} {b : Nat} {xs : Nat → Int32} (hX : va_X b 7 xs s s.heap) (hbl : b < s.heap.size) (hr : meth.sig.returnType = ret) {H : Heap} {locs : List Loc} {ls : Array Slot} (gx : Nat) (T : Nat) (LA : Nat) (sp : Nat) (dr : Nat) (mo : Nat) (V : Nat → Value) (ou : Nat) (h1 : V 1 = .int 0) (B : bd p s m #[Value.ref b] meth c cL_law 8 "GalleyforgeLaw" dC dI k (fun q => s.heap.size ≤ q) [(gx, .inr (9, [.ref T, .ref LA, .ref sp, .int 0, .ref dr])), (ou, .inl (k 2, 1, .inr (.inl (fun _ => 0)))), (mo, .inr (10, fvM V))] H locs) (hl : lv_has ls 8 [(4, .int 0), (3, .ref ou), (2, .ref mo), (1, .ref gx), (0, .ref b)]) : W p l e room_1 s m #[Value.ref b] below meth c H locs 157 183312 (lw_Z below #[Value.ref b] s) (F0 m 268 ls []) := by
  have hx := B.1.1
  have hb := B.1.2.1
  refine lv_aload_n hx hb dL_law_268 rfl (lv_at hl 3 rfl) ?_
  refine x_callV (rest := []) (wr := [(ou, .inl (k 2, 1, .inr (.inl (fun _ => 0)))), (mo, .inr (10, fvM V))]) (c_unspell l dC dI k gx T LA sp dr) B mV_X11_unspell mw_491 hl [0] [1, 2] rfl rfl ⟨by decide, by decide⟩ (by decide) (q0 := 0) rfl rfl rfl ⟨Nat.le_of_ble_eq_true rfl, Nat.le_of_ble_eq_true rfl⟩ (Nat.le_of_ble_eq_true rfl) rfl dL_law_269 ⟨Nat.le_of_ble_eq_true rfl, Nat.le_of_ble_eq_true rfl⟩ (fun r w H locs hp B => ?_)
  obtain ⟨rfl, rfl⟩ := hp
  have B := bd_to (ws' := [(ou, .inl (k 2, 1, .inr (.inl (fun _ => 0)))), (mo, .inr (10, fvM V))]) rfl B
  refine lv_aload_n hx hb dL_law_272 rfl (lv_at hl 2 rfl) ?_
  refine x_callV (rest := [.int 0]) (wr := [(ou, .inl (k 2, 1, .inr (.inl (fun _ => 0))))]) (m_unspell l dC dI k mo V h1) B mV_X12_unspell mw_2159 hl [1] [0] rfl rfl ⟨by decide, by decide⟩ (by decide) (q0 := 0) rfl rfl rfl ⟨Nat.le_of_ble_eq_true rfl, Nat.le_of_ble_eq_true rfl⟩ (Nat.le_of_ble_eq_true rfl) rfl dL_law_273 ⟨Nat.le_of_ble_eq_true rfl, Nat.le_of_ble_eq_true rfl⟩ (fun r w H locs hp B => ?_)
  obtain ⟨V1_1, rfl, rfl⟩ := hp
  have B := bd_to (ws' := [(ou, .inl (k 2, 1, .inr (.inl (fun _ => 0)))), (mo, .inr (10, fvM V1_1))]) rfl B
  refine lv_icmp_eq (tgt := 2809) hx hb dL_law_276 (by decide) (fun _ => ?_) (fun c9 => absurd (by decide) c9)
  exact law_end hX hbl hr B (lv_sub hl [4, 0] rfl) (Nat.le_of_ble_eq_true rfl) (Nat.le_of_ble_eq_true rfl)

theorem mw_598 : (Jvm.Cond.methodLink "GalleyforgeLaw" (150 : Nat) ({ cls := "GalleyforgeLaw", name := "mark", desc := "(LGalleyforge;II[J)I" } : Jvm.MethodName)) ∈ gt := gt_at 733 (by decide +kernel) (by decide +kernel)
theorem mw_599 : (Jvm.Cond.static ({ cls := "GalleyforgeLaw", name := "mark", desc := "(LGalleyforge;II[J)I" } : Jvm.MethodName)) ∈ gt := gt_at 734 (by decide +kernel) (by decide +kernel)
theorem mw_600 : (Jvm.Cond.codeWith ({ cls := "GalleyforgeLaw", name := "mark", desc := "(LGalleyforge;II[J)I" } : Jvm.MethodName) method_4_code (5 : Nat) (Option.some Jvm.ClassFile.FieldType.int) [((0 : Nat), (10 : Nat), (13 : Nat), (13 : Nat)), ((0 : Nat), (10 : Nat), (17 : Nat), (21 : Nat))]) ∈ gt := gt_at 735 (by decide +kernel) (by decide +kernel)
theorem mw_2167 : (Jvm.Cond.methodLink "GalleyforgeLaw" (153 : Nat) ({ cls := "GalleyforgeModel", name := "mark", desc := "(II)I" } : Jvm.MethodName)) ∈ gt := gt_at 2302 (by decide +kernel) (by decide +kernel)
theorem mw_2168 : (Jvm.Cond.instanceMethod ({ cls := "GalleyforgeModel", name := "mark", desc := "(II)I" } : Jvm.MethodName)) ∈ gt := gt_at 2303 (by decide +kernel) (by decide +kernel)
theorem mw_2169 : (Jvm.Cond.selects "GalleyforgeModel" ({ cls := "GalleyforgeModel", name := "mark", desc := "(II)I" } : Jvm.MethodName) ({ cls := "GalleyforgeModel", name := "mark", desc := "(II)I" } : Jvm.MethodName)) ∈ gt := gt_at 2304 (by decide +kernel) (by decide +kernel)
theorem mw_2170 : (Jvm.Cond.code ({ cls := "GalleyforgeModel", name := "mark", desc := "(II)I" } : Jvm.MethodName) prog_14_method_12_code (7 : Nat) (Option.some Jvm.ClassFile.FieldType.int)) ∈ gt := gt_at 2305 (by decide +kernel) (by decide +kernel)
theorem mV_X12_mark : mV yX12_mark cX12_mark 7 (some .int) 2 := ⟨⟨mw_2170, mw_13, by decide, by decide, by decide +kernel⟩, mw_2168, mw_2169⟩
theorem mW_L_mark : mW yL_mark cL_mark 5 (some .int) [((0 : Nat), (10 : Nat), (13 : Nat), (13 : Nat)), ((0 : Nat), (10 : Nat), (17 : Nat), (21 : Nat))] 4 := ⟨⟨mw_600, mw_0, by decide, by decide, by decide +kernel⟩, mw_599⟩
theorem dL_law_281 : decode cL_law 281 = .ok (.aload_n 1, 1) := by decide +kernel
theorem dL_law_282 : decode cL_law 282 = .ok (.aload_n 0, 1) := by decide +kernel
theorem dL_law_283 : decode cL_law 283 = .ok (.iload 4, 2) := by decide +kernel
theorem dL_law_285 : decode cL_law 285 = .ok (.iconst 1, 1) := by decide +kernel
theorem dL_law_286 : decode cL_law 286 = .ok (.iadd, 1) := by decide +kernel
theorem dL_law_287 : decode cL_law 287 = .ok (.iaload, 1) := by decide +kernel
theorem dL_law_288 : decode cL_law 288 = .ok (.aload_n 0, 1) := by decide +kernel
theorem dL_law_289 : decode cL_law 289 = .ok (.iload 4, 2) := by decide +kernel
theorem dL_law_291 : decode cL_law 291 = .ok (.iconst 2, 1) := by decide +kernel
theorem dL_law_292 : decode cL_law 292 = .ok (.iadd, 1) := by decide +kernel
theorem dL_law_293 : decode cL_law 293 = .ok (.iaload, 1) := by decide +kernel
theorem dL_law_294 : decode cL_law 294 = .ok (.aload_n 3, 1) := by decide +kernel
theorem dL_law_295 : decode cL_law 295 = .ok (.invokestatic 150, 3) := by decide +kernel
theorem dL_law_298 : decode cL_law 298 = .ok (.istore 5, 2) := by decide +kernel
theorem dL_law_300 : decode cL_law 300 = .ok (.aload_n 2, 1) := by decide +kernel
theorem dL_law_301 : decode cL_law 301 = .ok (.aload_n 0, 1) := by decide +kernel
theorem dL_law_302 : decode cL_law 302 = .ok (.iload 4, 2) := by decide +kernel
theorem dL_law_304 : decode cL_law 304 = .ok (.iconst 1, 1) := by decide +kernel
theorem dL_law_305 : decode cL_law 305 = .ok (.iadd, 1) := by decide +kernel
theorem dL_law_306 : decode cL_law 306 = .ok (.iaload, 1) := by decide +kernel
theorem dL_law_307 : decode cL_law 307 = .ok (.aload_n 0, 1) := by decide +kernel
theorem dL_law_308 : decode cL_law 308 = .ok (.iload 4, 2) := by decide +kernel
theorem dL_law_310 : decode cL_law 310 = .ok (.iconst 2, 1) := by decide +kernel
theorem dL_law_311 : decode cL_law 311 = .ok (.iadd, 1) := by decide +kernel
theorem dL_law_312 : decode cL_law 312 = .ok (.iaload, 1) := by decide +kernel
theorem dL_law_313 : decode cL_law 313 = .ok (.invokevirtual 153, 3) := by decide +kernel
theorem dL_law_316 : decode cL_law 316 = .ok (.istore 6, 2) := by decide +kernel
theorem dL_law_318 : decode cL_law 318 = .ok (.aload_n 2, 1) := by decide +kernel
theorem dL_law_319 : decode cL_law 319 = .ok (.invokevirtual 142, 3) := by decide +kernel
theorem dL_law_322 : decode cL_law 322 = .ok (.iload 5, 2) := by decide +kernel
theorem dL_law_324 : decode cL_law 324 = .ok (.if_icmp .eq 5, 3) := by decide +kernel
theorem dL_law_327 : decode cL_law 327 = .ok (.iconst 0, 1) := by decide +kernel
theorem dL_law_329 : decode cL_law 329 = .ok (.iload 5, 2) := by decide +kernel
theorem dL_law_331 : decode cL_law 331 = .ok (.ifCond .ne 15, 3) := by decide +kernel
theorem dL_law_334 : decode cL_law 334 = .ok (.aload_n 3, 1) := by decide +kernel
theorem dL_law_335 : decode cL_law 335 = .ok (.iconst 0, 1) := by decide +kernel
theorem dL_law_336 : decode cL_law 336 = .ok (.laload, 1) := by decide +kernel
theorem dL_law_337 : decode cL_law 337 = .ok (.iload 6, 2) := by decide +kernel
theorem dL_law_339 : decode cL_law 339 = .ok (.i2l, 1) := by decide +kernel
theorem dL_law_340 : decode cL_law 340 = .ok (.lcmp, 1) := by decide +kernel
theorem dL_law_341 : decode cL_law 341 = .ok (.ifCond .eq 5, 3) := by decide +kernel
theorem dL_law_346 : decode cL_law 346 = .ok (.goto 2463, 3) := by decide +kernel
set_option maxHeartbeats 4000000 in
set_option maxRecDepth 100000 in
theorem law_mark (l : Launch) (hl0 : l.stackTraces = false) (dC : Nat → ClassId) (dI : Nat → Nat → Nat) (k : Nat → ClassId) {p : Program} {e : Env} {s : State} {m : MethodId} {below : List Frame} {meth : Method} {c : Code} {b : Nat} {xs : Nat → Int32} (hX : va_X b 7 xs s s.heap) (hbl : b < s.heap.size) (hr : meth.sig.returnType = ret) {H : Heap} {locs : List Loc} {ls : Array Slot} (gx : Nat) (T : Nat) (LA : Nat) (sp : Nat) (dr : Nat) (bl : Nat) (pt : Nat) (fk : Nat) (fh : Nat) (ky : Nat) (gd : Nat → Int32) (ou : Nat) (mo : Nat) (V : Nat → Value) (aDr : Nat) (ge : Nat → Int32) (hgd : ∀ j, j < 5 → gd j = -1) (h3 : V 3 = .ref aDr) (h21 : V 21 = .int 0) (hge : ∀ j, j < 5 → ge j = -1) (B : bd p s m #[Value.ref b] meth c cL_law 8 "GalleyforgeLaw" dC dI k (fun q => s.heap.size ≤ q) [(gx, .inr (9, [.ref T, .ref LA, .ref sp, .int 0, .ref dr])), (T, .inr (8, [.ref bl, .ref pt, .ref fk, .ref fh, .int 0, .ref ky, .int 60, .int 12])), (dr, .inl (k 0, 5, .inl gd)), (ou, .inl (k 2, 1, .inr (.inl (fun _ => 0)))), (mo, .inr (10, fvM V)), (aDr, .inl (k 0, 5, .inl ge))] H locs) (hl : lv_has ls 8 [(4, .int 0), (3, .ref ou), (2, .ref mo), (1, .ref gx), (0, .ref b)]) : W p l e room_1 s m #[Value.ref b] below meth c H locs 157 183312 (lw_Z below #[Value.ref b] s) (F0 m 281 ls []) := by
  have hx := B.1.1
  have hb := B.1.2.1
  refine lv_aload_n hx hb dL_law_281 rfl (lv_at hl 3 rfl) ?_
  refine lv_aload_n hx hb dL_law_282 rfl (lv_at hl 4 rfl) ?_
  refine lv_iload hx hb dL_law_283 (lv_at hl 0 rfl) ?_
  refine lv_iconst (v := 1) hx hb dL_law_285 (by decide) ?_
  refine lv_iadd hx hb dL_law_286 ?_
  refine lv_seti (y := 1) (by decide) ?_
  refine va_sld hx hb hX hbl (Nat.not_le.mpr hbl) B.2.2.2.2.2 (vpc (by decide)) dL_law_287 ?_
  refine lv_seti (y := xs 1) rfl ?_
  refine lv_aload_n hx hb dL_law_288 rfl (lv_at hl 4 rfl) ?_
  refine lv_iload hx hb dL_law_289 (lv_at hl 0 rfl) ?_
  refine lv_iconst (v := 2) hx hb dL_law_291 (by decide) ?_
  refine lv_iadd hx hb dL_law_292 ?_
  refine lv_seti (y := 2) (by decide) ?_
  refine va_sld hx hb hX hbl (Nat.not_le.mpr hbl) B.2.2.2.2.2 (vpc (by decide)) dL_law_293 ?_
  refine lv_seti (y := xs 2) rfl ?_
  refine lv_aload_n hx hb dL_law_294 rfl (lv_at hl 1 rfl) ?_
  refine x_callW (rest := []) (wr := [(mo, .inr (10, fvM V)), (aDr, .inl (k 0, 5, .inl ge))]) (w_mark l dC dI k hl0 gx T LA sp dr bl pt fk fh ky (xs 1) (xs 2) gd ou hgd) B mW_L_mark mw_598 hl [0, 1, 2, 3] [4, 5] rfl rfl ⟨by decide, by decide⟩ (by decide) ⟨Nat.le_of_ble_eq_true rfl, Nat.le_of_ble_eq_true rfl⟩ (Nat.le_of_ble_eq_true rfl) rfl dL_law_295 ⟨Nat.le_of_ble_eq_true rfl, Nat.le_of_ble_eq_true rfl⟩ (fun r w H locs hp B => ?_)
  rcases hp with ⟨z_1, z_2, rfl, rfl⟩ | ⟨z_3, rfl, rfl⟩ | ⟨z_4, z_5, rfl, rfl⟩
  · skip
    have B := bd_to (ws' := [(mo, .inr (10, fvM V)), (aDr, .inl (k 0, 5, .inl ge)), (ou, .inl (k 2, 1, .inr (.inl (vp_updL (fun _ => 0) 0 (-1)))))]) rfl B
    refine lv_istore (lv' := [(5, .int 0), (4, .int 0), (3, .ref ou), (2, .ref mo), (1, .ref gx), (0, .ref b)]) hx hb dL_law_298 hl (by decide) rfl (fun ls hl => ?_)
    refine lv_aload_n hx hb dL_law_300 rfl (lv_at hl 3 rfl) ?_
    refine lv_aload_n hx hb dL_law_301 rfl (lv_at hl 5 rfl) ?_
    refine lv_iload hx hb dL_law_302 (lv_at hl 1 rfl) ?_
    refine lv_iconst (v := 1) hx hb dL_law_304 (by decide) ?_
    refine lv_iadd hx hb dL_law_305 ?_
    refine lv_seti (y := 1) (by decide) ?_
    refine va_sld hx hb hX hbl (Nat.not_le.mpr hbl) B.2.2.2.2.2 (vpc (by decide)) dL_law_306 ?_
    refine lv_seti (y := xs 1) rfl ?_
    refine lv_aload_n hx hb dL_law_307 rfl (lv_at hl 5 rfl) ?_
    refine lv_iload hx hb dL_law_308 (lv_at hl 1 rfl) ?_
    refine lv_iconst (v := 2) hx hb dL_law_310 (by decide) ?_
    refine lv_iadd hx hb dL_law_311 ?_
    refine lv_seti (y := 2) (by decide) ?_
    refine va_sld hx hb hX hbl (Nat.not_le.mpr hbl) B.2.2.2.2.2 (vpc (by decide)) dL_law_312 ?_
    refine lv_seti (y := xs 2) rfl ?_
    refine x_callV (rest := []) (wr := [(ou, .inl (k 2, 1, .inr (.inl (vp_updL (fun _ => 0) 0 (-1)))))]) (m_mark l dC dI k mo V aDr (xs 1) (xs 2) ge h3 h21 hge) B mV_X12_mark mw_2167 hl [0, 1] [2] rfl rfl ⟨by decide, by decide⟩ (by decide) (q0 := 0) rfl rfl rfl ⟨Nat.le_of_ble_eq_true rfl, Nat.le_of_ble_eq_true rfl⟩ (Nat.le_of_ble_eq_true rfl) rfl dL_law_313 ⟨Nat.le_of_ble_eq_true rfl, Nat.le_of_ble_eq_true rfl⟩ (fun r w H locs hp B => ?_)
    rcases hp with ⟨V1_6, z_7, z_8, z_9, rfl, rfl⟩ | ⟨V1_10, z_11, z_12, rfl, rfl⟩ | ⟨V1_13, z_14, z_15, z_16, rfl, rfl⟩
    · skip
      have B := bd_to (ws' := [(ou, .inl (k 2, 1, .inr (.inl (vp_updL (fun _ => 0) 0 (-1))))), (mo, .inr (10, fvM V1_6))]) rfl B
      refine lv_istore (lv' := [(6, .int (-1)), (5, .int 0), (4, .int 0), (3, .ref ou), (2, .ref mo), (1, .ref gx), (0, .ref b)]) hx hb dL_law_316 hl (by decide) rfl (fun ls hl => ?_)
      refine lv_aload_n hx hb dL_law_318 rfl (lv_at hl 4 rfl) ?_
      refine x_callV (rest := []) (wr := [(ou, .inl (k 2, 1, .inr (.inl (vp_updL (fun _ => 0) 0 (-1)))))]) (m_thrown l dC dI k mo V1_6 0 z_9) B mV_X12_thrown mw_2144 hl [1] [0] rfl rfl ⟨by decide, by decide⟩ (by decide) (q0 := 0) rfl rfl rfl ⟨Nat.le_of_ble_eq_true rfl, Nat.le_of_ble_eq_true rfl⟩ (Nat.le_of_ble_eq_true rfl) rfl dL_law_319 ⟨Nat.le_of_ble_eq_true rfl, Nat.le_of_ble_eq_true rfl⟩ (fun r w H locs hp B => ?_)
      obtain ⟨rfl, rfl⟩ := hp
      have B := bd_to (ws' := [(ou, .inl (k 2, 1, .inr (.inl (vp_updL (fun _ => 0) 0 (-1))))), (mo, .inr (10, fvM V1_6))]) rfl B
      refine lv_iload hx hb dL_law_322 (lv_at hl 1 rfl) ?_
      refine lv_icmp_eq (tgt := 329) hx hb dL_law_324 (by decide) (fun _ => ?_) (fun c9 => absurd (by decide) c9)
      refine lv_iload hx hb dL_law_329 (lv_at hl 1 rfl) ?_
      refine lv_if_ne (tgt := 346) hx hb dL_law_331 (by decide) (fun c9 => absurd c9 (by decide)) (fun _ => ?_)
      refine lv_aload_n hx hb dL_law_334 rfl (lv_at hl 3 rfl) ?_
      refine lv_iconst (v := 0) hx hb dL_law_335 (by decide) ?_
      refine x_lald (v := (-1)) B 0 rfl (vpc (by decide)) dL_law_336 (by rfl) ?_
      refine lv_iload hx hb dL_law_337 (lv_at hl 0 rfl) ?_
      refine lv_i2l (v := (-1)) hx hb dL_law_339 (by decide) ?_
      refine x_lcmp (z := 0) B (by decide) dL_law_340 ?_
      refine lv_if_eq (tgt := 346) hx hb dL_law_341 (by decide) (fun _ => ?_) (fun c9 => absurd (by decide) c9)
      refine lv_goto (tgt := 2809) hx hb dL_law_346 (by decide) ?_
      exact law_end hX hbl hr B (lv_sub hl [6, 2] rfl) (Nat.le_of_ble_eq_true rfl) (Nat.le_of_ble_eq_true rfl)
    · skip
      exfalso; first | omega | exact absurd z_11 (by decide) | exact absurd z_12 (by decide)
    · skip
      have B := bd_to (ws' := [(ou, .inl (k 2, 1, .inr (.inl (vp_updL (fun _ => 0) 0 (-1))))), (mo, .inr (10, fvM V1_13))]) rfl B
      refine lv_istore (lv' := [(6, .int 0), (5, .int 0), (4, .int 0), (3, .ref ou), (2, .ref mo), (1, .ref gx), (0, .ref b)]) hx hb dL_law_316 hl (by decide) rfl (fun ls hl => ?_)
      refine lv_aload_n hx hb dL_law_318 rfl (lv_at hl 4 rfl) ?_
      refine x_callV (rest := []) (wr := [(ou, .inl (k 2, 1, .inr (.inl (vp_updL (fun _ => 0) 0 (-1)))))]) (m_thrown l dC dI k mo V1_13 2 z_16) B mV_X12_thrown mw_2144 hl [1] [0] rfl rfl ⟨by decide, by decide⟩ (by decide) (q0 := 0) rfl rfl rfl ⟨Nat.le_of_ble_eq_true rfl, Nat.le_of_ble_eq_true rfl⟩ (Nat.le_of_ble_eq_true rfl) rfl dL_law_319 ⟨Nat.le_of_ble_eq_true rfl, Nat.le_of_ble_eq_true rfl⟩ (fun r w H locs hp B => ?_)
      obtain ⟨rfl, rfl⟩ := hp
      have B := bd_to (ws' := [(ou, .inl (k 2, 1, .inr (.inl (vp_updL (fun _ => 0) 0 (-1))))), (mo, .inr (10, fvM V1_13))]) rfl B
      refine lv_iload hx hb dL_law_322 (lv_at hl 1 rfl) ?_
      refine lv_icmp_eq (tgt := 329) hx hb dL_law_324 (by decide) (fun c9 => absurd c9 (by decide)) (fun _ => ?_)
      refine lv_iconst (v := 0) hx hb dL_law_327 (by decide) ?_
      exfalso; omega
  · skip
    have B := bd_to (ws' := [(mo, .inr (10, fvM V)), (aDr, .inl (k 0, 5, .inl ge))]) rfl B
    refine lv_istore (lv' := [(5, .int 1), (4, .int 0), (3, .ref ou), (2, .ref mo), (1, .ref gx), (0, .ref b)]) hx hb dL_law_298 hl (by decide) rfl (fun ls hl => ?_)
    refine lv_aload_n hx hb dL_law_300 rfl (lv_at hl 3 rfl) ?_
    refine lv_aload_n hx hb dL_law_301 rfl (lv_at hl 5 rfl) ?_
    refine lv_iload hx hb dL_law_302 (lv_at hl 1 rfl) ?_
    refine lv_iconst (v := 1) hx hb dL_law_304 (by decide) ?_
    refine lv_iadd hx hb dL_law_305 ?_
    refine lv_seti (y := 1) (by decide) ?_
    refine va_sld hx hb hX hbl (Nat.not_le.mpr hbl) B.2.2.2.2.2 (vpc (by decide)) dL_law_306 ?_
    refine lv_seti (y := xs 1) rfl ?_
    refine lv_aload_n hx hb dL_law_307 rfl (lv_at hl 5 rfl) ?_
    refine lv_iload hx hb dL_law_308 (lv_at hl 1 rfl) ?_
    refine lv_iconst (v := 2) hx hb dL_law_310 (by decide) ?_
    refine lv_iadd hx hb dL_law_311 ?_
    refine lv_seti (y := 2) (by decide) ?_
    refine va_sld hx hb hX hbl (Nat.not_le.mpr hbl) B.2.2.2.2.2 (vpc (by decide)) dL_law_312 ?_
    refine lv_seti (y := xs 2) rfl ?_
    refine x_callV (rest := []) (wr := []) (m_mark l dC dI k mo V aDr (xs 1) (xs 2) ge h3 h21 hge) B mV_X12_mark mw_2167 hl [0, 1] [] rfl rfl ⟨by decide, by decide⟩ (by decide) (q0 := 0) rfl rfl rfl ⟨Nat.le_of_ble_eq_true rfl, Nat.le_of_ble_eq_true rfl⟩ (Nat.le_of_ble_eq_true rfl) rfl dL_law_313 ⟨Nat.le_of_ble_eq_true rfl, Nat.le_of_ble_eq_true rfl⟩ (fun r w H locs hp B => ?_)
    rcases hp with ⟨V1_17, z_18, z_19, z_20, rfl, rfl⟩ | ⟨V1_21, z_22, z_23, rfl, rfl⟩ | ⟨V1_24, z_25, z_26, z_27, rfl, rfl⟩
    · skip
      have B := bd_to (ws' := [(mo, .inr (10, fvM V1_17))]) rfl B
      refine lv_istore (lv' := [(6, .int (-1)), (5, .int 1), (4, .int 0), (3, .ref ou), (2, .ref mo), (1, .ref gx), (0, .ref b)]) hx hb dL_law_316 hl (by decide) rfl (fun ls hl => ?_)
      refine lv_aload_n hx hb dL_law_318 rfl (lv_at hl 4 rfl) ?_
      refine x_callV (rest := []) (wr := []) (m_thrown l dC dI k mo V1_17 0 z_20) B mV_X12_thrown mw_2144 hl [0] [] rfl rfl ⟨by decide, by decide⟩ (by decide) (q0 := 0) rfl rfl rfl ⟨Nat.le_of_ble_eq_true rfl, Nat.le_of_ble_eq_true rfl⟩ (Nat.le_of_ble_eq_true rfl) rfl dL_law_319 ⟨Nat.le_of_ble_eq_true rfl, Nat.le_of_ble_eq_true rfl⟩ (fun r w H locs hp B => ?_)
      obtain ⟨rfl, rfl⟩ := hp
      have B := bd_to (ws' := [(mo, .inr (10, fvM V1_17))]) rfl B
      refine lv_iload hx hb dL_law_322 (lv_at hl 1 rfl) ?_
      refine lv_icmp_eq (tgt := 329) hx hb dL_law_324 (by decide) (fun c9 => absurd c9 (by decide)) (fun _ => ?_)
      refine lv_iconst (v := 0) hx hb dL_law_327 (by decide) ?_
      exfalso; omega
    · skip
      have B := bd_to (ws' := [(mo, .inr (10, fvM V1_21))]) rfl B
      refine lv_istore (lv' := [(6, .int 0), (5, .int 1), (4, .int 0), (3, .ref ou), (2, .ref mo), (1, .ref gx), (0, .ref b)]) hx hb dL_law_316 hl (by decide) rfl (fun ls hl => ?_)
      refine lv_aload_n hx hb dL_law_318 rfl (lv_at hl 4 rfl) ?_
      refine x_callV (rest := []) (wr := []) (m_thrown l dC dI k mo V1_21 1 z_23) B mV_X12_thrown mw_2144 hl [0] [] rfl rfl ⟨by decide, by decide⟩ (by decide) (q0 := 0) rfl rfl rfl ⟨Nat.le_of_ble_eq_true rfl, Nat.le_of_ble_eq_true rfl⟩ (Nat.le_of_ble_eq_true rfl) rfl dL_law_319 ⟨Nat.le_of_ble_eq_true rfl, Nat.le_of_ble_eq_true rfl⟩ (fun r w H locs hp B => ?_)
      obtain ⟨rfl, rfl⟩ := hp
      have B := bd_to (ws' := [(mo, .inr (10, fvM V1_21))]) rfl B
      refine lv_iload hx hb dL_law_322 (lv_at hl 1 rfl) ?_
      refine lv_icmp_eq (tgt := 329) hx hb dL_law_324 (by decide) (fun _ => ?_) (fun c9 => absurd (by decide) c9)
      refine lv_iload hx hb dL_law_329 (lv_at hl 1 rfl) ?_
      refine lv_if_ne (tgt := 346) hx hb dL_law_331 (by decide) (fun _ => ?_) (fun c9 => absurd c9 (by decide))
      refine lv_goto (tgt := 2809) hx hb dL_law_346 (by decide) ?_
      exact law_end hX hbl hr B (lv_sub hl [6, 2] rfl) (Nat.le_of_ble_eq_true rfl) (Nat.le_of_ble_eq_true rfl)
    · skip
      have B := bd_to (ws' := [(mo, .inr (10, fvM V1_24))]) rfl B
      refine lv_istore (lv' := [(6, .int 0), (5, .int 1), (4, .int 0), (3, .ref ou), (2, .ref mo), (1, .ref gx), (0, .ref b)]) hx hb dL_law_316 hl (by decide) rfl (fun ls hl => ?_)
      refine lv_aload_n hx hb dL_law_318 rfl (lv_at hl 4 rfl) ?_
      refine x_callV (rest := []) (wr := []) (m_thrown l dC dI k mo V1_24 2 z_27) B mV_X12_thrown mw_2144 hl [0] [] rfl rfl ⟨by decide, by decide⟩ (by decide) (q0 := 0) rfl rfl rfl ⟨Nat.le_of_ble_eq_true rfl, Nat.le_of_ble_eq_true rfl⟩ (Nat.le_of_ble_eq_true rfl) rfl dL_law_319 ⟨Nat.le_of_ble_eq_true rfl, Nat.le_of_ble_eq_true rfl⟩ (fun r w H locs hp B => ?_)
      obtain ⟨rfl, rfl⟩ := hp
      have B := bd_to (ws' := [(mo, .inr (10, fvM V1_24))]) rfl B
      refine lv_iload hx hb dL_law_322 (lv_at hl 1 rfl) ?_
      refine lv_icmp_eq (tgt := 329) hx hb dL_law_324 (by decide) (fun c9 => absurd c9 (by decide)) (fun _ => ?_)
      refine lv_iconst (v := 0) hx hb dL_law_327 (by decide) ?_
      exfalso; omega
  · skip
    have B := bd_to (ws' := [(mo, .inr (10, fvM V)), (aDr, .inl (k 0, 5, .inl ge))]) rfl B
    refine lv_istore (lv' := [(5, .int 2), (4, .int 0), (3, .ref ou), (2, .ref mo), (1, .ref gx), (0, .ref b)]) hx hb dL_law_298 hl (by decide) rfl (fun ls hl => ?_)
    refine lv_aload_n hx hb dL_law_300 rfl (lv_at hl 3 rfl) ?_
    refine lv_aload_n hx hb dL_law_301 rfl (lv_at hl 5 rfl) ?_
    refine lv_iload hx hb dL_law_302 (lv_at hl 1 rfl) ?_
    refine lv_iconst (v := 1) hx hb dL_law_304 (by decide) ?_
    refine lv_iadd hx hb dL_law_305 ?_
    refine lv_seti (y := 1) (by decide) ?_
    refine va_sld hx hb hX hbl (Nat.not_le.mpr hbl) B.2.2.2.2.2 (vpc (by decide)) dL_law_306 ?_
    refine lv_seti (y := xs 1) rfl ?_
    refine lv_aload_n hx hb dL_law_307 rfl (lv_at hl 5 rfl) ?_
    refine lv_iload hx hb dL_law_308 (lv_at hl 1 rfl) ?_
    refine lv_iconst (v := 2) hx hb dL_law_310 (by decide) ?_
    refine lv_iadd hx hb dL_law_311 ?_
    refine lv_seti (y := 2) (by decide) ?_
    refine va_sld hx hb hX hbl (Nat.not_le.mpr hbl) B.2.2.2.2.2 (vpc (by decide)) dL_law_312 ?_
    refine lv_seti (y := xs 2) rfl ?_
    refine x_callV (rest := []) (wr := []) (m_mark l dC dI k mo V aDr (xs 1) (xs 2) ge h3 h21 hge) B mV_X12_mark mw_2167 hl [0, 1] [] rfl rfl ⟨by decide, by decide⟩ (by decide) (q0 := 0) rfl rfl rfl ⟨Nat.le_of_ble_eq_true rfl, Nat.le_of_ble_eq_true rfl⟩ (Nat.le_of_ble_eq_true rfl) rfl dL_law_313 ⟨Nat.le_of_ble_eq_true rfl, Nat.le_of_ble_eq_true rfl⟩ (fun r w H locs hp B => ?_)
    rcases hp with ⟨V1_28, z_29, z_30, z_31, rfl, rfl⟩ | ⟨V1_32, z_33, z_34, rfl, rfl⟩ | ⟨V1_35, z_36, z_37, z_38, rfl, rfl⟩
    · skip
      have B := bd_to (ws' := [(mo, .inr (10, fvM V1_28))]) rfl B
      refine lv_istore (lv' := [(6, .int (-1)), (5, .int 2), (4, .int 0), (3, .ref ou), (2, .ref mo), (1, .ref gx), (0, .ref b)]) hx hb dL_law_316 hl (by decide) rfl (fun ls hl => ?_)
      refine lv_aload_n hx hb dL_law_318 rfl (lv_at hl 4 rfl) ?_
      refine x_callV (rest := []) (wr := []) (m_thrown l dC dI k mo V1_28 0 z_31) B mV_X12_thrown mw_2144 hl [0] [] rfl rfl ⟨by decide, by decide⟩ (by decide) (q0 := 0) rfl rfl rfl ⟨Nat.le_of_ble_eq_true rfl, Nat.le_of_ble_eq_true rfl⟩ (Nat.le_of_ble_eq_true rfl) rfl dL_law_319 ⟨Nat.le_of_ble_eq_true rfl, Nat.le_of_ble_eq_true rfl⟩ (fun r w H locs hp B => ?_)
      obtain ⟨rfl, rfl⟩ := hp
      have B := bd_to (ws' := [(mo, .inr (10, fvM V1_28))]) rfl B
      refine lv_iload hx hb dL_law_322 (lv_at hl 1 rfl) ?_
      refine lv_icmp_eq (tgt := 329) hx hb dL_law_324 (by decide) (fun c9 => absurd c9 (by decide)) (fun _ => ?_)
      refine lv_iconst (v := 0) hx hb dL_law_327 (by decide) ?_
      exfalso; omega
    · skip
      exfalso; first | omega | exact absurd z_33 (by decide) | exact absurd z_34 (by decide)
    · skip
      have B := bd_to (ws' := [(mo, .inr (10, fvM V1_35))]) rfl B
      refine lv_istore (lv' := [(6, .int 0), (5, .int 2), (4, .int 0), (3, .ref ou), (2, .ref mo), (1, .ref gx), (0, .ref b)]) hx hb dL_law_316 hl (by decide) rfl (fun ls hl => ?_)
      refine lv_aload_n hx hb dL_law_318 rfl (lv_at hl 4 rfl) ?_
      refine x_callV (rest := []) (wr := []) (m_thrown l dC dI k mo V1_35 2 z_38) B mV_X12_thrown mw_2144 hl [0] [] rfl rfl ⟨by decide, by decide⟩ (by decide) (q0 := 0) rfl rfl rfl ⟨Nat.le_of_ble_eq_true rfl, Nat.le_of_ble_eq_true rfl⟩ (Nat.le_of_ble_eq_true rfl) rfl dL_law_319 ⟨Nat.le_of_ble_eq_true rfl, Nat.le_of_ble_eq_true rfl⟩ (fun r w H locs hp B => ?_)
      obtain ⟨rfl, rfl⟩ := hp
      have B := bd_to (ws' := [(mo, .inr (10, fvM V1_35))]) rfl B
      refine lv_iload hx hb dL_law_322 (lv_at hl 1 rfl) ?_
      refine lv_icmp_eq (tgt := 329) hx hb dL_law_324 (by decide) (fun _ => ?_) (fun c9 => absurd (by decide) c9)
      refine lv_iload hx hb dL_law_329 (lv_at hl 1 rfl) ?_
      refine lv_if_ne (tgt := 346) hx hb dL_law_331 (by decide) (fun _ => ?_) (fun c9 => absurd c9 (by decide))
      refine lv_goto (tgt := 2809) hx hb dL_law_346 (by decide) ?_
      exact law_end hX hbl hr B (lv_sub hl [6, 2] rfl) (Nat.le_of_ble_eq_true rfl) (Nat.le_of_ble_eq_true rfl)

theorem mw_630 : (Jvm.Cond.methodLink "GalleyforgeLaw" (154 : Nat) ({ cls := "GalleyforgeLaw", name := "pattern", desc := "(LGalleyforge;II[J)I" } : Jvm.MethodName)) ∈ gt := gt_at 765 (by decide +kernel) (by decide +kernel)
theorem mw_631 : (Jvm.Cond.static ({ cls := "GalleyforgeLaw", name := "pattern", desc := "(LGalleyforge;II[J)I" } : Jvm.MethodName)) ∈ gt := gt_at 766 (by decide +kernel) (by decide +kernel)
theorem mw_632 : (Jvm.Cond.codeWith ({ cls := "GalleyforgeLaw", name := "pattern", desc := "(LGalleyforge;II[J)I" } : Jvm.MethodName) method_5_code (5 : Nat) (Option.some Jvm.ClassFile.FieldType.int) [((0 : Nat), (10 : Nat), (13 : Nat), (21 : Nat)), ((0 : Nat), (10 : Nat), (17 : Nat), (15 : Nat))]) ∈ gt := gt_at 767 (by decide +kernel) (by decide +kernel)
theorem mw_2171 : (Jvm.Cond.methodLink "GalleyforgeLaw" (156 : Nat) ({ cls := "GalleyforgeModel", name := "pattern", desc := "(II)I" } : Jvm.MethodName)) ∈ gt := gt_at 2306 (by decide +kernel) (by decide +kernel)
theorem mw_2172 : (Jvm.Cond.instanceMethod ({ cls := "GalleyforgeModel", name := "pattern", desc := "(II)I" } : Jvm.MethodName)) ∈ gt := gt_at 2307 (by decide +kernel) (by decide +kernel)
theorem mw_2173 : (Jvm.Cond.selects "GalleyforgeModel" ({ cls := "GalleyforgeModel", name := "pattern", desc := "(II)I" } : Jvm.MethodName) ({ cls := "GalleyforgeModel", name := "pattern", desc := "(II)I" } : Jvm.MethodName)) ∈ gt := gt_at 2308 (by decide +kernel) (by decide +kernel)
theorem mw_2174 : (Jvm.Cond.code ({ cls := "GalleyforgeModel", name := "pattern", desc := "(II)I" } : Jvm.MethodName) prog_14_method_13_code (5 : Nat) (Option.some Jvm.ClassFile.FieldType.int)) ∈ gt := gt_at 2309 (by decide +kernel) (by decide +kernel)
theorem mV_X12_pattern : mV yX12_pattern cX12_pattern 5 (some .int) 2 := ⟨⟨mw_2174, mw_13, by decide, by decide, by decide +kernel⟩, mw_2172, mw_2173⟩
theorem mW_L_pattern : mW yL_pattern cL_pattern 5 (some .int) [((0 : Nat), (10 : Nat), (13 : Nat), (21 : Nat)), ((0 : Nat), (10 : Nat), (17 : Nat), (15 : Nat))] 4 := ⟨⟨mw_632, mw_0, by decide, by decide, by decide +kernel⟩, mw_631⟩
theorem dL_law_349 : decode cL_law 349 = .ok (.aload_n 1, 1) := by decide +kernel
theorem dL_law_350 : decode cL_law 350 = .ok (.aload_n 0, 1) := by decide +kernel
theorem dL_law_351 : decode cL_law 351 = .ok (.iload 4, 2) := by decide +kernel
theorem dL_law_353 : decode cL_law 353 = .ok (.iconst 1, 1) := by decide +kernel
theorem dL_law_354 : decode cL_law 354 = .ok (.iadd, 1) := by decide +kernel
theorem dL_law_355 : decode cL_law 355 = .ok (.iaload, 1) := by decide +kernel
theorem dL_law_356 : decode cL_law 356 = .ok (.aload_n 0, 1) := by decide +kernel
theorem dL_law_357 : decode cL_law 357 = .ok (.iload 4, 2) := by decide +kernel
theorem dL_law_359 : decode cL_law 359 = .ok (.iconst 2, 1) := by decide +kernel
theorem dL_law_360 : decode cL_law 360 = .ok (.iadd, 1) := by decide +kernel
theorem dL_law_361 : decode cL_law 361 = .ok (.iaload, 1) := by decide +kernel
theorem dL_law_362 : decode cL_law 362 = .ok (.aload_n 3, 1) := by decide +kernel
theorem dL_law_363 : decode cL_law 363 = .ok (.invokestatic 154, 3) := by decide +kernel
theorem dL_law_366 : decode cL_law 366 = .ok (.istore 5, 2) := by decide +kernel
theorem dL_law_368 : decode cL_law 368 = .ok (.aload_n 2, 1) := by decide +kernel
theorem dL_law_369 : decode cL_law 369 = .ok (.aload_n 0, 1) := by decide +kernel
theorem dL_law_370 : decode cL_law 370 = .ok (.iload 4, 2) := by decide +kernel
theorem dL_law_372 : decode cL_law 372 = .ok (.iconst 1, 1) := by decide +kernel
theorem dL_law_373 : decode cL_law 373 = .ok (.iadd, 1) := by decide +kernel
theorem dL_law_374 : decode cL_law 374 = .ok (.iaload, 1) := by decide +kernel
theorem dL_law_375 : decode cL_law 375 = .ok (.aload_n 0, 1) := by decide +kernel
theorem dL_law_376 : decode cL_law 376 = .ok (.iload 4, 2) := by decide +kernel
theorem dL_law_378 : decode cL_law 378 = .ok (.iconst 2, 1) := by decide +kernel
theorem dL_law_379 : decode cL_law 379 = .ok (.iadd, 1) := by decide +kernel
theorem dL_law_380 : decode cL_law 380 = .ok (.iaload, 1) := by decide +kernel
theorem dL_law_381 : decode cL_law 381 = .ok (.invokevirtual 156, 3) := by decide +kernel
theorem dL_law_384 : decode cL_law 384 = .ok (.istore 6, 2) := by decide +kernel
theorem dL_law_386 : decode cL_law 386 = .ok (.aload_n 2, 1) := by decide +kernel
theorem dL_law_387 : decode cL_law 387 = .ok (.invokevirtual 142, 3) := by decide +kernel
theorem dL_law_390 : decode cL_law 390 = .ok (.iload 5, 2) := by decide +kernel
theorem dL_law_392 : decode cL_law 392 = .ok (.if_icmp .eq 5, 3) := by decide +kernel
theorem dL_law_395 : decode cL_law 395 = .ok (.iconst 0, 1) := by decide +kernel
theorem dL_law_397 : decode cL_law 397 = .ok (.iload 5, 2) := by decide +kernel
theorem dL_law_399 : decode cL_law 399 = .ok (.ifCond .ne 15, 3) := by decide +kernel
theorem dL_law_414 : decode cL_law 414 = .ok (.goto 2395, 3) := by decide +kernel
set_option maxHeartbeats 4000000 in
set_option maxRecDepth 100000 in
theorem law_pattern (l : Launch) (hl0 : l.stackTraces = false) (dC : Nat → ClassId) (dI : Nat → Nat → Nat) (k : Nat → ClassId) {p : Program} {e : Env} {s : State} {m : MethodId} {below : List Frame} {meth : Method} {c : Code} {b : Nat} {xs : Nat → Int32} (hX : va_X b 7 xs s s.heap) (hbl : b < s.heap.size) (hr : meth.sig.returnType = ret) {H : Heap} {locs : List Loc} {ls : Array Slot} (gx : Nat) (T : Nat) (LA : Nat) (sp : Nat) (dr : Nat) (ou : Nat) (mo : Nat) (V : Nat → Value) (h1 : V 1 = .int 0) (h4 : V 4 = .int 0) (B : bd p s m #[Value.ref b] meth c cL_law 8 "GalleyforgeLaw" dC dI k (fun q => s.heap.size ≤ q) [(gx, .inr (9, [.ref T, .ref LA, .ref sp, .int 0, .ref dr])), (ou, .inl (k 2, 1, .inr (.inl (fun _ => 0)))), (mo, .inr (10, fvM V))] H locs) (hl : lv_has ls 8 [(4, .int 0), (3, .ref ou), (2, .ref mo), (1, .ref gx), (0, .ref b)]) : W p l e room_1 s m #[Value.ref b] below meth c H locs 157 183312 (lw_Z below #[Value.ref b] s) (F0 m 349 ls []) := by
  have hx := B.1.1
  have hb := B.1.2.1
  refine lv_aload_n hx hb dL_law_349 rfl (lv_at hl 3 rfl) ?_
  refine lv_aload_n hx hb dL_law_350 rfl (lv_at hl 4 rfl) ?_
  refine lv_iload hx hb dL_law_351 (lv_at hl 0 rfl) ?_
  refine lv_iconst (v := 1) hx hb dL_law_353 (by decide) ?_
  refine lv_iadd hx hb dL_law_354 ?_
  refine lv_seti (y := 1) (by decide) ?_
  refine va_sld hx hb hX hbl (Nat.not_le.mpr hbl) B.2.2.2.2.2 (vpc (by decide)) dL_law_355 ?_
  refine lv_seti (y := xs 1) rfl ?_
  refine lv_aload_n hx hb dL_law_356 rfl (lv_at hl 4 rfl) ?_
  refine lv_iload hx hb dL_law_357 (lv_at hl 0 rfl) ?_
  refine lv_iconst (v := 2) hx hb dL_law_359 (by decide) ?_
  refine lv_iadd hx hb dL_law_360 ?_
  refine lv_seti (y := 2) (by decide) ?_
  refine va_sld hx hb hX hbl (Nat.not_le.mpr hbl) B.2.2.2.2.2 (vpc (by decide)) dL_law_361 ?_
  refine lv_seti (y := xs 2) rfl ?_
  refine lv_aload_n hx hb dL_law_362 rfl (lv_at hl 1 rfl) ?_
  refine x_callW (rest := []) (wr := [(mo, .inr (10, fvM V))]) (w_pattern l dC dI k hl0 gx T LA sp dr (xs 1) (xs 2) ou) B mW_L_pattern mw_630 hl [0, 1] [2] rfl rfl ⟨by decide, by decide⟩ (by decide) ⟨Nat.le_of_ble_eq_true rfl, Nat.le_of_ble_eq_true rfl⟩ (Nat.le_of_ble_eq_true rfl) rfl dL_law_363 ⟨Nat.le_of_ble_eq_true rfl, Nat.le_of_ble_eq_true rfl⟩ (fun r w H locs hp B => ?_)
  rcases hp with ⟨z_1, rfl, rfl⟩ | ⟨z_2, rfl, rfl⟩
  · skip
    have B := bd_to (ws' := [(mo, .inr (10, fvM V))]) rfl B
    refine lv_istore (lv' := [(5, .int 1), (4, .int 0), (3, .ref ou), (2, .ref mo), (1, .ref gx), (0, .ref b)]) hx hb dL_law_366 hl (by decide) rfl (fun ls hl => ?_)
    refine lv_aload_n hx hb dL_law_368 rfl (lv_at hl 3 rfl) ?_
    refine lv_aload_n hx hb dL_law_369 rfl (lv_at hl 5 rfl) ?_
    refine lv_iload hx hb dL_law_370 (lv_at hl 1 rfl) ?_
    refine lv_iconst (v := 1) hx hb dL_law_372 (by decide) ?_
    refine lv_iadd hx hb dL_law_373 ?_
    refine lv_seti (y := 1) (by decide) ?_
    refine va_sld hx hb hX hbl (Nat.not_le.mpr hbl) B.2.2.2.2.2 (vpc (by decide)) dL_law_374 ?_
    refine lv_seti (y := xs 1) rfl ?_
    refine lv_aload_n hx hb dL_law_375 rfl (lv_at hl 5 rfl) ?_
    refine lv_iload hx hb dL_law_376 (lv_at hl 1 rfl) ?_
    refine lv_iconst (v := 2) hx hb dL_law_378 (by decide) ?_
    refine lv_iadd hx hb dL_law_379 ?_
    refine lv_seti (y := 2) (by decide) ?_
    refine va_sld hx hb hX hbl (Nat.not_le.mpr hbl) B.2.2.2.2.2 (vpc (by decide)) dL_law_380 ?_
    refine lv_seti (y := xs 2) rfl ?_
    refine x_callV (rest := []) (wr := []) (m_pattern l dC dI k mo V (xs 1) (xs 2) h1 h4) B mV_X12_pattern mw_2171 hl [0] [] rfl rfl ⟨by decide, by decide⟩ (by decide) (q0 := 0) rfl rfl rfl ⟨Nat.le_of_ble_eq_true rfl, Nat.le_of_ble_eq_true rfl⟩ (Nat.le_of_ble_eq_true rfl) rfl dL_law_381 ⟨Nat.le_of_ble_eq_true rfl, Nat.le_of_ble_eq_true rfl⟩ (fun r w H locs hp B => ?_)
    rcases hp with ⟨V1_3, z_4, z_5, rfl, rfl⟩ | ⟨V1_6, z_7, z_8, rfl, rfl⟩
    · skip
      have B := bd_to (ws' := [(mo, .inr (10, fvM V1_3))]) rfl B
      refine lv_istore (lv' := [(6, .int 0), (5, .int 1), (4, .int 0), (3, .ref ou), (2, .ref mo), (1, .ref gx), (0, .ref b)]) hx hb dL_law_384 hl (by decide) rfl (fun ls hl => ?_)
      refine lv_aload_n hx hb dL_law_386 rfl (lv_at hl 4 rfl) ?_
      refine x_callV (rest := []) (wr := []) (m_thrown l dC dI k mo V1_3 1 z_5) B mV_X12_thrown mw_2144 hl [0] [] rfl rfl ⟨by decide, by decide⟩ (by decide) (q0 := 0) rfl rfl rfl ⟨Nat.le_of_ble_eq_true rfl, Nat.le_of_ble_eq_true rfl⟩ (Nat.le_of_ble_eq_true rfl) rfl dL_law_387 ⟨Nat.le_of_ble_eq_true rfl, Nat.le_of_ble_eq_true rfl⟩ (fun r w H locs hp B => ?_)
      obtain ⟨rfl, rfl⟩ := hp
      have B := bd_to (ws' := [(mo, .inr (10, fvM V1_3))]) rfl B
      refine lv_iload hx hb dL_law_390 (lv_at hl 1 rfl) ?_
      refine lv_icmp_eq (tgt := 397) hx hb dL_law_392 (by decide) (fun _ => ?_) (fun c9 => absurd (by decide) c9)
      refine lv_iload hx hb dL_law_397 (lv_at hl 1 rfl) ?_
      refine lv_if_ne (tgt := 414) hx hb dL_law_399 (by decide) (fun _ => ?_) (fun c9 => absurd c9 (by decide))
      refine lv_goto (tgt := 2809) hx hb dL_law_414 (by decide) ?_
      exact law_end hX hbl hr B (lv_sub hl [6, 2] rfl) (Nat.le_of_ble_eq_true rfl) (Nat.le_of_ble_eq_true rfl)
    · skip
      have B := bd_to (ws' := [(mo, .inr (10, fvM V1_6))]) rfl B
      refine lv_istore (lv' := [(6, .int 0), (5, .int 1), (4, .int 0), (3, .ref ou), (2, .ref mo), (1, .ref gx), (0, .ref b)]) hx hb dL_law_384 hl (by decide) rfl (fun ls hl => ?_)
      refine lv_aload_n hx hb dL_law_386 rfl (lv_at hl 4 rfl) ?_
      refine x_callV (rest := []) (wr := []) (m_thrown l dC dI k mo V1_6 2 z_8) B mV_X12_thrown mw_2144 hl [0] [] rfl rfl ⟨by decide, by decide⟩ (by decide) (q0 := 0) rfl rfl rfl ⟨Nat.le_of_ble_eq_true rfl, Nat.le_of_ble_eq_true rfl⟩ (Nat.le_of_ble_eq_true rfl) rfl dL_law_387 ⟨Nat.le_of_ble_eq_true rfl, Nat.le_of_ble_eq_true rfl⟩ (fun r w H locs hp B => ?_)
      obtain ⟨rfl, rfl⟩ := hp
      have B := bd_to (ws' := [(mo, .inr (10, fvM V1_6))]) rfl B
      refine lv_iload hx hb dL_law_390 (lv_at hl 1 rfl) ?_
      refine lv_icmp_eq (tgt := 397) hx hb dL_law_392 (by decide) (fun c9 => absurd c9 (by decide)) (fun _ => ?_)
      refine lv_iconst (v := 0) hx hb dL_law_395 (by decide) ?_
      exfalso; omega
  · skip
    have B := bd_to (ws' := [(mo, .inr (10, fvM V))]) rfl B
    refine lv_istore (lv' := [(5, .int 2), (4, .int 0), (3, .ref ou), (2, .ref mo), (1, .ref gx), (0, .ref b)]) hx hb dL_law_366 hl (by decide) rfl (fun ls hl => ?_)
    refine lv_aload_n hx hb dL_law_368 rfl (lv_at hl 3 rfl) ?_
    refine lv_aload_n hx hb dL_law_369 rfl (lv_at hl 5 rfl) ?_
    refine lv_iload hx hb dL_law_370 (lv_at hl 1 rfl) ?_
    refine lv_iconst (v := 1) hx hb dL_law_372 (by decide) ?_
    refine lv_iadd hx hb dL_law_373 ?_
    refine lv_seti (y := 1) (by decide) ?_
    refine va_sld hx hb hX hbl (Nat.not_le.mpr hbl) B.2.2.2.2.2 (vpc (by decide)) dL_law_374 ?_
    refine lv_seti (y := xs 1) rfl ?_
    refine lv_aload_n hx hb dL_law_375 rfl (lv_at hl 5 rfl) ?_
    refine lv_iload hx hb dL_law_376 (lv_at hl 1 rfl) ?_
    refine lv_iconst (v := 2) hx hb dL_law_378 (by decide) ?_
    refine lv_iadd hx hb dL_law_379 ?_
    refine lv_seti (y := 2) (by decide) ?_
    refine va_sld hx hb hX hbl (Nat.not_le.mpr hbl) B.2.2.2.2.2 (vpc (by decide)) dL_law_380 ?_
    refine lv_seti (y := xs 2) rfl ?_
    refine x_callV (rest := []) (wr := []) (m_pattern l dC dI k mo V (xs 1) (xs 2) h1 h4) B mV_X12_pattern mw_2171 hl [0] [] rfl rfl ⟨by decide, by decide⟩ (by decide) (q0 := 0) rfl rfl rfl ⟨Nat.le_of_ble_eq_true rfl, Nat.le_of_ble_eq_true rfl⟩ (Nat.le_of_ble_eq_true rfl) rfl dL_law_381 ⟨Nat.le_of_ble_eq_true rfl, Nat.le_of_ble_eq_true rfl⟩ (fun r w H locs hp B => ?_)
    rcases hp with ⟨V1_9, z_10, z_11, rfl, rfl⟩ | ⟨V1_12, z_13, z_14, rfl, rfl⟩
    · skip
      have B := bd_to (ws' := [(mo, .inr (10, fvM V1_9))]) rfl B
      refine lv_istore (lv' := [(6, .int 0), (5, .int 2), (4, .int 0), (3, .ref ou), (2, .ref mo), (1, .ref gx), (0, .ref b)]) hx hb dL_law_384 hl (by decide) rfl (fun ls hl => ?_)
      refine lv_aload_n hx hb dL_law_386 rfl (lv_at hl 4 rfl) ?_
      refine x_callV (rest := []) (wr := []) (m_thrown l dC dI k mo V1_9 1 z_11) B mV_X12_thrown mw_2144 hl [0] [] rfl rfl ⟨by decide, by decide⟩ (by decide) (q0 := 0) rfl rfl rfl ⟨Nat.le_of_ble_eq_true rfl, Nat.le_of_ble_eq_true rfl⟩ (Nat.le_of_ble_eq_true rfl) rfl dL_law_387 ⟨Nat.le_of_ble_eq_true rfl, Nat.le_of_ble_eq_true rfl⟩ (fun r w H locs hp B => ?_)
      obtain ⟨rfl, rfl⟩ := hp
      have B := bd_to (ws' := [(mo, .inr (10, fvM V1_9))]) rfl B
      refine lv_iload hx hb dL_law_390 (lv_at hl 1 rfl) ?_
      refine lv_icmp_eq (tgt := 397) hx hb dL_law_392 (by decide) (fun c9 => absurd c9 (by decide)) (fun _ => ?_)
      refine lv_iconst (v := 0) hx hb dL_law_395 (by decide) ?_
      exfalso; omega
    · skip
      have B := bd_to (ws' := [(mo, .inr (10, fvM V1_12))]) rfl B
      refine lv_istore (lv' := [(6, .int 0), (5, .int 2), (4, .int 0), (3, .ref ou), (2, .ref mo), (1, .ref gx), (0, .ref b)]) hx hb dL_law_384 hl (by decide) rfl (fun ls hl => ?_)
      refine lv_aload_n hx hb dL_law_386 rfl (lv_at hl 4 rfl) ?_
      refine x_callV (rest := []) (wr := []) (m_thrown l dC dI k mo V1_12 2 z_14) B mV_X12_thrown mw_2144 hl [0] [] rfl rfl ⟨by decide, by decide⟩ (by decide) (q0 := 0) rfl rfl rfl ⟨Nat.le_of_ble_eq_true rfl, Nat.le_of_ble_eq_true rfl⟩ (Nat.le_of_ble_eq_true rfl) rfl dL_law_387 ⟨Nat.le_of_ble_eq_true rfl, Nat.le_of_ble_eq_true rfl⟩ (fun r w H locs hp B => ?_)
      obtain ⟨rfl, rfl⟩ := hp
      have B := bd_to (ws' := [(mo, .inr (10, fvM V1_12))]) rfl B
      refine lv_iload hx hb dL_law_390 (lv_at hl 1 rfl) ?_
      refine lv_icmp_eq (tgt := 397) hx hb dL_law_392 (by decide) (fun _ => ?_) (fun c9 => absurd (by decide) c9)
      refine lv_iload hx hb dL_law_397 (lv_at hl 1 rfl) ?_
      refine lv_if_ne (tgt := 414) hx hb dL_law_399 (by decide) (fun _ => ?_) (fun c9 => absurd c9 (by decide))
      refine lv_goto (tgt := 2809) hx hb dL_law_414 (by decide) ?_
      exact law_end hX hbl hr B (lv_sub hl [6, 2] rfl) (Nat.le_of_ble_eq_true rfl) (Nat.le_of_ble_eq_true rfl)

theorem mw_776 : (Jvm.Cond.methodLink "GalleyforgeLaw" (157 : Nat) ({ cls := "GalleyforgeLaw", name := "word", desc := "(LGalleyforge;II[J)I" } : Jvm.MethodName)) ∈ gt := gt_at 911 (by decide +kernel) (by decide +kernel)
theorem mw_777 : (Jvm.Cond.static ({ cls := "GalleyforgeLaw", name := "word", desc := "(LGalleyforge;II[J)I" } : Jvm.MethodName)) ∈ gt := gt_at 912 (by decide +kernel) (by decide +kernel)
theorem mw_778 : (Jvm.Cond.codeWith ({ cls := "GalleyforgeLaw", name := "word", desc := "(LGalleyforge;II[J)I" } : Jvm.MethodName) method_6_code (5 : Nat) (Option.some Jvm.ClassFile.FieldType.int) [((0 : Nat), (10 : Nat), (13 : Nat), (13 : Nat)), ((0 : Nat), (10 : Nat), (17 : Nat), (15 : Nat))]) ∈ gt := gt_at 913 (by decide +kernel) (by decide +kernel)
theorem mw_2175 : (Jvm.Cond.methodLink "GalleyforgeLaw" (159 : Nat) ({ cls := "GalleyforgeModel", name := "word", desc := "(II)I" } : Jvm.MethodName)) ∈ gt := gt_at 2310 (by decide +kernel) (by decide +kernel)
theorem mw_2176 : (Jvm.Cond.instanceMethod ({ cls := "GalleyforgeModel", name := "word", desc := "(II)I" } : Jvm.MethodName)) ∈ gt := gt_at 2311 (by decide +kernel) (by decide +kernel)
theorem mw_2177 : (Jvm.Cond.selects "GalleyforgeModel" ({ cls := "GalleyforgeModel", name := "word", desc := "(II)I" } : Jvm.MethodName) ({ cls := "GalleyforgeModel", name := "word", desc := "(II)I" } : Jvm.MethodName)) ∈ gt := gt_at 2312 (by decide +kernel) (by decide +kernel)
theorem mw_2178 : (Jvm.Cond.code ({ cls := "GalleyforgeModel", name := "word", desc := "(II)I" } : Jvm.MethodName) prog_14_method_16_code (5 : Nat) (Option.some Jvm.ClassFile.FieldType.int)) ∈ gt := gt_at 2313 (by decide +kernel) (by decide +kernel)
theorem mV_X12_word : mV yX12_word cX12_word 5 (some .int) 2 := ⟨⟨mw_2178, mw_13, by decide, by decide, by decide +kernel⟩, mw_2176, mw_2177⟩
theorem mW_L_word : mW yL_word cL_word 5 (some .int) [((0 : Nat), (10 : Nat), (13 : Nat), (13 : Nat)), ((0 : Nat), (10 : Nat), (17 : Nat), (15 : Nat))] 4 := ⟨⟨mw_778, mw_0, by decide, by decide, by decide +kernel⟩, mw_777⟩
theorem dL_law_417 : decode cL_law 417 = .ok (.aload_n 1, 1) := by decide +kernel
theorem dL_law_418 : decode cL_law 418 = .ok (.aload_n 0, 1) := by decide +kernel
theorem dL_law_419 : decode cL_law 419 = .ok (.iload 4, 2) := by decide +kernel
theorem dL_law_421 : decode cL_law 421 = .ok (.iconst 1, 1) := by decide +kernel
theorem dL_law_422 : decode cL_law 422 = .ok (.iadd, 1) := by decide +kernel
theorem dL_law_423 : decode cL_law 423 = .ok (.iaload, 1) := by decide +kernel
theorem dL_law_424 : decode cL_law 424 = .ok (.aload_n 0, 1) := by decide +kernel
theorem dL_law_425 : decode cL_law 425 = .ok (.iload 4, 2) := by decide +kernel
theorem dL_law_427 : decode cL_law 427 = .ok (.iconst 2, 1) := by decide +kernel
theorem dL_law_428 : decode cL_law 428 = .ok (.iadd, 1) := by decide +kernel
theorem dL_law_429 : decode cL_law 429 = .ok (.iaload, 1) := by decide +kernel
theorem dL_law_430 : decode cL_law 430 = .ok (.aload_n 3, 1) := by decide +kernel
theorem dL_law_431 : decode cL_law 431 = .ok (.invokestatic 157, 3) := by decide +kernel
theorem dL_law_434 : decode cL_law 434 = .ok (.istore 5, 2) := by decide +kernel
theorem dL_law_436 : decode cL_law 436 = .ok (.aload_n 2, 1) := by decide +kernel
theorem dL_law_437 : decode cL_law 437 = .ok (.aload_n 0, 1) := by decide +kernel
theorem dL_law_438 : decode cL_law 438 = .ok (.iload 4, 2) := by decide +kernel
theorem dL_law_440 : decode cL_law 440 = .ok (.iconst 1, 1) := by decide +kernel
theorem dL_law_441 : decode cL_law 441 = .ok (.iadd, 1) := by decide +kernel
theorem dL_law_442 : decode cL_law 442 = .ok (.iaload, 1) := by decide +kernel
theorem dL_law_443 : decode cL_law 443 = .ok (.aload_n 0, 1) := by decide +kernel
theorem dL_law_444 : decode cL_law 444 = .ok (.iload 4, 2) := by decide +kernel
theorem dL_law_446 : decode cL_law 446 = .ok (.iconst 2, 1) := by decide +kernel
theorem dL_law_447 : decode cL_law 447 = .ok (.iadd, 1) := by decide +kernel
theorem dL_law_448 : decode cL_law 448 = .ok (.iaload, 1) := by decide +kernel
theorem dL_law_449 : decode cL_law 449 = .ok (.invokevirtual 159, 3) := by decide +kernel
theorem dL_law_452 : decode cL_law 452 = .ok (.istore 6, 2) := by decide +kernel
theorem dL_law_454 : decode cL_law 454 = .ok (.aload_n 2, 1) := by decide +kernel
theorem dL_law_455 : decode cL_law 455 = .ok (.invokevirtual 142, 3) := by decide +kernel
theorem dL_law_458 : decode cL_law 458 = .ok (.iload 5, 2) := by decide +kernel
theorem dL_law_460 : decode cL_law 460 = .ok (.if_icmp .eq 5, 3) := by decide +kernel
theorem dL_law_465 : decode cL_law 465 = .ok (.iload 5, 2) := by decide +kernel
theorem dL_law_467 : decode cL_law 467 = .ok (.ifCond .ne 15, 3) := by decide +kernel
theorem dL_law_482 : decode cL_law 482 = .ok (.goto 2327, 3) := by decide +kernel
set_option maxHeartbeats 4000000 in
set_option maxRecDepth 100000 in
theorem law_word (l : Launch) (hl0 : l.stackTraces = false) (dC : Nat → ClassId) (dI : Nat → Nat → Nat) (k : Nat → ClassId) {p : Program} {e : Env} {s : State} {m : MethodId} {below : List Frame} {meth : Method} {c : Code} {b : Nat} {xs : Nat → Int32} (hX : va_X b 7 xs s s.heap) (hbl : b < s.heap.size) (hr : meth.sig.returnType = ret) {H : Heap} {locs : List Loc} {ls : Array Slot} (gx : Nat) (T : Nat) (LA : Nat) (sp : Nat) (dr : Nat) (bl : Nat) (pt : Nat) (fk : Nat) (fh : Nat) (ky : Nat) (ou : Nat) (mo : Nat) (V : Nat → Value) (h9 : V 9 = .int 0) (B : bd p s m #[Value.ref b] meth c cL_law 8 "GalleyforgeLaw" dC dI k (fun q => s.heap.size ≤ q) [(gx, .inr (9, [.ref T, .ref LA, .ref sp, .int 0, .ref dr])), (T, .inr (8, [.ref bl, .ref pt, .ref fk, .ref fh, .int 0, .ref ky, .int 60, .int 12])), (bl, .inr (11, [.int 0, .ref (dI 99 1), .int 0])), (ou, .inl (k 2, 1, .inr (.inl (fun _ => 0)))), (mo, .inr (10, fvM V))] H locs) (hl : lv_has ls 8 [(4, .int 0), (3, .ref ou), (2, .ref mo), (1, .ref gx), (0, .ref b)]) : W p l e room_1 s m #[Value.ref b] below meth c H locs 157 183312 (lw_Z below #[Value.ref b] s) (F0 m 417 ls []) := by
  have hx := B.1.1
  have hb := B.1.2.1
  refine lv_aload_n hx hb dL_law_417 rfl (lv_at hl 3 rfl) ?_
  refine lv_aload_n hx hb dL_law_418 rfl (lv_at hl 4 rfl) ?_
  refine lv_iload hx hb dL_law_419 (lv_at hl 0 rfl) ?_
  refine lv_iconst (v := 1) hx hb dL_law_421 (by decide) ?_
  refine lv_iadd hx hb dL_law_422 ?_
  refine lv_seti (y := 1) (by decide) ?_
  refine va_sld hx hb hX hbl (Nat.not_le.mpr hbl) B.2.2.2.2.2 (vpc (by decide)) dL_law_423 ?_
  refine lv_seti (y := xs 1) rfl ?_
  refine lv_aload_n hx hb dL_law_424 rfl (lv_at hl 4 rfl) ?_
  refine lv_iload hx hb dL_law_425 (lv_at hl 0 rfl) ?_
  refine lv_iconst (v := 2) hx hb dL_law_427 (by decide) ?_
  refine lv_iadd hx hb dL_law_428 ?_
  refine lv_seti (y := 2) (by decide) ?_
  refine va_sld hx hb hX hbl (Nat.not_le.mpr hbl) B.2.2.2.2.2 (vpc (by decide)) dL_law_429 ?_
  refine lv_seti (y := xs 2) rfl ?_
  refine lv_aload_n hx hb dL_law_430 rfl (lv_at hl 1 rfl) ?_
  refine x_callW (rest := []) (wr := [(mo, .inr (10, fvM V))]) (w_word l dC dI k hl0 gx T LA sp dr bl pt fk fh ky (xs 1) (xs 2) ou) B mW_L_word mw_776 hl [0, 1, 2, 3] [4] rfl rfl ⟨by decide, by decide⟩ (by decide) ⟨Nat.le_of_ble_eq_true rfl, Nat.le_of_ble_eq_true rfl⟩ (Nat.le_of_ble_eq_true rfl) rfl dL_law_431 ⟨Nat.le_of_ble_eq_true rfl, Nat.le_of_ble_eq_true rfl⟩ (fun r w H locs hp B => ?_)
  obtain ⟨rfl, rfl⟩ := hp
  have B := bd_to (ws' := [(mo, .inr (10, fvM V))]) rfl B
  refine lv_istore (lv' := [(5, .int 1), (4, .int 0), (3, .ref ou), (2, .ref mo), (1, .ref gx), (0, .ref b)]) hx hb dL_law_434 hl (by decide) rfl (fun ls hl => ?_)
  refine lv_aload_n hx hb dL_law_436 rfl (lv_at hl 3 rfl) ?_
  refine lv_aload_n hx hb dL_law_437 rfl (lv_at hl 5 rfl) ?_
  refine lv_iload hx hb dL_law_438 (lv_at hl 1 rfl) ?_
  refine lv_iconst (v := 1) hx hb dL_law_440 (by decide) ?_
  refine lv_iadd hx hb dL_law_441 ?_
  refine lv_seti (y := 1) (by decide) ?_
  refine va_sld hx hb hX hbl (Nat.not_le.mpr hbl) B.2.2.2.2.2 (vpc (by decide)) dL_law_442 ?_
  refine lv_seti (y := xs 1) rfl ?_
  refine lv_aload_n hx hb dL_law_443 rfl (lv_at hl 5 rfl) ?_
  refine lv_iload hx hb dL_law_444 (lv_at hl 1 rfl) ?_
  refine lv_iconst (v := 2) hx hb dL_law_446 (by decide) ?_
  refine lv_iadd hx hb dL_law_447 ?_
  refine lv_seti (y := 2) (by decide) ?_
  refine va_sld hx hb hX hbl (Nat.not_le.mpr hbl) B.2.2.2.2.2 (vpc (by decide)) dL_law_448 ?_
  refine lv_seti (y := xs 2) rfl ?_
  refine x_callV (rest := []) (wr := []) (m_word l dC dI k mo V (xs 1) (xs 2) h9) B mV_X12_word mw_2175 hl [0] [] rfl rfl ⟨by decide, by decide⟩ (by decide) (q0 := 0) rfl rfl rfl ⟨Nat.le_of_ble_eq_true rfl, Nat.le_of_ble_eq_true rfl⟩ (Nat.le_of_ble_eq_true rfl) rfl dL_law_449 ⟨Nat.le_of_ble_eq_true rfl, Nat.le_of_ble_eq_true rfl⟩ (fun r w H locs hp B => ?_)
  obtain ⟨V1_1, z_2, rfl, rfl⟩ := hp
  have B := bd_to (ws' := [(mo, .inr (10, fvM V1_1))]) rfl B
  refine lv_istore (lv' := [(6, .int 0), (5, .int 1), (4, .int 0), (3, .ref ou), (2, .ref mo), (1, .ref gx), (0, .ref b)]) hx hb dL_law_452 hl (by decide) rfl (fun ls hl => ?_)
  refine lv_aload_n hx hb dL_law_454 rfl (lv_at hl 4 rfl) ?_
  refine x_callV (rest := []) (wr := []) (m_thrown l dC dI k mo V1_1 1 z_2) B mV_X12_thrown mw_2144 hl [0] [] rfl rfl ⟨by decide, by decide⟩ (by decide) (q0 := 0) rfl rfl rfl ⟨Nat.le_of_ble_eq_true rfl, Nat.le_of_ble_eq_true rfl⟩ (Nat.le_of_ble_eq_true rfl) rfl dL_law_455 ⟨Nat.le_of_ble_eq_true rfl, Nat.le_of_ble_eq_true rfl⟩ (fun r w H locs hp B => ?_)
  obtain ⟨rfl, rfl⟩ := hp
  have B := bd_to (ws' := [(mo, .inr (10, fvM V1_1))]) rfl B
  refine lv_iload hx hb dL_law_458 (lv_at hl 1 rfl) ?_
  refine lv_icmp_eq (tgt := 465) hx hb dL_law_460 (by decide) (fun _ => ?_) (fun c9 => absurd (by decide) c9)
  refine lv_iload hx hb dL_law_465 (lv_at hl 1 rfl) ?_
  refine lv_if_ne (tgt := 482) hx hb dL_law_467 (by decide) (fun _ => ?_) (fun c9 => absurd c9 (by decide))
  refine lv_goto (tgt := 2809) hx hb dL_law_482 (by decide) ?_
  exact law_end hX hbl hr B (lv_sub hl [6, 2] rfl) (Nat.le_of_ble_eq_true rfl) (Nat.le_of_ble_eq_true rfl)

theorem mw_1089 : (Jvm.Cond.methodLink "GalleyforgeLaw" (160 : Nat) ({ cls := "GalleyforgeLaw", name := "reference", desc := "(LGalleyforge;III[J)I" } : Jvm.MethodName)) ∈ gt := gt_at 1224 (by decide +kernel) (by decide +kernel)
theorem mw_1090 : (Jvm.Cond.static ({ cls := "GalleyforgeLaw", name := "reference", desc := "(LGalleyforge;III[J)I" } : Jvm.MethodName)) ∈ gt := gt_at 1225 (by decide +kernel) (by decide +kernel)
theorem mw_1091 : (Jvm.Cond.codeWith ({ cls := "GalleyforgeLaw", name := "reference", desc := "(LGalleyforge;III[J)I" } : Jvm.MethodName) method_7_code (6 : Nat) (Option.some Jvm.ClassFile.FieldType.int) [((0 : Nat), (12 : Nat), (15 : Nat), (13 : Nat)), ((0 : Nat), (12 : Nat), (19 : Nat), (15 : Nat))]) ∈ gt := gt_at 1226 (by decide +kernel) (by decide +kernel)
theorem mw_2199 : (Jvm.Cond.methodLink "GalleyforgeLaw" (163 : Nat) ({ cls := "GalleyforgeModel", name := "reference", desc := "(III)I" } : Jvm.MethodName)) ∈ gt := gt_at 2334 (by decide +kernel) (by decide +kernel)
theorem mw_2200 : (Jvm.Cond.instanceMethod ({ cls := "GalleyforgeModel", name := "reference", desc := "(III)I" } : Jvm.MethodName)) ∈ gt := gt_at 2335 (by decide +kernel) (by decide +kernel)
theorem mw_2201 : (Jvm.Cond.selects "GalleyforgeModel" ({ cls := "GalleyforgeModel", name := "reference", desc := "(III)I" } : Jvm.MethodName) ({ cls := "GalleyforgeModel", name := "reference", desc := "(III)I" } : Jvm.MethodName)) ∈ gt := gt_at 2336 (by decide +kernel) (by decide +kernel)
theorem mw_2202 : (Jvm.Cond.code ({ cls := "GalleyforgeModel", name := "reference", desc := "(III)I" } : Jvm.MethodName) prog_14_method_17_code (6 : Nat) (Option.some Jvm.ClassFile.FieldType.int)) ∈ gt := gt_at 2337 (by decide +kernel) (by decide +kernel)
theorem mV_X12_reference : mV yX12_reference cX12_reference 6 (some .int) 3 := ⟨⟨mw_2202, mw_13, by decide, by decide, by decide +kernel⟩, mw_2200, mw_2201⟩
theorem mW_L_reference : mW yL_reference cL_reference 6 (some .int) [((0 : Nat), (12 : Nat), (15 : Nat), (13 : Nat)), ((0 : Nat), (12 : Nat), (19 : Nat), (15 : Nat))] 5 := ⟨⟨mw_1091, mw_0, by decide, by decide, by decide +kernel⟩, mw_1090⟩
theorem dL_law_485 : decode cL_law 485 = .ok (.aload_n 1, 1) := by decide +kernel
theorem dL_law_486 : decode cL_law 486 = .ok (.aload_n 0, 1) := by decide +kernel
theorem dL_law_487 : decode cL_law 487 = .ok (.iload 4, 2) := by decide +kernel
theorem dL_law_489 : decode cL_law 489 = .ok (.iconst 1, 1) := by decide +kernel
theorem dL_law_490 : decode cL_law 490 = .ok (.iadd, 1) := by decide +kernel
theorem dL_law_491 : decode cL_law 491 = .ok (.iaload, 1) := by decide +kernel
theorem dL_law_492 : decode cL_law 492 = .ok (.aload_n 0, 1) := by decide +kernel
theorem dL_law_493 : decode cL_law 493 = .ok (.iload 4, 2) := by decide +kernel
theorem dL_law_495 : decode cL_law 495 = .ok (.iconst 2, 1) := by decide +kernel
theorem dL_law_496 : decode cL_law 496 = .ok (.iadd, 1) := by decide +kernel
theorem dL_law_497 : decode cL_law 497 = .ok (.iaload, 1) := by decide +kernel
theorem dL_law_498 : decode cL_law 498 = .ok (.aload_n 0, 1) := by decide +kernel
theorem dL_law_499 : decode cL_law 499 = .ok (.iload 4, 2) := by decide +kernel
theorem dL_law_501 : decode cL_law 501 = .ok (.iconst 3, 1) := by decide +kernel
theorem dL_law_502 : decode cL_law 502 = .ok (.iadd, 1) := by decide +kernel
theorem dL_law_503 : decode cL_law 503 = .ok (.iaload, 1) := by decide +kernel
theorem dL_law_504 : decode cL_law 504 = .ok (.aload_n 3, 1) := by decide +kernel
theorem dL_law_505 : decode cL_law 505 = .ok (.invokestatic 160, 3) := by decide +kernel
theorem dL_law_508 : decode cL_law 508 = .ok (.istore 5, 2) := by decide +kernel
theorem dL_law_510 : decode cL_law 510 = .ok (.aload_n 2, 1) := by decide +kernel
theorem dL_law_511 : decode cL_law 511 = .ok (.aload_n 0, 1) := by decide +kernel
theorem dL_law_512 : decode cL_law 512 = .ok (.iload 4, 2) := by decide +kernel
theorem dL_law_514 : decode cL_law 514 = .ok (.iconst 1, 1) := by decide +kernel
theorem dL_law_515 : decode cL_law 515 = .ok (.iadd, 1) := by decide +kernel
theorem dL_law_516 : decode cL_law 516 = .ok (.iaload, 1) := by decide +kernel
theorem dL_law_517 : decode cL_law 517 = .ok (.aload_n 0, 1) := by decide +kernel
theorem dL_law_518 : decode cL_law 518 = .ok (.iload 4, 2) := by decide +kernel
theorem dL_law_520 : decode cL_law 520 = .ok (.iconst 2, 1) := by decide +kernel
theorem dL_law_521 : decode cL_law 521 = .ok (.iadd, 1) := by decide +kernel
theorem dL_law_522 : decode cL_law 522 = .ok (.iaload, 1) := by decide +kernel
theorem dL_law_523 : decode cL_law 523 = .ok (.aload_n 0, 1) := by decide +kernel
theorem dL_law_524 : decode cL_law 524 = .ok (.iload 4, 2) := by decide +kernel
theorem dL_law_526 : decode cL_law 526 = .ok (.iconst 3, 1) := by decide +kernel
theorem dL_law_527 : decode cL_law 527 = .ok (.iadd, 1) := by decide +kernel
theorem dL_law_528 : decode cL_law 528 = .ok (.iaload, 1) := by decide +kernel
theorem dL_law_529 : decode cL_law 529 = .ok (.invokevirtual 163, 3) := by decide +kernel
theorem dL_law_532 : decode cL_law 532 = .ok (.istore 6, 2) := by decide +kernel
theorem dL_law_534 : decode cL_law 534 = .ok (.aload_n 2, 1) := by decide +kernel
theorem dL_law_535 : decode cL_law 535 = .ok (.invokevirtual 142, 3) := by decide +kernel
theorem dL_law_538 : decode cL_law 538 = .ok (.iload 5, 2) := by decide +kernel
theorem dL_law_540 : decode cL_law 540 = .ok (.if_icmp .eq 5, 3) := by decide +kernel
theorem dL_law_545 : decode cL_law 545 = .ok (.iload 5, 2) := by decide +kernel
theorem dL_law_547 : decode cL_law 547 = .ok (.ifCond .ne 15, 3) := by decide +kernel
theorem dL_law_562 : decode cL_law 562 = .ok (.goto 2247, 3) := by decide +kernel
set_option maxHeartbeats 4000000 in
set_option maxRecDepth 100000 in
theorem law_reference (l : Launch) (hl0 : l.stackTraces = false) (dC : Nat → ClassId) (dI : Nat → Nat → Nat) (k : Nat → ClassId) {p : Program} {e : Env} {s : State} {m : MethodId} {below : List Frame} {meth : Method} {c : Code} {b : Nat} {xs : Nat → Int32} (hX : va_X b 7 xs s s.heap) (hbl : b < s.heap.size) (hr : meth.sig.returnType = ret) {H : Heap} {locs : List Loc} {ls : Array Slot} (gx : Nat) (T : Nat) (LA : Nat) (sp : Nat) (dr : Nat) (bl : Nat) (pt : Nat) (fk : Nat) (fh : Nat) (ky : Nat) (ou : Nat) (mo : Nat) (V : Nat → Value) (h9 : V 9 = .int 0) (B : bd p s m #[Value.ref b] meth c cL_law 8 "GalleyforgeLaw" dC dI k (fun q => s.heap.size ≤ q) [(gx, .inr (9, [.ref T, .ref LA, .ref sp, .int 0, .ref dr])), (T, .inr (8, [.ref bl, .ref pt, .ref fk, .ref fh, .int 0, .ref ky, .int 60, .int 12])), (bl, .inr (11, [.int 0, .ref (dI 99 1), .int 0])), (ou, .inl (k 2, 1, .inr (.inl (fun _ => 0)))), (mo, .inr (10, fvM V))] H locs) (hl : lv_has ls 8 [(4, .int 0), (3, .ref ou), (2, .ref mo), (1, .ref gx), (0, .ref b)]) : W p l e room_1 s m #[Value.ref b] below meth c H locs 157 183312 (lw_Z below #[Value.ref b] s) (F0 m 485 ls []) := by
  have hx := B.1.1
  have hb := B.1.2.1
  refine lv_aload_n hx hb dL_law_485 rfl (lv_at hl 3 rfl) ?_
  refine lv_aload_n hx hb dL_law_486 rfl (lv_at hl 4 rfl) ?_
  refine lv_iload hx hb dL_law_487 (lv_at hl 0 rfl) ?_
  refine lv_iconst (v := 1) hx hb dL_law_489 (by decide) ?_
  refine lv_iadd hx hb dL_law_490 ?_
  refine lv_seti (y := 1) (by decide) ?_
  refine va_sld hx hb hX hbl (Nat.not_le.mpr hbl) B.2.2.2.2.2 (vpc (by decide)) dL_law_491 ?_
  refine lv_seti (y := xs 1) rfl ?_
  refine lv_aload_n hx hb dL_law_492 rfl (lv_at hl 4 rfl) ?_
  refine lv_iload hx hb dL_law_493 (lv_at hl 0 rfl) ?_
  refine lv_iconst (v := 2) hx hb dL_law_495 (by decide) ?_
  refine lv_iadd hx hb dL_law_496 ?_
  refine lv_seti (y := 2) (by decide) ?_
  refine va_sld hx hb hX hbl (Nat.not_le.mpr hbl) B.2.2.2.2.2 (vpc (by decide)) dL_law_497 ?_
  refine lv_seti (y := xs 2) rfl ?_
  refine lv_aload_n hx hb dL_law_498 rfl (lv_at hl 4 rfl) ?_
  refine lv_iload hx hb dL_law_499 (lv_at hl 0 rfl) ?_
  refine lv_iconst (v := 3) hx hb dL_law_501 (by decide) ?_
  refine lv_iadd hx hb dL_law_502 ?_
  refine lv_seti (y := 3) (by decide) ?_
  refine va_sld hx hb hX hbl (Nat.not_le.mpr hbl) B.2.2.2.2.2 (vpc (by decide)) dL_law_503 ?_
  refine lv_seti (y := xs 3) rfl ?_
  refine lv_aload_n hx hb dL_law_504 rfl (lv_at hl 1 rfl) ?_
  refine x_callW (rest := []) (wr := [(mo, .inr (10, fvM V))]) (w_reference l dC dI k hl0 gx T LA sp dr bl pt fk fh ky (xs 1) (xs 2) (xs 3) ou) B mW_L_reference mw_1089 hl [0, 1, 2, 3] [4] rfl rfl ⟨by decide, by decide⟩ (by decide) ⟨Nat.le_of_ble_eq_true rfl, Nat.le_of_ble_eq_true rfl⟩ (Nat.le_of_ble_eq_true rfl) rfl dL_law_505 ⟨Nat.le_of_ble_eq_true rfl, Nat.le_of_ble_eq_true rfl⟩ (fun r w H locs hp B => ?_)
  obtain ⟨rfl, rfl⟩ := hp
  have B := bd_to (ws' := [(mo, .inr (10, fvM V))]) rfl B
  refine lv_istore (lv' := [(5, .int 1), (4, .int 0), (3, .ref ou), (2, .ref mo), (1, .ref gx), (0, .ref b)]) hx hb dL_law_508 hl (by decide) rfl (fun ls hl => ?_)
  refine lv_aload_n hx hb dL_law_510 rfl (lv_at hl 3 rfl) ?_
  refine lv_aload_n hx hb dL_law_511 rfl (lv_at hl 5 rfl) ?_
  refine lv_iload hx hb dL_law_512 (lv_at hl 1 rfl) ?_
  refine lv_iconst (v := 1) hx hb dL_law_514 (by decide) ?_
  refine lv_iadd hx hb dL_law_515 ?_
  refine lv_seti (y := 1) (by decide) ?_
  refine va_sld hx hb hX hbl (Nat.not_le.mpr hbl) B.2.2.2.2.2 (vpc (by decide)) dL_law_516 ?_
  refine lv_seti (y := xs 1) rfl ?_
  refine lv_aload_n hx hb dL_law_517 rfl (lv_at hl 5 rfl) ?_
  refine lv_iload hx hb dL_law_518 (lv_at hl 1 rfl) ?_
  refine lv_iconst (v := 2) hx hb dL_law_520 (by decide) ?_
  refine lv_iadd hx hb dL_law_521 ?_
  refine lv_seti (y := 2) (by decide) ?_
  refine va_sld hx hb hX hbl (Nat.not_le.mpr hbl) B.2.2.2.2.2 (vpc (by decide)) dL_law_522 ?_
  refine lv_seti (y := xs 2) rfl ?_
  refine lv_aload_n hx hb dL_law_523 rfl (lv_at hl 5 rfl) ?_
  refine lv_iload hx hb dL_law_524 (lv_at hl 1 rfl) ?_
  refine lv_iconst (v := 3) hx hb dL_law_526 (by decide) ?_
  refine lv_iadd hx hb dL_law_527 ?_
  refine lv_seti (y := 3) (by decide) ?_
  refine va_sld hx hb hX hbl (Nat.not_le.mpr hbl) B.2.2.2.2.2 (vpc (by decide)) dL_law_528 ?_
  refine lv_seti (y := xs 3) rfl ?_
  refine x_callV (rest := []) (wr := []) (m_reference l dC dI k mo V (xs 1) (xs 2) (xs 3) h9) B mV_X12_reference mw_2199 hl [0] [] rfl rfl ⟨by decide, by decide⟩ (by decide) (q0 := 0) rfl rfl rfl ⟨Nat.le_of_ble_eq_true rfl, Nat.le_of_ble_eq_true rfl⟩ (Nat.le_of_ble_eq_true rfl) rfl dL_law_529 ⟨Nat.le_of_ble_eq_true rfl, Nat.le_of_ble_eq_true rfl⟩ (fun r w H locs hp B => ?_)
  obtain ⟨V1_1, z_2, rfl, rfl⟩ := hp
  have B := bd_to (ws' := [(mo, .inr (10, fvM V1_1))]) rfl B
  refine lv_istore (lv' := [(6, .int 0), (5, .int 1), (4, .int 0), (3, .ref ou), (2, .ref mo), (1, .ref gx), (0, .ref b)]) hx hb dL_law_532 hl (by decide) rfl (fun ls hl => ?_)
  refine lv_aload_n hx hb dL_law_534 rfl (lv_at hl 4 rfl) ?_
  refine x_callV (rest := []) (wr := []) (m_thrown l dC dI k mo V1_1 1 z_2) B mV_X12_thrown mw_2144 hl [0] [] rfl rfl ⟨by decide, by decide⟩ (by decide) (q0 := 0) rfl rfl rfl ⟨Nat.le_of_ble_eq_true rfl, Nat.le_of_ble_eq_true rfl⟩ (Nat.le_of_ble_eq_true rfl) rfl dL_law_535 ⟨Nat.le_of_ble_eq_true rfl, Nat.le_of_ble_eq_true rfl⟩ (fun r w H locs hp B => ?_)
  obtain ⟨rfl, rfl⟩ := hp
  have B := bd_to (ws' := [(mo, .inr (10, fvM V1_1))]) rfl B
  refine lv_iload hx hb dL_law_538 (lv_at hl 1 rfl) ?_
  refine lv_icmp_eq (tgt := 545) hx hb dL_law_540 (by decide) (fun _ => ?_) (fun c9 => absurd (by decide) c9)
  refine lv_iload hx hb dL_law_545 (lv_at hl 1 rfl) ?_
  refine lv_if_ne (tgt := 562) hx hb dL_law_547 (by decide) (fun _ => ?_) (fun c9 => absurd c9 (by decide))
  refine lv_goto (tgt := 2809) hx hb dL_law_562 (by decide) ?_
  exact law_end hX hbl hr B (lv_sub hl [6, 2] rfl) (Nat.le_of_ble_eq_true rfl) (Nat.le_of_ble_eq_true rfl)

theorem mw_1100 : (Jvm.Cond.methodLink "GalleyforgeLaw" (164 : Nat) ({ cls := "GalleyforgeLaw", name := "take", desc := "(LGalleyforge;II[J)I" } : Jvm.MethodName)) ∈ gt := gt_at 1235 (by decide +kernel) (by decide +kernel)
theorem mw_1101 : (Jvm.Cond.static ({ cls := "GalleyforgeLaw", name := "take", desc := "(LGalleyforge;II[J)I" } : Jvm.MethodName)) ∈ gt := gt_at 1236 (by decide +kernel) (by decide +kernel)
theorem mw_1102 : (Jvm.Cond.codeWith ({ cls := "GalleyforgeLaw", name := "take", desc := "(LGalleyforge;II[J)I" } : Jvm.MethodName) method_8_code (5 : Nat) (Option.some Jvm.ClassFile.FieldType.int) [((0 : Nat), (10 : Nat), (13 : Nat), (13 : Nat))]) ∈ gt := gt_at 1237 (by decide +kernel) (by decide +kernel)
theorem mw_2203 : (Jvm.Cond.methodLink "GalleyforgeLaw" (166 : Nat) ({ cls := "GalleyforgeModel", name := "take", desc := "(II)I" } : Jvm.MethodName)) ∈ gt := gt_at 2338 (by decide +kernel) (by decide +kernel)
theorem mw_2204 : (Jvm.Cond.instanceMethod ({ cls := "GalleyforgeModel", name := "take", desc := "(II)I" } : Jvm.MethodName)) ∈ gt := gt_at 2339 (by decide +kernel) (by decide +kernel)
theorem mw_2205 : (Jvm.Cond.selects "GalleyforgeModel" ({ cls := "GalleyforgeModel", name := "take", desc := "(II)I" } : Jvm.MethodName) ({ cls := "GalleyforgeModel", name := "take", desc := "(II)I" } : Jvm.MethodName)) ∈ gt := gt_at 2340 (by decide +kernel) (by decide +kernel)
theorem mw_2206 : (Jvm.Cond.code ({ cls := "GalleyforgeModel", name := "take", desc := "(II)I" } : Jvm.MethodName) prog_14_method_18_code (5 : Nat) (Option.some Jvm.ClassFile.FieldType.int)) ∈ gt := gt_at 2341 (by decide +kernel) (by decide +kernel)
theorem mV_X12_take : mV yX12_take cX12_take 5 (some .int) 2 := ⟨⟨mw_2206, mw_13, by decide, by decide, by decide +kernel⟩, mw_2204, mw_2205⟩
theorem mW_L_take : mW yL_take cL_take 5 (some .int) [((0 : Nat), (10 : Nat), (13 : Nat), (13 : Nat))] 4 := ⟨⟨mw_1102, mw_0, by decide, by decide, by decide +kernel⟩, mw_1101⟩
theorem dL_law_565 : decode cL_law 565 = .ok (.aload_n 1, 1) := by decide +kernel
theorem dL_law_566 : decode cL_law 566 = .ok (.aload_n 0, 1) := by decide +kernel
theorem dL_law_567 : decode cL_law 567 = .ok (.iload 4, 2) := by decide +kernel
theorem dL_law_569 : decode cL_law 569 = .ok (.iconst 1, 1) := by decide +kernel
theorem dL_law_570 : decode cL_law 570 = .ok (.iadd, 1) := by decide +kernel
theorem dL_law_571 : decode cL_law 571 = .ok (.iaload, 1) := by decide +kernel
theorem dL_law_572 : decode cL_law 572 = .ok (.aload_n 0, 1) := by decide +kernel
theorem dL_law_573 : decode cL_law 573 = .ok (.iload 4, 2) := by decide +kernel
theorem dL_law_575 : decode cL_law 575 = .ok (.iconst 2, 1) := by decide +kernel
theorem dL_law_576 : decode cL_law 576 = .ok (.iadd, 1) := by decide +kernel
theorem dL_law_577 : decode cL_law 577 = .ok (.iaload, 1) := by decide +kernel
theorem dL_law_578 : decode cL_law 578 = .ok (.aload_n 3, 1) := by decide +kernel
theorem dL_law_579 : decode cL_law 579 = .ok (.invokestatic 164, 3) := by decide +kernel
theorem dL_law_582 : decode cL_law 582 = .ok (.istore 5, 2) := by decide +kernel
theorem dL_law_584 : decode cL_law 584 = .ok (.aload_n 2, 1) := by decide +kernel
theorem dL_law_585 : decode cL_law 585 = .ok (.aload_n 0, 1) := by decide +kernel
theorem dL_law_586 : decode cL_law 586 = .ok (.iload 4, 2) := by decide +kernel
theorem dL_law_588 : decode cL_law 588 = .ok (.iconst 1, 1) := by decide +kernel
theorem dL_law_589 : decode cL_law 589 = .ok (.iadd, 1) := by decide +kernel
theorem dL_law_590 : decode cL_law 590 = .ok (.iaload, 1) := by decide +kernel
theorem dL_law_591 : decode cL_law 591 = .ok (.aload_n 0, 1) := by decide +kernel
theorem dL_law_592 : decode cL_law 592 = .ok (.iload 4, 2) := by decide +kernel
theorem dL_law_594 : decode cL_law 594 = .ok (.iconst 2, 1) := by decide +kernel
theorem dL_law_595 : decode cL_law 595 = .ok (.iadd, 1) := by decide +kernel
theorem dL_law_596 : decode cL_law 596 = .ok (.iaload, 1) := by decide +kernel
theorem dL_law_597 : decode cL_law 597 = .ok (.invokevirtual 166, 3) := by decide +kernel
theorem dL_law_600 : decode cL_law 600 = .ok (.istore 6, 2) := by decide +kernel
theorem dL_law_602 : decode cL_law 602 = .ok (.aload_n 2, 1) := by decide +kernel
theorem dL_law_603 : decode cL_law 603 = .ok (.invokevirtual 142, 3) := by decide +kernel
theorem dL_law_606 : decode cL_law 606 = .ok (.iload 5, 2) := by decide +kernel
theorem dL_law_608 : decode cL_law 608 = .ok (.if_icmp .eq 5, 3) := by decide +kernel
theorem dL_law_613 : decode cL_law 613 = .ok (.iload 5, 2) := by decide +kernel
theorem dL_law_615 : decode cL_law 615 = .ok (.ifCond .ne 15, 3) := by decide +kernel
theorem dL_law_630 : decode cL_law 630 = .ok (.goto 2179, 3) := by decide +kernel
set_option maxHeartbeats 4000000 in
set_option maxRecDepth 100000 in
theorem law_take (l : Launch) (hl0 : l.stackTraces = false) (dC : Nat → ClassId) (dI : Nat → Nat → Nat) (k : Nat → ClassId) {p : Program} {e : Env} {s : State} {m : MethodId} {below : List Frame} {meth : Method} {c : Code} {b : Nat} {xs : Nat → Int32} (hX : va_X b 7 xs s s.heap) (hbl : b < s.heap.size) (hr : meth.sig.returnType = ret) {H : Heap} {locs : List Loc} {ls : Array Slot} (gx : Nat) (T : Nat) (LA : Nat) (sp : Nat) (dr : Nat) (bl : Nat) (pt : Nat) (fk : Nat) (fh : Nat) (ky : Nat) (ou : Nat) (mo : Nat) (V : Nat → Value) (h9 : V 9 = .int 0) (B : bd p s m #[Value.ref b] meth c cL_law 8 "GalleyforgeLaw" dC dI k (fun q => s.heap.size ≤ q) [(gx, .inr (9, [.ref T, .ref LA, .ref sp, .int 0, .ref dr])), (T, .inr (8, [.ref bl, .ref pt, .ref fk, .ref fh, .int 0, .ref ky, .int 60, .int 12])), (bl, .inr (11, [.int 0, .ref (dI 99 1), .int 0])), (ou, .inl (k 2, 1, .inr (.inl (fun _ => 0)))), (mo, .inr (10, fvM V))] H locs) (hl : lv_has ls 8 [(4, .int 0), (3, .ref ou), (2, .ref mo), (1, .ref gx), (0, .ref b)]) : W p l e room_1 s m #[Value.ref b] below meth c H locs 157 183312 (lw_Z below #[Value.ref b] s) (F0 m 565 ls []) := by
  have hx := B.1.1
  have hb := B.1.2.1
  refine lv_aload_n hx hb dL_law_565 rfl (lv_at hl 3 rfl) ?_
  refine lv_aload_n hx hb dL_law_566 rfl (lv_at hl 4 rfl) ?_
  refine lv_iload hx hb dL_law_567 (lv_at hl 0 rfl) ?_
  refine lv_iconst (v := 1) hx hb dL_law_569 (by decide) ?_
  refine lv_iadd hx hb dL_law_570 ?_
  refine lv_seti (y := 1) (by decide) ?_
  refine va_sld hx hb hX hbl (Nat.not_le.mpr hbl) B.2.2.2.2.2 (vpc (by decide)) dL_law_571 ?_
  refine lv_seti (y := xs 1) rfl ?_
  refine lv_aload_n hx hb dL_law_572 rfl (lv_at hl 4 rfl) ?_
  refine lv_iload hx hb dL_law_573 (lv_at hl 0 rfl) ?_
  refine lv_iconst (v := 2) hx hb dL_law_575 (by decide) ?_
  refine lv_iadd hx hb dL_law_576 ?_
  refine lv_seti (y := 2) (by decide) ?_
  refine va_sld hx hb hX hbl (Nat.not_le.mpr hbl) B.2.2.2.2.2 (vpc (by decide)) dL_law_577 ?_
  refine lv_seti (y := xs 2) rfl ?_
  refine lv_aload_n hx hb dL_law_578 rfl (lv_at hl 1 rfl) ?_
  refine x_callW (rest := []) (wr := [(mo, .inr (10, fvM V))]) (w_take l dC dI k hl0 gx T LA sp dr bl pt fk fh ky (xs 1) (xs 2) ou) B mW_L_take mw_1100 hl [0, 1, 2, 3] [4] rfl rfl ⟨by decide, by decide⟩ (by decide) ⟨Nat.le_of_ble_eq_true rfl, Nat.le_of_ble_eq_true rfl⟩ (Nat.le_of_ble_eq_true rfl) rfl dL_law_579 ⟨Nat.le_of_ble_eq_true rfl, Nat.le_of_ble_eq_true rfl⟩ (fun r w H locs hp B => ?_)
  obtain ⟨rfl, rfl⟩ := hp
  have B := bd_to (ws' := [(mo, .inr (10, fvM V))]) rfl B
  refine lv_istore (lv' := [(5, .int 1), (4, .int 0), (3, .ref ou), (2, .ref mo), (1, .ref gx), (0, .ref b)]) hx hb dL_law_582 hl (by decide) rfl (fun ls hl => ?_)
  refine lv_aload_n hx hb dL_law_584 rfl (lv_at hl 3 rfl) ?_
  refine lv_aload_n hx hb dL_law_585 rfl (lv_at hl 5 rfl) ?_
  refine lv_iload hx hb dL_law_586 (lv_at hl 1 rfl) ?_
  refine lv_iconst (v := 1) hx hb dL_law_588 (by decide) ?_
  refine lv_iadd hx hb dL_law_589 ?_
  refine lv_seti (y := 1) (by decide) ?_
  refine va_sld hx hb hX hbl (Nat.not_le.mpr hbl) B.2.2.2.2.2 (vpc (by decide)) dL_law_590 ?_
  refine lv_seti (y := xs 1) rfl ?_
  refine lv_aload_n hx hb dL_law_591 rfl (lv_at hl 5 rfl) ?_
  refine lv_iload hx hb dL_law_592 (lv_at hl 1 rfl) ?_
  refine lv_iconst (v := 2) hx hb dL_law_594 (by decide) ?_
  refine lv_iadd hx hb dL_law_595 ?_
  refine lv_seti (y := 2) (by decide) ?_
  refine va_sld hx hb hX hbl (Nat.not_le.mpr hbl) B.2.2.2.2.2 (vpc (by decide)) dL_law_596 ?_
  refine lv_seti (y := xs 2) rfl ?_
  refine x_callV (rest := []) (wr := []) (m_take l dC dI k mo V (xs 1) (xs 2) h9) B mV_X12_take mw_2203 hl [0] [] rfl rfl ⟨by decide, by decide⟩ (by decide) (q0 := 0) rfl rfl rfl ⟨Nat.le_of_ble_eq_true rfl, Nat.le_of_ble_eq_true rfl⟩ (Nat.le_of_ble_eq_true rfl) rfl dL_law_597 ⟨Nat.le_of_ble_eq_true rfl, Nat.le_of_ble_eq_true rfl⟩ (fun r w H locs hp B => ?_)
  obtain ⟨V1_1, z_2, rfl, rfl⟩ := hp
  have B := bd_to (ws' := [(mo, .inr (10, fvM V1_1))]) rfl B
  refine lv_istore (lv' := [(6, .int 0), (5, .int 1), (4, .int 0), (3, .ref ou), (2, .ref mo), (1, .ref gx), (0, .ref b)]) hx hb dL_law_600 hl (by decide) rfl (fun ls hl => ?_)
  refine lv_aload_n hx hb dL_law_602 rfl (lv_at hl 4 rfl) ?_
  refine x_callV (rest := []) (wr := []) (m_thrown l dC dI k mo V1_1 1 z_2) B mV_X12_thrown mw_2144 hl [0] [] rfl rfl ⟨by decide, by decide⟩ (by decide) (q0 := 0) rfl rfl rfl ⟨Nat.le_of_ble_eq_true rfl, Nat.le_of_ble_eq_true rfl⟩ (Nat.le_of_ble_eq_true rfl) rfl dL_law_603 ⟨Nat.le_of_ble_eq_true rfl, Nat.le_of_ble_eq_true rfl⟩ (fun r w H locs hp B => ?_)
  obtain ⟨rfl, rfl⟩ := hp
  have B := bd_to (ws' := [(mo, .inr (10, fvM V1_1))]) rfl B
  refine lv_iload hx hb dL_law_606 (lv_at hl 1 rfl) ?_
  refine lv_icmp_eq (tgt := 613) hx hb dL_law_608 (by decide) (fun _ => ?_) (fun c9 => absurd (by decide) c9)
  refine lv_iload hx hb dL_law_613 (lv_at hl 1 rfl) ?_
  refine lv_if_ne (tgt := 630) hx hb dL_law_615 (by decide) (fun _ => ?_) (fun c9 => absurd c9 (by decide))
  refine lv_goto (tgt := 2809) hx hb dL_law_630 (by decide) ?_
  exact law_end hX hbl hr B (lv_sub hl [6, 2] rfl) (Nat.le_of_ble_eq_true rfl) (Nat.le_of_ble_eq_true rfl)

theorem mw_1119 : (Jvm.Cond.methodLink "GalleyforgeLaw" (167 : Nat) ({ cls := "GalleyforgeLaw", name := "block", desc := "(LGalleyforge;II[J)I" } : Jvm.MethodName)) ∈ gt := gt_at 1254 (by decide +kernel) (by decide +kernel)
theorem mw_1120 : (Jvm.Cond.static ({ cls := "GalleyforgeLaw", name := "block", desc := "(LGalleyforge;II[J)I" } : Jvm.MethodName)) ∈ gt := gt_at 1255 (by decide +kernel) (by decide +kernel)
theorem mw_1121 : (Jvm.Cond.codeWith ({ cls := "GalleyforgeLaw", name := "block", desc := "(LGalleyforge;II[J)I" } : Jvm.MethodName) method_9_code (5 : Nat) (Option.some Jvm.ClassFile.FieldType.int) [((0 : Nat), (10 : Nat), (13 : Nat), (13 : Nat)), ((0 : Nat), (10 : Nat), (17 : Nat), (21 : Nat)), ((0 : Nat), (10 : Nat), (21 : Nat), (15 : Nat))]) ∈ gt := gt_at 1256 (by decide +kernel) (by decide +kernel)
theorem mw_2211 : (Jvm.Cond.methodLink "GalleyforgeLaw" (169 : Nat) ({ cls := "GalleyforgeModel", name := "block", desc := "(II)I" } : Jvm.MethodName)) ∈ gt := gt_at 2346 (by decide +kernel) (by decide +kernel)
theorem mw_2212 : (Jvm.Cond.instanceMethod ({ cls := "GalleyforgeModel", name := "block", desc := "(II)I" } : Jvm.MethodName)) ∈ gt := gt_at 2347 (by decide +kernel) (by decide +kernel)
theorem mw_2213 : (Jvm.Cond.selects "GalleyforgeModel" ({ cls := "GalleyforgeModel", name := "block", desc := "(II)I" } : Jvm.MethodName) ({ cls := "GalleyforgeModel", name := "block", desc := "(II)I" } : Jvm.MethodName)) ∈ gt := gt_at 2348 (by decide +kernel) (by decide +kernel)
theorem mw_2214 : (Jvm.Cond.code ({ cls := "GalleyforgeModel", name := "block", desc := "(II)I" } : Jvm.MethodName) prog_14_method_19_code (5 : Nat) (Option.some Jvm.ClassFile.FieldType.int)) ∈ gt := gt_at 2349 (by decide +kernel) (by decide +kernel)
theorem mV_X12_block : mV yX12_block cX12_block 5 (some .int) 2 := ⟨⟨mw_2214, mw_13, by decide, by decide, by decide +kernel⟩, mw_2212, mw_2213⟩
theorem mW_L_block : mW yL_block cL_block 5 (some .int) [((0 : Nat), (10 : Nat), (13 : Nat), (13 : Nat)), ((0 : Nat), (10 : Nat), (17 : Nat), (21 : Nat)), ((0 : Nat), (10 : Nat), (21 : Nat), (15 : Nat))] 4 := ⟨⟨mw_1121, mw_0, by decide, by decide, by decide +kernel⟩, mw_1120⟩
theorem dL_law_633 : decode cL_law 633 = .ok (.aload_n 1, 1) := by decide +kernel
theorem dL_law_634 : decode cL_law 634 = .ok (.aload_n 0, 1) := by decide +kernel
theorem dL_law_635 : decode cL_law 635 = .ok (.iload 4, 2) := by decide +kernel
theorem dL_law_637 : decode cL_law 637 = .ok (.iconst 1, 1) := by decide +kernel
theorem dL_law_638 : decode cL_law 638 = .ok (.iadd, 1) := by decide +kernel
theorem dL_law_639 : decode cL_law 639 = .ok (.iaload, 1) := by decide +kernel
theorem dL_law_640 : decode cL_law 640 = .ok (.aload_n 0, 1) := by decide +kernel
theorem dL_law_641 : decode cL_law 641 = .ok (.iload 4, 2) := by decide +kernel
theorem dL_law_643 : decode cL_law 643 = .ok (.iconst 2, 1) := by decide +kernel
theorem dL_law_644 : decode cL_law 644 = .ok (.iadd, 1) := by decide +kernel
theorem dL_law_645 : decode cL_law 645 = .ok (.iaload, 1) := by decide +kernel
theorem dL_law_646 : decode cL_law 646 = .ok (.aload_n 3, 1) := by decide +kernel
theorem dL_law_647 : decode cL_law 647 = .ok (.invokestatic 167, 3) := by decide +kernel
theorem dL_law_650 : decode cL_law 650 = .ok (.istore 5, 2) := by decide +kernel
theorem dL_law_652 : decode cL_law 652 = .ok (.aload_n 2, 1) := by decide +kernel
theorem dL_law_653 : decode cL_law 653 = .ok (.aload_n 0, 1) := by decide +kernel
theorem dL_law_654 : decode cL_law 654 = .ok (.iload 4, 2) := by decide +kernel
theorem dL_law_656 : decode cL_law 656 = .ok (.iconst 1, 1) := by decide +kernel
theorem dL_law_657 : decode cL_law 657 = .ok (.iadd, 1) := by decide +kernel
theorem dL_law_658 : decode cL_law 658 = .ok (.iaload, 1) := by decide +kernel
theorem dL_law_659 : decode cL_law 659 = .ok (.aload_n 0, 1) := by decide +kernel
theorem dL_law_660 : decode cL_law 660 = .ok (.iload 4, 2) := by decide +kernel
theorem dL_law_662 : decode cL_law 662 = .ok (.iconst 2, 1) := by decide +kernel
theorem dL_law_663 : decode cL_law 663 = .ok (.iadd, 1) := by decide +kernel
theorem dL_law_664 : decode cL_law 664 = .ok (.iaload, 1) := by decide +kernel
theorem dL_law_665 : decode cL_law 665 = .ok (.invokevirtual 169, 3) := by decide +kernel
theorem dL_law_668 : decode cL_law 668 = .ok (.istore 6, 2) := by decide +kernel
theorem dL_law_670 : decode cL_law 670 = .ok (.aload_n 2, 1) := by decide +kernel
theorem dL_law_671 : decode cL_law 671 = .ok (.invokevirtual 142, 3) := by decide +kernel
theorem dL_law_674 : decode cL_law 674 = .ok (.iload 5, 2) := by decide +kernel
theorem dL_law_676 : decode cL_law 676 = .ok (.if_icmp .eq 5, 3) := by decide +kernel
theorem dL_law_679 : decode cL_law 679 = .ok (.iconst 0, 1) := by decide +kernel
theorem dL_law_681 : decode cL_law 681 = .ok (.iload 5, 2) := by decide +kernel
theorem dL_law_683 : decode cL_law 683 = .ok (.ifCond .ne 15, 3) := by decide +kernel
theorem dL_law_686 : decode cL_law 686 = .ok (.aload_n 3, 1) := by decide +kernel
theorem dL_law_687 : decode cL_law 687 = .ok (.iconst 0, 1) := by decide +kernel
theorem dL_law_688 : decode cL_law 688 = .ok (.laload, 1) := by decide +kernel
theorem dL_law_689 : decode cL_law 689 = .ok (.iload 6, 2) := by decide +kernel
theorem dL_law_691 : decode cL_law 691 = .ok (.i2l, 1) := by decide +kernel
theorem dL_law_692 : decode cL_law 692 = .ok (.lcmp, 1) := by decide +kernel
theorem dL_law_693 : decode cL_law 693 = .ok (.ifCond .eq 5, 3) := by decide +kernel
theorem dL_law_698 : decode cL_law 698 = .ok (.goto 2111, 3) := by decide +kernel
set_option maxHeartbeats 4000000 in
set_option maxRecDepth 100000 in
theorem law_block (l : Launch) (hl0 : l.stackTraces = false) (dC : Nat → ClassId) (dI : Nat → Nat → Nat) (k : Nat → ClassId) {p : Program} {e : Env} {s : State} {m : MethodId} {below : List Frame} {meth : Method} {c : Code} {b : Nat} {xs : Nat → Int32} (hX : va_X b 7 xs s s.heap) (hbl : b < s.heap.size) (hr : meth.sig.returnType = ret) {H : Heap} {locs : List Loc} {ls : Array Slot} (gx : Nat) (T : Nat) (LA : Nat) (sp : Nat) (dr : Nat) (bl : Nat) (pt : Nat) (fk : Nat) (fh : Nat) (ky : Nat) (L0 : Nat) (L1 : Nat) (LN : Nat) (lc0 : Nat) (le0 : Nat) (ll0 : Nat) (ld0 : Nat) (wl0 : Nat) (op0 : Nat) (dg0 : Nat) (lc1 : Nat) (le1 : Nat) (ll1 : Nat) (ld1 : Nat) (wl1 : Nat) (op1 : Nat) (dg1 : Nat) (R0 : Nat) (P0 : Nat) (R1 : Nat) (P1 : Nat) (ou : Nat) (mo : Nat) (V : Nat → Value) (aSt : Nat) (aKi : Nat) (aSy : Nat) (aWc : Nat) (aSn : Nat) (gs : Nat → Int32) (h9 : V 9 = .int 0) (h10 : V 10 = .ref aSt) (h11 : V 11 = .ref aKi) (h12 : V 12 = .ref aSy) (h13 : V 13 = .ref aWc) (h18 : V 18 = .ref aSn) (hgs : gs 0 = 0) (B : bd p s m #[Value.ref b] meth c cL_law 8 "GalleyforgeLaw" dC dI k (fun q => s.heap.size ≤ q) [(gx, .inr (9, [.ref T, .ref LA, .ref sp, .int 0, .ref dr])), (T, .inr (8, [.ref bl, .ref pt, .ref fk, .ref fh, .int 0, .ref ky, .int 60, .int 12])), (bl, .inr (11, [.int 0, .ref (dI 99 1), .int 0])), (LA, .inl (k 3, 2, .inr (.inr (.inr (.inr (va_up (va_up (fun _ => none) 0 (some L0)) 1 (some L1))))))), (L0, .inr (1, [.ref T, .int 0, .ref LN, .ref R0, .ref P0, .int 1, .int 0, .ref lc0, .ref le0, .ref ll0, .ref ld0, .ref wl0, .ref op0, .int 0, .int 0, .int 1365, .ref dg0])), (L1, .inr (1, [.ref T, .int 1, .ref LN, .ref R1, .ref P1, .int 1, .int 0, .ref lc1, .ref le1, .ref ll1, .ref ld1, .ref wl1, .ref op1, .int 0, .int 0, .int 1365, .ref dg1])), (ou, .inl (k 2, 1, .inr (.inl (fun _ => 0)))), (mo, .inr (10, fvM V)), (aSt, .inl (k 0, 16, .inl gs)), (aKi, .inl (k 0, 16, .inl (fun _ => 0))), (aSy, .inl (k 0, 112, .inl (fun _ => 0))), (aWc, .inl (k 0, 16, .inl (fun _ => 0))), (aSn, .inl (k 0, 192, .inl (fun _ => 0)))] H locs) (hl : lv_has ls 8 [(4, .int 0), (3, .ref ou), (2, .ref mo), (1, .ref gx), (0, .ref b)]) : W p l e room_1 s m #[Value.ref b] below meth c H locs 157 183312 (lw_Z below #[Value.ref b] s) (F0 m 633 ls []) := by
  have hx := B.1.1
  have hb := B.1.2.1
  refine lv_aload_n hx hb dL_law_633 rfl (lv_at hl 3 rfl) ?_
  refine lv_aload_n hx hb dL_law_634 rfl (lv_at hl 4 rfl) ?_
  refine lv_iload hx hb dL_law_635 (lv_at hl 0 rfl) ?_
  refine lv_iconst (v := 1) hx hb dL_law_637 (by decide) ?_
  refine lv_iadd hx hb dL_law_638 ?_
  refine lv_seti (y := 1) (by decide) ?_
  refine va_sld hx hb hX hbl (Nat.not_le.mpr hbl) B.2.2.2.2.2 (vpc (by decide)) dL_law_639 ?_
  refine lv_seti (y := xs 1) rfl ?_
  refine lv_aload_n hx hb dL_law_640 rfl (lv_at hl 4 rfl) ?_
  refine lv_iload hx hb dL_law_641 (lv_at hl 0 rfl) ?_
  refine lv_iconst (v := 2) hx hb dL_law_643 (by decide) ?_
  refine lv_iadd hx hb dL_law_644 ?_
  refine lv_seti (y := 2) (by decide) ?_
  refine va_sld hx hb hX hbl (Nat.not_le.mpr hbl) B.2.2.2.2.2 (vpc (by decide)) dL_law_645 ?_
  refine lv_seti (y := xs 2) rfl ?_
  refine lv_aload_n hx hb dL_law_646 rfl (lv_at hl 1 rfl) ?_
  refine x_callW (rest := []) (wr := [(mo, .inr (10, fvM V)), (aSt, .inl (k 0, 16, .inl gs)), (aKi, .inl (k 0, 16, .inl (fun _ => 0))), (aSy, .inl (k 0, 112, .inl (fun _ => 0))), (aWc, .inl (k 0, 16, .inl (fun _ => 0))), (aSn, .inl (k 0, 192, .inl (fun _ => 0)))]) (w_block l dC dI k hl0 gx T LA sp dr bl pt fk fh ky L0 L1 LN lc0 le0 ll0 ld0 wl0 op0 dg0 lc1 le1 ll1 ld1 wl1 op1 dg1 R0 P0 R1 P1 (xs 1) (xs 2) ou) B mW_L_block mw_1119 hl [0, 1, 2, 3, 4, 5, 6] [7, 8, 9, 10, 11, 12] rfl rfl ⟨by decide, by decide⟩ (by decide) ⟨Nat.le_of_ble_eq_true rfl, Nat.le_of_ble_eq_true rfl⟩ (Nat.le_of_ble_eq_true rfl) rfl dL_law_647 ⟨Nat.le_of_ble_eq_true rfl, Nat.le_of_ble_eq_true rfl⟩ (fun r w H locs hp B => ?_)
  rcases hp with ⟨z_1, z_2, rfl, rfl⟩ | ⟨z_3, rfl, rfl⟩ | ⟨z_4, z_5, rfl, rfl⟩
  · skip
    have B := bd_to (ws' := [(mo, .inr (10, fvM V)), (aSt, .inl (k 0, 16, .inl gs)), (aKi, .inl (k 0, 16, .inl (fun _ => 0))), (aSy, .inl (k 0, 112, .inl (fun _ => 0))), (aWc, .inl (k 0, 16, .inl (fun _ => 0))), (aSn, .inl (k 0, 192, .inl (fun _ => 0))), (ou, .inl (k 2, 1, .inr (.inl (vp_updL (fun _ => 0) 0 1))))]) rfl B
    refine lv_istore (lv' := [(5, .int 0), (4, .int 0), (3, .ref ou), (2, .ref mo), (1, .ref gx), (0, .ref b)]) hx hb dL_law_650 hl (by decide) rfl (fun ls hl => ?_)
    refine lv_aload_n hx hb dL_law_652 rfl (lv_at hl 3 rfl) ?_
    refine lv_aload_n hx hb dL_law_653 rfl (lv_at hl 5 rfl) ?_
    refine lv_iload hx hb dL_law_654 (lv_at hl 1 rfl) ?_
    refine lv_iconst (v := 1) hx hb dL_law_656 (by decide) ?_
    refine lv_iadd hx hb dL_law_657 ?_
    refine lv_seti (y := 1) (by decide) ?_
    refine va_sld hx hb hX hbl (Nat.not_le.mpr hbl) B.2.2.2.2.2 (vpc (by decide)) dL_law_658 ?_
    refine lv_seti (y := xs 1) rfl ?_
    refine lv_aload_n hx hb dL_law_659 rfl (lv_at hl 5 rfl) ?_
    refine lv_iload hx hb dL_law_660 (lv_at hl 1 rfl) ?_
    refine lv_iconst (v := 2) hx hb dL_law_662 (by decide) ?_
    refine lv_iadd hx hb dL_law_663 ?_
    refine lv_seti (y := 2) (by decide) ?_
    refine va_sld hx hb hX hbl (Nat.not_le.mpr hbl) B.2.2.2.2.2 (vpc (by decide)) dL_law_664 ?_
    refine lv_seti (y := xs 2) rfl ?_
    refine x_callV (rest := []) (wr := [(ou, .inl (k 2, 1, .inr (.inl (vp_updL (fun _ => 0) 0 1))))]) (m_block l dC dI k mo V aSt aKi aSy aWc aSn (xs 1) (xs 2) gs h9 h10 h11 h12 h13 h18 hgs) B mV_X12_block mw_2211 hl [0, 1, 2, 3, 4, 5] [6] rfl rfl ⟨by decide, by decide⟩ (by decide) (q0 := 0) rfl rfl rfl ⟨Nat.le_of_ble_eq_true rfl, Nat.le_of_ble_eq_true rfl⟩ (Nat.le_of_ble_eq_true rfl) rfl dL_law_665 ⟨Nat.le_of_ble_eq_true rfl, Nat.le_of_ble_eq_true rfl⟩ (fun r w H locs hp B => ?_)
    rcases hp with ⟨V1_6, z_7, z_8, z_9, rfl, rfl⟩ | ⟨V1_10, z_11, z_12, rfl, rfl⟩ | ⟨V1_13, z_14, z_15, z_16, rfl, rfl⟩
    · skip
      have B := bd_to (ws' := [(ou, .inl (k 2, 1, .inr (.inl (vp_updL (fun _ => 0) 0 1)))), (mo, .inr (10, fvM V1_6))]) rfl B
      refine lv_istore (lv' := [(6, .int 1), (5, .int 0), (4, .int 0), (3, .ref ou), (2, .ref mo), (1, .ref gx), (0, .ref b)]) hx hb dL_law_668 hl (by decide) rfl (fun ls hl => ?_)
      refine lv_aload_n hx hb dL_law_670 rfl (lv_at hl 4 rfl) ?_
      refine x_callV (rest := []) (wr := [(ou, .inl (k 2, 1, .inr (.inl (vp_updL (fun _ => 0) 0 1))))]) (m_thrown l dC dI k mo V1_6 0 z_9) B mV_X12_thrown mw_2144 hl [1] [0] rfl rfl ⟨by decide, by decide⟩ (by decide) (q0 := 0) rfl rfl rfl ⟨Nat.le_of_ble_eq_true rfl, Nat.le_of_ble_eq_true rfl⟩ (Nat.le_of_ble_eq_true rfl) rfl dL_law_671 ⟨Nat.le_of_ble_eq_true rfl, Nat.le_of_ble_eq_true rfl⟩ (fun r w H locs hp B => ?_)
      obtain ⟨rfl, rfl⟩ := hp
      have B := bd_to (ws' := [(ou, .inl (k 2, 1, .inr (.inl (vp_updL (fun _ => 0) 0 1)))), (mo, .inr (10, fvM V1_6))]) rfl B
      refine lv_iload hx hb dL_law_674 (lv_at hl 1 rfl) ?_
      refine lv_icmp_eq (tgt := 681) hx hb dL_law_676 (by decide) (fun _ => ?_) (fun c9 => absurd (by decide) c9)
      refine lv_iload hx hb dL_law_681 (lv_at hl 1 rfl) ?_
      refine lv_if_ne (tgt := 698) hx hb dL_law_683 (by decide) (fun c9 => absurd c9 (by decide)) (fun _ => ?_)
      refine lv_aload_n hx hb dL_law_686 rfl (lv_at hl 3 rfl) ?_
      refine lv_iconst (v := 0) hx hb dL_law_687 (by decide) ?_
      refine x_lald (v := 1) B 0 rfl (vpc (by decide)) dL_law_688 (by rfl) ?_
      refine lv_iload hx hb dL_law_689 (lv_at hl 0 rfl) ?_
      refine lv_i2l (v := 1) hx hb dL_law_691 (by decide) ?_
      refine x_lcmp (z := 0) B (by decide) dL_law_692 ?_
      refine lv_if_eq (tgt := 698) hx hb dL_law_693 (by decide) (fun _ => ?_) (fun c9 => absurd (by decide) c9)
      refine lv_goto (tgt := 2809) hx hb dL_law_698 (by decide) ?_
      exact law_end hX hbl hr B (lv_sub hl [6, 2] rfl) (Nat.le_of_ble_eq_true rfl) (Nat.le_of_ble_eq_true rfl)
    · skip
      exfalso; first | omega | exact absurd z_11 (by decide) | exact absurd z_12 (by decide)
    · skip
      exfalso; first | omega | exact absurd z_14 (by decide) | exact absurd z_15 (by decide) | exact absurd z_16 (by decide)
  · skip
    have B := bd_to (ws' := [(mo, .inr (10, fvM V)), (aSt, .inl (k 0, 16, .inl gs)), (aKi, .inl (k 0, 16, .inl (fun _ => 0))), (aSy, .inl (k 0, 112, .inl (fun _ => 0))), (aWc, .inl (k 0, 16, .inl (fun _ => 0))), (aSn, .inl (k 0, 192, .inl (fun _ => 0)))]) rfl B
    refine lv_istore (lv' := [(5, .int 1), (4, .int 0), (3, .ref ou), (2, .ref mo), (1, .ref gx), (0, .ref b)]) hx hb dL_law_650 hl (by decide) rfl (fun ls hl => ?_)
    refine lv_aload_n hx hb dL_law_652 rfl (lv_at hl 3 rfl) ?_
    refine lv_aload_n hx hb dL_law_653 rfl (lv_at hl 5 rfl) ?_
    refine lv_iload hx hb dL_law_654 (lv_at hl 1 rfl) ?_
    refine lv_iconst (v := 1) hx hb dL_law_656 (by decide) ?_
    refine lv_iadd hx hb dL_law_657 ?_
    refine lv_seti (y := 1) (by decide) ?_
    refine va_sld hx hb hX hbl (Nat.not_le.mpr hbl) B.2.2.2.2.2 (vpc (by decide)) dL_law_658 ?_
    refine lv_seti (y := xs 1) rfl ?_
    refine lv_aload_n hx hb dL_law_659 rfl (lv_at hl 5 rfl) ?_
    refine lv_iload hx hb dL_law_660 (lv_at hl 1 rfl) ?_
    refine lv_iconst (v := 2) hx hb dL_law_662 (by decide) ?_
    refine lv_iadd hx hb dL_law_663 ?_
    refine lv_seti (y := 2) (by decide) ?_
    refine va_sld hx hb hX hbl (Nat.not_le.mpr hbl) B.2.2.2.2.2 (vpc (by decide)) dL_law_664 ?_
    refine lv_seti (y := xs 2) rfl ?_
    refine x_callV (rest := []) (wr := []) (m_block l dC dI k mo V aSt aKi aSy aWc aSn (xs 1) (xs 2) gs h9 h10 h11 h12 h13 h18 hgs) B mV_X12_block mw_2211 hl [0, 1, 2, 3, 4, 5] [] rfl rfl ⟨by decide, by decide⟩ (by decide) (q0 := 0) rfl rfl rfl ⟨Nat.le_of_ble_eq_true rfl, Nat.le_of_ble_eq_true rfl⟩ (Nat.le_of_ble_eq_true rfl) rfl dL_law_665 ⟨Nat.le_of_ble_eq_true rfl, Nat.le_of_ble_eq_true rfl⟩ (fun r w H locs hp B => ?_)
    rcases hp with ⟨V1_17, z_18, z_19, z_20, rfl, rfl⟩ | ⟨V1_21, z_22, z_23, rfl, rfl⟩ | ⟨V1_24, z_25, z_26, z_27, rfl, rfl⟩
    · skip
      have B := bd_to (ws' := [(mo, .inr (10, fvM V1_17))]) rfl B
      refine lv_istore (lv' := [(6, .int 1), (5, .int 1), (4, .int 0), (3, .ref ou), (2, .ref mo), (1, .ref gx), (0, .ref b)]) hx hb dL_law_668 hl (by decide) rfl (fun ls hl => ?_)
      refine lv_aload_n hx hb dL_law_670 rfl (lv_at hl 4 rfl) ?_
      refine x_callV (rest := []) (wr := []) (m_thrown l dC dI k mo V1_17 0 z_20) B mV_X12_thrown mw_2144 hl [0] [] rfl rfl ⟨by decide, by decide⟩ (by decide) (q0 := 0) rfl rfl rfl ⟨Nat.le_of_ble_eq_true rfl, Nat.le_of_ble_eq_true rfl⟩ (Nat.le_of_ble_eq_true rfl) rfl dL_law_671 ⟨Nat.le_of_ble_eq_true rfl, Nat.le_of_ble_eq_true rfl⟩ (fun r w H locs hp B => ?_)
      obtain ⟨rfl, rfl⟩ := hp
      have B := bd_to (ws' := [(mo, .inr (10, fvM V1_17))]) rfl B
      refine lv_iload hx hb dL_law_674 (lv_at hl 1 rfl) ?_
      refine lv_icmp_eq (tgt := 681) hx hb dL_law_676 (by decide) (fun c9 => absurd c9 (by decide)) (fun _ => ?_)
      refine lv_iconst (v := 0) hx hb dL_law_679 (by decide) ?_
      exfalso; omega
    · skip
      have B := bd_to (ws' := [(mo, .inr (10, fvM V1_21))]) rfl B
      refine lv_istore (lv' := [(6, .int 0), (5, .int 1), (4, .int 0), (3, .ref ou), (2, .ref mo), (1, .ref gx), (0, .ref b)]) hx hb dL_law_668 hl (by decide) rfl (fun ls hl => ?_)
      refine lv_aload_n hx hb dL_law_670 rfl (lv_at hl 4 rfl) ?_
      refine x_callV (rest := []) (wr := []) (m_thrown l dC dI k mo V1_21 1 z_23) B mV_X12_thrown mw_2144 hl [0] [] rfl rfl ⟨by decide, by decide⟩ (by decide) (q0 := 0) rfl rfl rfl ⟨Nat.le_of_ble_eq_true rfl, Nat.le_of_ble_eq_true rfl⟩ (Nat.le_of_ble_eq_true rfl) rfl dL_law_671 ⟨Nat.le_of_ble_eq_true rfl, Nat.le_of_ble_eq_true rfl⟩ (fun r w H locs hp B => ?_)
      obtain ⟨rfl, rfl⟩ := hp
      have B := bd_to (ws' := [(mo, .inr (10, fvM V1_21))]) rfl B
      refine lv_iload hx hb dL_law_674 (lv_at hl 1 rfl) ?_
      refine lv_icmp_eq (tgt := 681) hx hb dL_law_676 (by decide) (fun _ => ?_) (fun c9 => absurd (by decide) c9)
      refine lv_iload hx hb dL_law_681 (lv_at hl 1 rfl) ?_
      refine lv_if_ne (tgt := 698) hx hb dL_law_683 (by decide) (fun _ => ?_) (fun c9 => absurd c9 (by decide))
      refine lv_goto (tgt := 2809) hx hb dL_law_698 (by decide) ?_
      exact law_end hX hbl hr B (lv_sub hl [6, 2] rfl) (Nat.le_of_ble_eq_true rfl) (Nat.le_of_ble_eq_true rfl)
    · skip
      have B := bd_to (ws' := [(mo, .inr (10, fvM V1_24))]) rfl B
      refine lv_istore (lv' := [(6, .int 0), (5, .int 1), (4, .int 0), (3, .ref ou), (2, .ref mo), (1, .ref gx), (0, .ref b)]) hx hb dL_law_668 hl (by decide) rfl (fun ls hl => ?_)
      refine lv_aload_n hx hb dL_law_670 rfl (lv_at hl 4 rfl) ?_
      refine x_callV (rest := []) (wr := []) (m_thrown l dC dI k mo V1_24 2 z_27) B mV_X12_thrown mw_2144 hl [0] [] rfl rfl ⟨by decide, by decide⟩ (by decide) (q0 := 0) rfl rfl rfl ⟨Nat.le_of_ble_eq_true rfl, Nat.le_of_ble_eq_true rfl⟩ (Nat.le_of_ble_eq_true rfl) rfl dL_law_671 ⟨Nat.le_of_ble_eq_true rfl, Nat.le_of_ble_eq_true rfl⟩ (fun r w H locs hp B => ?_)
      obtain ⟨rfl, rfl⟩ := hp
      have B := bd_to (ws' := [(mo, .inr (10, fvM V1_24))]) rfl B
      refine lv_iload hx hb dL_law_674 (lv_at hl 1 rfl) ?_
      refine lv_icmp_eq (tgt := 681) hx hb dL_law_676 (by decide) (fun c9 => absurd c9 (by decide)) (fun _ => ?_)
      refine lv_iconst (v := 0) hx hb dL_law_679 (by decide) ?_
      exfalso; omega
  · skip
    have B := bd_to (ws' := [(mo, .inr (10, fvM V)), (aSt, .inl (k 0, 16, .inl gs)), (aKi, .inl (k 0, 16, .inl (fun _ => 0))), (aSy, .inl (k 0, 112, .inl (fun _ => 0))), (aWc, .inl (k 0, 16, .inl (fun _ => 0))), (aSn, .inl (k 0, 192, .inl (fun _ => 0)))]) rfl B
    refine lv_istore (lv' := [(5, .int 2), (4, .int 0), (3, .ref ou), (2, .ref mo), (1, .ref gx), (0, .ref b)]) hx hb dL_law_650 hl (by decide) rfl (fun ls hl => ?_)
    refine lv_aload_n hx hb dL_law_652 rfl (lv_at hl 3 rfl) ?_
    refine lv_aload_n hx hb dL_law_653 rfl (lv_at hl 5 rfl) ?_
    refine lv_iload hx hb dL_law_654 (lv_at hl 1 rfl) ?_
    refine lv_iconst (v := 1) hx hb dL_law_656 (by decide) ?_
    refine lv_iadd hx hb dL_law_657 ?_
    refine lv_seti (y := 1) (by decide) ?_
    refine va_sld hx hb hX hbl (Nat.not_le.mpr hbl) B.2.2.2.2.2 (vpc (by decide)) dL_law_658 ?_
    refine lv_seti (y := xs 1) rfl ?_
    refine lv_aload_n hx hb dL_law_659 rfl (lv_at hl 5 rfl) ?_
    refine lv_iload hx hb dL_law_660 (lv_at hl 1 rfl) ?_
    refine lv_iconst (v := 2) hx hb dL_law_662 (by decide) ?_
    refine lv_iadd hx hb dL_law_663 ?_
    refine lv_seti (y := 2) (by decide) ?_
    refine va_sld hx hb hX hbl (Nat.not_le.mpr hbl) B.2.2.2.2.2 (vpc (by decide)) dL_law_664 ?_
    refine lv_seti (y := xs 2) rfl ?_
    refine x_callV (rest := []) (wr := []) (m_block l dC dI k mo V aSt aKi aSy aWc aSn (xs 1) (xs 2) gs h9 h10 h11 h12 h13 h18 hgs) B mV_X12_block mw_2211 hl [0, 1, 2, 3, 4, 5] [] rfl rfl ⟨by decide, by decide⟩ (by decide) (q0 := 0) rfl rfl rfl ⟨Nat.le_of_ble_eq_true rfl, Nat.le_of_ble_eq_true rfl⟩ (Nat.le_of_ble_eq_true rfl) rfl dL_law_665 ⟨Nat.le_of_ble_eq_true rfl, Nat.le_of_ble_eq_true rfl⟩ (fun r w H locs hp B => ?_)
    rcases hp with ⟨V1_28, z_29, z_30, z_31, rfl, rfl⟩ | ⟨V1_32, z_33, z_34, rfl, rfl⟩ | ⟨V1_35, z_36, z_37, z_38, rfl, rfl⟩
    · skip
      have B := bd_to (ws' := [(mo, .inr (10, fvM V1_28))]) rfl B
      refine lv_istore (lv' := [(6, .int 1), (5, .int 2), (4, .int 0), (3, .ref ou), (2, .ref mo), (1, .ref gx), (0, .ref b)]) hx hb dL_law_668 hl (by decide) rfl (fun ls hl => ?_)
      refine lv_aload_n hx hb dL_law_670 rfl (lv_at hl 4 rfl) ?_
      refine x_callV (rest := []) (wr := []) (m_thrown l dC dI k mo V1_28 0 z_31) B mV_X12_thrown mw_2144 hl [0] [] rfl rfl ⟨by decide, by decide⟩ (by decide) (q0 := 0) rfl rfl rfl ⟨Nat.le_of_ble_eq_true rfl, Nat.le_of_ble_eq_true rfl⟩ (Nat.le_of_ble_eq_true rfl) rfl dL_law_671 ⟨Nat.le_of_ble_eq_true rfl, Nat.le_of_ble_eq_true rfl⟩ (fun r w H locs hp B => ?_)
      obtain ⟨rfl, rfl⟩ := hp
      have B := bd_to (ws' := [(mo, .inr (10, fvM V1_28))]) rfl B
      refine lv_iload hx hb dL_law_674 (lv_at hl 1 rfl) ?_
      refine lv_icmp_eq (tgt := 681) hx hb dL_law_676 (by decide) (fun c9 => absurd c9 (by decide)) (fun _ => ?_)
      refine lv_iconst (v := 0) hx hb dL_law_679 (by decide) ?_
      exfalso; omega
    · skip
      exfalso; first | omega | exact absurd z_33 (by decide) | exact absurd z_34 (by decide)
    · skip
      have B := bd_to (ws' := [(mo, .inr (10, fvM V1_35))]) rfl B
      refine lv_istore (lv' := [(6, .int 0), (5, .int 2), (4, .int 0), (3, .ref ou), (2, .ref mo), (1, .ref gx), (0, .ref b)]) hx hb dL_law_668 hl (by decide) rfl (fun ls hl => ?_)
      refine lv_aload_n hx hb dL_law_670 rfl (lv_at hl 4 rfl) ?_
      refine x_callV (rest := []) (wr := []) (m_thrown l dC dI k mo V1_35 2 z_38) B mV_X12_thrown mw_2144 hl [0] [] rfl rfl ⟨by decide, by decide⟩ (by decide) (q0 := 0) rfl rfl rfl ⟨Nat.le_of_ble_eq_true rfl, Nat.le_of_ble_eq_true rfl⟩ (Nat.le_of_ble_eq_true rfl) rfl dL_law_671 ⟨Nat.le_of_ble_eq_true rfl, Nat.le_of_ble_eq_true rfl⟩ (fun r w H locs hp B => ?_)
      obtain ⟨rfl, rfl⟩ := hp
      have B := bd_to (ws' := [(mo, .inr (10, fvM V1_35))]) rfl B
      refine lv_iload hx hb dL_law_674 (lv_at hl 1 rfl) ?_
      refine lv_icmp_eq (tgt := 681) hx hb dL_law_676 (by decide) (fun _ => ?_) (fun c9 => absurd (by decide) c9)
      refine lv_iload hx hb dL_law_681 (lv_at hl 1 rfl) ?_
      refine lv_if_ne (tgt := 698) hx hb dL_law_683 (by decide) (fun _ => ?_) (fun c9 => absurd c9 (by decide))
      refine lv_goto (tgt := 2809) hx hb dL_law_698 (by decide) ?_
      exact law_end hX hbl hr B (lv_sub hl [6, 2] rfl) (Nat.le_of_ble_eq_true rfl) (Nat.le_of_ble_eq_true rfl)

end
