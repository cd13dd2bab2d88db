section
theorem mw_1272 : (Jvm.Cond.methodLink "GalleyforgeLaw" (196 : Nat) ({ cls := "GalleyforgeLaw", name := "gaps", desc := "(LGalleyforge;II[J)I" } : Jvm.MethodName)) ∈ gt := gt_at 1407 (by decide +kernel) (by decide +kernel)
theorem mw_1273 : (Jvm.Cond.static ({ cls := "GalleyforgeLaw", name := "gaps", desc := "(LGalleyforge;II[J)I" } : Jvm.MethodName)) ∈ gt := gt_at 1408 (by decide +kernel) (by decide +kernel)
theorem mw_1274 : (Jvm.Cond.codeWith ({ cls := "GalleyforgeLaw", name := "gaps", desc := "(LGalleyforge;II[J)I" } : Jvm.MethodName) method_17_code (5 : Nat) (Option.some Jvm.ClassFile.FieldType.int) [((0 : Nat), (10 : Nat), (13 : Nat), (13 : Nat))]) ∈ gt := gt_at 1409 (by decide +kernel) (by decide +kernel)
theorem mw_2255 : (Jvm.Cond.methodLink "GalleyforgeLaw" (198 : Nat) ({ cls := "GalleyforgeModel", name := "gaps", desc := "(II)I" } : Jvm.MethodName)) ∈ gt := gt_at 2390 (by decide +kernel) (by decide +kernel)
theorem mw_2256 : (Jvm.Cond.instanceMethod ({ cls := "GalleyforgeModel", name := "gaps", desc := "(II)I" } : Jvm.MethodName)) ∈ gt := gt_at 2391 (by decide +kernel) (by decide +kernel)
theorem mw_2257 : (Jvm.Cond.selects "GalleyforgeModel" ({ cls := "GalleyforgeModel", name := "gaps", desc := "(II)I" } : Jvm.MethodName) ({ cls := "GalleyforgeModel", name := "gaps", desc := "(II)I" } : Jvm.MethodName)) ∈ gt := gt_at 2392 (by decide +kernel) (by decide +kernel)
theorem mw_2258 : (Jvm.Cond.code ({ cls := "GalleyforgeModel", name := "gaps", desc := "(II)I" } : Jvm.MethodName) prog_14_method_31_code (3 : Nat) (Option.some Jvm.ClassFile.FieldType.int)) ∈ gt := gt_at 2393 (by decide +kernel) (by decide +kernel)
theorem mV_X12_gaps : mV yX12_gaps cX12_gaps 3 (some .int) 2 := ⟨⟨mw_2258, mw_13, by decide, by decide, by decide +kernel⟩, mw_2256, mw_2257⟩
theorem mW_L_gaps : mW yL_gaps cL_gaps 5 (some .int) [((0 : Nat), (10 : Nat), (13 : Nat), (13 : Nat))] 4 := ⟨⟨mw_1274, mw_0, by decide, by decide, by decide +kernel⟩, mw_1273⟩
theorem dL_law_1228 : decode cL_law 1228 = .ok (.aload_n 1, 1) := by decide +kernel
theorem dL_law_1229 : decode cL_law 1229 = .ok (.aload_n 0, 1) := by decide +kernel
theorem dL_law_1230 : decode cL_law 1230 = .ok (.iload 4, 2) := by decide +kernel
theorem dL_law_1232 : decode cL_law 1232 = .ok (.iconst 1, 1) := by decide +kernel
theorem dL_law_1233 : decode cL_law 1233 = .ok (.iadd, 1) := by decide +kernel
theorem dL_law_1234 : decode cL_law 1234 = .ok (.iaload, 1) := by decide +kernel
theorem dL_law_1235 : decode cL_law 1235 = .ok (.aload_n 0, 1) := by decide +kernel
theorem dL_law_1236 : decode cL_law 1236 = .ok (.iload 4, 2) := by decide +kernel
theorem dL_law_1238 : decode cL_law 1238 = .ok (.iconst 2, 1) := by decide +kernel
theorem dL_law_1239 : decode cL_law 1239 = .ok (.iadd, 1) := by decide +kernel
theorem dL_law_1240 : decode cL_law 1240 = .ok (.iaload, 1) := by decide +kernel
theorem dL_law_1241 : decode cL_law 1241 = .ok (.aload_n 3, 1) := by decide +kernel
theorem dL_law_1242 : decode cL_law 1242 = .ok (.invokestatic 196, 3) := by decide +kernel
theorem dL_law_1245 : decode cL_law 1245 = .ok (.istore 5, 2) := by decide +kernel
theorem dL_law_1247 : decode cL_law 1247 = .ok (.aload_n 2, 1) := by decide +kernel
theorem dL_law_1248 : decode cL_law 1248 = .ok (.aload_n 0, 1) := by decide +kernel
theorem dL_law_1249 : decode cL_law 1249 = .ok (.iload 4, 2) := by decide +kernel
theorem dL_law_1251 : decode cL_law 1251 = .ok (.iconst 1, 1) := by decide +kernel
theorem dL_law_1252 : decode cL_law 1252 = .ok (.iadd, 1) := by decide +kernel
theorem dL_law_1253 : decode cL_law 1253 = .ok (.iaload, 1) := by decide +kernel
theorem dL_law_1254 : decode cL_law 1254 = .ok (.aload_n 0, 1) := by decide +kernel
theorem dL_law_1255 : decode cL_law 1255 = .ok (.iload 4, 2) := by decide +kernel
theorem dL_law_1257 : decode cL_law 1257 = .ok (.iconst 2, 1) := by decide +kernel
theorem dL_law_1258 : decode cL_law 1258 = .ok (.iadd, 1) := by decide +kernel
theorem dL_law_1259 : decode cL_law 1259 = .ok (.iaload, 1) := by decide +kernel
theorem dL_law_1260 : decode cL_law 1260 = .ok (.invokevirtual 198, 3) := by decide +kernel
theorem dL_law_1263 : decode cL_law 1263 = .ok (.istore 6, 2) := by decide +kernel
theorem dL_law_1265 : decode cL_law 1265 = .ok (.aload_n 2, 1) := by decide +kernel
theorem dL_law_1266 : decode cL_law 1266 = .ok (.invokevirtual 142, 3) := by decide +kernel
theorem dL_law_1269 : decode cL_law 1269 = .ok (.iload 5, 2) := by decide +kernel
theorem dL_law_1271 : decode cL_law 1271 = .ok (.if_icmp .eq 5, 3) := by decide +kernel
theorem dL_law_1276 : decode cL_law 1276 = .ok (.iload 5, 2) := by decide +kernel
theorem dL_law_1278 : decode cL_law 1278 = .ok (.ifCond .ne 15, 3) := by decide +kernel
theorem dL_law_1293 : decode cL_law 1293 = .ok (.goto 1516, 3) := by decide +kernel
set_option maxHeartbeats 4000000 in
set_option maxRecDepth 100000 in
theorem law_gaps (l : Launch) (hl0 : l.stackTraces = false) (dC : Nat → ClassId) (dI : Nat → Nat → Nat) (k : Nat → ClassId) {p : Program} {e : Env} {s : State} {m : MethodId} {below : List Frame} {meth : Method} {c : Code} {b : Nat} {xs : Nat → Int32} (hX : va_X b 7 xs s s.heap) (hbl : b < s.heap.size) (hr : meth.sig.returnType = ret) {H : Heap} {locs : List Loc} {ls : Array Slot} (gx : Nat) (T : Nat) (LA : Nat) (sp : Nat) (dr : Nat) (bl : Nat) (pt : Nat) (fk : Nat) (fh : Nat) (ky : Nat) (ou : Nat) (mo : Nat) (V : Nat → Value) (h9 : V 9 = .int 0) (B : bd p s m #[Value.ref b] meth c cL_law 8 "GalleyforgeLaw" dC dI k (fun q => s.heap.size ≤ q) [(gx, .inr (9, [.ref T, .ref LA, .ref sp, .int 0, .ref dr])), (T, .inr (8, [.ref bl, .ref pt, .ref fk, .ref fh, .int 0, .ref ky, .int 60, .int 12])), (bl, .inr (11, [.int 0, .ref (dI 99 1), .int 0])), (ou, .inl (k 2, 1, .inr (.inl (fun _ => 0)))), (mo, .inr (10, fvM V))] H locs) (hl : lv_has ls 8 [(4, .int 0), (3, .ref ou), (2, .ref mo), (1, .ref gx), (0, .ref b)]) : W p l e room_1 s m #[Value.ref b] below meth c H locs 157 183312 (lw_Z below #[Value.ref b] s) (F0 m 1228 ls []) := by
  have hx := B.1.1
  have hb := B.1.2.1
  refine lv_aload_n hx hb dL_law_1228 rfl (lv_at hl 3 rfl) ?_
  refine lv_aload_n hx hb dL_law_1229 rfl (lv_at hl 4 rfl) ?_
  refine lv_iload hx hb dL_law_1230 (lv_at hl 0 rfl) ?_
  refine lv_iconst (v := 1) hx hb dL_law_1232 (by decide) ?_
  refine lv_iadd hx hb dL_law_1233 ?_
  refine lv_seti (y := 1) (by decide) ?_
  refine va_sld hx hb hX hbl (Nat.not_le.mpr hbl) B.2.2.2.2.2 (vpc (by decide)) dL_law_1234 ?_
  refine lv_seti (y := xs 1) rfl ?_
  refine lv_aload_n hx hb dL_law_1235 rfl (lv_at hl 4 rfl) ?_
  refine lv_iload hx hb dL_law_1236 (lv_at hl 0 rfl) ?_
  refine lv_iconst (v := 2) hx hb dL_law_1238 (by decide) ?_
  refine lv_iadd hx hb dL_law_1239 ?_
  refine lv_seti (y := 2) (by decide) ?_
  refine va_sld hx hb hX hbl (Nat.not_le.mpr hbl) B.2.2.2.2.2 (vpc (by decide)) dL_law_1240 ?_
  refine lv_seti (y := xs 2) rfl ?_
  refine lv_aload_n hx hb dL_law_1241 rfl (lv_at hl 1 rfl) ?_
  refine x_callW (rest := []) (wr := [(mo, .inr (10, fvM V))]) (w_gaps l dC dI k hl0 gx T LA sp dr bl pt fk fh ky (xs 1) (xs 2) ou) B mW_L_gaps mw_1272 hl [0, 1, 2, 3] [4] rfl rfl ⟨by decide, by decide⟩ (by decide) ⟨Nat.le_of_ble_eq_true rfl, Nat.le_of_ble_eq_true rfl⟩ (Nat.le_of_ble_eq_true rfl) rfl dL_law_1242 ⟨Nat.le_of_ble_eq_true rfl, Nat.le_of_ble_eq_true rfl⟩ (fun r w H locs hp B => ?_)
  obtain ⟨rfl, rfl⟩ := hp
  have B := bd_to (ws' := [(mo, .inr (10, fvM V))]) rfl B
  refine lv_istore (lv' := [(5, .int 1), (4, .int 0), (3, .ref ou), (2, .ref mo), (1, .ref gx), (0, .ref b)]) hx hb dL_law_1245 hl (by decide) rfl (fun ls hl => ?_)
  refine lv_aload_n hx hb dL_law_1247 rfl (lv_at hl 3 rfl) ?_
  refine lv_aload_n hx hb dL_law_1248 rfl (lv_at hl 5 rfl) ?_
  refine lv_iload hx hb dL_law_1249 (lv_at hl 1 rfl) ?_
  refine lv_iconst (v := 1) hx hb dL_law_1251 (by decide) ?_
  refine lv_iadd hx hb dL_law_1252 ?_
  refine lv_seti (y := 1) (by decide) ?_
  refine va_sld hx hb hX hbl (Nat.not_le.mpr hbl) B.2.2.2.2.2 (vpc (by decide)) dL_law_1253 ?_
  refine lv_seti (y := xs 1) rfl ?_
  refine lv_aload_n hx hb dL_law_1254 rfl (lv_at hl 5 rfl) ?_
  refine lv_iload hx hb dL_law_1255 (lv_at hl 1 rfl) ?_
  refine lv_iconst (v := 2) hx hb dL_law_1257 (by decide) ?_
  refine lv_iadd hx hb dL_law_1258 ?_
  refine lv_seti (y := 2) (by decide) ?_
  refine va_sld hx hb hX hbl (Nat.not_le.mpr hbl) B.2.2.2.2.2 (vpc (by decide)) dL_law_1259 ?_
  refine lv_seti (y := xs 2) rfl ?_
  refine x_callV (rest := []) (wr := []) (m_gaps l dC dI k mo V (xs 1) (xs 2) h9) B mV_X12_gaps mw_2255 hl [0] [] rfl rfl ⟨by decide, by decide⟩ (by decide) (q0 := 0) rfl rfl rfl ⟨Nat.le_of_ble_eq_true rfl, Nat.le_of_ble_eq_true rfl⟩ (Nat.le_of_ble_eq_true rfl) rfl dL_law_1260 ⟨Nat.le_of_ble_eq_true rfl, Nat.le_of_ble_eq_true rfl⟩ (fun r w H locs hp B => ?_)
  obtain ⟨V1_1, z_2, rfl, rfl⟩ := hp
  have B := bd_to (ws' := [(mo, .inr (10, fvM V1_1))]) rfl B
  refine lv_istore (lv' := [(6, .int 0), (5, .int 1), (4, .int 0), (3, .ref ou), (2, .ref mo), (1, .ref gx), (0, .ref b)]) hx hb dL_law_1263 hl (by decide) rfl (fun ls hl => ?_)
  refine lv_aload_n hx hb dL_law_1265 rfl (lv_at hl 4 rfl) ?_
  refine x_callV (rest := []) (wr := []) (m_thrown l dC dI k mo V1_1 1 z_2) B mV_X12_thrown mw_2144 hl [0] [] rfl rfl ⟨by decide, by decide⟩ (by decide) (q0 := 0) rfl rfl rfl ⟨Nat.le_of_ble_eq_true rfl, Nat.le_of_ble_eq_true rfl⟩ (Nat.le_of_ble_eq_true rfl) rfl dL_law_1266 ⟨Nat.le_of_ble_eq_true rfl, Nat.le_of_ble_eq_true rfl⟩ (fun r w H locs hp B => ?_)
  obtain ⟨rfl, rfl⟩ := hp
  have B := bd_to (ws' := [(mo, .inr (10, fvM V1_1))]) rfl B
  refine lv_iload hx hb dL_law_1269 (lv_at hl 1 rfl) ?_
  refine lv_icmp_eq (tgt := 1276) hx hb dL_law_1271 (by decide) (fun _ => ?_) (fun c9 => absurd (by decide) c9)
  refine lv_iload hx hb dL_law_1276 (lv_at hl 1 rfl) ?_
  refine lv_if_ne (tgt := 1293) hx hb dL_law_1278 (by decide) (fun _ => ?_) (fun c9 => absurd c9 (by decide))
  refine lv_goto (tgt := 2809) hx hb dL_law_1293 (by decide) ?_
  exact law_end hX hbl hr B (lv_sub hl [6, 2] rfl) (Nat.le_of_ble_eq_true rfl) (Nat.le_of_ble_eq_true rfl)

theorem mw_1279 : (Jvm.Cond.methodLink "GalleyforgeLaw" (199 : Nat) ({ cls := "GalleyforgeLaw", name := "number", desc := "(LGalleyforge;II[J)I" } : Jvm.MethodName)) ∈ gt := gt_at 1414 (by decide +kernel) (by decide +kernel)
theorem mw_1280 : (Jvm.Cond.static ({ cls := "GalleyforgeLaw", name := "number", desc := "(LGalleyforge;II[J)I" } : Jvm.MethodName)) ∈ gt := gt_at 1415 (by decide +kernel) (by decide +kernel)
theorem mw_1281 : (Jvm.Cond.codeWith ({ cls := "GalleyforgeLaw", name := "number", desc := "(LGalleyforge;II[J)I" } : Jvm.MethodName) method_18_code (5 : Nat) (Option.some Jvm.ClassFile.FieldType.int) [((0 : Nat), (10 : Nat), (13 : Nat), (13 : Nat))]) ∈ gt := gt_at 1416 (by decide +kernel) (by decide +kernel)
theorem mw_2267 : (Jvm.Cond.methodLink "GalleyforgeLaw" (201 : Nat) ({ cls := "GalleyforgeModel", name := "number", desc := "(II)I" } : Jvm.MethodName)) ∈ gt := gt_at 2402 (by decide +kernel) (by decide +kernel)
theorem mw_2268 : (Jvm.Cond.instanceMethod ({ cls := "GalleyforgeModel", name := "number", desc := "(II)I" } : Jvm.MethodName)) ∈ gt := gt_at 2403 (by decide +kernel) (by decide +kernel)
theorem mw_2269 : (Jvm.Cond.selects "GalleyforgeModel" ({ cls := "GalleyforgeModel", name := "number", desc := "(II)I" } : Jvm.MethodName) ({ cls := "GalleyforgeModel", name := "number", desc := "(II)I" } : Jvm.MethodName)) ∈ gt := gt_at 2404 (by decide +kernel) (by decide +kernel)
theorem mw_2270 : (Jvm.Cond.code ({ cls := "GalleyforgeModel", name := "number", desc := "(II)I" } : Jvm.MethodName) prog_14_method_39_code (3 : Nat) (Option.some Jvm.ClassFile.FieldType.int)) ∈ gt := gt_at 2405 (by decide +kernel) (by decide +kernel)
theorem mV_X12_number : mV yX12_number cX12_number 3 (some .int) 2 := ⟨⟨mw_2270, mw_13, by decide, by decide, by decide +kernel⟩, mw_2268, mw_2269⟩
theorem mW_L_number : mW yL_number cL_number 5 (some .int) [((0 : Nat), (10 : Nat), (13 : Nat), (13 : Nat))] 4 := ⟨⟨mw_1281, mw_0, by decide, by decide, by decide +kernel⟩, mw_1280⟩
theorem dL_law_1296 : decode cL_law 1296 = .ok (.aload_n 1, 1) := by decide +kernel
theorem dL_law_1297 : decode cL_law 1297 = .ok (.aload_n 0, 1) := by decide +kernel
theorem dL_law_1298 : decode cL_law 1298 = .ok (.iload 4, 2) := by decide +kernel
theorem dL_law_1300 : decode cL_law 1300 = .ok (.iconst 1, 1) := by decide +kernel
theorem dL_law_1301 : decode cL_law 1301 = .ok (.iadd, 1) := by decide +kernel
theorem dL_law_1302 : decode cL_law 1302 = .ok (.iaload, 1) := by decide +kernel
theorem dL_law_1303 : decode cL_law 1303 = .ok (.aload_n 0, 1) := by decide +kernel
theorem dL_law_1304 : decode cL_law 1304 = .ok (.iload 4, 2) := by decide +kernel
theorem dL_law_1306 : decode cL_law 1306 = .ok (.iconst 2, 1) := by decide +kernel
theorem dL_law_1307 : decode cL_law 1307 = .ok (.iadd, 1) := by decide +kernel
theorem dL_law_1308 : decode cL_law 1308 = .ok (.iaload, 1) := by decide +kernel
theorem dL_law_1309 : decode cL_law 1309 = .ok (.aload_n 3, 1) := by decide +kernel
theorem dL_law_1310 : decode cL_law 1310 = .ok (.invokestatic 199, 3) := by decide +kernel
theorem dL_law_1313 : decode cL_law 1313 = .ok (.istore 5, 2) := by decide +kernel
theorem dL_law_1315 : decode cL_law 1315 = .ok (.aload_n 2, 1) := by decide +kernel
theorem dL_law_1316 : decode cL_law 1316 = .ok (.aload_n 0, 1) := by decide +kernel
theorem dL_law_1317 : decode cL_law 1317 = .ok (.iload 4, 2) := by decide +kernel
theorem dL_law_1319 : decode cL_law 1319 = .ok (.iconst 1, 1) := by decide +kernel
theorem dL_law_1320 : decode cL_law 1320 = .ok (.iadd, 1) := by decide +kernel
theorem dL_law_1321 : decode cL_law 1321 = .ok (.iaload, 1) := by decide +kernel
theorem dL_law_1322 : decode cL_law 1322 = .ok (.aload_n 0, 1) := by decide +kernel
theorem dL_law_1323 : decode cL_law 1323 = .ok (.iload 4, 2) := by decide +kernel
theorem dL_law_1325 : decode cL_law 1325 = .ok (.iconst 2, 1) := by decide +kernel
theorem dL_law_1326 : decode cL_law 1326 = .ok (.iadd, 1) := by decide +kernel
theorem dL_law_1327 : decode cL_law 1327 = .ok (.iaload, 1) := by decide +kernel
theorem dL_law_1328 : decode cL_law 1328 = .ok (.invokevirtual 201, 3) := by decide +kernel
theorem dL_law_1331 : decode cL_law 1331 = .ok (.istore 6, 2) := by decide +kernel
theorem dL_law_1333 : decode cL_law 1333 = .ok (.aload_n 2, 1) := by decide +kernel
theorem dL_law_1334 : decode cL_law 1334 = .ok (.invokevirtual 142, 3) := by decide +kernel
theorem dL_law_1337 : decode cL_law 1337 = .ok (.iload 5, 2) := by decide +kernel
theorem dL_law_1339 : decode cL_law 1339 = .ok (.if_icmp .eq 5, 3) := by decide +kernel
theorem dL_law_1344 : decode cL_law 1344 = .ok (.iload 5, 2) := by decide +kernel
theorem dL_law_1346 : decode cL_law 1346 = .ok (.ifCond .ne 15, 3) := by decide +kernel
theorem dL_law_1361 : decode cL_law 1361 = .ok (.goto 1448, 3) := by decide +kernel
set_option maxHeartbeats 4000000 in
set_option maxRecDepth 100000 in
theorem law_number (l : Launch) (hl0 : l.stackTraces = false) (dC : Nat → ClassId) (dI : Nat → Nat → Nat) (k : Nat → ClassId) {p : Program} {e : Env} {s : State} {m : MethodId} {below : List Frame} {meth : Method} {c : Code} {b : Nat} {xs : Nat → Int32} (hX : va_X b 7 xs s s.heap) (hbl : b < s.heap.size) (hr : meth.sig.returnType = ret) {H : Heap} {locs : List Loc} {ls : Array Slot} (gx : Nat) (T : Nat) (LA : Nat) (sp : Nat) (dr : Nat) (bl : Nat) (pt : Nat) (fk : Nat) (fh : Nat) (ky : Nat) (ou : Nat) (mo : Nat) (V : Nat → Value) (h9 : V 9 = .int 0) (B : bd p s m #[Value.ref b] meth c cL_law 8 "GalleyforgeLaw" dC dI k (fun q => s.heap.size ≤ q) [(gx, .inr (9, [.ref T, .ref LA, .ref sp, .int 0, .ref dr])), (T, .inr (8, [.ref bl, .ref pt, .ref fk, .ref fh, .int 0, .ref ky, .int 60, .int 12])), (bl, .inr (11, [.int 0, .ref (dI 99 1), .int 0])), (ou, .inl (k 2, 1, .inr (.inl (fun _ => 0)))), (mo, .inr (10, fvM V))] H locs) (hl : lv_has ls 8 [(4, .int 0), (3, .ref ou), (2, .ref mo), (1, .ref gx), (0, .ref b)]) : W p l e room_1 s m #[Value.ref b] below meth c H locs 157 183312 (lw_Z below #[Value.ref b] s) (F0 m 1296 ls []) := by
  have hx := B.1.1
  have hb := B.1.2.1
  refine lv_aload_n hx hb dL_law_1296 rfl (lv_at hl 3 rfl) ?_
  refine lv_aload_n hx hb dL_law_1297 rfl (lv_at hl 4 rfl) ?_
  refine lv_iload hx hb dL_law_1298 (lv_at hl 0 rfl) ?_
  refine lv_iconst (v := 1) hx hb dL_law_1300 (by decide) ?_
  refine lv_iadd hx hb dL_law_1301 ?_
  refine lv_seti (y := 1) (by decide) ?_
  refine va_sld hx hb hX hbl (Nat.not_le.mpr hbl) B.2.2.2.2.2 (vpc (by decide)) dL_law_1302 ?_
  refine lv_seti (y := xs 1) rfl ?_
  refine lv_aload_n hx hb dL_law_1303 rfl (lv_at hl 4 rfl) ?_
  refine lv_iload hx hb dL_law_1304 (lv_at hl 0 rfl) ?_
  refine lv_iconst (v := 2) hx hb dL_law_1306 (by decide) ?_
  refine lv_iadd hx hb dL_law_1307 ?_
  refine lv_seti (y := 2) (by decide) ?_
  refine va_sld hx hb hX hbl (Nat.not_le.mpr hbl) B.2.2.2.2.2 (vpc (by decide)) dL_law_1308 ?_
  refine lv_seti (y := xs 2) rfl ?_
  refine lv_aload_n hx hb dL_law_1309 rfl (lv_at hl 1 rfl) ?_
  refine x_callW (rest := []) (wr := [(mo, .inr (10, fvM V))]) (w_number l dC dI k hl0 gx T LA sp dr bl pt fk fh ky (xs 1) (xs 2) ou) B mW_L_number mw_1279 hl [0, 1, 2, 3] [4] rfl rfl ⟨by decide, by decide⟩ (by decide) ⟨Nat.le_of_ble_eq_true rfl, Nat.le_of_ble_eq_true rfl⟩ (Nat.le_of_ble_eq_true rfl) rfl dL_law_1310 ⟨Nat.le_of_ble_eq_true rfl, Nat.le_of_ble_eq_true rfl⟩ (fun r w H locs hp B => ?_)
  obtain ⟨rfl, rfl⟩ := hp
  have B := bd_to (ws' := [(mo, .inr (10, fvM V))]) rfl B
  refine lv_istore (lv' := [(5, .int 1), (4, .int 0), (3, .ref ou), (2, .ref mo), (1, .ref gx), (0, .ref b)]) hx hb dL_law_1313 hl (by decide) rfl (fun ls hl => ?_)
  refine lv_aload_n hx hb dL_law_1315 rfl (lv_at hl 3 rfl) ?_
  refine lv_aload_n hx hb dL_law_1316 rfl (lv_at hl 5 rfl) ?_
  refine lv_iload hx hb dL_law_1317 (lv_at hl 1 rfl) ?_
  refine lv_iconst (v := 1) hx hb dL_law_1319 (by decide) ?_
  refine lv_iadd hx hb dL_law_1320 ?_
  refine lv_seti (y := 1) (by decide) ?_
  refine va_sld hx hb hX hbl (Nat.not_le.mpr hbl) B.2.2.2.2.2 (vpc (by decide)) dL_law_1321 ?_
  refine lv_seti (y := xs 1) rfl ?_
  refine lv_aload_n hx hb dL_law_1322 rfl (lv_at hl 5 rfl) ?_
  refine lv_iload hx hb dL_law_1323 (lv_at hl 1 rfl) ?_
  refine lv_iconst (v := 2) hx hb dL_law_1325 (by decide) ?_
  refine lv_iadd hx hb dL_law_1326 ?_
  refine lv_seti (y := 2) (by decide) ?_
  refine va_sld hx hb hX hbl (Nat.not_le.mpr hbl) B.2.2.2.2.2 (vpc (by decide)) dL_law_1327 ?_
  refine lv_seti (y := xs 2) rfl ?_
  refine x_callV (rest := []) (wr := []) (m_number l dC dI k mo V (xs 1) (xs 2) h9) B mV_X12_number mw_2267 hl [0] [] rfl rfl ⟨by decide, by decide⟩ (by decide) (q0 := 0) rfl rfl rfl ⟨Nat.le_of_ble_eq_true rfl, Nat.le_of_ble_eq_true rfl⟩ (Nat.le_of_ble_eq_true rfl) rfl dL_law_1328 ⟨Nat.le_of_ble_eq_true rfl, Nat.le_of_ble_eq_true rfl⟩ (fun r w H locs hp B => ?_)
  obtain ⟨V1_1, z_2, rfl, rfl⟩ := hp
  have B := bd_to (ws' := [(mo, .inr (10, fvM V1_1))]) rfl B
  refine lv_istore (lv' := [(6, .int 0), (5, .int 1), (4, .int 0), (3, .ref ou), (2, .ref mo), (1, .ref gx), (0, .ref b)]) hx hb dL_law_1331 hl (by decide) rfl (fun ls hl => ?_)
  refine lv_aload_n hx hb dL_law_1333 rfl (lv_at hl 4 rfl) ?_
  refine x_callV (rest := []) (wr := []) (m_thrown l dC dI k mo V1_1 1 z_2) B mV_X12_thrown mw_2144 hl [0] [] rfl rfl ⟨by decide, by decide⟩ (by decide) (q0 := 0) rfl rfl rfl ⟨Nat.le_of_ble_eq_true rfl, Nat.le_of_ble_eq_true rfl⟩ (Nat.le_of_ble_eq_true rfl) rfl dL_law_1334 ⟨Nat.le_of_ble_eq_true rfl, Nat.le_of_ble_eq_true rfl⟩ (fun r w H locs hp B => ?_)
  obtain ⟨rfl, rfl⟩ := hp
  have B := bd_to (ws' := [(mo, .inr (10, fvM V1_1))]) rfl B
  refine lv_iload hx hb dL_law_1337 (lv_at hl 1 rfl) ?_
  refine lv_icmp_eq (tgt := 1344) hx hb dL_law_1339 (by decide) (fun _ => ?_) (fun c9 => absurd (by decide) c9)
  refine lv_iload hx hb dL_law_1344 (lv_at hl 1 rfl) ?_
  refine lv_if_ne (tgt := 1361) hx hb dL_law_1346 (by decide) (fun _ => ?_) (fun c9 => absurd c9 (by decide))
  refine lv_goto (tgt := 2809) hx hb dL_law_1361 (by decide) ?_
  exact law_end hX hbl hr B (lv_sub hl [6, 2] rfl) (Nat.le_of_ble_eq_true rfl) (Nat.le_of_ble_eq_true rfl)

theorem mw_1308 : (Jvm.Cond.methodLink "GalleyforgeLaw" (202 : Nat) ({ cls := "GalleyforgeLaw", name := "columnWidth", desc := "(LGalleyforge;II[J)I" } : Jvm.MethodName)) ∈ gt := gt_at 1443 (by decide +kernel) (by decide +kernel)
theorem mw_1309 : (Jvm.Cond.static ({ cls := "GalleyforgeLaw", name := "columnWidth", desc := "(LGalleyforge;II[J)I" } : Jvm.MethodName)) ∈ gt := gt_at 1444 (by decide +kernel) (by decide +kernel)
theorem mw_1310 : (Jvm.Cond.codeWith ({ cls := "GalleyforgeLaw", name := "columnWidth", desc := "(LGalleyforge;II[J)I" } : Jvm.MethodName) method_19_code (5 : Nat) (Option.some Jvm.ClassFile.FieldType.int) [((0 : Nat), (10 : Nat), (13 : Nat), (13 : Nat))]) ∈ gt := gt_at 1445 (by decide +kernel) (by decide +kernel)
theorem mw_2294 : (Jvm.Cond.methodLink "GalleyforgeLaw" (204 : Nat) ({ cls := "GalleyforgeModel", name := "columnWidth", desc := "(II)I" } : Jvm.MethodName)) ∈ gt := gt_at 2429 (by decide +kernel) (by decide +kernel)
theorem mw_2295 : (Jvm.Cond.instanceMethod ({ cls := "GalleyforgeModel", name := "columnWidth", desc := "(II)I" } : Jvm.MethodName)) ∈ gt := gt_at 2430 (by decide +kernel) (by decide +kernel)
theorem mw_2296 : (Jvm.Cond.selects "GalleyforgeModel" ({ cls := "GalleyforgeModel", name := "columnWidth", desc := "(II)I" } : Jvm.MethodName) ({ cls := "GalleyforgeModel", name := "columnWidth", desc := "(II)I" } : Jvm.MethodName)) ∈ gt := gt_at 2431 (by decide +kernel) (by decide +kernel)
theorem mw_2297 : (Jvm.Cond.code ({ cls := "GalleyforgeModel", name := "columnWidth", desc := "(II)I" } : Jvm.MethodName) prog_14_method_46_code (4 : Nat) (Option.some Jvm.ClassFile.FieldType.int)) ∈ gt := gt_at 2432 (by decide +kernel) (by decide +kernel)
theorem mV_X12_columnWidth : mV yX12_columnWidth cX12_columnWidth 4 (some .int) 2 := ⟨⟨mw_2297, mw_13, by decide, by decide, by decide +kernel⟩, mw_2295, mw_2296⟩
theorem mW_L_columnWidth : mW yL_columnWidth cL_columnWidth 5 (some .int) [((0 : Nat), (10 : Nat), (13 : Nat), (13 : Nat))] 4 := ⟨⟨mw_1310, mw_0, by decide, by decide, by decide +kernel⟩, mw_1309⟩
theorem dL_law_1364 : decode cL_law 1364 = .ok (.aload_n 1, 1) := by decide +kernel
theorem dL_law_1365 : decode cL_law 1365 = .ok (.aload_n 0, 1) := by decide +kernel
theorem dL_law_1366 : decode cL_law 1366 = .ok (.iload 4, 2) := by decide +kernel
theorem dL_law_1368 : decode cL_law 1368 = .ok (.iconst 1, 1) := by decide +kernel
theorem dL_law_1369 : decode cL_law 1369 = .ok (.iadd, 1) := by decide +kernel
theorem dL_law_1370 : decode cL_law 1370 = .ok (.iaload, 1) := by decide +kernel
theorem dL_law_1371 : decode cL_law 1371 = .ok (.aload_n 0, 1) := by decide +kernel
theorem dL_law_1372 : decode cL_law 1372 = .ok (.iload 4, 2) := by decide +kernel
theorem dL_law_1374 : decode cL_law 1374 = .ok (.iconst 2, 1) := by decide +kernel
theorem dL_law_1375 : decode cL_law 1375 = .ok (.iadd, 1) := by decide +kernel
theorem dL_law_1376 : decode cL_law 1376 = .ok (.iaload, 1) := by decide +kernel
theorem dL_law_1377 : decode cL_law 1377 = .ok (.aload_n 3, 1) := by decide +kernel
theorem dL_law_1378 : decode cL_law 1378 = .ok (.invokestatic 202, 3) := by decide +kernel
theorem dL_law_1381 : decode cL_law 1381 = .ok (.istore 5, 2) := by decide +kernel
theorem dL_law_1383 : decode cL_law 1383 = .ok (.aload_n 2, 1) := by decide +kernel
theorem dL_law_1384 : decode cL_law 1384 = .ok (.aload_n 0, 1) := by decide +kernel
theorem dL_law_1385 : decode cL_law 1385 = .ok (.iload 4, 2) := by decide +kernel
theorem dL_law_1387 : decode cL_law 1387 = .ok (.iconst 1, 1) := by decide +kernel
theorem dL_law_1388 : decode cL_law 1388 = .ok (.iadd, 1) := by decide +kernel
theorem dL_law_1389 : decode cL_law 1389 = .ok (.iaload, 1) := by decide +kernel
theorem dL_law_1390 : decode cL_law 1390 = .ok (.aload_n 0, 1) := by decide +kernel
theorem dL_law_1391 : decode cL_law 1391 = .ok (.iload 4, 2) := by decide +kernel
theorem dL_law_1393 : decode cL_law 1393 = .ok (.iconst 2, 1) := by decide +kernel
theorem dL_law_1394 : decode cL_law 1394 = .ok (.iadd, 1) := by decide +kernel
theorem dL_law_1395 : decode cL_law 1395 = .ok (.iaload, 1) := by decide +kernel
theorem dL_law_1396 : decode cL_law 1396 = .ok (.invokevirtual 204, 3) := by decide +kernel
theorem dL_law_1399 : decode cL_law 1399 = .ok (.istore 6, 2) := by decide +kernel
theorem dL_law_1401 : decode cL_law 1401 = .ok (.aload_n 2, 1) := by decide +kernel
theorem dL_law_1402 : decode cL_law 1402 = .ok (.invokevirtual 142, 3) := by decide +kernel
theorem dL_law_1405 : decode cL_law 1405 = .ok (.iload 5, 2) := by decide +kernel
theorem dL_law_1407 : decode cL_law 1407 = .ok (.if_icmp .eq 5, 3) := by decide +kernel
theorem dL_law_1412 : decode cL_law 1412 = .ok (.iload 5, 2) := by decide +kernel
theorem dL_law_1414 : decode cL_law 1414 = .ok (.ifCond .ne 15, 3) := by decide +kernel
theorem dL_law_1429 : decode cL_law 1429 = .ok (.goto 1380, 3) := by decide +kernel
set_option maxHeartbeats 4000000 in
set_option maxRecDepth 100000 in
theorem law_columnWidth (l : Launch) (hl0 : l.stackTraces = false) (dC : Nat → ClassId) (dI : Nat → Nat → Nat) (k : Nat → ClassId) {p : Program} {e : Env} {s : State} {m : MethodId} {below : List Frame} {meth : Method} {c : Code} {b : Nat} {xs : Nat → Int32} (hX : va_X b 7 xs s s.heap) (hbl : b < s.heap.size) (hr : meth.sig.returnType = ret) {H : Heap} {locs : List Loc} {ls : Array Slot} (gx : Nat) (T : Nat) (LA : Nat) (sp : Nat) (dr : Nat) (bl : Nat) (pt : Nat) (fk : Nat) (fh : Nat) (ky : Nat) (ou : Nat) (mo : Nat) (V : Nat → Value) (h9 : V 9 = .int 0) (B : bd p s m #[Value.ref b] meth c cL_law 8 "GalleyforgeLaw" dC dI k (fun q => s.heap.size ≤ q) [(gx, .inr (9, [.ref T, .ref LA, .ref sp, .int 0, .ref dr])), (T, .inr (8, [.ref bl, .ref pt, .ref fk, .ref fh, .int 0, .ref ky, .int 60, .int 12])), (bl, .inr (11, [.int 0, .ref (dI 99 1), .int 0])), (ou, .inl (k 2, 1, .inr (.inl (fun _ => 0)))), (mo, .inr (10, fvM V))] H locs) (hl : lv_has ls 8 [(4, .int 0), (3, .ref ou), (2, .ref mo), (1, .ref gx), (0, .ref b)]) : W p l e room_1 s m #[Value.ref b] below meth c H locs 157 183312 (lw_Z below #[Value.ref b] s) (F0 m 1364 ls []) := by
  have hx := B.1.1
  have hb := B.1.2.1
  refine lv_aload_n hx hb dL_law_1364 rfl (lv_at hl 3 rfl) ?_
  refine lv_aload_n hx hb dL_law_1365 rfl (lv_at hl 4 rfl) ?_
  refine lv_iload hx hb dL_law_1366 (lv_at hl 0 rfl) ?_
  refine lv_iconst (v := 1) hx hb dL_law_1368 (by decide) ?_
  refine lv_iadd hx hb dL_law_1369 ?_
  refine lv_seti (y := 1) (by decide) ?_
  refine va_sld hx hb hX hbl (Nat.not_le.mpr hbl) B.2.2.2.2.2 (vpc (by decide)) dL_law_1370 ?_
  refine lv_seti (y := xs 1) rfl ?_
  refine lv_aload_n hx hb dL_law_1371 rfl (lv_at hl 4 rfl) ?_
  refine lv_iload hx hb dL_law_1372 (lv_at hl 0 rfl) ?_
  refine lv_iconst (v := 2) hx hb dL_law_1374 (by decide) ?_
  refine lv_iadd hx hb dL_law_1375 ?_
  refine lv_seti (y := 2) (by decide) ?_
  refine va_sld hx hb hX hbl (Nat.not_le.mpr hbl) B.2.2.2.2.2 (vpc (by decide)) dL_law_1376 ?_
  refine lv_seti (y := xs 2) rfl ?_
  refine lv_aload_n hx hb dL_law_1377 rfl (lv_at hl 1 rfl) ?_
  refine x_callW (rest := []) (wr := [(mo, .inr (10, fvM V))]) (w_columnWidth l dC dI k hl0 gx T LA sp dr bl pt fk fh ky (xs 1) (xs 2) ou) B mW_L_columnWidth mw_1308 hl [0, 1, 2, 3] [4] rfl rfl ⟨by decide, by decide⟩ (by decide) ⟨Nat.le_of_ble_eq_true rfl, Nat.le_of_ble_eq_true rfl⟩ (Nat.le_of_ble_eq_true rfl) rfl dL_law_1378 ⟨Nat.le_of_ble_eq_true rfl, Nat.le_of_ble_eq_true rfl⟩ (fun r w H locs hp B => ?_)
  obtain ⟨rfl, rfl⟩ := hp
  have B := bd_to (ws' := [(mo, .inr (10, fvM V))]) rfl B
  refine lv_istore (lv' := [(5, .int 1), (4, .int 0), (3, .ref ou), (2, .ref mo), (1, .ref gx), (0, .ref b)]) hx hb dL_law_1381 hl (by decide) rfl (fun ls hl => ?_)
  refine lv_aload_n hx hb dL_law_1383 rfl (lv_at hl 3 rfl) ?_
  refine lv_aload_n hx hb dL_law_1384 rfl (lv_at hl 5 rfl) ?_
  refine lv_iload hx hb dL_law_1385 (lv_at hl 1 rfl) ?_
  refine lv_iconst (v := 1) hx hb dL_law_1387 (by decide) ?_
  refine lv_iadd hx hb dL_law_1388 ?_
  refine lv_seti (y := 1) (by decide) ?_
  refine va_sld hx hb hX hbl (Nat.not_le.mpr hbl) B.2.2.2.2.2 (vpc (by decide)) dL_law_1389 ?_
  refine lv_seti (y := xs 1) rfl ?_
  refine lv_aload_n hx hb dL_law_1390 rfl (lv_at hl 5 rfl) ?_
  refine lv_iload hx hb dL_law_1391 (lv_at hl 1 rfl) ?_
  refine lv_iconst (v := 2) hx hb dL_law_1393 (by decide) ?_
  refine lv_iadd hx hb dL_law_1394 ?_
  refine lv_seti (y := 2) (by decide) ?_
  refine va_sld hx hb hX hbl (Nat.not_le.mpr hbl) B.2.2.2.2.2 (vpc (by decide)) dL_law_1395 ?_
  refine lv_seti (y := xs 2) rfl ?_
  refine x_callV (rest := []) (wr := []) (m_columnWidth l dC dI k mo V (xs 1) (xs 2) h9) B mV_X12_columnWidth mw_2294 hl [0] [] rfl rfl ⟨by decide, by decide⟩ (by decide) (q0 := 0) rfl rfl rfl ⟨Nat.le_of_ble_eq_true rfl, Nat.le_of_ble_eq_true rfl⟩ (Nat.le_of_ble_eq_true rfl) rfl dL_law_1396 ⟨Nat.le_of_ble_eq_true rfl, Nat.le_of_ble_eq_true rfl⟩ (fun r w H locs hp B => ?_)
  obtain ⟨V1_1, z_2, rfl, rfl⟩ := hp
  have B := bd_to (ws' := [(mo, .inr (10, fvM V1_1))]) rfl B
  refine lv_istore (lv' := [(6, .int 0), (5, .int 1), (4, .int 0), (3, .ref ou), (2, .ref mo), (1, .ref gx), (0, .ref b)]) hx hb dL_law_1399 hl (by decide) rfl (fun ls hl => ?_)
  refine lv_aload_n hx hb dL_law_1401 rfl (lv_at hl 4 rfl) ?_
  refine x_callV (rest := []) (wr := []) (m_thrown l dC dI k mo V1_1 1 z_2) B mV_X12_thrown mw_2144 hl [0] [] rfl rfl ⟨by decide, by decide⟩ (by decide) (q0 := 0) rfl rfl rfl ⟨Nat.le_of_ble_eq_true rfl, Nat.le_of_ble_eq_true rfl⟩ (Nat.le_of_ble_eq_true rfl) rfl dL_law_1402 ⟨Nat.le_of_ble_eq_true rfl, Nat.le_of_ble_eq_true rfl⟩ (fun r w H locs hp B => ?_)
  obtain ⟨rfl, rfl⟩ := hp
  have B := bd_to (ws' := [(mo, .inr (10, fvM V1_1))]) rfl B
  refine lv_iload hx hb dL_law_1405 (lv_at hl 1 rfl) ?_
  refine lv_icmp_eq (tgt := 1412) hx hb dL_law_1407 (by decide) (fun _ => ?_) (fun c9 => absurd (by decide) c9)
  refine lv_iload hx hb dL_law_1412 (lv_at hl 1 rfl) ?_
  refine lv_if_ne (tgt := 1429) hx hb dL_law_1414 (by decide) (fun _ => ?_) (fun c9 => absurd c9 (by decide))
  refine lv_goto (tgt := 2809) hx hb dL_law_1429 (by decide) ?_
  exact law_end hX hbl hr B (lv_sub hl [6, 2] rfl) (Nat.le_of_ble_eq_true rfl) (Nat.le_of_ble_eq_true rfl)

theorem mw_1347 : (Jvm.Cond.methodLink "GalleyforgeLaw" (205 : Nat) ({ cls := "GalleyforgeLaw", name := "rowHeight", desc := "(LGalleyforge;II[J)I" } : Jvm.MethodName)) ∈ gt := gt_at 1482 (by decide +kernel) (by decide +kernel)
theorem mw_1348 : (Jvm.Cond.static ({ cls := "GalleyforgeLaw", name := "rowHeight", desc := "(LGalleyforge;II[J)I" } : Jvm.MethodName)) ∈ gt := gt_at 1483 (by decide +kernel) (by decide +kernel)
theorem mw_1349 : (Jvm.Cond.codeWith ({ cls := "GalleyforgeLaw", name := "rowHeight", desc := "(LGalleyforge;II[J)I" } : Jvm.MethodName) method_20_code (5 : Nat) (Option.some Jvm.ClassFile.FieldType.int) [((0 : Nat), (10 : Nat), (13 : Nat), (13 : Nat))]) ∈ gt := gt_at 1484 (by decide +kernel) (by decide +kernel)
theorem mw_2313 : (Jvm.Cond.methodLink "GalleyforgeLaw" (207 : Nat) ({ cls := "GalleyforgeModel", name := "rowHeight", desc := "(II)I" } : Jvm.MethodName)) ∈ gt := gt_at 2448 (by decide +kernel) (by decide +kernel)
theorem mw_2314 : (Jvm.Cond.instanceMethod ({ cls := "GalleyforgeModel", name := "rowHeight", desc := "(II)I" } : Jvm.MethodName)) ∈ gt := gt_at 2449 (by decide +kernel) (by decide +kernel)
theorem mw_2315 : (Jvm.Cond.selects "GalleyforgeModel" ({ cls := "GalleyforgeModel", name := "rowHeight", desc := "(II)I" } : Jvm.MethodName) ({ cls := "GalleyforgeModel", name := "rowHeight", desc := "(II)I" } : Jvm.MethodName)) ∈ gt := gt_at 2450 (by decide +kernel) (by decide +kernel)
theorem mw_2316 : (Jvm.Cond.code ({ cls := "GalleyforgeModel", name := "rowHeight", desc := "(II)I" } : Jvm.MethodName) prog_14_method_47_code (4 : Nat) (Option.some Jvm.ClassFile.FieldType.int)) ∈ gt := gt_at 2451 (by decide +kernel) (by decide +kernel)
theorem mV_X12_rowHeight : mV yX12_rowHeight cX12_rowHeight 4 (some .int) 2 := ⟨⟨mw_2316, mw_13, by decide, by decide, by decide +kernel⟩, mw_2314, mw_2315⟩
theorem mW_L_rowHeight : mW yL_rowHeight cL_rowHeight 5 (some .int) [((0 : Nat), (10 : Nat), (13 : Nat), (13 : Nat))] 4 := ⟨⟨mw_1349, mw_0, by decide, by decide, by decide +kernel⟩, mw_1348⟩
theorem dL_law_1432 : decode cL_law 1432 = .ok (.aload_n 1, 1) := by decide +kernel
theorem dL_law_1433 : decode cL_law 1433 = .ok (.aload_n 0, 1) := by decide +kernel
theorem dL_law_1434 : decode cL_law 1434 = .ok (.iload 4, 2) := by decide +kernel
theorem dL_law_1436 : decode cL_law 1436 = .ok (.iconst 1, 1) := by decide +kernel
theorem dL_law_1437 : decode cL_law 1437 = .ok (.iadd, 1) := by decide +kernel
theorem dL_law_1438 : decode cL_law 1438 = .ok (.iaload, 1) := by decide +kernel
theorem dL_law_1439 : decode cL_law 1439 = .ok (.aload_n 0, 1) := by decide +kernel
theorem dL_law_1440 : decode cL_law 1440 = .ok (.iload 4, 2) := by decide +kernel
theorem dL_law_1442 : decode cL_law 1442 = .ok (.iconst 2, 1) := by decide +kernel
theorem dL_law_1443 : decode cL_law 1443 = .ok (.iadd, 1) := by decide +kernel
theorem dL_law_1444 : decode cL_law 1444 = .ok (.iaload, 1) := by decide +kernel
theorem dL_law_1445 : decode cL_law 1445 = .ok (.aload_n 3, 1) := by decide +kernel
theorem dL_law_1446 : decode cL_law 1446 = .ok (.invokestatic 205, 3) := by decide +kernel
theorem dL_law_1449 : decode cL_law 1449 = .ok (.istore 5, 2) := by decide +kernel
theorem dL_law_1451 : decode cL_law 1451 = .ok (.aload_n 2, 1) := by decide +kernel
theorem dL_law_1452 : decode cL_law 1452 = .ok (.aload_n 0, 1) := by decide +kernel
theorem dL_law_1453 : decode cL_law 1453 = .ok (.iload 4, 2) := by decide +kernel
theorem dL_law_1455 : decode cL_law 1455 = .ok (.iconst 1, 1) := by decide +kernel
theorem dL_law_1456 : decode cL_law 1456 = .ok (.iadd, 1) := by decide +kernel
theorem dL_law_1457 : decode cL_law 1457 = .ok (.iaload, 1) := by decide +kernel
theorem dL_law_1458 : decode cL_law 1458 = .ok (.aload_n 0, 1) := by decide +kernel
theorem dL_law_1459 : decode cL_law 1459 = .ok (.iload 4, 2) := by decide +kernel
theorem dL_law_1461 : decode cL_law 1461 = .ok (.iconst 2, 1) := by decide +kernel
theorem dL_law_1462 : decode cL_law 1462 = .ok (.iadd, 1) := by decide +kernel
theorem dL_law_1463 : decode cL_law 1463 = .ok (.iaload, 1) := by decide +kernel
theorem dL_law_1464 : decode cL_law 1464 = .ok (.invokevirtual 207, 3) := by decide +kernel
theorem dL_law_1467 : decode cL_law 1467 = .ok (.istore 6, 2) := by decide +kernel
theorem dL_law_1469 : decode cL_law 1469 = .ok (.aload_n 2, 1) := by decide +kernel
theorem dL_law_1470 : decode cL_law 1470 = .ok (.invokevirtual 142, 3) := by decide +kernel
theorem dL_law_1473 : decode cL_law 1473 = .ok (.iload 5, 2) := by decide +kernel
theorem dL_law_1475 : decode cL_law 1475 = .ok (.if_icmp .eq 5, 3) := by decide +kernel
theorem dL_law_1480 : decode cL_law 1480 = .ok (.iload 5, 2) := by decide +kernel
theorem dL_law_1482 : decode cL_law 1482 = .ok (.ifCond .ne 15, 3) := by decide +kernel
theorem dL_law_1497 : decode cL_law 1497 = .ok (.goto 1312, 3) := by decide +kernel
set_option maxHeartbeats 4000000 in
set_option maxRecDepth 100000 in
theorem law_rowHeight (l : Launch) (hl0 : l.stackTraces = false) (dC : Nat → ClassId) (dI : Nat → Nat → Nat) (k : Nat → ClassId) {p : Program} {e : Env} {s : State} {m : MethodId} {below : List Frame} {meth : Method} {c : Code} {b : Nat} {xs : Nat → Int32} (hX : va_X b 7 xs s s.heap) (hbl : b < s.heap.size) (hr : meth.sig.returnType = ret) {H : Heap} {locs : List Loc} {ls : Array Slot} (gx : Nat) (T : Nat) (LA : Nat) (sp : Nat) (dr : Nat) (bl : Nat) (pt : Nat) (fk : Nat) (fh : Nat) (ky : Nat) (ou : Nat) (mo : Nat) (V : Nat → Value) (h9 : V 9 = .int 0) (B : bd p s m #[Value.ref b] meth c cL_law 8 "GalleyforgeLaw" dC dI k (fun q => s.heap.size ≤ q) [(gx, .inr (9, [.ref T, .ref LA, .ref sp, .int 0, .ref dr])), (T, .inr (8, [.ref bl, .ref pt, .ref fk, .ref fh, .int 0, .ref ky, .int 60, .int 12])), (bl, .inr (11, [.int 0, .ref (dI 99 1), .int 0])), (ou, .inl (k 2, 1, .inr (.inl (fun _ => 0)))), (mo, .inr (10, fvM V))] H locs) (hl : lv_has ls 8 [(4, .int 0), (3, .ref ou), (2, .ref mo), (1, .ref gx), (0, .ref b)]) : W p l e room_1 s m #[Value.ref b] below meth c H locs 157 183312 (lw_Z below #[Value.ref b] s) (F0 m 1432 ls []) := by
  have hx := B.1.1
  have hb := B.1.2.1
  refine lv_aload_n hx hb dL_law_1432 rfl (lv_at hl 3 rfl) ?_
  refine lv_aload_n hx hb dL_law_1433 rfl (lv_at hl 4 rfl) ?_
  refine lv_iload hx hb dL_law_1434 (lv_at hl 0 rfl) ?_
  refine lv_iconst (v := 1) hx hb dL_law_1436 (by decide) ?_
  refine lv_iadd hx hb dL_law_1437 ?_
  refine lv_seti (y := 1) (by decide) ?_
  refine va_sld hx hb hX hbl (Nat.not_le.mpr hbl) B.2.2.2.2.2 (vpc (by decide)) dL_law_1438 ?_
  refine lv_seti (y := xs 1) rfl ?_
  refine lv_aload_n hx hb dL_law_1439 rfl (lv_at hl 4 rfl) ?_
  refine lv_iload hx hb dL_law_1440 (lv_at hl 0 rfl) ?_
  refine lv_iconst (v := 2) hx hb dL_law_1442 (by decide) ?_
  refine lv_iadd hx hb dL_law_1443 ?_
  refine lv_seti (y := 2) (by decide) ?_
  refine va_sld hx hb hX hbl (Nat.not_le.mpr hbl) B.2.2.2.2.2 (vpc (by decide)) dL_law_1444 ?_
  refine lv_seti (y := xs 2) rfl ?_
  refine lv_aload_n hx hb dL_law_1445 rfl (lv_at hl 1 rfl) ?_
  refine x_callW (rest := []) (wr := [(mo, .inr (10, fvM V))]) (w_rowHeight l dC dI k hl0 gx T LA sp dr bl pt fk fh ky (xs 1) (xs 2) ou) B mW_L_rowHeight mw_1347 hl [0, 1, 2, 3] [4] rfl rfl ⟨by decide, by decide⟩ (by decide) ⟨Nat.le_of_ble_eq_true rfl, Nat.le_of_ble_eq_true rfl⟩ (Nat.le_of_ble_eq_true rfl) rfl dL_law_1446 ⟨Nat.le_of_ble_eq_true rfl, Nat.le_of_ble_eq_true rfl⟩ (fun r w H locs hp B => ?_)
  obtain ⟨rfl, rfl⟩ := hp
  have B := bd_to (ws' := [(mo, .inr (10, fvM V))]) rfl B
  refine lv_istore (lv' := [(5, .int 1), (4, .int 0), (3, .ref ou), (2, .ref mo), (1, .ref gx), (0, .ref b)]) hx hb dL_law_1449 hl (by decide) rfl (fun ls hl => ?_)
  refine lv_aload_n hx hb dL_law_1451 rfl (lv_at hl 3 rfl) ?_
  refine lv_aload_n hx hb dL_law_1452 rfl (lv_at hl 5 rfl) ?_
  refine lv_iload hx hb dL_law_1453 (lv_at hl 1 rfl) ?_
  refine lv_iconst (v := 1) hx hb dL_law_1455 (by decide) ?_
  refine lv_iadd hx hb dL_law_1456 ?_
  refine lv_seti (y := 1) (by decide) ?_
  refine va_sld hx hb hX hbl (Nat.not_le.mpr hbl) B.2.2.2.2.2 (vpc (by decide)) dL_law_1457 ?_
  refine lv_seti (y := xs 1) rfl ?_
  refine lv_aload_n hx hb dL_law_1458 rfl (lv_at hl 5 rfl) ?_
  refine lv_iload hx hb dL_law_1459 (lv_at hl 1 rfl) ?_
  refine lv_iconst (v := 2) hx hb dL_law_1461 (by decide) ?_
  refine lv_iadd hx hb dL_law_1462 ?_
  refine lv_seti (y := 2) (by decide) ?_
  refine va_sld hx hb hX hbl (Nat.not_le.mpr hbl) B.2.2.2.2.2 (vpc (by decide)) dL_law_1463 ?_
  refine lv_seti (y := xs 2) rfl ?_
  refine x_callV (rest := []) (wr := []) (m_rowHeight l dC dI k mo V (xs 1) (xs 2) h9) B mV_X12_rowHeight mw_2313 hl [0] [] rfl rfl ⟨by decide, by decide⟩ (by decide) (q0 := 0) rfl rfl rfl ⟨Nat.le_of_ble_eq_true rfl, Nat.le_of_ble_eq_true rfl⟩ (Nat.le_of_ble_eq_true rfl) rfl dL_law_1464 ⟨Nat.le_of_ble_eq_true rfl, Nat.le_of_ble_eq_true rfl⟩ (fun r w H locs hp B => ?_)
  obtain ⟨V1_1, z_2, rfl, rfl⟩ := hp
  have B := bd_to (ws' := [(mo, .inr (10, fvM V1_1))]) rfl B
  refine lv_istore (lv' := [(6, .int 0), (5, .int 1), (4, .int 0), (3, .ref ou), (2, .ref mo), (1, .ref gx), (0, .ref b)]) hx hb dL_law_1467 hl (by decide) rfl (fun ls hl => ?_)
  refine lv_aload_n hx hb dL_law_1469 rfl (lv_at hl 4 rfl) ?_
  refine x_callV (rest := []) (wr := []) (m_thrown l dC dI k mo V1_1 1 z_2) B mV_X12_thrown mw_2144 hl [0] [] rfl rfl ⟨by decide, by decide⟩ (by decide) (q0 := 0) rfl rfl rfl ⟨Nat.le_of_ble_eq_true rfl, Nat.le_of_ble_eq_true rfl⟩ (Nat.le_of_ble_eq_true rfl) rfl dL_law_1470 ⟨Nat.le_of_ble_eq_true rfl, Nat.le_of_ble_eq_true rfl⟩ (fun r w H locs hp B => ?_)
  obtain ⟨rfl, rfl⟩ := hp
  have B := bd_to (ws' := [(mo, .inr (10, fvM V1_1))]) rfl B
  refine lv_iload hx hb dL_law_1473 (lv_at hl 1 rfl) ?_
  refine lv_icmp_eq (tgt := 1480) hx hb dL_law_1475 (by decide) (fun _ => ?_) (fun c9 => absurd (by decide) c9)
  refine lv_iload hx hb dL_law_1480 (lv_at hl 1 rfl) ?_
  refine lv_if_ne (tgt := 1497) hx hb dL_law_1482 (by decide) (fun _ => ?_) (fun c9 => absurd c9 (by decide))
  refine lv_goto (tgt := 2809) hx hb dL_law_1497 (by decide) ?_
  exact law_end hX hbl hr B (lv_sub hl [6, 2] rfl) (Nat.le_of_ble_eq_true rfl) (Nat.le_of_ble_eq_true rfl)

theorem mw_1359 : (Jvm.Cond.methodLink "GalleyforgeLaw" (208 : Nat) ({ cls := "GalleyforgeLaw", name := "lines", desc := "(LGalleyforge;II[J)I" } : Jvm.MethodName)) ∈ gt := gt_at 1494 (by decide +kernel) (by decide +kernel)
theorem mw_1360 : (Jvm.Cond.static ({ cls := "GalleyforgeLaw", name := "lines", desc := "(LGalleyforge;II[J)I" } : Jvm.MethodName)) ∈ gt := gt_at 1495 (by decide +kernel) (by decide +kernel)
theorem mw_1361 : (Jvm.Cond.codeWith ({ cls := "GalleyforgeLaw", name := "lines", desc := "(LGalleyforge;II[J)I" } : Jvm.MethodName) method_21_code (5 : Nat) (Option.some Jvm.ClassFile.FieldType.int) [((0 : Nat), (10 : Nat), (13 : Nat), (13 : Nat))]) ∈ gt := gt_at 1496 (by decide +kernel) (by decide +kernel)
theorem mw_2321 : (Jvm.Cond.methodLink "GalleyforgeLaw" (210 : Nat) ({ cls := "GalleyforgeModel", name := "lines", desc := "(II)I" } : Jvm.MethodName)) ∈ gt := gt_at 2456 (by decide +kernel) (by decide +kernel)
theorem mw_2322 : (Jvm.Cond.instanceMethod ({ cls := "GalleyforgeModel", name := "lines", desc := "(II)I" } : Jvm.MethodName)) ∈ gt := gt_at 2457 (by decide +kernel) (by decide +kernel)
theorem mw_2323 : (Jvm.Cond.selects "GalleyforgeModel" ({ cls := "GalleyforgeModel", name := "lines", desc := "(II)I" } : Jvm.MethodName) ({ cls := "GalleyforgeModel", name := "lines", desc := "(II)I" } : Jvm.MethodName)) ∈ gt := gt_at 2458 (by decide +kernel) (by decide +kernel)
theorem mw_2324 : (Jvm.Cond.code ({ cls := "GalleyforgeModel", name := "lines", desc := "(II)I" } : Jvm.MethodName) prog_14_method_90_code (3 : Nat) (Option.some Jvm.ClassFile.FieldType.int)) ∈ gt := gt_at 2459 (by decide +kernel) (by decide +kernel)
theorem mV_X12_lines : mV yX12_lines cX12_lines 3 (some .int) 2 := ⟨⟨mw_2324, mw_13, by decide, by decide, by decide +kernel⟩, mw_2322, mw_2323⟩
theorem mW_L_lines : mW yL_lines cL_lines 5 (some .int) [((0 : Nat), (10 : Nat), (13 : Nat), (13 : Nat))] 4 := ⟨⟨mw_1361, mw_0, by decide, by decide, by decide +kernel⟩, mw_1360⟩
theorem dL_law_1500 : decode cL_law 1500 = .ok (.aload_n 1, 1) := by decide +kernel
theorem dL_law_1501 : decode cL_law 1501 = .ok (.aload_n 0, 1) := by decide +kernel
theorem dL_law_1502 : decode cL_law 1502 = .ok (.iload 4, 2) := by decide +kernel
theorem dL_law_1504 : decode cL_law 1504 = .ok (.iconst 1, 1) := by decide +kernel
theorem dL_law_1505 : decode cL_law 1505 = .ok (.iadd, 1) := by decide +kernel
theorem dL_law_1506 : decode cL_law 1506 = .ok (.iaload, 1) := by decide +kernel
theorem dL_law_1507 : decode cL_law 1507 = .ok (.aload_n 0, 1) := by decide +kernel
theorem dL_law_1508 : decode cL_law 1508 = .ok (.iload 4, 2) := by decide +kernel
theorem dL_law_1510 : decode cL_law 1510 = .ok (.iconst 2, 1) := by decide +kernel
theorem dL_law_1511 : decode cL_law 1511 = .ok (.iadd, 1) := by decide +kernel
theorem dL_law_1512 : decode cL_law 1512 = .ok (.iaload, 1) := by decide +kernel
theorem dL_law_1513 : decode cL_law 1513 = .ok (.aload_n 3, 1) := by decide +kernel
theorem dL_law_1514 : decode cL_law 1514 = .ok (.invokestatic 208, 3) := by decide +kernel
theorem dL_law_1517 : decode cL_law 1517 = .ok (.istore 5, 2) := by decide +kernel
theorem dL_law_1519 : decode cL_law 1519 = .ok (.aload_n 2, 1) := by decide +kernel
theorem dL_law_1520 : decode cL_law 1520 = .ok (.aload_n 0, 1) := by decide +kernel
theorem dL_law_1521 : decode cL_law 1521 = .ok (.iload 4, 2) := by decide +kernel
theorem dL_law_1523 : decode cL_law 1523 = .ok (.iconst 1, 1) := by decide +kernel
theorem dL_law_1524 : decode cL_law 1524 = .ok (.iadd, 1) := by decide +kernel
theorem dL_law_1525 : decode cL_law 1525 = .ok (.iaload, 1) := by decide +kernel
theorem dL_law_1526 : decode cL_law 1526 = .ok (.aload_n 0, 1) := by decide +kernel
theorem dL_law_1527 : decode cL_law 1527 = .ok (.iload 4, 2) := by decide +kernel
theorem dL_law_1529 : decode cL_law 1529 = .ok (.iconst 2, 1) := by decide +kernel
theorem dL_law_1530 : decode cL_law 1530 = .ok (.iadd, 1) := by decide +kernel
theorem dL_law_1531 : decode cL_law 1531 = .ok (.iaload, 1) := by decide +kernel
theorem dL_law_1532 : decode cL_law 1532 = .ok (.invokevirtual 210, 3) := by decide +kernel
theorem dL_law_1535 : decode cL_law 1535 = .ok (.istore 6, 2) := by decide +kernel
theorem dL_law_1537 : decode cL_law 1537 = .ok (.aload_n 2, 1) := by decide +kernel
theorem dL_law_1538 : decode cL_law 1538 = .ok (.invokevirtual 142, 3) := by decide +kernel
theorem dL_law_1541 : decode cL_law 1541 = .ok (.iload 5, 2) := by decide +kernel
theorem dL_law_1543 : decode cL_law 1543 = .ok (.if_icmp .eq 5, 3) := by decide +kernel
theorem dL_law_1548 : decode cL_law 1548 = .ok (.iload 5, 2) := by decide +kernel
theorem dL_law_1550 : decode cL_law 1550 = .ok (.ifCond .ne 15, 3) := by decide +kernel
theorem dL_law_1565 : decode cL_law 1565 = .ok (.goto 1244, 3) := by decide +kernel
set_option maxHeartbeats 4000000 in
set_option maxRecDepth 100000 in
theorem law_lines (l : Launch) (hl0 : l.stackTraces = false) (dC : Nat → ClassId) (dI : Nat → Nat → Nat) (k : Nat → ClassId) {p : Program} {e : Env} {s : State} {m : MethodId} {below : List Frame} {meth : Method} {c : Code} {b : Nat} {xs : Nat → Int32} (hX : va_X b 7 xs s s.heap) (hbl : b < s.heap.size) (hr : meth.sig.returnType = ret) {H : Heap} {locs : List Loc} {ls : Array Slot} (gx : Nat) (T : Nat) (LA : Nat) (sp : Nat) (dr : Nat) (bl : Nat) (pt : Nat) (fk : Nat) (fh : Nat) (ky : Nat) (ou : Nat) (mo : Nat) (V : Nat → Value) (h9 : V 9 = .int 0) (B : bd p s m #[Value.ref b] meth c cL_law 8 "GalleyforgeLaw" dC dI k (fun q => s.heap.size ≤ q) [(gx, .inr (9, [.ref T, .ref LA, .ref sp, .int 0, .ref dr])), (T, .inr (8, [.ref bl, .ref pt, .ref fk, .ref fh, .int 0, .ref ky, .int 60, .int 12])), (bl, .inr (11, [.int 0, .ref (dI 99 1), .int 0])), (ou, .inl (k 2, 1, .inr (.inl (fun _ => 0)))), (mo, .inr (10, fvM V))] H locs) (hl : lv_has ls 8 [(4, .int 0), (3, .ref ou), (2, .ref mo), (1, .ref gx), (0, .ref b)]) : W p l e room_1 s m #[Value.ref b] below meth c H locs 157 183312 (lw_Z below #[Value.ref b] s) (F0 m 1500 ls []) := by
  have hx := B.1.1
  have hb := B.1.2.1
  refine lv_aload_n hx hb dL_law_1500 rfl (lv_at hl 3 rfl) ?_
  refine lv_aload_n hx hb dL_law_1501 rfl (lv_at hl 4 rfl) ?_
  refine lv_iload hx hb dL_law_1502 (lv_at hl 0 rfl) ?_
  refine lv_iconst (v := 1) hx hb dL_law_1504 (by decide) ?_
  refine lv_iadd hx hb dL_law_1505 ?_
  refine lv_seti (y := 1) (by decide) ?_
  refine va_sld hx hb hX hbl (Nat.not_le.mpr hbl) B.2.2.2.2.2 (vpc (by decide)) dL_law_1506 ?_
  refine lv_seti (y := xs 1) rfl ?_
  refine lv_aload_n hx hb dL_law_1507 rfl (lv_at hl 4 rfl) ?_
  refine lv_iload hx hb dL_law_1508 (lv_at hl 0 rfl) ?_
  refine lv_iconst (v := 2) hx hb dL_law_1510 (by decide) ?_
  refine lv_iadd hx hb dL_law_1511 ?_
  refine lv_seti (y := 2) (by decide) ?_
  refine va_sld hx hb hX hbl (Nat.not_le.mpr hbl) B.2.2.2.2.2 (vpc (by decide)) dL_law_1512 ?_
  refine lv_seti (y := xs 2) rfl ?_
  refine lv_aload_n hx hb dL_law_1513 rfl (lv_at hl 1 rfl) ?_
  refine x_callW (rest := []) (wr := [(mo, .inr (10, fvM V))]) (w_lines l dC dI k hl0 gx T LA sp dr bl pt fk fh ky (xs 1) (xs 2) ou) B mW_L_lines mw_1359 hl [0, 1, 2, 3] [4] rfl rfl ⟨by decide, by decide⟩ (by decide) ⟨Nat.le_of_ble_eq_true rfl, Nat.le_of_ble_eq_true rfl⟩ (Nat.le_of_ble_eq_true rfl) rfl dL_law_1514 ⟨Nat.le_of_ble_eq_true rfl, Nat.le_of_ble_eq_true rfl⟩ (fun r w H locs hp B => ?_)
  obtain ⟨rfl, rfl⟩ := hp
  have B := bd_to (ws' := [(mo, .inr (10, fvM V))]) rfl B
  refine lv_istore (lv' := [(5, .int 1), (4, .int 0), (3, .ref ou), (2, .ref mo), (1, .ref gx), (0, .ref b)]) hx hb dL_law_1517 hl (by decide) rfl (fun ls hl => ?_)
  refine lv_aload_n hx hb dL_law_1519 rfl (lv_at hl 3 rfl) ?_
  refine lv_aload_n hx hb dL_law_1520 rfl (lv_at hl 5 rfl) ?_
  refine lv_iload hx hb dL_law_1521 (lv_at hl 1 rfl) ?_
  refine lv_iconst (v := 1) hx hb dL_law_1523 (by decide) ?_
  refine lv_iadd hx hb dL_law_1524 ?_
  refine lv_seti (y := 1) (by decide) ?_
  refine va_sld hx hb hX hbl (Nat.not_le.mpr hbl) B.2.2.2.2.2 (vpc (by decide)) dL_law_1525 ?_
  refine lv_seti (y := xs 1) rfl ?_
  refine lv_aload_n hx hb dL_law_1526 rfl (lv_at hl 5 rfl) ?_
  refine lv_iload hx hb dL_law_1527 (lv_at hl 1 rfl) ?_
  refine lv_iconst (v := 2) hx hb dL_law_1529 (by decide) ?_
  refine lv_iadd hx hb dL_law_1530 ?_
  refine lv_seti (y := 2) (by decide) ?_
  refine va_sld hx hb hX hbl (Nat.not_le.mpr hbl) B.2.2.2.2.2 (vpc (by decide)) dL_law_1531 ?_
  refine lv_seti (y := xs 2) rfl ?_
  refine x_callV (rest := []) (wr := []) (m_lines l dC dI k mo V (xs 1) (xs 2) h9) B mV_X12_lines mw_2321 hl [0] [] rfl rfl ⟨by decide, by decide⟩ (by decide) (q0 := 0) rfl rfl rfl ⟨Nat.le_of_ble_eq_true rfl, Nat.le_of_ble_eq_true rfl⟩ (Nat.le_of_ble_eq_true rfl) rfl dL_law_1532 ⟨Nat.le_of_ble_eq_true rfl, Nat.le_of_ble_eq_true rfl⟩ (fun r w H locs hp B => ?_)
  obtain ⟨V1_1, z_2, rfl, rfl⟩ := hp
  have B := bd_to (ws' := [(mo, .inr (10, fvM V1_1))]) rfl B
  refine lv_istore (lv' := [(6, .int 0), (5, .int 1), (4, .int 0), (3, .ref ou), (2, .ref mo), (1, .ref gx), (0, .ref b)]) hx hb dL_law_1535 hl (by decide) rfl (fun ls hl => ?_)
  refine lv_aload_n hx hb dL_law_1537 rfl (lv_at hl 4 rfl) ?_
  refine x_callV (rest := []) (wr := []) (m_thrown l dC dI k mo V1_1 1 z_2) B mV_X12_thrown mw_2144 hl [0] [] rfl rfl ⟨by decide, by decide⟩ (by decide) (q0 := 0) rfl rfl rfl ⟨Nat.le_of_ble_eq_true rfl, Nat.le_of_ble_eq_true rfl⟩ (Nat.le_of_ble_eq_true rfl) rfl dL_law_1538 ⟨Nat.le_of_ble_eq_true rfl, Nat.le_of_ble_eq_true rfl⟩ (fun r w H locs hp B => ?_)
  obtain ⟨rfl, rfl⟩ := hp
  have B := bd_to (ws' := [(mo, .inr (10, fvM V1_1))]) rfl B
  refine lv_iload hx hb dL_law_1541 (lv_at hl 1 rfl) ?_
  refine lv_icmp_eq (tgt := 1548) hx hb dL_law_1543 (by decide) (fun _ => ?_) (fun c9 => absurd (by decide) c9)
  refine lv_iload hx hb dL_law_1548 (lv_at hl 1 rfl) ?_
  refine lv_if_ne (tgt := 1565) hx hb dL_law_1550 (by decide) (fun _ => ?_) (fun c9 => absurd c9 (by decide))
  refine lv_goto (tgt := 2809) hx hb dL_law_1565 (by decide) ?_
  exact law_end hX hbl hr B (lv_sub hl [6, 2] rfl) (Nat.le_of_ble_eq_true rfl) (Nat.le_of_ble_eq_true rfl)

theorem mw_1674 : (Jvm.Cond.methodLink "GalleyforgeLaw" (211 : Nat) ({ cls := "GalleyforgeLaw", name := "lineEnd", desc := "(LGalleyforge;III[J)I" } : Jvm.MethodName)) ∈ gt := gt_at 1809 (by decide +kernel) (by decide +kernel)
theorem mw_1675 : (Jvm.Cond.static ({ cls := "GalleyforgeLaw", name := "lineEnd", desc := "(LGalleyforge;III[J)I" } : Jvm.MethodName)) ∈ gt := gt_at 1810 (by decide +kernel) (by decide +kernel)
theorem mw_1676 : (Jvm.Cond.codeWith ({ cls := "GalleyforgeLaw", name := "lineEnd", desc := "(LGalleyforge;III[J)I" } : Jvm.MethodName) method_22_code (6 : Nat) (Option.some Jvm.ClassFile.FieldType.int) [((0 : Nat), (12 : Nat), (15 : Nat), (13 : Nat))]) ∈ gt := gt_at 1811 (by decide +kernel) (by decide +kernel)
theorem mw_2496 : (Jvm.Cond.methodLink "GalleyforgeLaw" (213 : Nat) ({ cls := "GalleyforgeModel", name := "lineEnd", desc := "(III)I" } : Jvm.MethodName)) ∈ gt := gt_at 2631 (by decide +kernel) (by decide +kernel)
theorem mw_2497 : (Jvm.Cond.instanceMethod ({ cls := "GalleyforgeModel", name := "lineEnd", desc := "(III)I" } : Jvm.MethodName)) ∈ gt := gt_at 2632 (by decide +kernel) (by decide +kernel)
theorem mw_2498 : (Jvm.Cond.selects "GalleyforgeModel" ({ cls := "GalleyforgeModel", name := "lineEnd", desc := "(III)I" } : Jvm.MethodName) ({ cls := "GalleyforgeModel", name := "lineEnd", desc := "(III)I" } : Jvm.MethodName)) ∈ gt := gt_at 2633 (by decide +kernel) (by decide +kernel)
theorem mw_2499 : (Jvm.Cond.code ({ cls := "GalleyforgeModel", name := "lineEnd", desc := "(III)I" } : Jvm.MethodName) prog_14_method_91_code (4 : Nat) (Option.some Jvm.ClassFile.FieldType.int)) ∈ gt := gt_at 2634 (by decide +kernel) (by decide +kernel)
theorem mV_X12_lineEnd : mV yX12_lineEnd cX12_lineEnd 4 (some .int) 3 := ⟨⟨mw_2499, mw_13, by decide, by decide, by decide +kernel⟩, mw_2497, mw_2498⟩
theorem mW_L_lineEnd : mW yL_lineEnd cL_lineEnd 6 (some .int) [((0 : Nat), (12 : Nat), (15 : Nat), (13 : Nat))] 5 := ⟨⟨mw_1676, mw_0, by decide, by decide, by decide +kernel⟩, mw_1675⟩
theorem dL_law_1568 : decode cL_law 1568 = .ok (.aload_n 1, 1) := by decide +kernel
theorem dL_law_1569 : decode cL_law 1569 = .ok (.aload_n 0, 1) := by decide +kernel
theorem dL_law_1570 : decode cL_law 1570 = .ok (.iload 4, 2) := by decide +kernel
theorem dL_law_1572 : decode cL_law 1572 = .ok (.iconst 1, 1) := by decide +kernel
theorem dL_law_1573 : decode cL_law 1573 = .ok (.iadd, 1) := by decide +kernel
theorem dL_law_1574 : decode cL_law 1574 = .ok (.iaload, 1) := by decide +kernel
theorem dL_law_1575 : decode cL_law 1575 = .ok (.aload_n 0, 1) := by decide +kernel
theorem dL_law_1576 : decode cL_law 1576 = .ok (.iload 4, 2) := by decide +kernel
theorem dL_law_1578 : decode cL_law 1578 = .ok (.iconst 2, 1) := by decide +kernel
theorem dL_law_1579 : decode cL_law 1579 = .ok (.iadd, 1) := by decide +kernel
theorem dL_law_1580 : decode cL_law 1580 = .ok (.iaload, 1) := by decide +kernel
theorem dL_law_1581 : decode cL_law 1581 = .ok (.aload_n 0, 1) := by decide +kernel
theorem dL_law_1582 : decode cL_law 1582 = .ok (.iload 4, 2) := by decide +kernel
theorem dL_law_1584 : decode cL_law 1584 = .ok (.iconst 3, 1) := by decide +kernel
theorem dL_law_1585 : decode cL_law 1585 = .ok (.iadd, 1) := by decide +kernel
theorem dL_law_1586 : decode cL_law 1586 = .ok (.iaload, 1) := by decide +kernel
theorem dL_law_1587 : decode cL_law 1587 = .ok (.aload_n 3, 1) := by decide +kernel
theorem dL_law_1588 : decode cL_law 1588 = .ok (.invokestatic 211, 3) := by decide +kernel
theorem dL_law_1591 : decode cL_law 1591 = .ok (.istore 5, 2) := by decide +kernel
theorem dL_law_1593 : decode cL_law 1593 = .ok (.aload_n 2, 1) := by decide +kernel
theorem dL_law_1594 : decode cL_law 1594 = .ok (.aload_n 0, 1) := by decide +kernel
theorem dL_law_1595 : decode cL_law 1595 = .ok (.iload 4, 2) := by decide +kernel
theorem dL_law_1597 : decode cL_law 1597 = .ok (.iconst 1, 1) := by decide +kernel
theorem dL_law_1598 : decode cL_law 1598 = .ok (.iadd, 1) := by decide +kernel
theorem dL_law_1599 : decode cL_law 1599 = .ok (.iaload, 1) := by decide +kernel
theorem dL_law_1600 : decode cL_law 1600 = .ok (.aload_n 0, 1) := by decide +kernel
theorem dL_law_1601 : decode cL_law 1601 = .ok (.iload 4, 2) := by decide +kernel
theorem dL_law_1603 : decode cL_law 1603 = .ok (.iconst 2, 1) := by decide +kernel
theorem dL_law_1604 : decode cL_law 1604 = .ok (.iadd, 1) := by decide +kernel
theorem dL_law_1605 : decode cL_law 1605 = .ok (.iaload, 1) := by decide +kernel
theorem dL_law_1606 : decode cL_law 1606 = .ok (.aload_n 0, 1) := by decide +kernel
theorem dL_law_1607 : decode cL_law 1607 = .ok (.iload 4, 2) := by decide +kernel
theorem dL_law_1609 : decode cL_law 1609 = .ok (.iconst 3, 1) := by decide +kernel
theorem dL_law_1610 : decode cL_law 1610 = .ok (.iadd, 1) := by decide +kernel
theorem dL_law_1611 : decode cL_law 1611 = .ok (.iaload, 1) := by decide +kernel
theorem dL_law_1612 : decode cL_law 1612 = .ok (.invokevirtual 213, 3) := by decide +kernel
theorem dL_law_1615 : decode cL_law 1615 = .ok (.istore 6, 2) := by decide +kernel
theorem dL_law_1617 : decode cL_law 1617 = .ok (.aload_n 2, 1) := by decide +kernel
theorem dL_law_1618 : decode cL_law 1618 = .ok (.invokevirtual 142, 3) := by decide +kernel
theorem dL_law_1621 : decode cL_law 1621 = .ok (.iload 5, 2) := by decide +kernel
theorem dL_law_1623 : decode cL_law 1623 = .ok (.if_icmp .eq 5, 3) := by decide +kernel
theorem dL_law_1628 : decode cL_law 1628 = .ok (.iload 5, 2) := by decide +kernel
theorem dL_law_1630 : decode cL_law 1630 = .ok (.ifCond .ne 15, 3) := by decide +kernel
theorem dL_law_1645 : decode cL_law 1645 = .ok (.goto 1164, 3) := by decide +kernel
set_option maxHeartbeats 4000000 in
set_option maxRecDepth 100000 in
theorem law_lineEnd (l : Launch) (hl0 : l.stackTraces = false) (dC : Nat → ClassId) (dI : Nat → Nat → Nat) (k : Nat → ClassId) {p : Program} {e : Env} {s : State} {m : MethodId} {below : List Frame} {meth : Method} {c : Code} {b : Nat} {xs : Nat → Int32} (hX : va_X b 7 xs s s.heap) (hbl : b < s.heap.size) (hr : meth.sig.returnType = ret) {H : Heap} {locs : List Loc} {ls : Array Slot} (gx : Nat) (T : Nat) (LA : Nat) (sp : Nat) (dr : Nat) (bl : Nat) (pt : Nat) (fk : Nat) (fh : Nat) (ky : Nat) (LN : Nat) (ST : Nat) (L0 : Nat) (lc0 : Nat) (le0 : Nat) (ll0 : Nat) (ld0 : Nat) (wl0 : Nat) (op0 : Nat) (dg0 : Nat) (L1 : Nat) (lc1 : Nat) (le1 : Nat) (ll1 : Nat) (ld1 : Nat) (wl1 : Nat) (op1 : Nat) (dg1 : Nat) (R0 : Nat) (r00 : Nat) (r10 : Nat) (r20 : Nat) (r30 : Nat) (r40 : Nat) (r50 : Nat) (r60 : Nat) (r70 : Nat) (wr0 : Nat) (lr0 : Nat) (tt0 : Nat) (fr0 : Nat) (r80 : Nat) (r90 : Nat) (R1 : Nat) (r01 : Nat) (r11 : Nat) (r21 : Nat) (r31 : Nat) (r41 : Nat) (r51 : Nat) (r61 : Nat) (r71 : Nat) (wr1 : Nat) (lr1 : Nat) (tt1 : Nat) (fr1 : Nat) (r81 : Nat) (r91 : Nat) (P0 : Nat) (pg0 : Nat) (p00 : Nat) (p10 : Nat) (p20 : Nat) (p30 : Nat) (p40 : Nat) (p50 : Nat) (P1 : Nat) (pg1 : Nat) (p01 : Nat) (p11 : Nat) (p21 : Nat) (p31 : Nat) (p41 : Nat) (p51 : Nat) (ou : Nat) (mo : Nat) (V : Nat → Value) (h9 : V 9 = .int 0) (B : bd p s m #[Value.ref b] meth c cL_law 8 "GalleyforgeLaw" dC dI k (fun q => s.heap.size ≤ q) [(gx, .inr (9, [.ref T, .ref LA, .ref sp, .int 0, .ref dr])), (LA, .inl (k 3, 2, .inr (.inr (.inr (.inr (va_up (va_up (fun _ => none) 0 (some L0)) 1 (some L1))))))), (T, .inr (8, [.ref bl, .ref pt, .ref fk, .ref fh, .int 0, .ref ky, .int 60, .int 12])), (bl, .inr (11, [.int 0, .ref (dI 99 1), .int 0])), (L0, .inr (1, [.ref T, .int 0, .ref LN, .ref R0, .ref P0, .int 1, .int 0, .ref lc0, .ref le0, .ref ll0, .ref ld0, .ref wl0, .ref op0, .int 0, .int 0, .int 1365, .ref dg0])), (dg0, .inl (k 0, 730, .inl (fun _ => 0))), (R0, .inr (5, [.int 0, .ref r00, .ref r10, .ref r20, .ref r30, .ref r40, .ref r50, .ref r60, .ref r70, .ref wr0, .ref lr0, .ref tt0, .int 0, .int 0, .ref fr0, .ref r80, .ref r90, .int 0])), (wr0, .inl (k 0, 192, .inl (fun _ => 0))), (lr0, .inl (k 0, 6, .inl (fun _ => 0))), (tt0, .inl (k 1, 8, .inl (fun _ => 0))), (fr0, .inl (k 0, 5, .inl (fun _ => 0))), (P0, .inr (4, [.ref T, .ref R0, .ref pg0, .ref ST, .int 0, .int 0, .ref p00, .ref p10, .ref p20, .ref p30, .ref p40, .ref p50])), (p50, .inl (k 0, 5, .inl (fun _ => 0))), (L1, .inr (1, [.ref T, .int 1, .ref LN, .ref R1, .ref P1, .int 1, .int 0, .ref lc1, .ref le1, .ref ll1, .ref ld1, .ref wl1, .ref op1, .int 0, .int 0, .int 1365, .ref dg1])), (dg1, .inl (k 0, 730, .inl (fun _ => 0))), (R1, .inr (5, [.int 0, .ref r01, .ref r11, .ref r21, .ref r31, .ref r41, .ref r51, .ref r61, .ref r71, .ref wr1, .ref lr1, .ref tt1, .int 0, .int 0, .ref fr1, .ref r81, .ref r91, .int 0])), (wr1, .inl (k 0, 192, .inl (fun _ => 0))), (lr1, .inl (k 0, 6, .inl (fun _ => 0))), (tt1, .inl (k 1, 8, .inl (fun _ => 0))), (fr1, .inl (k 0, 5, .inl (fun _ => 0))), (P1, .inr (4, [.ref T, .ref R1, .ref pg1, .ref ST, .int 0, .int 0, .ref p01, .ref p11, .ref p21, .ref p31, .ref p41, .ref p51])), (p51, .inl (k 0, 5, .inl (fun _ => 0))), (ou, .inl (k 2, 1, .inr (.inl (fun _ => 0)))), (mo, .inr (10, fvM V))] H locs) (hl : lv_has ls 8 [(4, .int 0), (3, .ref ou), (2, .ref mo), (1, .ref gx), (0, .ref b)]) : W p l e room_1 s m #[Value.ref b] below meth c H locs 157 183312 (lw_Z below #[Value.ref b] s) (F0 m 1568 ls []) := by
  have hx := B.1.1
  have hb := B.1.2.1
  refine lv_aload_n hx hb dL_law_1568 rfl (lv_at hl 3 rfl) ?_
  refine lv_aload_n hx hb dL_law_1569 rfl (lv_at hl 4 rfl) ?_
  refine lv_iload hx hb dL_law_1570 (lv_at hl 0 rfl) ?_
  refine lv_iconst (v := 1) hx hb dL_law_1572 (by decide) ?_
  refine lv_iadd hx hb dL_law_1573 ?_
  refine lv_seti (y := 1) (by decide) ?_
  refine va_sld hx hb hX hbl (Nat.not_le.mpr hbl) B.2.2.2.2.2 (vpc (by decide)) dL_law_1574 ?_
  refine lv_seti (y := xs 1) rfl ?_
  refine lv_aload_n hx hb dL_law_1575 rfl (lv_at hl 4 rfl) ?_
  refine lv_iload hx hb dL_law_1576 (lv_at hl 0 rfl) ?_
  refine lv_iconst (v := 2) hx hb dL_law_1578 (by decide) ?_
  refine lv_iadd hx hb dL_law_1579 ?_
  refine lv_seti (y := 2) (by decide) ?_
  refine va_sld hx hb hX hbl (Nat.not_le.mpr hbl) B.2.2.2.2.2 (vpc (by decide)) dL_law_1580 ?_
  refine lv_seti (y := xs 2) rfl ?_
  refine lv_aload_n hx hb dL_law_1581 rfl (lv_at hl 4 rfl) ?_
  refine lv_iload hx hb dL_law_1582 (lv_at hl 0 rfl) ?_
  refine lv_iconst (v := 3) hx hb dL_law_1584 (by decide) ?_
  refine lv_iadd hx hb dL_law_1585 ?_
  refine lv_seti (y := 3) (by decide) ?_
  refine va_sld hx hb hX hbl (Nat.not_le.mpr hbl) B.2.2.2.2.2 (vpc (by decide)) dL_law_1586 ?_
  refine lv_seti (y := xs 3) rfl ?_
  refine lv_aload_n hx hb dL_law_1587 rfl (lv_at hl 1 rfl) ?_
  refine x_callW (rest := []) (wr := [(mo, .inr (10, fvM V))]) (w_lineEnd l dC dI k hl0 gx T LA sp dr bl pt fk fh ky LN ST L0 lc0 le0 ll0 ld0 wl0 op0 dg0 L1 lc1 le1 ll1 ld1 wl1 op1 dg1 R0 r00 r10 r20 r30 r40 r50 r60 r70 wr0 lr0 tt0 fr0 r80 r90 R1 r01 r11 r21 r31 r41 r51 r61 r71 wr1 lr1 tt1 fr1 r81 r91 P0 pg0 p00 p10 p20 p30 p40 p50 P1 pg1 p01 p11 p21 p31 p41 p51 (xs 1) (xs 2) (xs 3) ou) B mW_L_lineEnd mw_1674 hl [0, 1, 2, 3, 4, 5, 6, 7, 8, 9, 10, 11, 12, 13, 14, 15, 16, 17, 18, 19, 20, 21, 22] [23] rfl rfl ⟨by decide, by decide⟩ (by decide) ⟨Nat.le_of_ble_eq_true rfl, Nat.le_of_ble_eq_true rfl⟩ (Nat.le_of_ble_eq_true rfl) rfl dL_law_1588 ⟨Nat.le_of_ble_eq_true rfl, Nat.le_of_ble_eq_true rfl⟩ (fun r w H locs hp B => ?_)
  obtain ⟨rfl, rfl⟩ := hp
  have B := bd_to (ws' := [(mo, .inr (10, fvM V))]) rfl B
  refine lv_istore (lv' := [(5, .int 1), (4, .int 0), (3, .ref ou), (2, .ref mo), (1, .ref gx), (0, .ref b)]) hx hb dL_law_1591 hl (by decide) rfl (fun ls hl => ?_)
  refine lv_aload_n hx hb dL_law_1593 rfl (lv_at hl 3 rfl) ?_
  refine lv_aload_n hx hb dL_law_1594 rfl (lv_at hl 5 rfl) ?_
  refine lv_iload hx hb dL_law_1595 (lv_at hl 1 rfl) ?_
  refine lv_iconst (v := 1) hx hb dL_law_1597 (by decide) ?_
  refine lv_iadd hx hb dL_law_1598 ?_
  refine lv_seti (y := 1) (by decide) ?_
  refine va_sld hx hb hX hbl (Nat.not_le.mpr hbl) B.2.2.2.2.2 (vpc (by decide)) dL_law_1599 ?_
  refine lv_seti (y := xs 1) rfl ?_
  refine lv_aload_n hx hb dL_law_1600 rfl (lv_at hl 5 rfl) ?_
  refine lv_iload hx hb dL_law_1601 (lv_at hl 1 rfl) ?_
  refine lv_iconst (v := 2) hx hb dL_law_1603 (by decide) ?_
  refine lv_iadd hx hb dL_law_1604 ?_
  refine lv_seti (y := 2) (by decide) ?_
  refine va_sld hx hb hX hbl (Nat.not_le.mpr hbl) B.2.2.2.2.2 (vpc (by decide)) dL_law_1605 ?_
  refine lv_seti (y := xs 2) rfl ?_
  refine lv_aload_n hx hb dL_law_1606 rfl (lv_at hl 5 rfl) ?_
  refine lv_iload hx hb dL_law_1607 (lv_at hl 1 rfl) ?_
  refine lv_iconst (v := 3) hx hb dL_law_1609 (by decide) ?_
  refine lv_iadd hx hb dL_law_1610 ?_
  refine lv_seti (y := 3) (by decide) ?_
  refine va_sld hx hb hX hbl (Nat.not_le.mpr hbl) B.2.2.2.2.2 (vpc (by decide)) dL_law_1611 ?_
  refine lv_seti (y := xs 3) rfl ?_
  refine x_callV (rest := []) (wr := []) (m_lineEnd l dC dI k mo V (xs 1) (xs 2) (xs 3) h9) B mV_X12_lineEnd mw_2496 hl [0] [] rfl rfl ⟨by decide, by decide⟩ (by decide) (q0 := 0) rfl rfl rfl ⟨Nat.le_of_ble_eq_true rfl, Nat.le_of_ble_eq_true rfl⟩ (Nat.le_of_ble_eq_true rfl) rfl dL_law_1612 ⟨Nat.le_of_ble_eq_true rfl, Nat.le_of_ble_eq_true rfl⟩ (fun r w H locs hp B => ?_)
  obtain ⟨V1_1, z_2, rfl, rfl⟩ := hp
  have B := bd_to (ws' := [(mo, .inr (10, fvM V1_1))]) rfl B
  refine lv_istore (lv' := [(6, .int 0), (5, .int 1), (4, .int 0), (3, .ref ou), (2, .ref mo), (1, .ref gx), (0, .ref b)]) hx hb dL_law_1615 hl (by decide) rfl (fun ls hl => ?_)
  refine lv_aload_n hx hb dL_law_1617 rfl (lv_at hl 4 rfl) ?_
  refine x_callV (rest := []) (wr := []) (m_thrown l dC dI k mo V1_1 1 z_2) B mV_X12_thrown mw_2144 hl [0] [] rfl rfl ⟨by decide, by decide⟩ (by decide) (q0 := 0) rfl rfl rfl ⟨Nat.le_of_ble_eq_true rfl, Nat.le_of_ble_eq_true rfl⟩ (Nat.le_of_ble_eq_true rfl) rfl dL_law_1618 ⟨Nat.le_of_ble_eq_true rfl, Nat.le_of_ble_eq_true rfl⟩ (fun r w H locs hp B => ?_)
  obtain ⟨rfl, rfl⟩ := hp
  have B := bd_to (ws' := [(mo, .inr (10, fvM V1_1))]) rfl B
  refine lv_iload hx hb dL_law_1621 (lv_at hl 1 rfl) ?_
  refine lv_icmp_eq (tgt := 1628) hx hb dL_law_1623 (by decide) (fun _ => ?_) (fun c9 => absurd (by decide) c9)
  refine lv_iload hx hb dL_law_1628 (lv_at hl 1 rfl) ?_
  refine lv_if_ne (tgt := 1645) hx hb dL_law_1630 (by decide) (fun _ => ?_) (fun c9 => absurd c9 (by decide))
  refine lv_goto (tgt := 2809) hx hb dL_law_1645 (by decide) ?_
  exact law_end hX hbl hr B (lv_sub hl [6, 2] rfl) (Nat.le_of_ble_eq_true rfl) (Nat.le_of_ble_eq_true rfl)

theorem mw_1686 : (Jvm.Cond.methodLink "GalleyforgeLaw" (214 : Nat) ({ cls := "GalleyforgeLaw", name := "tightness", desc := "(LGalleyforge;III[J)I" } : Jvm.MethodName)) ∈ gt := gt_at 1821 (by decide +kernel) (by decide +kernel)
theorem mw_1687 : (Jvm.Cond.static ({ cls := "GalleyforgeLaw", name := "tightness", desc := "(LGalleyforge;III[J)I" } : Jvm.MethodName)) ∈ gt := gt_at 1822 (by decide +kernel) (by decide +kernel)
theorem mw_1688 : (Jvm.Cond.codeWith ({ cls := "GalleyforgeLaw", name := "tightness", desc := "(LGalleyforge;III[J)I" } : Jvm.MethodName) method_23_code (6 : Nat) (Option.some Jvm.ClassFile.FieldType.int) [((0 : Nat), (12 : Nat), (15 : Nat), (13 : Nat))]) ∈ gt := gt_at 1823 (by decide +kernel) (by decide +kernel)
theorem mw_2504 : (Jvm.Cond.methodLink "GalleyforgeLaw" (216 : Nat) ({ cls := "GalleyforgeModel", name := "tightness", desc := "(III)I" } : Jvm.MethodName)) ∈ gt := gt_at 2639 (by decide +kernel) (by decide +kernel)
theorem mw_2505 : (Jvm.Cond.instanceMethod ({ cls := "GalleyforgeModel", name := "tightness", desc := "(III)I" } : Jvm.MethodName)) ∈ gt := gt_at 2640 (by decide +kernel) (by decide +kernel)
theorem mw_2506 : (Jvm.Cond.selects "GalleyforgeModel" ({ cls := "GalleyforgeModel", name := "tightness", desc := "(III)I" } : Jvm.MethodName) ({ cls := "GalleyforgeModel", name := "tightness", desc := "(III)I" } : Jvm.MethodName)) ∈ gt := gt_at 2641 (by decide +kernel) (by decide +kernel)
theorem mw_2507 : (Jvm.Cond.code ({ cls := "GalleyforgeModel", name := "tightness", desc := "(III)I" } : Jvm.MethodName) prog_14_method_92_code (4 : Nat) (Option.some Jvm.ClassFile.FieldType.int)) ∈ gt := gt_at 2642 (by decide +kernel) (by decide +kernel)
theorem mV_X12_tightness : mV yX12_tightness cX12_tightness 4 (some .int) 3 := ⟨⟨mw_2507, mw_13, by decide, by decide, by decide +kernel⟩, mw_2505, mw_2506⟩
theorem mW_L_tightness : mW yL_tightness cL_tightness 6 (some .int) [((0 : Nat), (12 : Nat), (15 : Nat), (13 : Nat))] 5 := ⟨⟨mw_1688, mw_0, by decide, by decide, by decide +kernel⟩, mw_1687⟩
theorem dL_law_1648 : decode cL_law 1648 = .ok (.aload_n 1, 1) := by decide +kernel
theorem dL_law_1649 : decode cL_law 1649 = .ok (.aload_n 0, 1) := by decide +kernel
theorem dL_law_1650 : decode cL_law 1650 = .ok (.iload 4, 2) := by decide +kernel
theorem dL_law_1652 : decode cL_law 1652 = .ok (.iconst 1, 1) := by decide +kernel
theorem dL_law_1653 : decode cL_law 1653 = .ok (.iadd, 1) := by decide +kernel
theorem dL_law_1654 : decode cL_law 1654 = .ok (.iaload, 1) := by decide +kernel
theorem dL_law_1655 : decode cL_law 1655 = .ok (.aload_n 0, 1) := by decide +kernel
theorem dL_law_1656 : decode cL_law 1656 = .ok (.iload 4, 2) := by decide +kernel
theorem dL_law_1658 : decode cL_law 1658 = .ok (.iconst 2, 1) := by decide +kernel
theorem dL_law_1659 : decode cL_law 1659 = .ok (.iadd, 1) := by decide +kernel
theorem dL_law_1660 : decode cL_law 1660 = .ok (.iaload, 1) := by decide +kernel
theorem dL_law_1661 : decode cL_law 1661 = .ok (.aload_n 0, 1) := by decide +kernel
theorem dL_law_1662 : decode cL_law 1662 = .ok (.iload 4, 2) := by decide +kernel
theorem dL_law_1664 : decode cL_law 1664 = .ok (.iconst 3, 1) := by decide +kernel
theorem dL_law_1665 : decode cL_law 1665 = .ok (.iadd, 1) := by decide +kernel
theorem dL_law_1666 : decode cL_law 1666 = .ok (.iaload, 1) := by decide +kernel
theorem dL_law_1667 : decode cL_law 1667 = .ok (.aload_n 3, 1) := by decide +kernel
theorem dL_law_1668 : decode cL_law 1668 = .ok (.invokestatic 214, 3) := by decide +kernel
theorem dL_law_1671 : decode cL_law 1671 = .ok (.istore 5, 2) := by decide +kernel
theorem dL_law_1673 : decode cL_law 1673 = .ok (.aload_n 2, 1) := by decide +kernel
theorem dL_law_1674 : decode cL_law 1674 = .ok (.aload_n 0, 1) := by decide +kernel
theorem dL_law_1675 : decode cL_law 1675 = .ok (.iload 4, 2) := by decide +kernel
theorem dL_law_1677 : decode cL_law 1677 = .ok (.iconst 1, 1) := by decide +kernel
theorem dL_law_1678 : decode cL_law 1678 = .ok (.iadd, 1) := by decide +kernel
theorem dL_law_1679 : decode cL_law 1679 = .ok (.iaload, 1) := by decide +kernel
theorem dL_law_1680 : decode cL_law 1680 = .ok (.aload_n 0, 1) := by decide +kernel
theorem dL_law_1681 : decode cL_law 1681 = .ok (.iload 4, 2) := by decide +kernel
theorem dL_law_1683 : decode cL_law 1683 = .ok (.iconst 2, 1) := by decide +kernel
theorem dL_law_1684 : decode cL_law 1684 = .ok (.iadd, 1) := by decide +kernel
theorem dL_law_1685 : decode cL_law 1685 = .ok (.iaload, 1) := by decide +kernel
theorem dL_law_1686 : decode cL_law 1686 = .ok (.aload_n 0, 1) := by decide +kernel
theorem dL_law_1687 : decode cL_law 1687 = .ok (.iload 4, 2) := by decide +kernel
theorem dL_law_1689 : decode cL_law 1689 = .ok (.iconst 3, 1) := by decide +kernel
theorem dL_law_1690 : decode cL_law 1690 = .ok (.iadd, 1) := by decide +kernel
theorem dL_law_1691 : decode cL_law 1691 = .ok (.iaload, 1) := by decide +kernel
theorem dL_law_1692 : decode cL_law 1692 = .ok (.invokevirtual 216, 3) := by decide +kernel
theorem dL_law_1695 : decode cL_law 1695 = .ok (.istore 6, 2) := by decide +kernel
theorem dL_law_1697 : decode cL_law 1697 = .ok (.aload_n 2, 1) := by decide +kernel
theorem dL_law_1698 : decode cL_law 1698 = .ok (.invokevirtual 142, 3) := by decide +kernel
theorem dL_law_1701 : decode cL_law 1701 = .ok (.iload 5, 2) := by decide +kernel
theorem dL_law_1703 : decode cL_law 1703 = .ok (.if_icmp .eq 5, 3) := by decide +kernel
theorem dL_law_1708 : decode cL_law 1708 = .ok (.iload 5, 2) := by decide +kernel
theorem dL_law_1710 : decode cL_law 1710 = .ok (.ifCond .ne 15, 3) := by decide +kernel
theorem dL_law_1725 : decode cL_law 1725 = .ok (.goto 1084, 3) := by decide +kernel
set_option maxHeartbeats 4000000 in
set_option maxRecDepth 100000 in
theorem law_tightness (l : Launch) (hl0 : l.stackTraces = false) (dC : Nat → ClassId) (dI : Nat → Nat → Nat) (k : Nat → ClassId) {p : Program} {e : Env} {s : State} {m : MethodId} {below : List Frame} {meth : Method} {c : Code} {b : Nat} {xs : Nat → Int32} (hX : va_X b 7 xs s s.heap) (hbl : b < s.heap.size) (hr : meth.sig.returnType = ret) {H : Heap} {locs : List Loc} {ls : Array Slot} (gx : Nat) (T : Nat) (LA : Nat) (sp : Nat) (dr : Nat) (bl : Nat) (pt : Nat) (fk : Nat) (fh : Nat) (ky : Nat) (LN : Nat) (ST : Nat) (L0 : Nat) (lc0 : Nat) (le0 : Nat) (ll0 : Nat) (ld0 : Nat) (wl0 : Nat) (op0 : Nat) (dg0 : Nat) (L1 : Nat) (lc1 : Nat) (le1 : Nat) (ll1 : Nat) (ld1 : Nat) (wl1 : Nat) (op1 : Nat) (dg1 : Nat) (R0 : Nat) (r00 : Nat) (r10 : Nat) (r20 : Nat) (r30 : Nat) (r40 : Nat) (r50 : Nat) (r60 : Nat) (r70 : Nat) (wr0 : Nat) (lr0 : Nat) (tt0 : Nat) (fr0 : Nat) (r80 : Nat) (r90 : Nat) (R1 : Nat) (r01 : Nat) (r11 : Nat) (r21 : Nat) (r31 : Nat) (r41 : Nat) (r51 : Nat) (r61 : Nat) (r71 : Nat) (wr1 : Nat) (lr1 : Nat) (tt1 : Nat) (fr1 : Nat) (r81 : Nat) (r91 : Nat) (P0 : Nat) (pg0 : Nat) (p00 : Nat) (p10 : Nat) (p20 : Nat) (p30 : Nat) (p40 : Nat) (p50 : Nat) (P1 : Nat) (pg1 : Nat) (p01 : Nat) (p11 : Nat) (p21 : Nat) (p31 : Nat) (p41 : Nat) (p51 : Nat) (ou : Nat) (mo : Nat) (V : Nat → Value) (h9 : V 9 = .int 0) (B : bd p s m #[Value.ref b] meth c cL_law 8 "GalleyforgeLaw" dC dI k (fun q => s.heap.size ≤ q) [(gx, .inr (9, [.ref T, .ref LA, .ref sp, .int 0, .ref dr])), (LA, .inl (k 3, 2, .inr (.inr (.inr (.inr (va_up (va_up (fun _ => none) 0 (some L0)) 1 (some L1))))))), (T, .inr (8, [.ref bl, .ref pt, .ref fk, .ref fh, .int 0, .ref ky, .int 60, .int 12])), (bl, .inr (11, [.int 0, .ref (dI 99 1), .int 0])), (L0, .inr (1, [.ref T, .int 0, .ref LN, .ref R0, .ref P0, .int 1, .int 0, .ref lc0, .ref le0, .ref ll0, .ref ld0, .ref wl0, .ref op0, .int 0, .int 0, .int 1365, .ref dg0])), (dg0, .inl (k 0, 730, .inl (fun _ => 0))), (R0, .inr (5, [.int 0, .ref r00, .ref r10, .ref r20, .ref r30, .ref r40, .ref r50, .ref r60, .ref r70, .ref wr0, .ref lr0, .ref tt0, .int 0, .int 0, .ref fr0, .ref r80, .ref r90, .int 0])), (wr0, .inl (k 0, 192, .inl (fun _ => 0))), (lr0, .inl (k 0, 6, .inl (fun _ => 0))), (tt0, .inl (k 1, 8, .inl (fun _ => 0))), (fr0, .inl (k 0, 5, .inl (fun _ => 0))), (P0, .inr (4, [.ref T, .ref R0, .ref pg0, .ref ST, .int 0, .int 0, .ref p00, .ref p10, .ref p20, .ref p30, .ref p40, .ref p50])), (p50, .inl (k 0, 5, .inl (fun _ => 0))), (L1, .inr (1, [.ref T, .int 1, .ref LN, .ref R1, .ref P1, .int 1, .int 0, .ref lc1, .ref le1, .ref ll1, .ref ld1, .ref wl1, .ref op1, .int 0, .int 0, .int 1365, .ref dg1])), (dg1, .inl (k 0, 730, .inl (fun _ => 0))), (R1, .inr (5, [.int 0, .ref r01, .ref r11, .ref r21, .ref r31, .ref r41, .ref r51, .ref r61, .ref r71, .ref wr1, .ref lr1, .ref tt1, .int 0, .int 0, .ref fr1, .ref r81, .ref r91, .int 0])), (wr1, .inl (k 0, 192, .inl (fun _ => 0))), (lr1, .inl (k 0, 6, .inl (fun _ => 0))), (tt1, .inl (k 1, 8, .inl (fun _ => 0))), (fr1, .inl (k 0, 5, .inl (fun _ => 0))), (P1, .inr (4, [.ref T, .ref R1, .ref pg1, .ref ST, .int 0, .int 0, .ref p01, .ref p11, .ref p21, .ref p31, .ref p41, .ref p51])), (p51, .inl (k 0, 5, .inl (fun _ => 0))), (ou, .inl (k 2, 1, .inr (.inl (fun _ => 0)))), (mo, .inr (10, fvM V))] H locs) (hl : lv_has ls 8 [(4, .int 0), (3, .ref ou), (2, .ref mo), (1, .ref gx), (0, .ref b)]) : W p l e room_1 s m #[Value.ref b] below meth c H locs 157 183312 (lw_Z below #[Value.ref b] s) (F0 m 1648 ls []) := by
  have hx := B.1.1
  have hb := B.1.2.1
  refine lv_aload_n hx hb dL_law_1648 rfl (lv_at hl 3 rfl) ?_
  refine lv_aload_n hx hb dL_law_1649 rfl (lv_at hl 4 rfl) ?_
  refine lv_iload hx hb dL_law_1650 (lv_at hl 0 rfl) ?_
  refine lv_iconst (v := 1) hx hb dL_law_1652 (by decide) ?_
  refine lv_iadd hx hb dL_law_1653 ?_
  refine lv_seti (y := 1) (by decide) ?_
  refine va_sld hx hb hX hbl (Nat.not_le.mpr hbl) B.2.2.2.2.2 (vpc (by decide)) dL_law_1654 ?_
  refine lv_seti (y := xs 1) rfl ?_
  refine lv_aload_n hx hb dL_law_1655 rfl (lv_at hl 4 rfl) ?_
  refine lv_iload hx hb dL_law_1656 (lv_at hl 0 rfl) ?_
  refine lv_iconst (v := 2) hx hb dL_law_1658 (by decide) ?_
  refine lv_iadd hx hb dL_law_1659 ?_
  refine lv_seti (y := 2) (by decide) ?_
  refine va_sld hx hb hX hbl (Nat.not_le.mpr hbl) B.2.2.2.2.2 (vpc (by decide)) dL_law_1660 ?_
  refine lv_seti (y := xs 2) rfl ?_
  refine lv_aload_n hx hb dL_law_1661 rfl (lv_at hl 4 rfl) ?_
  refine lv_iload hx hb dL_law_1662 (lv_at hl 0 rfl) ?_
  refine lv_iconst (v := 3) hx hb dL_law_1664 (by decide) ?_
  refine lv_iadd hx hb dL_law_1665 ?_
  refine lv_seti (y := 3) (by decide) ?_
  refine va_sld hx hb hX hbl (Nat.not_le.mpr hbl) B.2.2.2.2.2 (vpc (by decide)) dL_law_1666 ?_
  refine lv_seti (y := xs 3) rfl ?_
  refine lv_aload_n hx hb dL_law_1667 rfl (lv_at hl 1 rfl) ?_
  refine x_callW (rest := []) (wr := [(mo, .inr (10, fvM V))]) (w_tightness l dC dI k hl0 gx T LA sp dr bl pt fk fh ky LN ST L0 lc0 le0 ll0 ld0 wl0 op0 dg0 L1 lc1 le1 ll1 ld1 wl1 op1 dg1 R0 r00 r10 r20 r30 r40 r50 r60 r70 wr0 lr0 tt0 fr0 r80 r90 R1 r01 r11 r21 r31 r41 r51 r61 r71 wr1 lr1 tt1 fr1 r81 r91 P0 pg0 p00 p10 p20 p30 p40 p50 P1 pg1 p01 p11 p21 p31 p41 p51 (xs 1) (xs 2) (xs 3) ou) B mW_L_tightness mw_1686 hl [0, 1, 2, 3, 4, 5, 6, 7, 8, 9, 10, 11, 12, 13, 14, 15, 16, 17, 18, 19, 20, 21, 22] [23] rfl rfl ⟨by decide, by decide⟩ (by decide) ⟨Nat.le_of_ble_eq_true rfl, Nat.le_of_ble_eq_true rfl⟩ (Nat.le_of_ble_eq_true rfl) rfl dL_law_1668 ⟨Nat.le_of_ble_eq_true rfl, Nat.le_of_ble_eq_true rfl⟩ (fun r w H locs hp B => ?_)
  obtain ⟨rfl, rfl⟩ := hp
  have B := bd_to (ws' := [(mo, .inr (10, fvM V))]) rfl B
  refine lv_istore (lv' := [(5, .int 1), (4, .int 0), (3, .ref ou), (2, .ref mo), (1, .ref gx), (0, .ref b)]) hx hb dL_law_1671 hl (by decide) rfl (fun ls hl => ?_)
  refine lv_aload_n hx hb dL_law_1673 rfl (lv_at hl 3 rfl) ?_
  refine lv_aload_n hx hb dL_law_1674 rfl (lv_at hl 5 rfl) ?_
  refine lv_iload hx hb dL_law_1675 (lv_at hl 1 rfl) ?_
  refine lv_iconst (v := 1) hx hb dL_law_1677 (by decide) ?_
  refine lv_iadd hx hb dL_law_1678 ?_
  refine lv_seti (y := 1) (by decide) ?_
  refine va_sld hx hb hX hbl (Nat.not_le.mpr hbl) B.2.2.2.2.2 (vpc (by decide)) dL_law_1679 ?_
  refine lv_seti (y := xs 1) rfl ?_
  refine lv_aload_n hx hb dL_law_1680 rfl (lv_at hl 5 rfl) ?_
  refine lv_iload hx hb dL_law_1681 (lv_at hl 1 rfl) ?_
  refine lv_iconst (v := 2) hx hb dL_law_1683 (by decide) ?_
  refine lv_iadd hx hb dL_law_1684 ?_
  refine lv_seti (y := 2) (by decide) ?_
  refine va_sld hx hb hX hbl (Nat.not_le.mpr hbl) B.2.2.2.2.2 (vpc (by decide)) dL_law_1685 ?_
  refine lv_seti (y := xs 2) rfl ?_
  refine lv_aload_n hx hb dL_law_1686 rfl (lv_at hl 5 rfl) ?_
  refine lv_iload hx hb dL_law_1687 (lv_at hl 1 rfl) ?_
  refine lv_iconst (v := 3) hx hb dL_law_1689 (by decide) ?_
  refine lv_iadd hx hb dL_law_1690 ?_
  refine lv_seti (y := 3) (by decide) ?_
  refine va_sld hx hb hX hbl (Nat.not_le.mpr hbl) B.2.2.2.2.2 (vpc (by decide)) dL_law_1691 ?_
  refine lv_seti (y := xs 3) rfl ?_
  refine x_callV (rest := []) (wr := []) (m_tightness l dC dI k mo V (xs 1) (xs 2) (xs 3) h9) B mV_X12_tightness mw_2504 hl [0] [] rfl rfl ⟨by decide, by decide⟩ (by decide) (q0 := 0) rfl rfl rfl ⟨Nat.le_of_ble_eq_true rfl, Nat.le_of_ble_eq_true rfl⟩ (Nat.le_of_ble_eq_true rfl) rfl dL_law_1692 ⟨Nat.le_of_ble_eq_true rfl, Nat.le_of_ble_eq_true rfl⟩ (fun r w H locs hp B => ?_)
  obtain ⟨V1_1, z_2, rfl, rfl⟩ := hp
  have B := bd_to (ws' := [(mo, .inr (10, fvM V1_1))]) rfl B
  refine lv_istore (lv' := [(6, .int 0), (5, .int 1), (4, .int 0), (3, .ref ou), (2, .ref mo), (1, .ref gx), (0, .ref b)]) hx hb dL_law_1695 hl (by decide) rfl (fun ls hl => ?_)
  refine lv_aload_n hx hb dL_law_1697 rfl (lv_at hl 4 rfl) ?_
  refine x_callV (rest := []) (wr := []) (m_thrown l dC dI k mo V1_1 1 z_2) B mV_X12_thrown mw_2144 hl [0] [] rfl rfl ⟨by decide, by decide⟩ (by decide) (q0 := 0) rfl rfl rfl ⟨Nat.le_of_ble_eq_true rfl, Nat.le_of_ble_eq_true rfl⟩ (Nat.le_of_ble_eq_true rfl) rfl dL_law_1698 ⟨Nat.le_of_ble_eq_true rfl, Nat.le_of_ble_eq_true rfl⟩ (fun r w H locs hp B => ?_)
  obtain ⟨rfl, rfl⟩ := hp
  have B := bd_to (ws' := [(mo, .inr (10, fvM V1_1))]) rfl B
  refine lv_iload hx hb dL_law_1701 (lv_at hl 1 rfl) ?_
  refine lv_icmp_eq (tgt := 1708) hx hb dL_law_1703 (by decide) (fun _ => ?_) (fun c9 => absurd (by decide) c9)
  refine lv_iload hx hb dL_law_1708 (lv_at hl 1 rfl) ?_
  refine lv_if_ne (tgt := 1725) hx hb dL_law_1710 (by decide) (fun _ => ?_) (fun c9 => absurd c9 (by decide))
  refine lv_goto (tgt := 2809) hx hb dL_law_1725 (by decide) ?_
  exact law_end hX hbl hr B (lv_sub hl [6, 2] rfl) (Nat.le_of_ble_eq_true rfl) (Nat.le_of_ble_eq_true rfl)

theorem mw_1693 : (Jvm.Cond.methodLink "GalleyforgeLaw" (217 : Nat) ({ cls := "GalleyforgeLaw", name := "demerits", desc := "(LGalleyforge;II[J)I" } : Jvm.MethodName)) ∈ gt := gt_at 1828 (by decide +kernel) (by decide +kernel)
theorem mw_1694 : (Jvm.Cond.static ({ cls := "GalleyforgeLaw", name := "demerits", desc := "(LGalleyforge;II[J)I" } : Jvm.MethodName)) ∈ gt := gt_at 1829 (by decide +kernel) (by decide +kernel)
theorem mw_1695 : (Jvm.Cond.codeWith ({ cls := "GalleyforgeLaw", name := "demerits", desc := "(LGalleyforge;II[J)I" } : Jvm.MethodName) method_24_code (5 : Nat) (Option.some Jvm.ClassFile.FieldType.int) [((0 : Nat), (9 : Nat), (12 : Nat), (13 : Nat))]) ∈ gt := gt_at 1830 (by decide +kernel) (by decide +kernel)
theorem mw_2508 : (Jvm.Cond.methodLink "GalleyforgeLaw" (219 : Nat) ({ cls := "GalleyforgeModel", name := "demerits", desc := "(II)J" } : Jvm.MethodName)) ∈ gt := gt_at 2643 (by decide +kernel) (by decide +kernel)
theorem mw_2509 : (Jvm.Cond.instanceMethod ({ cls := "GalleyforgeModel", name := "demerits", desc := "(II)J" } : Jvm.MethodName)) ∈ gt := gt_at 2644 (by decide +kernel) (by decide +kernel)
theorem mw_2510 : (Jvm.Cond.selects "GalleyforgeModel" ({ cls := "GalleyforgeModel", name := "demerits", desc := "(II)J" } : Jvm.MethodName) ({ cls := "GalleyforgeModel", name := "demerits", desc := "(II)J" } : Jvm.MethodName)) ∈ gt := gt_at 2645 (by decide +kernel) (by decide +kernel)
theorem mw_2511 : (Jvm.Cond.code ({ cls := "GalleyforgeModel", name := "demerits", desc := "(II)J" } : Jvm.MethodName) prog_14_method_93_code (3 : Nat) (Option.some Jvm.ClassFile.FieldType.long)) ∈ gt := gt_at 2646 (by decide +kernel) (by decide +kernel)
theorem mV_X12_demerits : mV yX12_demerits cX12_demerits 3 (some .long) 2 := ⟨⟨mw_2511, mw_13, by decide, by decide, by decide +kernel⟩, mw_2509, mw_2510⟩
theorem mW_L_demerits : mW yL_demerits cL_demerits 5 (some .int) [((0 : Nat), (9 : Nat), (12 : Nat), (13 : Nat))] 4 := ⟨⟨mw_1695, mw_0, by decide, by decide, by decide +kernel⟩, mw_1694⟩
theorem dL_law_1728 : decode cL_law 1728 = .ok (.aload_n 1, 1) := by decide +kernel
theorem dL_law_1729 : decode cL_law 1729 = .ok (.aload_n 0, 1) := by decide +kernel
theorem dL_law_1730 : decode cL_law 1730 = .ok (.iload 4, 2) := by decide +kernel
theorem dL_law_1732 : decode cL_law 1732 = .ok (.iconst 1, 1) := by decide +kernel
theorem dL_law_1733 : decode cL_law 1733 = .ok (.iadd, 1) := by decide +kernel
theorem dL_law_1734 : decode cL_law 1734 = .ok (.iaload, 1) := by decide +kernel
theorem dL_law_1735 : decode cL_law 1735 = .ok (.aload_n 0, 1) := by decide +kernel
theorem dL_law_1736 : decode cL_law 1736 = .ok (.iload 4, 2) := by decide +kernel
theorem dL_law_1738 : decode cL_law 1738 = .ok (.iconst 2, 1) := by decide +kernel
theorem dL_law_1739 : decode cL_law 1739 = .ok (.iadd, 1) := by decide +kernel
theorem dL_law_1740 : decode cL_law 1740 = .ok (.iaload, 1) := by decide +kernel
theorem dL_law_1741 : decode cL_law 1741 = .ok (.aload_n 3, 1) := by decide +kernel
theorem dL_law_1742 : decode cL_law 1742 = .ok (.invokestatic 217, 3) := by decide +kernel
theorem dL_law_1745 : decode cL_law 1745 = .ok (.istore 5, 2) := by decide +kernel
theorem dL_law_1747 : decode cL_law 1747 = .ok (.aload_n 2, 1) := by decide +kernel
theorem dL_law_1748 : decode cL_law 1748 = .ok (.aload_n 0, 1) := by decide +kernel
theorem dL_law_1749 : decode cL_law 1749 = .ok (.iload 4, 2) := by decide +kernel
theorem dL_law_1751 : decode cL_law 1751 = .ok (.iconst 1, 1) := by decide +kernel
theorem dL_law_1752 : decode cL_law 1752 = .ok (.iadd, 1) := by decide +kernel
theorem dL_law_1753 : decode cL_law 1753 = .ok (.iaload, 1) := by decide +kernel
theorem dL_law_1754 : decode cL_law 1754 = .ok (.aload_n 0, 1) := by decide +kernel
theorem dL_law_1755 : decode cL_law 1755 = .ok (.iload 4, 2) := by decide +kernel
theorem dL_law_1757 : decode cL_law 1757 = .ok (.iconst 2, 1) := by decide +kernel
theorem dL_law_1758 : decode cL_law 1758 = .ok (.iadd, 1) := by decide +kernel
theorem dL_law_1759 : decode cL_law 1759 = .ok (.iaload, 1) := by decide +kernel
theorem dL_law_1760 : decode cL_law 1760 = .ok (.invokevirtual 219, 3) := by decide +kernel
theorem dL_law_1763 : decode cL_law 1763 = .ok (.lstore 6, 2) := by decide +kernel
theorem dL_law_1765 : decode cL_law 1765 = .ok (.aload_n 2, 1) := by decide +kernel
theorem dL_law_1766 : decode cL_law 1766 = .ok (.invokevirtual 142, 3) := by decide +kernel
theorem dL_law_1769 : decode cL_law 1769 = .ok (.iload 5, 2) := by decide +kernel
theorem dL_law_1771 : decode cL_law 1771 = .ok (.if_icmp .eq 5, 3) := by decide +kernel
theorem dL_law_1776 : decode cL_law 1776 = .ok (.iload 5, 2) := by decide +kernel
theorem dL_law_1778 : decode cL_law 1778 = .ok (.ifCond .ne 14, 3) := by decide +kernel
theorem dL_law_1792 : decode cL_law 1792 = .ok (.goto 1017, 3) := by decide +kernel
set_option maxHeartbeats 4000000 in
set_option maxRecDepth 100000 in
theorem law_demerits (l : Launch) (hl0 : l.stackTraces = false) (dC : Nat → ClassId) (dI : Nat → Nat → Nat) (k : Nat → ClassId) {p : Program} {e : Env} {s : State} {m : MethodId} {below : List Frame} {meth : Method} {c : Code} {b : Nat} {xs : Nat → Int32} (hX : va_X b 7 xs s s.heap) (hbl : b < s.heap.size) (hr : meth.sig.returnType = ret) {H : Heap} {locs : List Loc} {ls : Array Slot} (gx : Nat) (T : Nat) (LA : Nat) (sp : Nat) (dr : Nat) (bl : Nat) (pt : Nat) (fk : Nat) (fh : Nat) (ky : Nat) (ou : Nat) (mo : Nat) (V : Nat → Value) (h9 : V 9 = .int 0) (B : bd p s m #[Value.ref b] meth c cL_law 8 "GalleyforgeLaw" dC dI k (fun q => s.heap.size ≤ q) [(gx, .inr (9, [.ref T, .ref LA, .ref sp, .int 0, .ref dr])), (T, .inr (8, [.ref bl, .ref pt, .ref fk, .ref fh, .int 0, .ref ky, .int 60, .int 12])), (bl, .inr (11, [.int 0, .ref (dI 99 1), .int 0])), (ou, .inl (k 2, 1, .inr (.inl (fun _ => 0)))), (mo, .inr (10, fvM V))] H locs) (hl : lv_has ls 8 [(4, .int 0), (3, .ref ou), (2, .ref mo), (1, .ref gx), (0, .ref b)]) : W p l e room_1 s m #[Value.ref b] below meth c H locs 157 183312 (lw_Z below #[Value.ref b] s) (F0 m 1728 ls []) := by
  have hx := B.1.1
  have hb := B.1.2.1
  refine lv_aload_n hx hb dL_law_1728 rfl (lv_at hl 3 rfl) ?_
  refine lv_aload_n hx hb dL_law_1729 rfl (lv_at hl 4 rfl) ?_
  refine lv_iload hx hb dL_law_1730 (lv_at hl 0 rfl) ?_
  refine lv_iconst (v := 1) hx hb dL_law_1732 (by decide) ?_
  refine lv_iadd hx hb dL_law_1733 ?_
  refine lv_seti (y := 1) (by decide) ?_
  refine va_sld hx hb hX hbl (Nat.not_le.mpr hbl) B.2.2.2.2.2 (vpc (by decide)) dL_law_1734 ?_
  refine lv_seti (y := xs 1) rfl ?_
  refine lv_aload_n hx hb dL_law_1735 rfl (lv_at hl 4 rfl) ?_
  refine lv_iload hx hb dL_law_1736 (lv_at hl 0 rfl) ?_
  refine lv_iconst (v := 2) hx hb dL_law_1738 (by decide) ?_
  refine lv_iadd hx hb dL_law_1739 ?_
  refine lv_seti (y := 2) (by decide) ?_
  refine va_sld hx hb hX hbl (Nat.not_le.mpr hbl) B.2.2.2.2.2 (vpc (by decide)) dL_law_1740 ?_
  refine lv_seti (y := xs 2) rfl ?_
  refine lv_aload_n hx hb dL_law_1741 rfl (lv_at hl 1 rfl) ?_
  refine x_callW (rest := []) (wr := [(mo, .inr (10, fvM V))]) (w_demerits l dC dI k hl0 gx T LA sp dr bl pt fk fh ky (xs 1) (xs 2) ou) B mW_L_demerits mw_1693 hl [0, 1, 2, 3] [4] rfl rfl ⟨by decide, by decide⟩ (by decide) ⟨Nat.le_of_ble_eq_true rfl, Nat.le_of_ble_eq_true rfl⟩ (Nat.le_of_ble_eq_true rfl) rfl dL_law_1742 ⟨Nat.le_of_ble_eq_true rfl, Nat.le_of_ble_eq_true rfl⟩ (fun r w H locs hp B => ?_)
  obtain ⟨rfl, rfl⟩ := hp
  have B := bd_to (ws' := [(mo, .inr (10, fvM V))]) rfl B
  refine lv_istore (lv' := [(5, .int 1), (4, .int 0), (3, .ref ou), (2, .ref mo), (1, .ref gx), (0, .ref b)]) hx hb dL_law_1745 hl (by decide) rfl (fun ls hl => ?_)
  refine lv_aload_n hx hb dL_law_1747 rfl (lv_at hl 3 rfl) ?_
  refine lv_aload_n hx hb dL_law_1748 rfl (lv_at hl 5 rfl) ?_
  refine lv_iload hx hb dL_law_1749 (lv_at hl 1 rfl) ?_
  refine lv_iconst (v := 1) hx hb dL_law_1751 (by decide) ?_
  refine lv_iadd hx hb dL_law_1752 ?_
  refine lv_seti (y := 1) (by decide) ?_
  refine va_sld hx hb hX hbl (Nat.not_le.mpr hbl) B.2.2.2.2.2 (vpc (by decide)) dL_law_1753 ?_
  refine lv_seti (y := xs 1) rfl ?_
  refine lv_aload_n hx hb dL_law_1754 rfl (lv_at hl 5 rfl) ?_
  refine lv_iload hx hb dL_law_1755 (lv_at hl 1 rfl) ?_
  refine lv_iconst (v := 2) hx hb dL_law_1757 (by decide) ?_
  refine lv_iadd hx hb dL_law_1758 ?_
  refine lv_seti (y := 2) (by decide) ?_
  refine va_sld hx hb hX hbl (Nat.not_le.mpr hbl) B.2.2.2.2.2 (vpc (by decide)) dL_law_1759 ?_
  refine lv_seti (y := xs 2) rfl ?_
  refine x_callV (rest := []) (wr := []) (m_demerits l dC dI k mo V (xs 1) (xs 2) h9) B mV_X12_demerits mw_2508 hl [0] [] rfl rfl ⟨by decide, by decide⟩ (by decide) (q0 := 0) rfl rfl rfl ⟨Nat.le_of_ble_eq_true rfl, Nat.le_of_ble_eq_true rfl⟩ (Nat.le_of_ble_eq_true rfl) rfl dL_law_1760 ⟨Nat.le_of_ble_eq_true rfl, Nat.le_of_ble_eq_true rfl⟩ (fun r w H locs hp B => ?_)
  obtain ⟨V1_1, z_2, rfl, rfl⟩ := hp
  have B := bd_to (ws' := [(mo, .inr (10, fvM V1_1))]) rfl B
  refine lv_lstore (lv' := [(6, .long 0), (5, .int 1), (4, .int 0), (3, .ref ou), (2, .ref mo), (1, .ref gx), (0, .ref b)]) hx hb dL_law_1763 hl (by decide) rfl (fun ls hl => ?_)
  refine lv_aload_n hx hb dL_law_1765 rfl (lv_at hl 4 rfl) ?_
  refine x_callV (rest := []) (wr := []) (m_thrown l dC dI k mo V1_1 1 z_2) B mV_X12_thrown mw_2144 hl [0] [] rfl rfl ⟨by decide, by decide⟩ (by decide) (q0 := 0) rfl rfl rfl ⟨Nat.le_of_ble_eq_true rfl, Nat.le_of_ble_eq_true rfl⟩ (Nat.le_of_ble_eq_true rfl) rfl dL_law_1766 ⟨Nat.le_of_ble_eq_true rfl, Nat.le_of_ble_eq_true rfl⟩ (fun r w H locs hp B => ?_)
  obtain ⟨rfl, rfl⟩ := hp
  have B := bd_to (ws' := [(mo, .inr (10, fvM V1_1))]) rfl B
  refine lv_iload hx hb dL_law_1769 (lv_at hl 1 rfl) ?_
  refine lv_icmp_eq (tgt := 1776) hx hb dL_law_1771 (by decide) (fun _ => ?_) (fun c9 => absurd (by decide) c9)
  refine lv_iload hx hb dL_law_1776 (lv_at hl 1 rfl) ?_
  refine lv_if_ne (tgt := 1792) hx hb dL_law_1778 (by decide) (fun _ => ?_) (fun c9 => absurd c9 (by decide))
  refine lv_goto (tgt := 2809) hx hb dL_law_1792 (by decide) ?_
  exact law_end hX hbl hr B (lv_sub hl [6, 2] rfl) (Nat.le_of_ble_eq_true rfl) (Nat.le_of_ble_eq_true rfl)

end
