section
theorem mw_1782 : (Jvm.Cond.methodLink "GalleyforgeLaw" (244 : Nat) ({ cls := "GalleyforgeLaw", name := "textAt", desc := "(LGalleyforge;III[J)I" } : Jvm.MethodName)) ∈ gt := gt_at 1917 (by decide +kernel) (by decide +kernel)
theorem mw_1783 : (Jvm.Cond.static ({ cls := "GalleyforgeLaw", name := "textAt", desc := "(LGalleyforge;III[J)I" } : Jvm.MethodName)) ∈ gt := gt_at 1918 (by decide +kernel) (by decide +kernel)
theorem mw_1784 : (Jvm.Cond.codeWith ({ cls := "GalleyforgeLaw", name := "textAt", desc := "(LGalleyforge;III[J)I" } : Jvm.MethodName) method_33_code (6 : Nat) (Option.some Jvm.ClassFile.FieldType.int) [((0 : Nat), (12 : Nat), (15 : Nat), (13 : Nat))]) ∈ gt := gt_at 1919 (by decide +kernel) (by decide +kernel)
theorem mw_2554 : (Jvm.Cond.methodLink "GalleyforgeLaw" (246 : Nat) ({ cls := "GalleyforgeModel", name := "textAt", desc := "(III)I" } : Jvm.MethodName)) ∈ gt := gt_at 2689 (by decide +kernel) (by decide +kernel)
theorem mw_2555 : (Jvm.Cond.instanceMethod ({ cls := "GalleyforgeModel", name := "textAt", desc := "(III)I" } : Jvm.MethodName)) ∈ gt := gt_at 2690 (by decide +kernel) (by decide +kernel)
theorem mw_2556 : (Jvm.Cond.selects "GalleyforgeModel" ({ cls := "GalleyforgeModel", name := "textAt", desc := "(III)I" } : Jvm.MethodName) ({ cls := "GalleyforgeModel", name := "textAt", desc := "(III)I" } : Jvm.MethodName)) ∈ gt := gt_at 2691 (by decide +kernel) (by decide +kernel)
theorem mw_2557 : (Jvm.Cond.code ({ cls := "GalleyforgeModel", name := "textAt", desc := "(III)I" } : Jvm.MethodName) prog_14_method_104_code (5 : Nat) (Option.some Jvm.ClassFile.FieldType.int)) ∈ gt := gt_at 2692 (by decide +kernel) (by decide +kernel)
theorem mV_X12_textAt : mV yX12_textAt cX12_textAt 5 (some .int) 3 := ⟨⟨mw_2557, mw_13, by decide, by decide, by decide +kernel⟩, mw_2555, mw_2556⟩
theorem mW_L_textAt : mW yL_textAt cL_textAt 6 (some .int) [((0 : Nat), (12 : Nat), (15 : Nat), (13 : Nat))] 5 := ⟨⟨mw_1784, mw_0, by decide, by decide, by decide +kernel⟩, mw_1783⟩
theorem dL_law_2297 : decode cL_law 2297 = .ok (.aload_n 1, 1) := by decide +kernel
theorem dL_law_2298 : decode cL_law 2298 = .ok (.aload_n 0, 1) := by decide +kernel
theorem dL_law_2299 : decode cL_law 2299 = .ok (.iload 4, 2) := by decide +kernel
theorem dL_law_2301 : decode cL_law 2301 = .ok (.iconst 1, 1) := by decide +kernel
theorem dL_law_2302 : decode cL_law 2302 = .ok (.iadd, 1) := by decide +kernel
theorem dL_law_2303 : decode cL_law 2303 = .ok (.iaload, 1) := by decide +kernel
theorem dL_law_2304 : decode cL_law 2304 = .ok (.aload_n 0, 1) := by decide +kernel
theorem dL_law_2305 : decode cL_law 2305 = .ok (.iload 4, 2) := by decide +kernel
theorem dL_law_2307 : decode cL_law 2307 = .ok (.iconst 2, 1) := by decide +kernel
theorem dL_law_2308 : decode cL_law 2308 = .ok (.iadd, 1) := by decide +kernel
theorem dL_law_2309 : decode cL_law 2309 = .ok (.iaload, 1) := by decide +kernel
theorem dL_law_2310 : decode cL_law 2310 = .ok (.aload_n 0, 1) := by decide +kernel
theorem dL_law_2311 : decode cL_law 2311 = .ok (.iload 4, 2) := by decide +kernel
theorem dL_law_2313 : decode cL_law 2313 = .ok (.iconst 3, 1) := by decide +kernel
theorem dL_law_2314 : decode cL_law 2314 = .ok (.iadd, 1) := by decide +kernel
theorem dL_law_2315 : decode cL_law 2315 = .ok (.iaload, 1) := by decide +kernel
theorem dL_law_2316 : decode cL_law 2316 = .ok (.aload_n 3, 1) := by decide +kernel
theorem dL_law_2317 : decode cL_law 2317 = .ok (.invokestatic 244, 3) := by decide +kernel
theorem dL_law_2320 : decode cL_law 2320 = .ok (.istore 5, 2) := by decide +kernel
theorem dL_law_2322 : decode cL_law 2322 = .ok (.aload_n 2, 1) := by decide +kernel
theorem dL_law_2323 : decode cL_law 2323 = .ok (.aload_n 0, 1) := by decide +kernel
theorem dL_law_2324 : decode cL_law 2324 = .ok (.iload 4, 2) := by decide +kernel
theorem dL_law_2326 : decode cL_law 2326 = .ok (.iconst 1, 1) := by decide +kernel
theorem dL_law_2327 : decode cL_law 2327 = .ok (.iadd, 1) := by decide +kernel
theorem dL_law_2328 : decode cL_law 2328 = .ok (.iaload, 1) := by decide +kernel
theorem dL_law_2329 : decode cL_law 2329 = .ok (.aload_n 0, 1) := by decide +kernel
theorem dL_law_2330 : decode cL_law 2330 = .ok (.iload 4, 2) := by decide +kernel
theorem dL_law_2332 : decode cL_law 2332 = .ok (.iconst 2, 1) := by decide +kernel
theorem dL_law_2333 : decode cL_law 2333 = .ok (.iadd, 1) := by decide +kernel
theorem dL_law_2334 : decode cL_law 2334 = .ok (.iaload, 1) := by decide +kernel
theorem dL_law_2335 : decode cL_law 2335 = .ok (.aload_n 0, 1) := by decide +kernel
theorem dL_law_2336 : decode cL_law 2336 = .ok (.iload 4, 2) := by decide +kernel
theorem dL_law_2338 : decode cL_law 2338 = .ok (.iconst 3, 1) := by decide +kernel
theorem dL_law_2339 : decode cL_law 2339 = .ok (.iadd, 1) := by decide +kernel
theorem dL_law_2340 : decode cL_law 2340 = .ok (.iaload, 1) := by decide +kernel
theorem dL_law_2341 : decode cL_law 2341 = .ok (.invokevirtual 246, 3) := by decide +kernel
theorem dL_law_2344 : decode cL_law 2344 = .ok (.istore 6, 2) := by decide +kernel
theorem dL_law_2346 : decode cL_law 2346 = .ok (.aload_n 2, 1) := by decide +kernel
theorem dL_law_2347 : decode cL_law 2347 = .ok (.invokevirtual 142, 3) := by decide +kernel
theorem dL_law_2350 : decode cL_law 2350 = .ok (.iload 5, 2) := by decide +kernel
theorem dL_law_2352 : decode cL_law 2352 = .ok (.if_icmp .eq 5, 3) := by decide +kernel
theorem dL_law_2357 : decode cL_law 2357 = .ok (.iload 5, 2) := by decide +kernel
theorem dL_law_2359 : decode cL_law 2359 = .ok (.ifCond .ne 15, 3) := by decide +kernel
theorem dL_law_2374 : decode cL_law 2374 = .ok (.goto 435, 3) := by decide +kernel
set_option maxHeartbeats 4000000 in
set_option maxRecDepth 100000 in
theorem law_textAt (l : Launch) (hl0 : l.stackTraces = false) (dC : Nat → ClassId) (dI : Nat → Nat → Nat) (k : Nat → ClassId) {p : Program} {e : Env} {s : State} {m : MethodId} {below : List Frame} {meth : Method} {c : Code} {b : Nat} {xs : Nat → Int32} (hX : va_X b 7 xs s s.heap) (hbl : b < s.heap.size) (hr : meth.sig.returnType = ret) {H : Heap} {locs : List Loc} {ls : Array Slot} (gx : Nat) (T : Nat) (LA : Nat) (sp : Nat) (dr : Nat) (bl : Nat) (pt : Nat) (fk : Nat) (fh : Nat) (ky : Nat) (LN : Nat) (ST : Nat) (L0 : Nat) (lc0 : Nat) (le0 : Nat) (ll0 : Nat) (ld0 : Nat) (wl0 : Nat) (op0 : Nat) (dg0 : Nat) (L1 : Nat) (lc1 : Nat) (le1 : Nat) (ll1 : Nat) (ld1 : Nat) (wl1 : Nat) (op1 : Nat) (dg1 : Nat) (R0 : Nat) (r00 : Nat) (r10 : Nat) (r20 : Nat) (r30 : Nat) (r40 : Nat) (r50 : Nat) (r60 : Nat) (r70 : Nat) (wr0 : Nat) (lr0 : Nat) (tt0 : Nat) (fr0 : Nat) (r80 : Nat) (r90 : Nat) (R1 : Nat) (r01 : Nat) (r11 : Nat) (r21 : Nat) (r31 : Nat) (r41 : Nat) (r51 : Nat) (r61 : Nat) (r71 : Nat) (wr1 : Nat) (lr1 : Nat) (tt1 : Nat) (fr1 : Nat) (r81 : Nat) (r91 : Nat) (P0 : Nat) (pg0 : Nat) (p00 : Nat) (p10 : Nat) (p20 : Nat) (p30 : Nat) (p40 : Nat) (p50 : Nat) (P1 : Nat) (pg1 : Nat) (p01 : Nat) (p11 : Nat) (p21 : Nat) (p31 : Nat) (p41 : Nat) (p51 : Nat) (ou : Nat) (mo : Nat) (V : Nat → Value) (aDg : Nat) (aRn : Nat) (aSo : Nat) (aHi : Nat) (aNr : Nat) (aNw : Nat) (aNl : Nat) (aNc : Nat) (aNp : Nat) (aNq : Nat) (aNs : Nat) (aNn : Nat) (h9 : V 9 = .int 0) (h21 : V 21 = .int 0) (h47 : V 47 = .ref aDg) (h77 : V 77 = .ref aRn) (h80 : V 80 = .int (-1)) (h90 : V 90 = .ref aSo) (h92 : V 92 = .ref aHi) (h69 : V 69 = .ref aNr) (h70 : V 70 = .ref aNw) (h71 : V 71 = .ref aNl) (h72 : V 72 = .ref aNc) (h73 : V 73 = .ref aNp) (h74 : V 74 = .ref aNq) (h75 : V 75 = .ref aNs) (h76 : V 76 = .ref aNn) (B : bd p s m #[Value.ref b] meth c cL_law 8 "GalleyforgeLaw" dC dI k (fun q => s.heap.size ≤ q) [(gx, .inr (9, [.ref T, .ref LA, .ref sp, .int 0, .ref dr])), (LA, .inl (k 3, 2, .inr (.inr (.inr (.inr (va_up (va_up (fun _ => none) 0 (some L0)) 1 (some L1))))))), (T, .inr (8, [.ref bl, .ref pt, .ref fk, .ref fh, .int 0, .ref ky, .int 60, .int 12])), (bl, .inr (11, [.int 0, .ref (dI 99 1), .int 0])), (L0, .inr (1, [.ref T, .int 0, .ref LN, .ref R0, .ref P0, .int 1, .int 0, .ref lc0, .ref le0, .ref ll0, .ref ld0, .ref wl0, .ref op0, .int 0, .int 0, .int 1365, .ref dg0])), (dg0, .inl (k 0, 730, .inl (fun _ => 0))), (R0, .inr (5, [.int 0, .ref r00, .ref r10, .ref r20, .ref r30, .ref r40, .ref r50, .ref r60, .ref r70, .ref wr0, .ref lr0, .ref tt0, .int 0, .int 0, .ref fr0, .ref r80, .ref r90, .int 0])), (wr0, .inl (k 0, 192, .inl (fun _ => 0))), (lr0, .inl (k 0, 6, .inl (fun _ => 0))), (tt0, .inl (k 1, 8, .inl (fun _ => 0))), (fr0, .inl (k 0, 5, .inl (fun _ => 0))), (P0, .inr (4, [.ref T, .ref R0, .ref pg0, .ref ST, .int 0, .int 0, .ref p00, .ref p10, .ref p20, .ref p30, .ref p40, .ref p50])), (p50, .inl (k 0, 5, .inl (fun _ => 0))), (L1, .inr (1, [.ref T, .int 1, .ref LN, .ref R1, .ref P1, .int 1, .int 0, .ref lc1, .ref le1, .ref ll1, .ref ld1, .ref wl1, .ref op1, .int 0, .int 0, .int 1365, .ref dg1])), (dg1, .inl (k 0, 730, .inl (fun _ => 0))), (R1, .inr (5, [.int 0, .ref r01, .ref r11, .ref r21, .ref r31, .ref r41, .ref r51, .ref r61, .ref r71, .ref wr1, .ref lr1, .ref tt1, .int 0, .int 0, .ref fr1, .ref r81, .ref r91, .int 0])), (wr1, .inl (k 0, 192, .inl (fun _ => 0))), (lr1, .inl (k 0, 6, .inl (fun _ => 0))), (tt1, .inl (k 1, 8, .inl (fun _ => 0))), (fr1, .inl (k 0, 5, .inl (fun _ => 0))), (P1, .inr (4, [.ref T, .ref R1, .ref pg1, .ref ST, .int 0, .int 0, .ref p01, .ref p11, .ref p21, .ref p31, .ref p41, .ref p51])), (p51, .inl (k 0, 5, .inl (fun _ => 0))), (ou, .inl (k 2, 1, .inr (.inl (fun _ => 0)))), (mo, .inr (10, fvM V)), (aNr, .inl (k 0, 16000, .inl (fun _ => 0))), (aNw, .inl (k 0, 16000, .inl (fun _ => 0))), (aNl, .inl (k 0, 16000, .inl (fun _ => 0))), (aNc, .inl (k 0, 16000, .inl (fun _ => 0))), (aNp, .inl (k 0, 16000, .inl (fun _ => 0))), (aNq, .inl (k 0, 16000, .inl (fun _ => 0))), (aNs, .inl (k 0, 16000, .inl (fun _ => 0))), (aNn, .inl (k 0, 16000, .inl (fun _ => 0))), (aRn, .inl (k 0, 769, .inl (fun _ => 0))), (aSo, .inl (k 0, 5, .inl (fun _ => 0))), (aDg, .inl (k 0, 6, .inl (fun _ => 0))), (aHi, .inl (k 0, 800, .inl (fun _ => 0)))] H locs) (hl : lv_has ls 8 [(4, .int 0), (3, .ref ou), (2, .ref mo), (1, .ref gx), (0, .ref b)]) : W p l e room_1 s m #[Value.ref b] below meth c H locs 157 183312 (lw_Z below #[Value.ref b] s) (F0 m 2297 ls []) := by
  have hx := B.1.1
  have hb := B.1.2.1
  refine lv_aload_n hx hb dL_law_2297 rfl (lv_at hl 3 rfl) ?_
  refine lv_aload_n hx hb dL_law_2298 rfl (lv_at hl 4 rfl) ?_
  refine lv_iload hx hb dL_law_2299 (lv_at hl 0 rfl) ?_
  refine lv_iconst (v := 1) hx hb dL_law_2301 (by decide) ?_
  refine lv_iadd hx hb dL_law_2302 ?_
  refine lv_seti (y := 1) (by decide) ?_
  refine va_sld hx hb hX hbl (Nat.not_le.mpr hbl) B.2.2.2.2.2 (vpc (by decide)) dL_law_2303 ?_
  refine lv_seti (y := xs 1) rfl ?_
  refine lv_aload_n hx hb dL_law_2304 rfl (lv_at hl 4 rfl) ?_
  refine lv_iload hx hb dL_law_2305 (lv_at hl 0 rfl) ?_
  refine lv_iconst (v := 2) hx hb dL_law_2307 (by decide) ?_
  refine lv_iadd hx hb dL_law_2308 ?_
  refine lv_seti (y := 2) (by decide) ?_
  refine va_sld hx hb hX hbl (Nat.not_le.mpr hbl) B.2.2.2.2.2 (vpc (by decide)) dL_law_2309 ?_
  refine lv_seti (y := xs 2) rfl ?_
  refine lv_aload_n hx hb dL_law_2310 rfl (lv_at hl 4 rfl) ?_
  refine lv_iload hx hb dL_law_2311 (lv_at hl 0 rfl) ?_
  refine lv_iconst (v := 3) hx hb dL_law_2313 (by decide) ?_
  refine lv_iadd hx hb dL_law_2314 ?_
  refine lv_seti (y := 3) (by decide) ?_
  refine va_sld hx hb hX hbl (Nat.not_le.mpr hbl) B.2.2.2.2.2 (vpc (by decide)) dL_law_2315 ?_
  refine lv_seti (y := xs 3) rfl ?_
  refine lv_aload_n hx hb dL_law_2316 rfl (lv_at hl 1 rfl) ?_
  refine x_callW (rest := []) (wr := [(mo, .inr (10, fvM V)), (aNr, .inl (k 0, 16000, .inl (fun _ => 0))), (aNw, .inl (k 0, 16000, .inl (fun _ => 0))), (aNl, .inl (k 0, 16000, .inl (fun _ => 0))), (aNc, .inl (k 0, 16000, .inl (fun _ => 0))), (aNp, .inl (k 0, 16000, .inl (fun _ => 0))), (aNq, .inl (k 0, 16000, .inl (fun _ => 0))), (aNs, .inl (k 0, 16000, .inl (fun _ => 0))), (aNn, .inl (k 0, 16000, .inl (fun _ => 0))), (aRn, .inl (k 0, 769, .inl (fun _ => 0))), (aSo, .inl (k 0, 5, .inl (fun _ => 0))), (aDg, .inl (k 0, 6, .inl (fun _ => 0))), (aHi, .inl (k 0, 800, .inl (fun _ => 0)))]) (w_textAt l dC dI k hl0 gx T LA sp dr bl pt fk fh ky LN ST L0 lc0 le0 ll0 ld0 wl0 op0 dg0 L1 lc1 le1 ll1 ld1 wl1 op1 dg1 R0 r00 r10 r20 r30 r40 r50 r60 r70 wr0 lr0 tt0 fr0 r80 r90 R1 r01 r11 r21 r31 r41 r51 r61 r71 wr1 lr1 tt1 fr1 r81 r91 P0 pg0 p00 p10 p20 p30 p40 p50 P1 pg1 p01 p11 p21 p31 p41 p51 (xs 1) (xs 2) (xs 3) ou) B mW_L_textAt mw_1782 hl [0, 1, 2, 3, 4, 5, 6, 7, 8, 9, 10, 11, 12, 13, 14, 15, 16, 17, 18, 19, 20, 21, 22] [23, 24, 25, 26, 27, 28, 29, 30, 31, 32, 33, 34, 35] rfl rfl ⟨by decide, by decide⟩ (by decide) ⟨Nat.le_of_ble_eq_true rfl, Nat.le_of_ble_eq_true rfl⟩ (Nat.le_of_ble_eq_true rfl) rfl dL_law_2317 ⟨Nat.le_of_ble_eq_true rfl, Nat.le_of_ble_eq_true rfl⟩ (fun r w H locs hp B => ?_)
  obtain ⟨rfl, rfl⟩ := hp
  have B := bd_to (ws' := [(mo, .inr (10, fvM V)), (aNr, .inl (k 0, 16000, .inl (fun _ => 0))), (aNw, .inl (k 0, 16000, .inl (fun _ => 0))), (aNl, .inl (k 0, 16000, .inl (fun _ => 0))), (aNc, .inl (k 0, 16000, .inl (fun _ => 0))), (aNp, .inl (k 0, 16000, .inl (fun _ => 0))), (aNq, .inl (k 0, 16000, .inl (fun _ => 0))), (aNs, .inl (k 0, 16000, .inl (fun _ => 0))), (aNn, .inl (k 0, 16000, .inl (fun _ => 0))), (aRn, .inl (k 0, 769, .inl (fun _ => 0))), (aSo, .inl (k 0, 5, .inl (fun _ => 0))), (aDg, .inl (k 0, 6, .inl (fun _ => 0))), (aHi, .inl (k 0, 800, .inl (fun _ => 0)))]) rfl B
  refine lv_istore (lv' := [(5, .int 1), (4, .int 0), (3, .ref ou), (2, .ref mo), (1, .ref gx), (0, .ref b)]) hx hb dL_law_2320 hl (by decide) rfl (fun ls hl => ?_)
  refine lv_aload_n hx hb dL_law_2322 rfl (lv_at hl 3 rfl) ?_
  refine lv_aload_n hx hb dL_law_2323 rfl (lv_at hl 5 rfl) ?_
  refine lv_iload hx hb dL_law_2324 (lv_at hl 1 rfl) ?_
  refine lv_iconst (v := 1) hx hb dL_law_2326 (by decide) ?_
  refine lv_iadd hx hb dL_law_2327 ?_
  refine lv_seti (y := 1) (by decide) ?_
  refine va_sld hx hb hX hbl (Nat.not_le.mpr hbl) B.2.2.2.2.2 (vpc (by decide)) dL_law_2328 ?_
  refine lv_seti (y := xs 1) rfl ?_
  refine lv_aload_n hx hb dL_law_2329 rfl (lv_at hl 5 rfl) ?_
  refine lv_iload hx hb dL_law_2330 (lv_at hl 1 rfl) ?_
  refine lv_iconst (v := 2) hx hb dL_law_2332 (by decide) ?_
  refine lv_iadd hx hb dL_law_2333 ?_
  refine lv_seti (y := 2) (by decide) ?_
  refine va_sld hx hb hX hbl (Nat.not_le.mpr hbl) B.2.2.2.2.2 (vpc (by decide)) dL_law_2334 ?_
  refine lv_seti (y := xs 2) rfl ?_
  refine lv_aload_n hx hb dL_law_2335 rfl (lv_at hl 5 rfl) ?_
  refine lv_iload hx hb dL_law_2336 (lv_at hl 1 rfl) ?_
  refine lv_iconst (v := 3) hx hb dL_law_2338 (by decide) ?_
  refine lv_iadd hx hb dL_law_2339 ?_
  refine lv_seti (y := 3) (by decide) ?_
  refine va_sld hx hb hX hbl (Nat.not_le.mpr hbl) B.2.2.2.2.2 (vpc (by decide)) dL_law_2340 ?_
  refine lv_seti (y := xs 3) rfl ?_
  refine x_callV (rest := []) (wr := []) (m_textAt l dC dI k mo V aDg aRn aSo aHi aNr aNw aNl aNc aNp aNq aNs aNn (xs 1) (xs 2) (xs 3) h9 h21 h47 h77 h80 h90 h92 h69 h70 h71 h72 h73 h74 h75 h76) B mV_X12_textAt mw_2554 hl [0, 1, 2, 3, 4, 5, 6, 7, 8, 9, 10, 11, 12] [] rfl rfl ⟨by decide, by decide⟩ (by decide) (q0 := 0) rfl rfl rfl ⟨Nat.le_of_ble_eq_true rfl, Nat.le_of_ble_eq_true rfl⟩ (Nat.le_of_ble_eq_true rfl) rfl dL_law_2341 ⟨Nat.le_of_ble_eq_true rfl, Nat.le_of_ble_eq_true rfl⟩ (fun r w H locs hp B => ?_)
  obtain ⟨V1_1, z_2, rfl, rfl⟩ := hp
  have B := bd_to (ws' := [(mo, .inr (10, fvM V1_1))]) rfl B
  refine lv_istore (lv' := [(6, .int 0), (5, .int 1), (4, .int 0), (3, .ref ou), (2, .ref mo), (1, .ref gx), (0, .ref b)]) hx hb dL_law_2344 hl (by decide) rfl (fun ls hl => ?_)
  refine lv_aload_n hx hb dL_law_2346 rfl (lv_at hl 4 rfl) ?_
  refine x_callV (rest := []) (wr := []) (m_thrown l dC dI k mo V1_1 1 z_2) B mV_X12_thrown mw_2144 hl [0] [] rfl rfl ⟨by decide, by decide⟩ (by decide) (q0 := 0) rfl rfl rfl ⟨Nat.le_of_ble_eq_true rfl, Nat.le_of_ble_eq_true rfl⟩ (Nat.le_of_ble_eq_true rfl) rfl dL_law_2347 ⟨Nat.le_of_ble_eq_true rfl, Nat.le_of_ble_eq_true rfl⟩ (fun r w H locs hp B => ?_)
  obtain ⟨rfl, rfl⟩ := hp
  have B := bd_to (ws' := [(mo, .inr (10, fvM V1_1))]) rfl B
  refine lv_iload hx hb dL_law_2350 (lv_at hl 1 rfl) ?_
  refine lv_icmp_eq (tgt := 2357) hx hb dL_law_2352 (by decide) (fun _ => ?_) (fun c9 => absurd (by decide) c9)
  refine lv_iload hx hb dL_law_2357 (lv_at hl 1 rfl) ?_
  refine lv_if_ne (tgt := 2374) hx hb dL_law_2359 (by decide) (fun _ => ?_) (fun c9 => absurd c9 (by decide))
  refine lv_goto (tgt := 2809) hx hb dL_law_2374 (by decide) ?_
  exact law_end hX hbl hr B (lv_sub hl [6, 2] rfl) (Nat.le_of_ble_eq_true rfl) (Nat.le_of_ble_eq_true rfl)

theorem mw_1789 : (Jvm.Cond.methodLink "GalleyforgeLaw" (247 : Nat) ({ cls := "GalleyforgeLaw", name := "whereIs", desc := "(LGalleyforge;III[J)I" } : Jvm.MethodName)) ∈ gt := gt_at 1924 (by decide +kernel) (by decide +kernel)
theorem mw_1790 : (Jvm.Cond.static ({ cls := "GalleyforgeLaw", name := "whereIs", desc := "(LGalleyforge;III[J)I" } : Jvm.MethodName)) ∈ gt := gt_at 1925 (by decide +kernel) (by decide +kernel)
theorem mw_1791 : (Jvm.Cond.codeWith ({ cls := "GalleyforgeLaw", name := "whereIs", desc := "(LGalleyforge;III[J)I" } : Jvm.MethodName) method_34_code (6 : Nat) (Option.some Jvm.ClassFile.FieldType.int) [((0 : Nat), (12 : Nat), (15 : Nat), (13 : Nat))]) ∈ gt := gt_at 1926 (by decide +kernel) (by decide +kernel)
theorem mw_2558 : (Jvm.Cond.methodLink "GalleyforgeLaw" (249 : Nat) ({ cls := "GalleyforgeModel", name := "whereIs", desc := "(III)I" } : Jvm.MethodName)) ∈ gt := gt_at 2693 (by decide +kernel) (by decide +kernel)
theorem mw_2559 : (Jvm.Cond.instanceMethod ({ cls := "GalleyforgeModel", name := "whereIs", desc := "(III)I" } : Jvm.MethodName)) ∈ gt := gt_at 2694 (by decide +kernel) (by decide +kernel)
theorem mw_2560 : (Jvm.Cond.selects "GalleyforgeModel" ({ cls := "GalleyforgeModel", name := "whereIs", desc := "(III)I" } : Jvm.MethodName) ({ cls := "GalleyforgeModel", name := "whereIs", desc := "(III)I" } : Jvm.MethodName)) ∈ gt := gt_at 2695 (by decide +kernel) (by decide +kernel)
theorem mw_2561 : (Jvm.Cond.code ({ cls := "GalleyforgeModel", name := "whereIs", desc := "(III)I" } : Jvm.MethodName) prog_14_method_105_code (6 : Nat) (Option.some Jvm.ClassFile.FieldType.int)) ∈ gt := gt_at 2696 (by decide +kernel) (by decide +kernel)
theorem mV_X12_whereIs : mV yX12_whereIs cX12_whereIs 6 (some .int) 3 := ⟨⟨mw_2561, mw_13, by decide, by decide, by decide +kernel⟩, mw_2559, mw_2560⟩
theorem mW_L_whereIs : mW yL_whereIs cL_whereIs 6 (some .int) [((0 : Nat), (12 : Nat), (15 : Nat), (13 : Nat))] 5 := ⟨⟨mw_1791, mw_0, by decide, by decide, by decide +kernel⟩, mw_1790⟩
theorem dL_law_2377 : decode cL_law 2377 = .ok (.aload_n 1, 1) := by decide +kernel
theorem dL_law_2378 : decode cL_law 2378 = .ok (.aload_n 0, 1) := by decide +kernel
theorem dL_law_2379 : decode cL_law 2379 = .ok (.iload 4, 2) := by decide +kernel
theorem dL_law_2381 : decode cL_law 2381 = .ok (.iconst 1, 1) := by decide +kernel
theorem dL_law_2382 : decode cL_law 2382 = .ok (.iadd, 1) := by decide +kernel
theorem dL_law_2383 : decode cL_law 2383 = .ok (.iaload, 1) := by decide +kernel
theorem dL_law_2384 : decode cL_law 2384 = .ok (.aload_n 0, 1) := by decide +kernel
theorem dL_law_2385 : decode cL_law 2385 = .ok (.iload 4, 2) := by decide +kernel
theorem dL_law_2387 : decode cL_law 2387 = .ok (.iconst 2, 1) := by decide +kernel
theorem dL_law_2388 : decode cL_law 2388 = .ok (.iadd, 1) := by decide +kernel
theorem dL_law_2389 : decode cL_law 2389 = .ok (.iaload, 1) := by decide +kernel
theorem dL_law_2390 : decode cL_law 2390 = .ok (.aload_n 0, 1) := by decide +kernel
theorem dL_law_2391 : decode cL_law 2391 = .ok (.iload 4, 2) := by decide +kernel
theorem dL_law_2393 : decode cL_law 2393 = .ok (.iconst 3, 1) := by decide +kernel
theorem dL_law_2394 : decode cL_law 2394 = .ok (.iadd, 1) := by decide +kernel
theorem dL_law_2395 : decode cL_law 2395 = .ok (.iaload, 1) := by decide +kernel
theorem dL_law_2396 : decode cL_law 2396 = .ok (.aload_n 3, 1) := by decide +kernel
theorem dL_law_2397 : decode cL_law 2397 = .ok (.invokestatic 247, 3) := by decide +kernel
theorem dL_law_2400 : decode cL_law 2400 = .ok (.istore 5, 2) := by decide +kernel
theorem dL_law_2402 : decode cL_law 2402 = .ok (.aload_n 2, 1) := by decide +kernel
theorem dL_law_2403 : decode cL_law 2403 = .ok (.aload_n 0, 1) := by decide +kernel
theorem dL_law_2404 : decode cL_law 2404 = .ok (.iload 4, 2) := by decide +kernel
theorem dL_law_2406 : decode cL_law 2406 = .ok (.iconst 1, 1) := by decide +kernel
theorem dL_law_2407 : decode cL_law 2407 = .ok (.iadd, 1) := by decide +kernel
theorem dL_law_2408 : decode cL_law 2408 = .ok (.iaload, 1) := by decide +kernel
theorem dL_law_2409 : decode cL_law 2409 = .ok (.aload_n 0, 1) := by decide +kernel
theorem dL_law_2410 : decode cL_law 2410 = .ok (.iload 4, 2) := by decide +kernel
theorem dL_law_2412 : decode cL_law 2412 = .ok (.iconst 2, 1) := by decide +kernel
theorem dL_law_2413 : decode cL_law 2413 = .ok (.iadd, 1) := by decide +kernel
theorem dL_law_2414 : decode cL_law 2414 = .ok (.iaload, 1) := by decide +kernel
theorem dL_law_2415 : decode cL_law 2415 = .ok (.aload_n 0, 1) := by decide +kernel
theorem dL_law_2416 : decode cL_law 2416 = .ok (.iload 4, 2) := by decide +kernel
theorem dL_law_2418 : decode cL_law 2418 = .ok (.iconst 3, 1) := by decide +kernel
theorem dL_law_2419 : decode cL_law 2419 = .ok (.iadd, 1) := by decide +kernel
theorem dL_law_2420 : decode cL_law 2420 = .ok (.iaload, 1) := by decide +kernel
theorem dL_law_2421 : decode cL_law 2421 = .ok (.invokevirtual 249, 3) := by decide +kernel
theorem dL_law_2424 : decode cL_law 2424 = .ok (.istore 6, 2) := by decide +kernel
theorem dL_law_2426 : decode cL_law 2426 = .ok (.aload_n 2, 1) := by decide +kernel
theorem dL_law_2427 : decode cL_law 2427 = .ok (.invokevirtual 142, 3) := by decide +kernel
theorem dL_law_2430 : decode cL_law 2430 = .ok (.iload 5, 2) := by decide +kernel
theorem dL_law_2432 : decode cL_law 2432 = .ok (.if_icmp .eq 5, 3) := by decide +kernel
theorem dL_law_2437 : decode cL_law 2437 = .ok (.iload 5, 2) := by decide +kernel
theorem dL_law_2439 : decode cL_law 2439 = .ok (.ifCond .ne 15, 3) := by decide +kernel
theorem dL_law_2454 : decode cL_law 2454 = .ok (.goto 355, 3) := by decide +kernel
set_option maxHeartbeats 4000000 in
set_option maxRecDepth 100000 in
theorem law_whereIs (l : Launch) (hl0 : l.stackTraces = false) (dC : Nat → ClassId) (dI : Nat → Nat → Nat) (k : Nat → ClassId) {p : Program} {e : Env} {s : State} {m : MethodId} {below : List Frame} {meth : Method} {c : Code} {b : Nat} {xs : Nat → Int32} (hX : va_X b 7 xs s s.heap) (hbl : b < s.heap.size) (hr : meth.sig.returnType = ret) {H : Heap} {locs : List Loc} {ls : Array Slot} (gx : Nat) (T : Nat) (LA : Nat) (sp : Nat) (dr : Nat) (bl : Nat) (pt : Nat) (fk : Nat) (fh : Nat) (ky : Nat) (ou : Nat) (mo : Nat) (V : Nat → Value) (h9 : V 9 = .int 0) (B : bd p s m #[Value.ref b] meth c cL_law 8 "GalleyforgeLaw" dC dI k (fun q => s.heap.size ≤ q) [(gx, .inr (9, [.ref T, .ref LA, .ref sp, .int 0, .ref dr])), (T, .inr (8, [.ref bl, .ref pt, .ref fk, .ref fh, .int 0, .ref ky, .int 60, .int 12])), (bl, .inr (11, [.int 0, .ref (dI 99 1), .int 0])), (ou, .inl (k 2, 1, .inr (.inl (fun _ => 0)))), (mo, .inr (10, fvM V))] H locs) (hl : lv_has ls 8 [(4, .int 0), (3, .ref ou), (2, .ref mo), (1, .ref gx), (0, .ref b)]) : W p l e room_1 s m #[Value.ref b] below meth c H locs 157 183312 (lw_Z below #[Value.ref b] s) (F0 m 2377 ls []) := by
  have hx := B.1.1
  have hb := B.1.2.1
  refine lv_aload_n hx hb dL_law_2377 rfl (lv_at hl 3 rfl) ?_
  refine lv_aload_n hx hb dL_law_2378 rfl (lv_at hl 4 rfl) ?_
  refine lv_iload hx hb dL_law_2379 (lv_at hl 0 rfl) ?_
  refine lv_iconst (v := 1) hx hb dL_law_2381 (by decide) ?_
  refine lv_iadd hx hb dL_law_2382 ?_
  refine lv_seti (y := 1) (by decide) ?_
  refine va_sld hx hb hX hbl (Nat.not_le.mpr hbl) B.2.2.2.2.2 (vpc (by decide)) dL_law_2383 ?_
  refine lv_seti (y := xs 1) rfl ?_
  refine lv_aload_n hx hb dL_law_2384 rfl (lv_at hl 4 rfl) ?_
  refine lv_iload hx hb dL_law_2385 (lv_at hl 0 rfl) ?_
  refine lv_iconst (v := 2) hx hb dL_law_2387 (by decide) ?_
  refine lv_iadd hx hb dL_law_2388 ?_
  refine lv_seti (y := 2) (by decide) ?_
  refine va_sld hx hb hX hbl (Nat.not_le.mpr hbl) B.2.2.2.2.2 (vpc (by decide)) dL_law_2389 ?_
  refine lv_seti (y := xs 2) rfl ?_
  refine lv_aload_n hx hb dL_law_2390 rfl (lv_at hl 4 rfl) ?_
  refine lv_iload hx hb dL_law_2391 (lv_at hl 0 rfl) ?_
  refine lv_iconst (v := 3) hx hb dL_law_2393 (by decide) ?_
  refine lv_iadd hx hb dL_law_2394 ?_
  refine lv_seti (y := 3) (by decide) ?_
  refine va_sld hx hb hX hbl (Nat.not_le.mpr hbl) B.2.2.2.2.2 (vpc (by decide)) dL_law_2395 ?_
  refine lv_seti (y := xs 3) rfl ?_
  refine lv_aload_n hx hb dL_law_2396 rfl (lv_at hl 1 rfl) ?_
  refine x_callW (rest := []) (wr := [(mo, .inr (10, fvM V))]) (w_whereIs l dC dI k hl0 gx T LA sp dr bl pt fk fh ky (xs 1) (xs 2) (xs 3) ou) B mW_L_whereIs mw_1789 hl [0, 1, 2, 3] [4] rfl rfl ⟨by decide, by decide⟩ (by decide) ⟨Nat.le_of_ble_eq_true rfl, Nat.le_of_ble_eq_true rfl⟩ (Nat.le_of_ble_eq_true rfl) rfl dL_law_2397 ⟨Nat.le_of_ble_eq_true rfl, Nat.le_of_ble_eq_true rfl⟩ (fun r w H locs hp B => ?_)
  obtain ⟨rfl, rfl⟩ := hp
  have B := bd_to (ws' := [(mo, .inr (10, fvM V))]) rfl B
  refine lv_istore (lv' := [(5, .int 1), (4, .int 0), (3, .ref ou), (2, .ref mo), (1, .ref gx), (0, .ref b)]) hx hb dL_law_2400 hl (by decide) rfl (fun ls hl => ?_)
  refine lv_aload_n hx hb dL_law_2402 rfl (lv_at hl 3 rfl) ?_
  refine lv_aload_n hx hb dL_law_2403 rfl (lv_at hl 5 rfl) ?_
  refine lv_iload hx hb dL_law_2404 (lv_at hl 1 rfl) ?_
  refine lv_iconst (v := 1) hx hb dL_law_2406 (by decide) ?_
  refine lv_iadd hx hb dL_law_2407 ?_
  refine lv_seti (y := 1) (by decide) ?_
  refine va_sld hx hb hX hbl (Nat.not_le.mpr hbl) B.2.2.2.2.2 (vpc (by decide)) dL_law_2408 ?_
  refine lv_seti (y := xs 1) rfl ?_
  refine lv_aload_n hx hb dL_law_2409 rfl (lv_at hl 5 rfl) ?_
  refine lv_iload hx hb dL_law_2410 (lv_at hl 1 rfl) ?_
  refine lv_iconst (v := 2) hx hb dL_law_2412 (by decide) ?_
  refine lv_iadd hx hb dL_law_2413 ?_
  refine lv_seti (y := 2) (by decide) ?_
  refine va_sld hx hb hX hbl (Nat.not_le.mpr hbl) B.2.2.2.2.2 (vpc (by decide)) dL_law_2414 ?_
  refine lv_seti (y := xs 2) rfl ?_
  refine lv_aload_n hx hb dL_law_2415 rfl (lv_at hl 5 rfl) ?_
  refine lv_iload hx hb dL_law_2416 (lv_at hl 1 rfl) ?_
  refine lv_iconst (v := 3) hx hb dL_law_2418 (by decide) ?_
  refine lv_iadd hx hb dL_law_2419 ?_
  refine lv_seti (y := 3) (by decide) ?_
  refine va_sld hx hb hX hbl (Nat.not_le.mpr hbl) B.2.2.2.2.2 (vpc (by decide)) dL_law_2420 ?_
  refine lv_seti (y := xs 3) rfl ?_
  refine x_callV (rest := []) (wr := []) (m_whereIs l dC dI k mo V (xs 1) (xs 2) (xs 3) h9) B mV_X12_whereIs mw_2558 hl [0] [] rfl rfl ⟨by decide, by decide⟩ (by decide) (q0 := 0) rfl rfl rfl ⟨Nat.le_of_ble_eq_true rfl, Nat.le_of_ble_eq_true rfl⟩ (Nat.le_of_ble_eq_true rfl) rfl dL_law_2421 ⟨Nat.le_of_ble_eq_true rfl, Nat.le_of_ble_eq_true rfl⟩ (fun r w H locs hp B => ?_)
  obtain ⟨V1_1, z_2, rfl, rfl⟩ := hp
  have B := bd_to (ws' := [(mo, .inr (10, fvM V1_1))]) rfl B
  refine lv_istore (lv' := [(6, .int 0), (5, .int 1), (4, .int 0), (3, .ref ou), (2, .ref mo), (1, .ref gx), (0, .ref b)]) hx hb dL_law_2424 hl (by decide) rfl (fun ls hl => ?_)
  refine lv_aload_n hx hb dL_law_2426 rfl (lv_at hl 4 rfl) ?_
  refine x_callV (rest := []) (wr := []) (m_thrown l dC dI k mo V1_1 1 z_2) B mV_X12_thrown mw_2144 hl [0] [] rfl rfl ⟨by decide, by decide⟩ (by decide) (q0 := 0) rfl rfl rfl ⟨Nat.le_of_ble_eq_true rfl, Nat.le_of_ble_eq_true rfl⟩ (Nat.le_of_ble_eq_true rfl) rfl dL_law_2427 ⟨Nat.le_of_ble_eq_true rfl, Nat.le_of_ble_eq_true rfl⟩ (fun r w H locs hp B => ?_)
  obtain ⟨rfl, rfl⟩ := hp
  have B := bd_to (ws' := [(mo, .inr (10, fvM V1_1))]) rfl B
  refine lv_iload hx hb dL_law_2430 (lv_at hl 1 rfl) ?_
  refine lv_icmp_eq (tgt := 2437) hx hb dL_law_2432 (by decide) (fun _ => ?_) (fun c9 => absurd (by decide) c9)
  refine lv_iload hx hb dL_law_2437 (lv_at hl 1 rfl) ?_
  refine lv_if_ne (tgt := 2454) hx hb dL_law_2439 (by decide) (fun _ => ?_) (fun c9 => absurd c9 (by decide))
  refine lv_goto (tgt := 2809) hx hb dL_law_2454 (by decide) ?_
  exact law_end hX hbl hr B (lv_sub hl [6, 2] rfl) (Nat.le_of_ble_eq_true rfl) (Nat.le_of_ble_eq_true rfl)

theorem mw_1797 : (Jvm.Cond.methodLink "GalleyforgeLaw" (250 : Nat) ({ cls := "GalleyforgeLaw", name := "figureAt", desc := "(LGalleyforge;II[J)I" } : Jvm.MethodName)) ∈ gt := gt_at 1932 (by decide +kernel) (by decide +kernel)
theorem mw_1798 : (Jvm.Cond.static ({ cls := "GalleyforgeLaw", name := "figureAt", desc := "(LGalleyforge;II[J)I" } : Jvm.MethodName)) ∈ gt := gt_at 1933 (by decide +kernel) (by decide +kernel)
theorem mw_1799 : (Jvm.Cond.codeWith ({ cls := "GalleyforgeLaw", name := "figureAt", desc := "(LGalleyforge;II[J)I" } : Jvm.MethodName) method_35_code (5 : Nat) (Option.some Jvm.ClassFile.FieldType.int) [((0 : Nat), (10 : Nat), (13 : Nat), (13 : Nat))]) ∈ gt := gt_at 1934 (by decide +kernel) (by decide +kernel)
theorem mw_2562 : (Jvm.Cond.methodLink "GalleyforgeLaw" (252 : Nat) ({ cls := "GalleyforgeModel", name := "figureAt", desc := "(II)I" } : Jvm.MethodName)) ∈ gt := gt_at 2697 (by decide +kernel) (by decide +kernel)
theorem mw_2563 : (Jvm.Cond.instanceMethod ({ cls := "GalleyforgeModel", name := "figureAt", desc := "(II)I" } : Jvm.MethodName)) ∈ gt := gt_at 2698 (by decide +kernel) (by decide +kernel)
theorem mw_2564 : (Jvm.Cond.selects "GalleyforgeModel" ({ cls := "GalleyforgeModel", name := "figureAt", desc := "(II)I" } : Jvm.MethodName) ({ cls := "GalleyforgeModel", name := "figureAt", desc := "(II)I" } : Jvm.MethodName)) ∈ gt := gt_at 2699 (by decide +kernel) (by decide +kernel)
theorem mw_2565 : (Jvm.Cond.code ({ cls := "GalleyforgeModel", name := "figureAt", desc := "(II)I" } : Jvm.MethodName) prog_14_method_106_code (4 : Nat) (Option.some Jvm.ClassFile.FieldType.int)) ∈ gt := gt_at 2700 (by decide +kernel) (by decide +kernel)
theorem mV_X12_figureAt : mV yX12_figureAt cX12_figureAt 4 (some .int) 2 := ⟨⟨mw_2565, mw_13, by decide, by decide, by decide +kernel⟩, mw_2563, mw_2564⟩
theorem mW_L_figureAt : mW yL_figureAt cL_figureAt 5 (some .int) [((0 : Nat), (10 : Nat), (13 : Nat), (13 : Nat))] 4 := ⟨⟨mw_1799, mw_0, by decide, by decide, by decide +kernel⟩, mw_1798⟩
theorem dL_law_2457 : decode cL_law 2457 = .ok (.aload_n 1, 1) := by decide +kernel
theorem dL_law_2458 : decode cL_law 2458 = .ok (.aload_n 0, 1) := by decide +kernel
theorem dL_law_2459 : decode cL_law 2459 = .ok (.iload 4, 2) := by decide +kernel
theorem dL_law_2461 : decode cL_law 2461 = .ok (.iconst 1, 1) := by decide +kernel
theorem dL_law_2462 : decode cL_law 2462 = .ok (.iadd, 1) := by decide +kernel
theorem dL_law_2463 : decode cL_law 2463 = .ok (.iaload, 1) := by decide +kernel
theorem dL_law_2464 : decode cL_law 2464 = .ok (.aload_n 0, 1) := by decide +kernel
theorem dL_law_2465 : decode cL_law 2465 = .ok (.iload 4, 2) := by decide +kernel
theorem dL_law_2467 : decode cL_law 2467 = .ok (.iconst 2, 1) := by decide +kernel
theorem dL_law_2468 : decode cL_law 2468 = .ok (.iadd, 1) := by decide +kernel
theorem dL_law_2469 : decode cL_law 2469 = .ok (.iaload, 1) := by decide +kernel
theorem dL_law_2470 : decode cL_law 2470 = .ok (.aload_n 3, 1) := by decide +kernel
theorem dL_law_2471 : decode cL_law 2471 = .ok (.invokestatic 250, 3) := by decide +kernel
theorem dL_law_2474 : decode cL_law 2474 = .ok (.istore 5, 2) := by decide +kernel
theorem dL_law_2476 : decode cL_law 2476 = .ok (.aload_n 2, 1) := by decide +kernel
theorem dL_law_2477 : decode cL_law 2477 = .ok (.aload_n 0, 1) := by decide +kernel
theorem dL_law_2478 : decode cL_law 2478 = .ok (.iload 4, 2) := by decide +kernel
theorem dL_law_2480 : decode cL_law 2480 = .ok (.iconst 1, 1) := by decide +kernel
theorem dL_law_2481 : decode cL_law 2481 = .ok (.iadd, 1) := by decide +kernel
theorem dL_law_2482 : decode cL_law 2482 = .ok (.iaload, 1) := by decide +kernel
theorem dL_law_2483 : decode cL_law 2483 = .ok (.aload_n 0, 1) := by decide +kernel
theorem dL_law_2484 : decode cL_law 2484 = .ok (.iload 4, 2) := by decide +kernel
theorem dL_law_2486 : decode cL_law 2486 = .ok (.iconst 2, 1) := by decide +kernel
theorem dL_law_2487 : decode cL_law 2487 = .ok (.iadd, 1) := by decide +kernel
theorem dL_law_2488 : decode cL_law 2488 = .ok (.iaload, 1) := by decide +kernel
theorem dL_law_2489 : decode cL_law 2489 = .ok (.invokevirtual 252, 3) := by decide +kernel
theorem dL_law_2492 : decode cL_law 2492 = .ok (.istore 6, 2) := by decide +kernel
theorem dL_law_2494 : decode cL_law 2494 = .ok (.aload_n 2, 1) := by decide +kernel
theorem dL_law_2495 : decode cL_law 2495 = .ok (.invokevirtual 142, 3) := by decide +kernel
theorem dL_law_2498 : decode cL_law 2498 = .ok (.iload 5, 2) := by decide +kernel
theorem dL_law_2500 : decode cL_law 2500 = .ok (.if_icmp .eq 5, 3) := by decide +kernel
theorem dL_law_2505 : decode cL_law 2505 = .ok (.iload 5, 2) := by decide +kernel
theorem dL_law_2507 : decode cL_law 2507 = .ok (.ifCond .ne 15, 3) := by decide +kernel
theorem dL_law_2522 : decode cL_law 2522 = .ok (.goto 287, 3) := by decide +kernel
set_option maxHeartbeats 4000000 in
set_option maxRecDepth 100000 in
theorem law_figureAt (l : Launch) (hl0 : l.stackTraces = false) (dC : Nat → ClassId) (dI : Nat → Nat → Nat) (k : Nat → ClassId) {p : Program} {e : Env} {s : State} {m : MethodId} {below : List Frame} {meth : Method} {c : Code} {b : Nat} {xs : Nat → Int32} (hX : va_X b 7 xs s s.heap) (hbl : b < s.heap.size) (hr : meth.sig.returnType = ret) {H : Heap} {locs : List Loc} {ls : Array Slot} (gx : Nat) (T : Nat) (LA : Nat) (sp : Nat) (dr : Nat) (bl : Nat) (pt : Nat) (fk : Nat) (fh : Nat) (ky : Nat) (ou : Nat) (mo : Nat) (V : Nat → Value) (h21 : V 21 = .int 0) (B : bd p s m #[Value.ref b] meth c cL_law 8 "GalleyforgeLaw" dC dI k (fun q => s.heap.size ≤ q) [(gx, .inr (9, [.ref T, .ref LA, .ref sp, .int 0, .ref dr])), (T, .inr (8, [.ref bl, .ref pt, .ref fk, .ref fh, .int 0, .ref ky, .int 60, .int 12])), (bl, .inr (11, [.int 0, .ref (dI 99 1), .int 0])), (ou, .inl (k 2, 1, .inr (.inl (fun _ => 0)))), (mo, .inr (10, fvM V))] H locs) (hl : lv_has ls 8 [(4, .int 0), (3, .ref ou), (2, .ref mo), (1, .ref gx), (0, .ref b)]) : W p l e room_1 s m #[Value.ref b] below meth c H locs 157 183312 (lw_Z below #[Value.ref b] s) (F0 m 2457 ls []) := by
  have hx := B.1.1
  have hb := B.1.2.1
  refine lv_aload_n hx hb dL_law_2457 rfl (lv_at hl 3 rfl) ?_
  refine lv_aload_n hx hb dL_law_2458 rfl (lv_at hl 4 rfl) ?_
  refine lv_iload hx hb dL_law_2459 (lv_at hl 0 rfl) ?_
  refine lv_iconst (v := 1) hx hb dL_law_2461 (by decide) ?_
  refine lv_iadd hx hb dL_law_2462 ?_
  refine lv_seti (y := 1) (by decide) ?_
  refine va_sld hx hb hX hbl (Nat.not_le.mpr hbl) B.2.2.2.2.2 (vpc (by decide)) dL_law_2463 ?_
  refine lv_seti (y := xs 1) rfl ?_
  refine lv_aload_n hx hb dL_law_2464 rfl (lv_at hl 4 rfl) ?_
  refine lv_iload hx hb dL_law_2465 (lv_at hl 0 rfl) ?_
  refine lv_iconst (v := 2) hx hb dL_law_2467 (by decide) ?_
  refine lv_iadd hx hb dL_law_2468 ?_
  refine lv_seti (y := 2) (by decide) ?_
  refine va_sld hx hb hX hbl (Nat.not_le.mpr hbl) B.2.2.2.2.2 (vpc (by decide)) dL_law_2469 ?_
  refine lv_seti (y := xs 2) rfl ?_
  refine lv_aload_n hx hb dL_law_2470 rfl (lv_at hl 1 rfl) ?_
  refine x_callW (rest := []) (wr := [(mo, .inr (10, fvM V))]) (w_figureAt l dC dI k hl0 gx T LA sp dr bl pt fk fh ky (xs 1) (xs 2) ou) B mW_L_figureAt mw_1797 hl [0, 1, 2, 3] [4] rfl rfl ⟨by decide, by decide⟩ (by decide) ⟨Nat.le_of_ble_eq_true rfl, Nat.le_of_ble_eq_true rfl⟩ (Nat.le_of_ble_eq_true rfl) rfl dL_law_2471 ⟨Nat.le_of_ble_eq_true rfl, Nat.le_of_ble_eq_true rfl⟩ (fun r w H locs hp B => ?_)
  obtain ⟨rfl, rfl⟩ := hp
  have B := bd_to (ws' := [(mo, .inr (10, fvM V))]) rfl B
  refine lv_istore (lv' := [(5, .int 1), (4, .int 0), (3, .ref ou), (2, .ref mo), (1, .ref gx), (0, .ref b)]) hx hb dL_law_2474 hl (by decide) rfl (fun ls hl => ?_)
  refine lv_aload_n hx hb dL_law_2476 rfl (lv_at hl 3 rfl) ?_
  refine lv_aload_n hx hb dL_law_2477 rfl (lv_at hl 5 rfl) ?_
  refine lv_iload hx hb dL_law_2478 (lv_at hl 1 rfl) ?_
  refine lv_iconst (v := 1) hx hb dL_law_2480 (by decide) ?_
  refine lv_iadd hx hb dL_law_2481 ?_
  refine lv_seti (y := 1) (by decide) ?_
  refine va_sld hx hb hX hbl (Nat.not_le.mpr hbl) B.2.2.2.2.2 (vpc (by decide)) dL_law_2482 ?_
  refine lv_seti (y := xs 1) rfl ?_
  refine lv_aload_n hx hb dL_law_2483 rfl (lv_at hl 5 rfl) ?_
  refine lv_iload hx hb dL_law_2484 (lv_at hl 1 rfl) ?_
  refine lv_iconst (v := 2) hx hb dL_law_2486 (by decide) ?_
  refine lv_iadd hx hb dL_law_2487 ?_
  refine lv_seti (y := 2) (by decide) ?_
  refine va_sld hx hb hX hbl (Nat.not_le.mpr hbl) B.2.2.2.2.2 (vpc (by decide)) dL_law_2488 ?_
  refine lv_seti (y := xs 2) rfl ?_
  refine x_callV (rest := []) (wr := []) (m_figureAt l dC dI k mo V (xs 1) (xs 2) h21) B mV_X12_figureAt mw_2562 hl [0] [] rfl rfl ⟨by decide, by decide⟩ (by decide) (q0 := 0) rfl rfl rfl ⟨Nat.le_of_ble_eq_true rfl, Nat.le_of_ble_eq_true rfl⟩ (Nat.le_of_ble_eq_true rfl) rfl dL_law_2489 ⟨Nat.le_of_ble_eq_true rfl, Nat.le_of_ble_eq_true rfl⟩ (fun r w H locs hp B => ?_)
  obtain ⟨V1_1, z_2, rfl, rfl⟩ := hp
  have B := bd_to (ws' := [(mo, .inr (10, fvM V1_1))]) rfl B
  refine lv_istore (lv' := [(6, .int 0), (5, .int 1), (4, .int 0), (3, .ref ou), (2, .ref mo), (1, .ref gx), (0, .ref b)]) hx hb dL_law_2492 hl (by decide) rfl (fun ls hl => ?_)
  refine lv_aload_n hx hb dL_law_2494 rfl (lv_at hl 4 rfl) ?_
  refine x_callV (rest := []) (wr := []) (m_thrown l dC dI k mo V1_1 1 z_2) B mV_X12_thrown mw_2144 hl [0] [] rfl rfl ⟨by decide, by decide⟩ (by decide) (q0 := 0) rfl rfl rfl ⟨Nat.le_of_ble_eq_true rfl, Nat.le_of_ble_eq_true rfl⟩ (Nat.le_of_ble_eq_true rfl) rfl dL_law_2495 ⟨Nat.le_of_ble_eq_true rfl, Nat.le_of_ble_eq_true rfl⟩ (fun r w H locs hp B => ?_)
  obtain ⟨rfl, rfl⟩ := hp
  have B := bd_to (ws' := [(mo, .inr (10, fvM V1_1))]) rfl B
  refine lv_iload hx hb dL_law_2498 (lv_at hl 1 rfl) ?_
  refine lv_icmp_eq (tgt := 2505) hx hb dL_law_2500 (by decide) (fun _ => ?_) (fun c9 => absurd (by decide) c9)
  refine lv_iload hx hb dL_law_2505 (lv_at hl 1 rfl) ?_
  refine lv_if_ne (tgt := 2522) hx hb dL_law_2507 (by decide) (fun _ => ?_) (fun c9 => absurd c9 (by decide))
  refine lv_goto (tgt := 2809) hx hb dL_law_2522 (by decide) ?_
  exact law_end hX hbl hr B (lv_sub hl [6, 2] rfl) (Nat.le_of_ble_eq_true rfl) (Nat.le_of_ble_eq_true rfl)

theorem mw_1805 : (Jvm.Cond.methodLink "GalleyforgeLaw" (253 : Nat) ({ cls := "GalleyforgeLaw", name := "labelPage", desc := "(LGalleyforge;II[J)I" } : Jvm.MethodName)) ∈ gt := gt_at 1940 (by decide +kernel) (by decide +kernel)
theorem mw_1806 : (Jvm.Cond.static ({ cls := "GalleyforgeLaw", name := "labelPage", desc := "(LGalleyforge;II[J)I" } : Jvm.MethodName)) ∈ gt := gt_at 1941 (by decide +kernel) (by decide +kernel)
theorem mw_1807 : (Jvm.Cond.codeWith ({ cls := "GalleyforgeLaw", name := "labelPage", desc := "(LGalleyforge;II[J)I" } : Jvm.MethodName) method_36_code (5 : Nat) (Option.some Jvm.ClassFile.FieldType.int) [((0 : Nat), (10 : Nat), (13 : Nat), (13 : Nat))]) ∈ gt := gt_at 1942 (by decide +kernel) (by decide +kernel)
theorem mw_2566 : (Jvm.Cond.methodLink "GalleyforgeLaw" (255 : Nat) ({ cls := "GalleyforgeModel", name := "labelPage", desc := "(II)I" } : Jvm.MethodName)) ∈ gt := gt_at 2701 (by decide +kernel) (by decide +kernel)
theorem mw_2567 : (Jvm.Cond.instanceMethod ({ cls := "GalleyforgeModel", name := "labelPage", desc := "(II)I" } : Jvm.MethodName)) ∈ gt := gt_at 2702 (by decide +kernel) (by decide +kernel)
theorem mw_2568 : (Jvm.Cond.selects "GalleyforgeModel" ({ cls := "GalleyforgeModel", name := "labelPage", desc := "(II)I" } : Jvm.MethodName) ({ cls := "GalleyforgeModel", name := "labelPage", desc := "(II)I" } : Jvm.MethodName)) ∈ gt := gt_at 2703 (by decide +kernel) (by decide +kernel)
theorem mw_2569 : (Jvm.Cond.code ({ cls := "GalleyforgeModel", name := "labelPage", desc := "(II)I" } : Jvm.MethodName) prog_14_method_107_code (4 : Nat) (Option.some Jvm.ClassFile.FieldType.int)) ∈ gt := gt_at 2704 (by decide +kernel) (by decide +kernel)
theorem mV_X12_labelPage : mV yX12_labelPage cX12_labelPage 4 (some .int) 2 := ⟨⟨mw_2569, mw_13, by decide, by decide, by decide +kernel⟩, mw_2567, mw_2568⟩
theorem mW_L_labelPage : mW yL_labelPage cL_labelPage 5 (some .int) [((0 : Nat), (10 : Nat), (13 : Nat), (13 : Nat))] 4 := ⟨⟨mw_1807, mw_0, by decide, by decide, by decide +kernel⟩, mw_1806⟩
theorem dL_law_2525 : decode cL_law 2525 = .ok (.aload_n 1, 1) := by decide +kernel
theorem dL_law_2526 : decode cL_law 2526 = .ok (.aload_n 0, 1) := by decide +kernel
theorem dL_law_2527 : decode cL_law 2527 = .ok (.iload 4, 2) := by decide +kernel
theorem dL_law_2529 : decode cL_law 2529 = .ok (.iconst 1, 1) := by decide +kernel
theorem dL_law_2530 : decode cL_law 2530 = .ok (.iadd, 1) := by decide +kernel
theorem dL_law_2531 : decode cL_law 2531 = .ok (.iaload, 1) := by decide +kernel
theorem dL_law_2532 : decode cL_law 2532 = .ok (.aload_n 0, 1) := by decide +kernel
theorem dL_law_2533 : decode cL_law 2533 = .ok (.iload 4, 2) := by decide +kernel
theorem dL_law_2535 : decode cL_law 2535 = .ok (.iconst 2, 1) := by decide +kernel
theorem dL_law_2536 : decode cL_law 2536 = .ok (.iadd, 1) := by decide +kernel
theorem dL_law_2537 : decode cL_law 2537 = .ok (.iaload, 1) := by decide +kernel
theorem dL_law_2538 : decode cL_law 2538 = .ok (.aload_n 3, 1) := by decide +kernel
theorem dL_law_2539 : decode cL_law 2539 = .ok (.invokestatic 253, 3) := by decide +kernel
theorem dL_law_2542 : decode cL_law 2542 = .ok (.istore 5, 2) := by decide +kernel
theorem dL_law_2544 : decode cL_law 2544 = .ok (.aload_n 2, 1) := by decide +kernel
theorem dL_law_2545 : decode cL_law 2545 = .ok (.aload_n 0, 1) := by decide +kernel
theorem dL_law_2546 : decode cL_law 2546 = .ok (.iload 4, 2) := by decide +kernel
theorem dL_law_2548 : decode cL_law 2548 = .ok (.iconst 1, 1) := by decide +kernel
theorem dL_law_2549 : decode cL_law 2549 = .ok (.iadd, 1) := by decide +kernel
theorem dL_law_2550 : decode cL_law 2550 = .ok (.iaload, 1) := by decide +kernel
theorem dL_law_2551 : decode cL_law 2551 = .ok (.aload_n 0, 1) := by decide +kernel
theorem dL_law_2552 : decode cL_law 2552 = .ok (.iload 4, 2) := by decide +kernel
theorem dL_law_2554 : decode cL_law 2554 = .ok (.iconst 2, 1) := by decide +kernel
theorem dL_law_2555 : decode cL_law 2555 = .ok (.iadd, 1) := by decide +kernel
theorem dL_law_2556 : decode cL_law 2556 = .ok (.iaload, 1) := by decide +kernel
theorem dL_law_2557 : decode cL_law 2557 = .ok (.invokevirtual 255, 3) := by decide +kernel
theorem dL_law_2560 : decode cL_law 2560 = .ok (.istore 6, 2) := by decide +kernel
theorem dL_law_2562 : decode cL_law 2562 = .ok (.aload_n 2, 1) := by decide +kernel
theorem dL_law_2563 : decode cL_law 2563 = .ok (.invokevirtual 142, 3) := by decide +kernel
theorem dL_law_2566 : decode cL_law 2566 = .ok (.iload 5, 2) := by decide +kernel
theorem dL_law_2568 : decode cL_law 2568 = .ok (.if_icmp .eq 5, 3) := by decide +kernel
theorem dL_law_2571 : decode cL_law 2571 = .ok (.iconst 0, 1) := by decide +kernel
theorem dL_law_2573 : decode cL_law 2573 = .ok (.iload 5, 2) := by decide +kernel
theorem dL_law_2575 : decode cL_law 2575 = .ok (.ifCond .ne 15, 3) := by decide +kernel
theorem dL_law_2578 : decode cL_law 2578 = .ok (.aload_n 3, 1) := by decide +kernel
theorem dL_law_2579 : decode cL_law 2579 = .ok (.iconst 0, 1) := by decide +kernel
theorem dL_law_2580 : decode cL_law 2580 = .ok (.laload, 1) := by decide +kernel
theorem dL_law_2581 : decode cL_law 2581 = .ok (.iload 6, 2) := by decide +kernel
theorem dL_law_2583 : decode cL_law 2583 = .ok (.i2l, 1) := by decide +kernel
theorem dL_law_2584 : decode cL_law 2584 = .ok (.lcmp, 1) := by decide +kernel
theorem dL_law_2585 : decode cL_law 2585 = .ok (.ifCond .eq 5, 3) := by decide +kernel
theorem dL_law_2590 : decode cL_law 2590 = .ok (.goto 219, 3) := by decide +kernel
set_option maxHeartbeats 4000000 in
set_option maxRecDepth 100000 in
theorem law_labelPage (l : Launch) (hl0 : l.stackTraces = false) (dC : Nat → ClassId) (dI : Nat → Nat → Nat) (k : Nat → ClassId) {p : Program} {e : Env} {s : State} {m : MethodId} {below : List Frame} {meth : Method} {c : Code} {b : Nat} {xs : Nat → Int32} (hX : va_X b 7 xs s s.heap) (hbl : b < s.heap.size) (hr : meth.sig.returnType = ret) {H : Heap} {locs : List Loc} {ls : Array Slot} (gx : Nat) (T : Nat) (LA : Nat) (sp : Nat) (dr : Nat) (bl : Nat) (pt : Nat) (fk : Nat) (fh : Nat) (ky : Nat) (LN : Nat) (ST : Nat) (L0 : Nat) (lc0 : Nat) (le0 : Nat) (ll0 : Nat) (ld0 : Nat) (wl0 : Nat) (op0 : Nat) (dg0 : Nat) (L1 : Nat) (lc1 : Nat) (le1 : Nat) (ll1 : Nat) (ld1 : Nat) (wl1 : Nat) (op1 : Nat) (dg1 : Nat) (R0 : Nat) (r00 : Nat) (r10 : Nat) (r20 : Nat) (r30 : Nat) (r40 : Nat) (r50 : Nat) (r60 : Nat) (r70 : Nat) (wr0 : Nat) (lr0 : Nat) (tt0 : Nat) (fr0 : Nat) (r80 : Nat) (r90 : Nat) (R1 : Nat) (r01 : Nat) (r11 : Nat) (r21 : Nat) (r31 : Nat) (r41 : Nat) (r51 : Nat) (r61 : Nat) (r71 : Nat) (wr1 : Nat) (lr1 : Nat) (tt1 : Nat) (fr1 : Nat) (r81 : Nat) (r91 : Nat) (P0 : Nat) (pg0 : Nat) (p00 : Nat) (p10 : Nat) (p20 : Nat) (p30 : Nat) (p40 : Nat) (p50 : Nat) (P1 : Nat) (pg1 : Nat) (p01 : Nat) (p11 : Nat) (p21 : Nat) (p31 : Nat) (p41 : Nat) (p51 : Nat) (ou : Nat) (mo : Nat) (V : Nat → Value) (aDg : Nat) (aRn : Nat) (aSo : Nat) (aHi : Nat) (aNr : Nat) (aNw : Nat) (aNl : Nat) (aNc : Nat) (aNp : Nat) (aNq : Nat) (aNs : Nat) (aNn : Nat) (h9 : V 9 = .int 0) (h21 : V 21 = .int 0) (h47 : V 47 = .ref aDg) (h77 : V 77 = .ref aRn) (h80 : V 80 = .int (-1)) (h90 : V 90 = .ref aSo) (h92 : V 92 = .ref aHi) (h69 : V 69 = .ref aNr) (h70 : V 70 = .ref aNw) (h71 : V 71 = .ref aNl) (h72 : V 72 = .ref aNc) (h73 : V 73 = .ref aNp) (h74 : V 74 = .ref aNq) (h75 : V 75 = .ref aNs) (h76 : V 76 = .ref aNn) (B : bd p s m #[Value.ref b] meth c cL_law 8 "GalleyforgeLaw" dC dI k (fun q => s.heap.size ≤ q) [(gx, .inr (9, [.ref T, .ref LA, .ref sp, .int 0, .ref dr])), (LA, .inl (k 3, 2, .inr (.inr (.inr (.inr (va_up (va_up (fun _ => none) 0 (some L0)) 1 (some L1))))))), (T, .inr (8, [.ref bl, .ref pt, .ref fk, .ref fh, .int 0, .ref ky, .int 60, .int 12])), (bl, .inr (11, [.int 0, .ref (dI 99 1), .int 0])), (L0, .inr (1, [.ref T, .int 0, .ref LN, .ref R0, .ref P0, .int 1, .int 0, .ref lc0, .ref le0, .ref ll0, .ref ld0, .ref wl0, .ref op0, .int 0, .int 0, .int 1365, .ref dg0])), (dg0, .inl (k 0, 730, .inl (fun _ => 0))), (R0, .inr (5, [.int 0, .ref r00, .ref r10, .ref r20, .ref r30, .ref r40, .ref r50, .ref r60, .ref r70, .ref wr0, .ref lr0, .ref tt0, .int 0, .int 0, .ref fr0, .ref r80, .ref r90, .int 0])), (wr0, .inl (k 0, 192, .inl (fun _ => 0))), (lr0, .inl (k 0, 6, .inl (fun _ => 0))), (tt0, .inl (k 1, 8, .inl (fun _ => 0))), (fr0, .inl (k 0, 5, .inl (fun _ => 0))), (P0, .inr (4, [.ref T, .ref R0, .ref pg0, .ref ST, .int 0, .int 0, .ref p00, .ref p10, .ref p20, .ref p30, .ref p40, .ref p50])), (p50, .inl (k 0, 5, .inl (fun _ => 0))), (L1, .inr (1, [.ref T, .int 1, .ref LN, .ref R1, .ref P1, .int 1, .int 0, .ref lc1, .ref le1, .ref ll1, .ref ld1, .ref wl1, .ref op1, .int 0, .int 0, .int 1365, .ref dg1])), (dg1, .inl (k 0, 730, .inl (fun _ => 0))), (R1, .inr (5, [.int 0, .ref r01, .ref r11, .ref r21, .ref r31, .ref r41, .ref r51, .ref r61, .ref r71, .ref wr1, .ref lr1, .ref tt1, .int 0, .int 0, .ref fr1, .ref r81, .ref r91, .int 0])), (wr1, .inl (k 0, 192, .inl (fun _ => 0))), (lr1, .inl (k 0, 6, .inl (fun _ => 0))), (tt1, .inl (k 1, 8, .inl (fun _ => 0))), (fr1, .inl (k 0, 5, .inl (fun _ => 0))), (P1, .inr (4, [.ref T, .ref R1, .ref pg1, .ref ST, .int 0, .int 0, .ref p01, .ref p11, .ref p21, .ref p31, .ref p41, .ref p51])), (p51, .inl (k 0, 5, .inl (fun _ => 0))), (ou, .inl (k 2, 1, .inr (.inl (fun _ => 0)))), (mo, .inr (10, fvM V)), (aNr, .inl (k 0, 16000, .inl (fun _ => 0))), (aNw, .inl (k 0, 16000, .inl (fun _ => 0))), (aNl, .inl (k 0, 16000, .inl (fun _ => 0))), (aNc, .inl (k 0, 16000, .inl (fun _ => 0))), (aNp, .inl (k 0, 16000, .inl (fun _ => 0))), (aNq, .inl (k 0, 16000, .inl (fun _ => 0))), (aNs, .inl (k 0, 16000, .inl (fun _ => 0))), (aNn, .inl (k 0, 16000, .inl (fun _ => 0))), (aRn, .inl (k 0, 769, .inl (fun _ => 0))), (aSo, .inl (k 0, 5, .inl (fun _ => 0))), (aDg, .inl (k 0, 6, .inl (fun _ => 0))), (aHi, .inl (k 0, 800, .inl (fun _ => 0)))] H locs) (hl : lv_has ls 8 [(4, .int 0), (3, .ref ou), (2, .ref mo), (1, .ref gx), (0, .ref b)]) : W p l e room_1 s m #[Value.ref b] below meth c H locs 157 183312 (lw_Z below #[Value.ref b] s) (F0 m 2525 ls []) := by
  have hx := B.1.1
  have hb := B.1.2.1
  refine lv_aload_n hx hb dL_law_2525 rfl (lv_at hl 3 rfl) ?_
  refine lv_aload_n hx hb dL_law_2526 rfl (lv_at hl 4 rfl) ?_
  refine lv_iload hx hb dL_law_2527 (lv_at hl 0 rfl) ?_
  refine lv_iconst (v := 1) hx hb dL_law_2529 (by decide) ?_
  refine lv_iadd hx hb dL_law_2530 ?_
  refine lv_seti (y := 1) (by decide) ?_
  refine va_sld hx hb hX hbl (Nat.not_le.mpr hbl) B.2.2.2.2.2 (vpc (by decide)) dL_law_2531 ?_
  refine lv_seti (y := xs 1) rfl ?_
  refine lv_aload_n hx hb dL_law_2532 rfl (lv_at hl 4 rfl) ?_
  refine lv_iload hx hb dL_law_2533 (lv_at hl 0 rfl) ?_
  refine lv_iconst (v := 2) hx hb dL_law_2535 (by decide) ?_
  refine lv_iadd hx hb dL_law_2536 ?_
  refine lv_seti (y := 2) (by decide) ?_
  refine va_sld hx hb hX hbl (Nat.not_le.mpr hbl) B.2.2.2.2.2 (vpc (by decide)) dL_law_2537 ?_
  refine lv_seti (y := xs 2) rfl ?_
  refine lv_aload_n hx hb dL_law_2538 rfl (lv_at hl 1 rfl) ?_
  refine x_callW (rest := []) (wr := [(mo, .inr (10, fvM V)), (aNr, .inl (k 0, 16000, .inl (fun _ => 0))), (aNw, .inl (k 0, 16000, .inl (fun _ => 0))), (aNl, .inl (k 0, 16000, .inl (fun _ => 0))), (aNc, .inl (k 0, 16000, .inl (fun _ => 0))), (aNp, .inl (k 0, 16000, .inl (fun _ => 0))), (aNq, .inl (k 0, 16000, .inl (fun _ => 0))), (aNs, .inl (k 0, 16000, .inl (fun _ => 0))), (aNn, .inl (k 0, 16000, .inl (fun _ => 0))), (aRn, .inl (k 0, 769, .inl (fun _ => 0))), (aSo, .inl (k 0, 5, .inl (fun _ => 0))), (aDg, .inl (k 0, 6, .inl (fun _ => 0))), (aHi, .inl (k 0, 800, .inl (fun _ => 0)))]) (w_labelPage l dC dI k hl0 gx T LA sp dr bl pt fk fh ky LN ST L0 lc0 le0 ll0 ld0 wl0 op0 dg0 L1 lc1 le1 ll1 ld1 wl1 op1 dg1 R0 r00 r10 r20 r30 r40 r50 r60 r70 wr0 lr0 tt0 fr0 r80 r90 R1 r01 r11 r21 r31 r41 r51 r61 r71 wr1 lr1 tt1 fr1 r81 r91 P0 pg0 p00 p10 p20 p30 p40 p50 P1 pg1 p01 p11 p21 p31 p41 p51 (xs 1) (xs 2) ou) B mW_L_labelPage mw_1805 hl [0, 1, 2, 3, 4, 5, 6, 7, 8, 9, 10, 11, 12, 13, 14, 15, 16, 17, 18, 19, 20, 21, 22] [23, 24, 25, 26, 27, 28, 29, 30, 31, 32, 33, 34, 35] rfl rfl ⟨by decide, by decide⟩ (by decide) ⟨Nat.le_of_ble_eq_true rfl, Nat.le_of_ble_eq_true rfl⟩ (Nat.le_of_ble_eq_true rfl) rfl dL_law_2539 ⟨Nat.le_of_ble_eq_true rfl, Nat.le_of_ble_eq_true rfl⟩ (fun r w H locs hp B => ?_)
  rcases hp with ⟨z_1, z_2, rfl, rfl⟩ | ⟨z_3, rfl, rfl⟩
  · skip
    have B := bd_to (ws' := [(mo, .inr (10, fvM V)), (aNr, .inl (k 0, 16000, .inl (fun _ => 0))), (aNw, .inl (k 0, 16000, .inl (fun _ => 0))), (aNl, .inl (k 0, 16000, .inl (fun _ => 0))), (aNc, .inl (k 0, 16000, .inl (fun _ => 0))), (aNp, .inl (k 0, 16000, .inl (fun _ => 0))), (aNq, .inl (k 0, 16000, .inl (fun _ => 0))), (aNs, .inl (k 0, 16000, .inl (fun _ => 0))), (aNn, .inl (k 0, 16000, .inl (fun _ => 0))), (aRn, .inl (k 0, 769, .inl (fun _ => 0))), (aSo, .inl (k 0, 5, .inl (fun _ => 0))), (aDg, .inl (k 0, 6, .inl (fun _ => 0))), (aHi, .inl (k 0, 800, .inl (fun _ => 0))), (ou, .inl (k 2, 1, .inr (.inl (vp_updL (fun _ => 0) 0 (-1)))))]) rfl B
    refine lv_istore (lv' := [(5, .int 0), (4, .int 0), (3, .ref ou), (2, .ref mo), (1, .ref gx), (0, .ref b)]) hx hb dL_law_2542 hl (by decide) rfl (fun ls hl => ?_)
    refine lv_aload_n hx hb dL_law_2544 rfl (lv_at hl 3 rfl) ?_
    refine lv_aload_n hx hb dL_law_2545 rfl (lv_at hl 5 rfl) ?_
    refine lv_iload hx hb dL_law_2546 (lv_at hl 1 rfl) ?_
    refine lv_iconst (v := 1) hx hb dL_law_2548 (by decide) ?_
    refine lv_iadd hx hb dL_law_2549 ?_
    refine lv_seti (y := 1) (by decide) ?_
    refine va_sld hx hb hX hbl (Nat.not_le.mpr hbl) B.2.2.2.2.2 (vpc (by decide)) dL_law_2550 ?_
    refine lv_seti (y := xs 1) rfl ?_
    refine lv_aload_n hx hb dL_law_2551 rfl (lv_at hl 5 rfl) ?_
    refine lv_iload hx hb dL_law_2552 (lv_at hl 1 rfl) ?_
    refine lv_iconst (v := 2) hx hb dL_law_2554 (by decide) ?_
    refine lv_iadd hx hb dL_law_2555 ?_
    refine lv_seti (y := 2) (by decide) ?_
    refine va_sld hx hb hX hbl (Nat.not_le.mpr hbl) B.2.2.2.2.2 (vpc (by decide)) dL_law_2556 ?_
    refine lv_seti (y := xs 2) rfl ?_
    refine x_callV (rest := []) (wr := [(ou, .inl (k 2, 1, .inr (.inl (vp_updL (fun _ => 0) 0 (-1)))))]) (m_labelPage l dC dI k mo V aDg aRn aSo aHi aNr aNw aNl aNc aNp aNq aNs aNn (xs 1) (xs 2) h9 h21 h47 h77 h80 h90 h92 h69 h70 h71 h72 h73 h74 h75 h76) B mV_X12_labelPage mw_2566 hl [0, 1, 2, 3, 4, 5, 6, 7, 8, 9, 10, 11, 12] [13] rfl rfl ⟨by decide, by decide⟩ (by decide) (q0 := 0) rfl rfl rfl ⟨Nat.le_of_ble_eq_true rfl, Nat.le_of_ble_eq_true rfl⟩ (Nat.le_of_ble_eq_true rfl) rfl dL_law_2557 ⟨Nat.le_of_ble_eq_true rfl, Nat.le_of_ble_eq_true rfl⟩ (fun r w H locs hp B => ?_)
    rcases hp with ⟨V1_4, z_5, z_6, z_7, rfl, rfl⟩ | ⟨V1_8, z_9, z_10, rfl, rfl⟩
    · skip
      have B := bd_to (ws' := [(ou, .inl (k 2, 1, .inr (.inl (vp_updL (fun _ => 0) 0 (-1))))), (mo, .inr (10, fvM V1_4))]) rfl B
      refine lv_istore (lv' := [(6, .int (-1)), (5, .int 0), (4, .int 0), (3, .ref ou), (2, .ref mo), (1, .ref gx), (0, .ref b)]) hx hb dL_law_2560 hl (by decide) rfl (fun ls hl => ?_)
      refine lv_aload_n hx hb dL_law_2562 rfl (lv_at hl 4 rfl) ?_
      refine x_callV (rest := []) (wr := [(ou, .inl (k 2, 1, .inr (.inl (vp_updL (fun _ => 0) 0 (-1)))))]) (m_thrown l dC dI k mo V1_4 0 z_7) B mV_X12_thrown mw_2144 hl [1] [0] rfl rfl ⟨by decide, by decide⟩ (by decide) (q0 := 0) rfl rfl rfl ⟨Nat.le_of_ble_eq_true rfl, Nat.le_of_ble_eq_true rfl⟩ (Nat.le_of_ble_eq_true rfl) rfl dL_law_2563 ⟨Nat.le_of_ble_eq_true rfl, Nat.le_of_ble_eq_true rfl⟩ (fun r w H locs hp B => ?_)
      obtain ⟨rfl, rfl⟩ := hp
      have B := bd_to (ws' := [(ou, .inl (k 2, 1, .inr (.inl (vp_updL (fun _ => 0) 0 (-1))))), (mo, .inr (10, fvM V1_4))]) rfl B
      refine lv_iload hx hb dL_law_2566 (lv_at hl 1 rfl) ?_
      refine lv_icmp_eq (tgt := 2573) hx hb dL_law_2568 (by decide) (fun _ => ?_) (fun c9 => absurd (by decide) c9)
      refine lv_iload hx hb dL_law_2573 (lv_at hl 1 rfl) ?_
      refine lv_if_ne (tgt := 2590) hx hb dL_law_2575 (by decide) (fun c9 => absurd c9 (by decide)) (fun _ => ?_)
      refine lv_aload_n hx hb dL_law_2578 rfl (lv_at hl 3 rfl) ?_
      refine lv_iconst (v := 0) hx hb dL_law_2579 (by decide) ?_
      refine x_lald (v := (-1)) B 0 rfl (vpc (by decide)) dL_law_2580 (by rfl) ?_
      refine lv_iload hx hb dL_law_2581 (lv_at hl 0 rfl) ?_
      refine lv_i2l (v := (-1)) hx hb dL_law_2583 (by decide) ?_
      refine x_lcmp (z := 0) B (by decide) dL_law_2584 ?_
      refine lv_if_eq (tgt := 2590) hx hb dL_law_2585 (by decide) (fun _ => ?_) (fun c9 => absurd (by decide) c9)
      refine lv_goto (tgt := 2809) hx hb dL_law_2590 (by decide) ?_
      exact law_end hX hbl hr B (lv_sub hl [6, 2] rfl) (Nat.le_of_ble_eq_true rfl) (Nat.le_of_ble_eq_true rfl)
    · skip
      have B := bd_to (ws' := [(ou, .inl (k 2, 1, .inr (.inl (vp_updL (fun _ => 0) 0 (-1))))), (mo, .inr (10, fvM V1_8))]) rfl B
      refine lv_istore (lv' := [(6, .int 0), (5, .int 0), (4, .int 0), (3, .ref ou), (2, .ref mo), (1, .ref gx), (0, .ref b)]) hx hb dL_law_2560 hl (by decide) rfl (fun ls hl => ?_)
      refine lv_aload_n hx hb dL_law_2562 rfl (lv_at hl 4 rfl) ?_
      refine x_callV (rest := []) (wr := [(ou, .inl (k 2, 1, .inr (.inl (vp_updL (fun _ => 0) 0 (-1)))))]) (m_thrown l dC dI k mo V1_8 1 z_10) B mV_X12_thrown mw_2144 hl [1] [0] rfl rfl ⟨by decide, by decide⟩ (by decide) (q0 := 0) rfl rfl rfl ⟨Nat.le_of_ble_eq_true rfl, Nat.le_of_ble_eq_true rfl⟩ (Nat.le_of_ble_eq_true rfl) rfl dL_law_2563 ⟨Nat.le_of_ble_eq_true rfl, Nat.le_of_ble_eq_true rfl⟩ (fun r w H locs hp B => ?_)
      obtain ⟨rfl, rfl⟩ := hp
      have B := bd_to (ws' := [(ou, .inl (k 2, 1, .inr (.inl (vp_updL (fun _ => 0) 0 (-1))))), (mo, .inr (10, fvM V1_8))]) rfl B
      refine lv_iload hx hb dL_law_2566 (lv_at hl 1 rfl) ?_
      refine lv_icmp_eq (tgt := 2573) hx hb dL_law_2568 (by decide) (fun c9 => absurd c9 (by decide)) (fun _ => ?_)
      refine lv_iconst (v := 0) hx hb dL_law_2571 (by decide) ?_
      exfalso; omega
  · skip
    have B := bd_to (ws' := [(mo, .inr (10, fvM V)), (aNr, .inl (k 0, 16000, .inl (fun _ => 0))), (aNw, .inl (k 0, 16000, .inl (fun _ => 0))), (aNl, .inl (k 0, 16000, .inl (fun _ => 0))), (aNc, .inl (k 0, 16000, .inl (fun _ => 0))), (aNp, .inl (k 0, 16000, .inl (fun _ => 0))), (aNq, .inl (k 0, 16000, .inl (fun _ => 0))), (aNs, .inl (k 0, 16000, .inl (fun _ => 0))), (aNn, .inl (k 0, 16000, .inl (fun _ => 0))), (aRn, .inl (k 0, 769, .inl (fun _ => 0))), (aSo, .inl (k 0, 5, .inl (fun _ => 0))), (aDg, .inl (k 0, 6, .inl (fun _ => 0))), (aHi, .inl (k 0, 800, .inl (fun _ => 0)))]) rfl B
    refine lv_istore (lv' := [(5, .int 1), (4, .int 0), (3, .ref ou), (2, .ref mo), (1, .ref gx), (0, .ref b)]) hx hb dL_law_2542 hl (by decide) rfl (fun ls hl => ?_)
    refine lv_aload_n hx hb dL_law_2544 rfl (lv_at hl 3 rfl) ?_
    refine lv_aload_n hx hb dL_law_2545 rfl (lv_at hl 5 rfl) ?_
    refine lv_iload hx hb dL_law_2546 (lv_at hl 1 rfl) ?_
    refine lv_iconst (v := 1) hx hb dL_law_2548 (by decide) ?_
    refine lv_iadd hx hb dL_law_2549 ?_
    refine lv_seti (y := 1) (by decide) ?_
    refine va_sld hx hb hX hbl (Nat.not_le.mpr hbl) B.2.2.2.2.2 (vpc (by decide)) dL_law_2550 ?_
    refine lv_seti (y := xs 1) rfl ?_
    refine lv_aload_n hx hb dL_law_2551 rfl (lv_at hl 5 rfl) ?_
    refine lv_iload hx hb dL_law_2552 (lv_at hl 1 rfl) ?_
    refine lv_iconst (v := 2) hx hb dL_law_2554 (by decide) ?_
    refine lv_iadd hx hb dL_law_2555 ?_
    refine lv_seti (y := 2) (by decide) ?_
    refine va_sld hx hb hX hbl (Nat.not_le.mpr hbl) B.2.2.2.2.2 (vpc (by decide)) dL_law_2556 ?_
    refine lv_seti (y := xs 2) rfl ?_
    refine x_callV (rest := []) (wr := []) (m_labelPage l dC dI k mo V aDg aRn aSo aHi aNr aNw aNl aNc aNp aNq aNs aNn (xs 1) (xs 2) h9 h21 h47 h77 h80 h90 h92 h69 h70 h71 h72 h73 h74 h75 h76) B mV_X12_labelPage mw_2566 hl [0, 1, 2, 3, 4, 5, 6, 7, 8, 9, 10, 11, 12] [] rfl rfl ⟨by decide, by decide⟩ (by decide) (q0 := 0) rfl rfl rfl ⟨Nat.le_of_ble_eq_true rfl, Nat.le_of_ble_eq_true rfl⟩ (Nat.le_of_ble_eq_true rfl) rfl dL_law_2557 ⟨Nat.le_of_ble_eq_true rfl, Nat.le_of_ble_eq_true rfl⟩ (fun r w H locs hp B => ?_)
    rcases hp with ⟨V1_11, z_12, z_13, z_14, rfl, rfl⟩ | ⟨V1_15, z_16, z_17, rfl, rfl⟩
    · skip
      have B := bd_to (ws' := [(mo, .inr (10, fvM V1_11))]) rfl B
      refine lv_istore (lv' := [(6, .int (-1)), (5, .int 1), (4, .int 0), (3, .ref ou), (2, .ref mo), (1, .ref gx), (0, .ref b)]) hx hb dL_law_2560 hl (by decide) rfl (fun ls hl => ?_)
      refine lv_aload_n hx hb dL_law_2562 rfl (lv_at hl 4 rfl) ?_
      refine x_callV (rest := []) (wr := []) (m_thrown l dC dI k mo V1_11 0 z_14) B mV_X12_thrown mw_2144 hl [0] [] rfl rfl ⟨by decide, by decide⟩ (by decide) (q0 := 0) rfl rfl rfl ⟨Nat.le_of_ble_eq_true rfl, Nat.le_of_ble_eq_true rfl⟩ (Nat.le_of_ble_eq_true rfl) rfl dL_law_2563 ⟨Nat.le_of_ble_eq_true rfl, Nat.le_of_ble_eq_true rfl⟩ (fun r w H locs hp B => ?_)
      obtain ⟨rfl, rfl⟩ := hp
      have B := bd_to (ws' := [(mo, .inr (10, fvM V1_11))]) rfl B
      refine lv_iload hx hb dL_law_2566 (lv_at hl 1 rfl) ?_
      refine lv_icmp_eq (tgt := 2573) hx hb dL_law_2568 (by decide) (fun c9 => absurd c9 (by decide)) (fun _ => ?_)
      refine lv_iconst (v := 0) hx hb dL_law_2571 (by decide) ?_
      exfalso; omega
    · skip
      have B := bd_to (ws' := [(mo, .inr (10, fvM V1_15))]) rfl B
      refine lv_istore (lv' := [(6, .int 0), (5, .int 1), (4, .int 0), (3, .ref ou), (2, .ref mo), (1, .ref gx), (0, .ref b)]) hx hb dL_law_2560 hl (by decide) rfl (fun ls hl => ?_)
      refine lv_aload_n hx hb dL_law_2562 rfl (lv_at hl 4 rfl) ?_
      refine x_callV (rest := []) (wr := []) (m_thrown l dC dI k mo V1_15 1 z_17) B mV_X12_thrown mw_2144 hl [0] [] rfl rfl ⟨by decide, by decide⟩ (by decide) (q0 := 0) rfl rfl rfl ⟨Nat.le_of_ble_eq_true rfl, Nat.le_of_ble_eq_true rfl⟩ (Nat.le_of_ble_eq_true rfl) rfl dL_law_2563 ⟨Nat.le_of_ble_eq_true rfl, Nat.le_of_ble_eq_true rfl⟩ (fun r w H locs hp B => ?_)
      obtain ⟨rfl, rfl⟩ := hp
      have B := bd_to (ws' := [(mo, .inr (10, fvM V1_15))]) rfl B
      refine lv_iload hx hb dL_law_2566 (lv_at hl 1 rfl) ?_
      refine lv_icmp_eq (tgt := 2573) hx hb dL_law_2568 (by decide) (fun _ => ?_) (fun c9 => absurd (by decide) c9)
      refine lv_iload hx hb dL_law_2573 (lv_at hl 1 rfl) ?_
      refine lv_if_ne (tgt := 2590) hx hb dL_law_2575 (by decide) (fun _ => ?_) (fun c9 => absurd c9 (by decide))
      refine lv_goto (tgt := 2809) hx hb dL_law_2590 (by decide) ?_
      exact law_end hX hbl hr B (lv_sub hl [6, 2] rfl) (Nat.le_of_ble_eq_true rfl) (Nat.le_of_ble_eq_true rfl)

theorem mw_1813 : (Jvm.Cond.methodLink "GalleyforgeLaw" (256 : Nat) ({ cls := "GalleyforgeLaw", name := "contentsAt", desc := "(LGalleyforge;II[J)I" } : Jvm.MethodName)) ∈ gt := gt_at 1948 (by decide +kernel) (by decide +kernel)
theorem mw_1814 : (Jvm.Cond.static ({ cls := "GalleyforgeLaw", name := "contentsAt", desc := "(LGalleyforge;II[J)I" } : Jvm.MethodName)) ∈ gt := gt_at 1949 (by decide +kernel) (by decide +kernel)
theorem mw_1815 : (Jvm.Cond.codeWith ({ cls := "GalleyforgeLaw", name := "contentsAt", desc := "(LGalleyforge;II[J)I" } : Jvm.MethodName) method_37_code (5 : Nat) (Option.some Jvm.ClassFile.FieldType.int) [((0 : Nat), (10 : Nat), (13 : Nat), (13 : Nat))]) ∈ gt := gt_at 1950 (by decide +kernel) (by decide +kernel)
theorem mw_2570 : (Jvm.Cond.methodLink "GalleyforgeLaw" (258 : Nat) ({ cls := "GalleyforgeModel", name := "contentsAt", desc := "(II)I" } : Jvm.MethodName)) ∈ gt := gt_at 2705 (by decide +kernel) (by decide +kernel)
theorem mw_2571 : (Jvm.Cond.instanceMethod ({ cls := "GalleyforgeModel", name := "contentsAt", desc := "(II)I" } : Jvm.MethodName)) ∈ gt := gt_at 2706 (by decide +kernel) (by decide +kernel)
theorem mw_2572 : (Jvm.Cond.selects "GalleyforgeModel" ({ cls := "GalleyforgeModel", name := "contentsAt", desc := "(II)I" } : Jvm.MethodName) ({ cls := "GalleyforgeModel", name := "contentsAt", desc := "(II)I" } : Jvm.MethodName)) ∈ gt := gt_at 2707 (by decide +kernel) (by decide +kernel)
theorem mw_2573 : (Jvm.Cond.code ({ cls := "GalleyforgeModel", name := "contentsAt", desc := "(II)I" } : Jvm.MethodName) prog_14_method_108_code (7 : Nat) (Option.some Jvm.ClassFile.FieldType.int)) ∈ gt := gt_at 2708 (by decide +kernel) (by decide +kernel)
theorem mV_X12_contentsAt : mV yX12_contentsAt cX12_contentsAt 7 (some .int) 2 := ⟨⟨mw_2573, mw_13, by decide, by decide, by decide +kernel⟩, mw_2571, mw_2572⟩
theorem mW_L_contentsAt : mW yL_contentsAt cL_contentsAt 5 (some .int) [((0 : Nat), (10 : Nat), (13 : Nat), (13 : Nat))] 4 := ⟨⟨mw_1815, mw_0, by decide, by decide, by decide +kernel⟩, mw_1814⟩
theorem dL_law_2593 : decode cL_law 2593 = .ok (.aload_n 1, 1) := by decide +kernel
theorem dL_law_2594 : decode cL_law 2594 = .ok (.aload_n 0, 1) := by decide +kernel
theorem dL_law_2595 : decode cL_law 2595 = .ok (.iload 4, 2) := by decide +kernel
theorem dL_law_2597 : decode cL_law 2597 = .ok (.iconst 1, 1) := by decide +kernel
theorem dL_law_2598 : decode cL_law 2598 = .ok (.iadd, 1) := by decide +kernel
theorem dL_law_2599 : decode cL_law 2599 = .ok (.iaload, 1) := by decide +kernel
theorem dL_law_2600 : decode cL_law 2600 = .ok (.aload_n 0, 1) := by decide +kernel
theorem dL_law_2601 : decode cL_law 2601 = .ok (.iload 4, 2) := by decide +kernel
theorem dL_law_2603 : decode cL_law 2603 = .ok (.iconst 2, 1) := by decide +kernel
theorem dL_law_2604 : decode cL_law 2604 = .ok (.iadd, 1) := by decide +kernel
theorem dL_law_2605 : decode cL_law 2605 = .ok (.iaload, 1) := by decide +kernel
theorem dL_law_2606 : decode cL_law 2606 = .ok (.aload_n 3, 1) := by decide +kernel
theorem dL_law_2607 : decode cL_law 2607 = .ok (.invokestatic 256, 3) := by decide +kernel
theorem dL_law_2610 : decode cL_law 2610 = .ok (.istore 5, 2) := by decide +kernel
theorem dL_law_2612 : decode cL_law 2612 = .ok (.aload_n 2, 1) := by decide +kernel
theorem dL_law_2613 : decode cL_law 2613 = .ok (.aload_n 0, 1) := by decide +kernel
theorem dL_law_2614 : decode cL_law 2614 = .ok (.iload 4, 2) := by decide +kernel
theorem dL_law_2616 : decode cL_law 2616 = .ok (.iconst 1, 1) := by decide +kernel
theorem dL_law_2617 : decode cL_law 2617 = .ok (.iadd, 1) := by decide +kernel
theorem dL_law_2618 : decode cL_law 2618 = .ok (.iaload, 1) := by decide +kernel
theorem dL_law_2619 : decode cL_law 2619 = .ok (.aload_n 0, 1) := by decide +kernel
theorem dL_law_2620 : decode cL_law 2620 = .ok (.iload 4, 2) := by decide +kernel
theorem dL_law_2622 : decode cL_law 2622 = .ok (.iconst 2, 1) := by decide +kernel
theorem dL_law_2623 : decode cL_law 2623 = .ok (.iadd, 1) := by decide +kernel
theorem dL_law_2624 : decode cL_law 2624 = .ok (.iaload, 1) := by decide +kernel
theorem dL_law_2625 : decode cL_law 2625 = .ok (.invokevirtual 258, 3) := by decide +kernel
theorem dL_law_2628 : decode cL_law 2628 = .ok (.istore 6, 2) := by decide +kernel
theorem dL_law_2630 : decode cL_law 2630 = .ok (.aload_n 2, 1) := by decide +kernel
theorem dL_law_2631 : decode cL_law 2631 = .ok (.invokevirtual 142, 3) := by decide +kernel
theorem dL_law_2634 : decode cL_law 2634 = .ok (.iload 5, 2) := by decide +kernel
theorem dL_law_2636 : decode cL_law 2636 = .ok (.if_icmp .eq 5, 3) := by decide +kernel
theorem dL_law_2641 : decode cL_law 2641 = .ok (.iload 5, 2) := by decide +kernel
theorem dL_law_2643 : decode cL_law 2643 = .ok (.ifCond .ne 15, 3) := by decide +kernel
theorem dL_law_2658 : decode cL_law 2658 = .ok (.goto 151, 3) := by decide +kernel
set_option maxHeartbeats 4000000 in
set_option maxRecDepth 100000 in
theorem law_contentsAt (l : Launch) (hl0 : l.stackTraces = false) (dC : Nat → ClassId) (dI : Nat → Nat → Nat) (k : Nat → ClassId) {p : Program} {e : Env} {s : State} {m : MethodId} {below : List Frame} {meth : Method} {c : Code} {b : Nat} {xs : Nat → Int32} (hX : va_X b 7 xs s s.heap) (hbl : b < s.heap.size) (hr : meth.sig.returnType = ret) {H : Heap} {locs : List Loc} {ls : Array Slot} (gx : Nat) (T : Nat) (LA : Nat) (sp : Nat) (dr : Nat) (bl : Nat) (pt : Nat) (fk : Nat) (fh : Nat) (ky : Nat) (LN : Nat) (ST : Nat) (L0 : Nat) (lc0 : Nat) (le0 : Nat) (ll0 : Nat) (ld0 : Nat) (wl0 : Nat) (op0 : Nat) (dg0 : Nat) (L1 : Nat) (lc1 : Nat) (le1 : Nat) (ll1 : Nat) (ld1 : Nat) (wl1 : Nat) (op1 : Nat) (dg1 : Nat) (R0 : Nat) (r00 : Nat) (r10 : Nat) (r20 : Nat) (r30 : Nat) (r40 : Nat) (r50 : Nat) (r60 : Nat) (r70 : Nat) (wr0 : Nat) (lr0 : Nat) (tt0 : Nat) (fr0 : Nat) (r80 : Nat) (r90 : Nat) (R1 : Nat) (r01 : Nat) (r11 : Nat) (r21 : Nat) (r31 : Nat) (r41 : Nat) (r51 : Nat) (r61 : Nat) (r71 : Nat) (wr1 : Nat) (lr1 : Nat) (tt1 : Nat) (fr1 : Nat) (r81 : Nat) (r91 : Nat) (P0 : Nat) (pg0 : Nat) (p00 : Nat) (p10 : Nat) (p20 : Nat) (p30 : Nat) (p40 : Nat) (p50 : Nat) (P1 : Nat) (pg1 : Nat) (p01 : Nat) (p11 : Nat) (p21 : Nat) (p31 : Nat) (p41 : Nat) (p51 : Nat) (ou : Nat) (mo : Nat) (V : Nat → Value) (h9 : V 9 = .int 0) (B : bd p s m #[Value.ref b] meth c cL_law 8 "GalleyforgeLaw" dC dI k (fun q => s.heap.size ≤ q) [(gx, .inr (9, [.ref T, .ref LA, .ref sp, .int 0, .ref dr])), (LA, .inl (k 3, 2, .inr (.inr (.inr (.inr (va_up (va_up (fun _ => none) 0 (some L0)) 1 (some L1))))))), (T, .inr (8, [.ref bl, .ref pt, .ref fk, .ref fh, .int 0, .ref ky, .int 60, .int 12])), (bl, .inr (11, [.int 0, .ref (dI 99 1), .int 0])), (L0, .inr (1, [.ref T, .int 0, .ref LN, .ref R0, .ref P0, .int 1, .int 0, .ref lc0, .ref le0, .ref ll0, .ref ld0, .ref wl0, .ref op0, .int 0, .int 0, .int 1365, .ref dg0])), (dg0, .inl (k 0, 730, .inl (fun _ => 0))), (R0, .inr (5, [.int 0, .ref r00, .ref r10, .ref r20, .ref r30, .ref r40, .ref r50, .ref r60, .ref r70, .ref wr0, .ref lr0, .ref tt0, .int 0, .int 0, .ref fr0, .ref r80, .ref r90, .int 0])), (wr0, .inl (k 0, 192, .inl (fun _ => 0))), (lr0, .inl (k 0, 6, .inl (fun _ => 0))), (tt0, .inl (k 1, 8, .inl (fun _ => 0))), (fr0, .inl (k 0, 5, .inl (fun _ => 0))), (P0, .inr (4, [.ref T, .ref R0, .ref pg0, .ref ST, .int 0, .int 0, .ref p00, .ref p10, .ref p20, .ref p30, .ref p40, .ref p50])), (p50, .inl (k 0, 5, .inl (fun _ => 0))), (L1, .inr (1, [.ref T, .int 1, .ref LN, .ref R1, .ref P1, .int 1, .int 0, .ref lc1, .ref le1, .ref ll1, .ref ld1, .ref wl1, .ref op1, .int 0, .int 0, .int 1365, .ref dg1])), (dg1, .inl (k 0, 730, .inl (fun _ => 0))), (R1, .inr (5, [.int 0, .ref r01, .ref r11, .ref r21, .ref r31, .ref r41, .ref r51, .ref r61, .ref r71, .ref wr1, .ref lr1, .ref tt1, .int 0, .int 0, .ref fr1, .ref r81, .ref r91, .int 0])), (wr1, .inl (k 0, 192, .inl (fun _ => 0))), (lr1, .inl (k 0, 6, .inl (fun _ => 0))), (tt1, .inl (k 1, 8, .inl (fun _ => 0))), (fr1, .inl (k 0, 5, .inl (fun _ => 0))), (P1, .inr (4, [.ref T, .ref R1, .ref pg1, .ref ST, .int 0, .int 0, .ref p01, .ref p11, .ref p21, .ref p31, .ref p41, .ref p51])), (p51, .inl (k 0, 5, .inl (fun _ => 0))), (ou, .inl (k 2, 1, .inr (.inl (fun _ => 0)))), (mo, .inr (10, fvM V))] H locs) (hl : lv_has ls 8 [(4, .int 0), (3, .ref ou), (2, .ref mo), (1, .ref gx), (0, .ref b)]) : W p l e room_1 s m #[Value.ref b] below meth c H locs 157 183312 (lw_Z below #[Value.ref b] s) (F0 m 2593 ls []) := by
  have hx := B.1.1
  have hb := B.1.2.1
  refine lv_aload_n hx hb dL_law_2593 rfl (lv_at hl 3 rfl) ?_
  refine lv_aload_n hx hb dL_law_2594 rfl (lv_at hl 4 rfl) ?_
  refine lv_iload hx hb dL_law_2595 (lv_at hl 0 rfl) ?_
  refine lv_iconst (v := 1) hx hb dL_law_2597 (by decide) ?_
  refine lv_iadd hx hb dL_law_2598 ?_
  refine lv_seti (y := 1) (by decide) ?_
  refine va_sld hx hb hX hbl (Nat.not_le.mpr hbl) B.2.2.2.2.2 (vpc (by decide)) dL_law_2599 ?_
  refine lv_seti (y := xs 1) rfl ?_
  refine lv_aload_n hx hb dL_law_2600 rfl (lv_at hl 4 rfl) ?_
  refine lv_iload hx hb dL_law_2601 (lv_at hl 0 rfl) ?_
  refine lv_iconst (v := 2) hx hb dL_law_2603 (by decide) ?_
  refine lv_iadd hx hb dL_law_2604 ?_
  refine lv_seti (y := 2) (by decide) ?_
  refine va_sld hx hb hX hbl (Nat.not_le.mpr hbl) B.2.2.2.2.2 (vpc (by decide)) dL_law_2605 ?_
  refine lv_seti (y := xs 2) rfl ?_
  refine lv_aload_n hx hb dL_law_2606 rfl (lv_at hl 1 rfl) ?_
  refine x_callW (rest := []) (wr := [(mo, .inr (10, fvM V))]) (w_contentsAt l dC dI k hl0 gx T LA sp dr bl pt fk fh ky LN ST L0 lc0 le0 ll0 ld0 wl0 op0 dg0 L1 lc1 le1 ll1 ld1 wl1 op1 dg1 R0 r00 r10 r20 r30 r40 r50 r60 r70 wr0 lr0 tt0 fr0 r80 r90 R1 r01 r11 r21 r31 r41 r51 r61 r71 wr1 lr1 tt1 fr1 r81 r91 P0 pg0 p00 p10 p20 p30 p40 p50 P1 pg1 p01 p11 p21 p31 p41 p51 (xs 1) (xs 2) ou) B mW_L_contentsAt mw_1813 hl [0, 1, 2, 3, 4, 5, 6, 7, 8, 9, 10, 11, 12, 13, 14, 15, 16, 17, 18, 19, 20, 21, 22] [23] rfl rfl ⟨by decide, by decide⟩ (by decide) ⟨Nat.le_of_ble_eq_true rfl, Nat.le_of_ble_eq_true rfl⟩ (Nat.le_of_ble_eq_true rfl) rfl dL_law_2607 ⟨Nat.le_of_ble_eq_true rfl, Nat.le_of_ble_eq_true rfl⟩ (fun r w H locs hp B => ?_)
  obtain ⟨rfl, rfl⟩ := hp
  have B := bd_to (ws' := [(mo, .inr (10, fvM V))]) rfl B
  refine lv_istore (lv' := [(5, .int 1), (4, .int 0), (3, .ref ou), (2, .ref mo), (1, .ref gx), (0, .ref b)]) hx hb dL_law_2610 hl (by decide) rfl (fun ls hl => ?_)
  refine lv_aload_n hx hb dL_law_2612 rfl (lv_at hl 3 rfl) ?_
  refine lv_aload_n hx hb dL_law_2613 rfl (lv_at hl 5 rfl) ?_
  refine lv_iload hx hb dL_law_2614 (lv_at hl 1 rfl) ?_
  refine lv_iconst (v := 1) hx hb dL_law_2616 (by decide) ?_
  refine lv_iadd hx hb dL_law_2617 ?_
  refine lv_seti (y := 1) (by decide) ?_
  refine va_sld hx hb hX hbl (Nat.not_le.mpr hbl) B.2.2.2.2.2 (vpc (by decide)) dL_law_2618 ?_
  refine lv_seti (y := xs 1) rfl ?_
  refine lv_aload_n hx hb dL_law_2619 rfl (lv_at hl 5 rfl) ?_
  refine lv_iload hx hb dL_law_2620 (lv_at hl 1 rfl) ?_
  refine lv_iconst (v := 2) hx hb dL_law_2622 (by decide) ?_
  refine lv_iadd hx hb dL_law_2623 ?_
  refine lv_seti (y := 2) (by decide) ?_
  refine va_sld hx hb hX hbl (Nat.not_le.mpr hbl) B.2.2.2.2.2 (vpc (by decide)) dL_law_2624 ?_
  refine lv_seti (y := xs 2) rfl ?_
  refine x_callV (rest := []) (wr := []) (m_contentsAt l dC dI k mo V (xs 1) (xs 2) h9) B mV_X12_contentsAt mw_2570 hl [0] [] rfl rfl ⟨by decide, by decide⟩ (by decide) (q0 := 0) rfl rfl rfl ⟨Nat.le_of_ble_eq_true rfl, Nat.le_of_ble_eq_true rfl⟩ (Nat.le_of_ble_eq_true rfl) rfl dL_law_2625 ⟨Nat.le_of_ble_eq_true rfl, Nat.le_of_ble_eq_true rfl⟩ (fun r w H locs hp B => ?_)
  obtain ⟨V1_1, z_2, rfl, rfl⟩ := hp
  have B := bd_to (ws' := [(mo, .inr (10, fvM V1_1))]) rfl B
  refine lv_istore (lv' := [(6, .int 0), (5, .int 1), (4, .int 0), (3, .ref ou), (2, .ref mo), (1, .ref gx), (0, .ref b)]) hx hb dL_law_2628 hl (by decide) rfl (fun ls hl => ?_)
  refine lv_aload_n hx hb dL_law_2630 rfl (lv_at hl 4 rfl) ?_
  refine x_callV (rest := []) (wr := []) (m_thrown l dC dI k mo V1_1 1 z_2) B mV_X12_thrown mw_2144 hl [0] [] rfl rfl ⟨by decide, by decide⟩ (by decide) (q0 := 0) rfl rfl rfl ⟨Nat.le_of_ble_eq_true rfl, Nat.le_of_ble_eq_true rfl⟩ (Nat.le_of_ble_eq_true rfl) rfl dL_law_2631 ⟨Nat.le_of_ble_eq_true rfl, Nat.le_of_ble_eq_true rfl⟩ (fun r w H locs hp B => ?_)
  obtain ⟨rfl, rfl⟩ := hp
  have B := bd_to (ws' := [(mo, .inr (10, fvM V1_1))]) rfl B
  refine lv_iload hx hb dL_law_2634 (lv_at hl 1 rfl) ?_
  refine lv_icmp_eq (tgt := 2641) hx hb dL_law_2636 (by decide) (fun _ => ?_) (fun c9 => absurd (by decide) c9)
  refine lv_iload hx hb dL_law_2641 (lv_at hl 1 rfl) ?_
  refine lv_if_ne (tgt := 2658) hx hb dL_law_2643 (by decide) (fun _ => ?_) (fun c9 => absurd c9 (by decide))
  refine lv_goto (tgt := 2809) hx hb dL_law_2658 (by decide) ?_
  exact law_end hX hbl hr B (lv_sub hl [6, 2] rfl) (Nat.le_of_ble_eq_true rfl) (Nat.le_of_ble_eq_true rfl)

theorem mw_1825 : (Jvm.Cond.methodLink "GalleyforgeLaw" (259 : Nat) ({ cls := "GalleyforgeLaw", name := "indexAt", desc := "(LGalleyforge;II[J)I" } : Jvm.MethodName)) ∈ gt := gt_at 1960 (by decide +kernel) (by decide +kernel)
theorem mw_1826 : (Jvm.Cond.static ({ cls := "GalleyforgeLaw", name := "indexAt", desc := "(LGalleyforge;II[J)I" } : Jvm.MethodName)) ∈ gt := gt_at 1961 (by decide +kernel) (by decide +kernel)
theorem mw_1827 : (Jvm.Cond.codeWith ({ cls := "GalleyforgeLaw", name := "indexAt", desc := "(LGalleyforge;II[J)I" } : Jvm.MethodName) method_38_code (5 : Nat) (Option.some Jvm.ClassFile.FieldType.int) [((0 : Nat), (10 : Nat), (13 : Nat), (13 : Nat))]) ∈ gt := gt_at 1962 (by decide +kernel) (by decide +kernel)
theorem mw_2574 : (Jvm.Cond.methodLink "GalleyforgeLaw" (261 : Nat) ({ cls := "GalleyforgeModel", name := "indexAt", desc := "(II)I" } : Jvm.MethodName)) ∈ gt := gt_at 2709 (by decide +kernel) (by decide +kernel)
theorem mw_2575 : (Jvm.Cond.instanceMethod ({ cls := "GalleyforgeModel", name := "indexAt", desc := "(II)I" } : Jvm.MethodName)) ∈ gt := gt_at 2710 (by decide +kernel) (by decide +kernel)
theorem mw_2576 : (Jvm.Cond.selects "GalleyforgeModel" ({ cls := "GalleyforgeModel", name := "indexAt", desc := "(II)I" } : Jvm.MethodName) ({ cls := "GalleyforgeModel", name := "indexAt", desc := "(II)I" } : Jvm.MethodName)) ∈ gt := gt_at 2711 (by decide +kernel) (by decide +kernel)
theorem mw_2577 : (Jvm.Cond.code ({ cls := "GalleyforgeModel", name := "indexAt", desc := "(II)I" } : Jvm.MethodName) prog_14_method_109_code (9 : Nat) (Option.some Jvm.ClassFile.FieldType.int)) ∈ gt := gt_at 2712 (by decide +kernel) (by decide +kernel)
theorem mV_X12_indexAt : mV yX12_indexAt cX12_indexAt 9 (some .int) 2 := ⟨⟨mw_2577, mw_13, by decide, by decide, by decide +kernel⟩, mw_2575, mw_2576⟩
theorem mW_L_indexAt : mW yL_indexAt cL_indexAt 5 (some .int) [((0 : Nat), (10 : Nat), (13 : Nat), (13 : Nat))] 4 := ⟨⟨mw_1827, mw_0, by decide, by decide, by decide +kernel⟩, mw_1826⟩
theorem dL_law_2661 : decode cL_law 2661 = .ok (.aload_n 1, 1) := by decide +kernel
theorem dL_law_2662 : decode cL_law 2662 = .ok (.aload_n 0, 1) := by decide +kernel
theorem dL_law_2663 : decode cL_law 2663 = .ok (.iload 4, 2) := by decide +kernel
theorem dL_law_2665 : decode cL_law 2665 = .ok (.iconst 1, 1) := by decide +kernel
theorem dL_law_2666 : decode cL_law 2666 = .ok (.iadd, 1) := by decide +kernel
theorem dL_law_2667 : decode cL_law 2667 = .ok (.iaload, 1) := by decide +kernel
theorem dL_law_2668 : decode cL_law 2668 = .ok (.aload_n 0, 1) := by decide +kernel
theorem dL_law_2669 : decode cL_law 2669 = .ok (.iload 4, 2) := by decide +kernel
theorem dL_law_2671 : decode cL_law 2671 = .ok (.iconst 2, 1) := by decide +kernel
theorem dL_law_2672 : decode cL_law 2672 = .ok (.iadd, 1) := by decide +kernel
theorem dL_law_2673 : decode cL_law 2673 = .ok (.iaload, 1) := by decide +kernel
theorem dL_law_2674 : decode cL_law 2674 = .ok (.aload_n 3, 1) := by decide +kernel
theorem dL_law_2675 : decode cL_law 2675 = .ok (.invokestatic 259, 3) := by decide +kernel
theorem dL_law_2678 : decode cL_law 2678 = .ok (.istore 5, 2) := by decide +kernel
theorem dL_law_2680 : decode cL_law 2680 = .ok (.aload_n 2, 1) := by decide +kernel
theorem dL_law_2681 : decode cL_law 2681 = .ok (.aload_n 0, 1) := by decide +kernel
theorem dL_law_2682 : decode cL_law 2682 = .ok (.iload 4, 2) := by decide +kernel
theorem dL_law_2684 : decode cL_law 2684 = .ok (.iconst 1, 1) := by decide +kernel
theorem dL_law_2685 : decode cL_law 2685 = .ok (.iadd, 1) := by decide +kernel
theorem dL_law_2686 : decode cL_law 2686 = .ok (.iaload, 1) := by decide +kernel
theorem dL_law_2687 : decode cL_law 2687 = .ok (.aload_n 0, 1) := by decide +kernel
theorem dL_law_2688 : decode cL_law 2688 = .ok (.iload 4, 2) := by decide +kernel
theorem dL_law_2690 : decode cL_law 2690 = .ok (.iconst 2, 1) := by decide +kernel
theorem dL_law_2691 : decode cL_law 2691 = .ok (.iadd, 1) := by decide +kernel
theorem dL_law_2692 : decode cL_law 2692 = .ok (.iaload, 1) := by decide +kernel
theorem dL_law_2693 : decode cL_law 2693 = .ok (.invokevirtual 261, 3) := by decide +kernel
theorem dL_law_2696 : decode cL_law 2696 = .ok (.istore 6, 2) := by decide +kernel
theorem dL_law_2698 : decode cL_law 2698 = .ok (.aload_n 2, 1) := by decide +kernel
theorem dL_law_2699 : decode cL_law 2699 = .ok (.invokevirtual 142, 3) := by decide +kernel
theorem dL_law_2702 : decode cL_law 2702 = .ok (.iload 5, 2) := by decide +kernel
theorem dL_law_2704 : decode cL_law 2704 = .ok (.if_icmp .eq 5, 3) := by decide +kernel
theorem dL_law_2709 : decode cL_law 2709 = .ok (.iload 5, 2) := by decide +kernel
theorem dL_law_2711 : decode cL_law 2711 = .ok (.ifCond .ne 15, 3) := by decide +kernel
theorem dL_law_2726 : decode cL_law 2726 = .ok (.goto 83, 3) := by decide +kernel
set_option maxHeartbeats 4000000 in
set_option maxRecDepth 100000 in
theorem law_indexAt (l : Launch) (hl0 : l.stackTraces = false) (dC : Nat → ClassId) (dI : Nat → Nat → Nat) (k : Nat → ClassId) {p : Program} {e : Env} {s : State} {m : MethodId} {below : List Frame} {meth : Method} {c : Code} {b : Nat} {xs : Nat → Int32} (hX : va_X b 7 xs s s.heap) (hbl : b < s.heap.size) (hr : meth.sig.returnType = ret) {H : Heap} {locs : List Loc} {ls : Array Slot} (gx : Nat) (T : Nat) (LA : Nat) (sp : Nat) (dr : Nat) (bl : Nat) (pt : Nat) (fk : Nat) (fh : Nat) (ky : Nat) (LN : Nat) (ST : Nat) (L0 : Nat) (lc0 : Nat) (le0 : Nat) (ll0 : Nat) (ld0 : Nat) (wl0 : Nat) (op0 : Nat) (dg0 : Nat) (L1 : Nat) (lc1 : Nat) (le1 : Nat) (ll1 : Nat) (ld1 : Nat) (wl1 : Nat) (op1 : Nat) (dg1 : Nat) (R0 : Nat) (r00 : Nat) (r10 : Nat) (r20 : Nat) (r30 : Nat) (r40 : Nat) (r50 : Nat) (r60 : Nat) (r70 : Nat) (wr0 : Nat) (lr0 : Nat) (tt0 : Nat) (fr0 : Nat) (r80 : Nat) (r90 : Nat) (R1 : Nat) (r01 : Nat) (r11 : Nat) (r21 : Nat) (r31 : Nat) (r41 : Nat) (r51 : Nat) (r61 : Nat) (r71 : Nat) (wr1 : Nat) (lr1 : Nat) (tt1 : Nat) (fr1 : Nat) (r81 : Nat) (r91 : Nat) (P0 : Nat) (pg0 : Nat) (p00 : Nat) (p10 : Nat) (p20 : Nat) (p30 : Nat) (p40 : Nat) (p50 : Nat) (P1 : Nat) (pg1 : Nat) (p01 : Nat) (p11 : Nat) (p21 : Nat) (p31 : Nat) (p41 : Nat) (p51 : Nat) (ou : Nat) (mo : Nat) (V : Nat → Value) (aKe : Nat) (h9 : V 9 = .int 0) (h26 : V 26 = .ref aKe) (B : bd p s m #[Value.ref b] meth c cL_law 8 "GalleyforgeLaw" dC dI k (fun q => s.heap.size ≤ q) [(gx, .inr (9, [.ref T, .ref LA, .ref sp, .int 0, .ref dr])), (LA, .inl (k 3, 2, .inr (.inr (.inr (.inr (va_up (va_up (fun _ => none) 0 (some L0)) 1 (some L1))))))), (T, .inr (8, [.ref bl, .ref pt, .ref fk, .ref fh, .int 0, .ref ky, .int 60, .int 12])), (bl, .inr (11, [.int 0, .ref (dI 99 1), .int 0])), (L0, .inr (1, [.ref T, .int 0, .ref LN, .ref R0, .ref P0, .int 1, .int 0, .ref lc0, .ref le0, .ref ll0, .ref ld0, .ref wl0, .ref op0, .int 0, .int 0, .int 1365, .ref dg0])), (dg0, .inl (k 0, 730, .inl (fun _ => 0))), (R0, .inr (5, [.int 0, .ref r00, .ref r10, .ref r20, .ref r30, .ref r40, .ref r50, .ref r60, .ref r70, .ref wr0, .ref lr0, .ref tt0, .int 0, .int 0, .ref fr0, .ref r80, .ref r90, .int 0])), (wr0, .inl (k 0, 192, .inl (fun _ => 0))), (lr0, .inl (k 0, 6, .inl (fun _ => 0))), (tt0, .inl (k 1, 8, .inl (fun _ => 0))), (fr0, .inl (k 0, 5, .inl (fun _ => 0))), (P0, .inr (4, [.ref T, .ref R0, .ref pg0, .ref ST, .int 0, .int 0, .ref p00, .ref p10, .ref p20, .ref p30, .ref p40, .ref p50])), (p50, .inl (k 0, 5, .inl (fun _ => 0))), (L1, .inr (1, [.ref T, .int 1, .ref LN, .ref R1, .ref P1, .int 1, .int 0, .ref lc1, .ref le1, .ref ll1, .ref ld1, .ref wl1, .ref op1, .int 0, .int 0, .int 1365, .ref dg1])), (dg1, .inl (k 0, 730, .inl (fun _ => 0))), (R1, .inr (5, [.int 0, .ref r01, .ref r11, .ref r21, .ref r31, .ref r41, .ref r51, .ref r61, .ref r71, .ref wr1, .ref lr1, .ref tt1, .int 0, .int 0, .ref fr1, .ref r81, .ref r91, .int 0])), (wr1, .inl (k 0, 192, .inl (fun _ => 0))), (lr1, .inl (k 0, 6, .inl (fun _ => 0))), (tt1, .inl (k 1, 8, .inl (fun _ => 0))), (fr1, .inl (k 0, 5, .inl (fun _ => 0))), (P1, .inr (4, [.ref T, .ref R1, .ref pg1, .ref ST, .int 0, .int 0, .ref p01, .ref p11, .ref p21, .ref p31, .ref p41, .ref p51])), (p51, .inl (k 0, 5, .inl (fun _ => 0))), (ou, .inl (k 2, 1, .inr (.inl (fun _ => 0)))), (mo, .inr (10, fvM V)), (aKe, .inl (k 0, 8, .inl (fun _ => 0)))] H locs) (hl : lv_has ls 8 [(4, .int 0), (3, .ref ou), (2, .ref mo), (1, .ref gx), (0, .ref b)]) : W p l e room_1 s m #[Value.ref b] below meth c H locs 157 183312 (lw_Z below #[Value.ref b] s) (F0 m 2661 ls []) := by
  have hx := B.1.1
  have hb := B.1.2.1
  refine lv_aload_n hx hb dL_law_2661 rfl (lv_at hl 3 rfl) ?_
  refine lv_aload_n hx hb dL_law_2662 rfl (lv_at hl 4 rfl) ?_
  refine lv_iload hx hb dL_law_2663 (lv_at hl 0 rfl) ?_
  refine lv_iconst (v := 1) hx hb dL_law_2665 (by decide) ?_
  refine lv_iadd hx hb dL_law_2666 ?_
  refine lv_seti (y := 1) (by decide) ?_
  refine va_sld hx hb hX hbl (Nat.not_le.mpr hbl) B.2.2.2.2.2 (vpc (by decide)) dL_law_2667 ?_
  refine lv_seti (y := xs 1) rfl ?_
  refine lv_aload_n hx hb dL_law_2668 rfl (lv_at hl 4 rfl) ?_
  refine lv_iload hx hb dL_law_2669 (lv_at hl 0 rfl) ?_
  refine lv_iconst (v := 2) hx hb dL_law_2671 (by decide) ?_
  refine lv_iadd hx hb dL_law_2672 ?_
  refine lv_seti (y := 2) (by decide) ?_
  refine va_sld hx hb hX hbl (Nat.not_le.mpr hbl) B.2.2.2.2.2 (vpc (by decide)) dL_law_2673 ?_
  refine lv_seti (y := xs 2) rfl ?_
  refine lv_aload_n hx hb dL_law_2674 rfl (lv_at hl 1 rfl) ?_
  refine x_callW (rest := []) (wr := [(mo, .inr (10, fvM V)), (aKe, .inl (k 0, 8, .inl (fun _ => 0)))]) (w_indexAt l dC dI k hl0 gx T LA sp dr bl pt fk fh ky LN ST L0 lc0 le0 ll0 ld0 wl0 op0 dg0 L1 lc1 le1 ll1 ld1 wl1 op1 dg1 R0 r00 r10 r20 r30 r40 r50 r60 r70 wr0 lr0 tt0 fr0 r80 r90 R1 r01 r11 r21 r31 r41 r51 r61 r71 wr1 lr1 tt1 fr1 r81 r91 P0 pg0 p00 p10 p20 p30 p40 p50 P1 pg1 p01 p11 p21 p31 p41 p51 (xs 1) (xs 2) ou) B mW_L_indexAt mw_1825 hl [0, 1, 2, 3, 4, 5, 6, 7, 8, 9, 10, 11, 12, 13, 14, 15, 16, 17, 18, 19, 20, 21, 22] [23, 24] rfl rfl ⟨by decide, by decide⟩ (by decide) ⟨Nat.le_of_ble_eq_true rfl, Nat.le_of_ble_eq_true rfl⟩ (Nat.le_of_ble_eq_true rfl) rfl dL_law_2675 ⟨Nat.le_of_ble_eq_true rfl, Nat.le_of_ble_eq_true rfl⟩ (fun r w H locs hp B => ?_)
  obtain ⟨rfl, rfl⟩ := hp
  have B := bd_to (ws' := [(mo, .inr (10, fvM V)), (aKe, .inl (k 0, 8, .inl (fun _ => 0)))]) rfl B
  refine lv_istore (lv' := [(5, .int 1), (4, .int 0), (3, .ref ou), (2, .ref mo), (1, .ref gx), (0, .ref b)]) hx hb dL_law_2678 hl (by decide) rfl (fun ls hl => ?_)
  refine lv_aload_n hx hb dL_law_2680 rfl (lv_at hl 3 rfl) ?_
  refine lv_aload_n hx hb dL_law_2681 rfl (lv_at hl 5 rfl) ?_
  refine lv_iload hx hb dL_law_2682 (lv_at hl 1 rfl) ?_
  refine lv_iconst (v := 1) hx hb dL_law_2684 (by decide) ?_
  refine lv_iadd hx hb dL_law_2685 ?_
  refine lv_seti (y := 1) (by decide) ?_
  refine va_sld hx hb hX hbl (Nat.not_le.mpr hbl) B.2.2.2.2.2 (vpc (by decide)) dL_law_2686 ?_
  refine lv_seti (y := xs 1) rfl ?_
  refine lv_aload_n hx hb dL_law_2687 rfl (lv_at hl 5 rfl) ?_
  refine lv_iload hx hb dL_law_2688 (lv_at hl 1 rfl) ?_
  refine lv_iconst (v := 2) hx hb dL_law_2690 (by decide) ?_
  refine lv_iadd hx hb dL_law_2691 ?_
  refine lv_seti (y := 2) (by decide) ?_
  refine va_sld hx hb hX hbl (Nat.not_le.mpr hbl) B.2.2.2.2.2 (vpc (by decide)) dL_law_2692 ?_
  refine lv_seti (y := xs 2) rfl ?_
  refine x_callV (rest := []) (wr := []) (m_indexAt l dC dI k mo V aKe (xs 1) (xs 2) h9 h26) B mV_X12_indexAt mw_2574 hl [0, 1] [] rfl rfl ⟨by decide, by decide⟩ (by decide) (q0 := 0) rfl rfl rfl ⟨Nat.le_of_ble_eq_true rfl, Nat.le_of_ble_eq_true rfl⟩ (Nat.le_of_ble_eq_true rfl) rfl dL_law_2693 ⟨Nat.le_of_ble_eq_true rfl, Nat.le_of_ble_eq_true rfl⟩ (fun r w H locs hp B => ?_)
  obtain ⟨V1_1, z_2, rfl, rfl⟩ := hp
  have B := bd_to (ws' := [(mo, .inr (10, fvM V1_1))]) rfl B
  refine lv_istore (lv' := [(6, .int 0), (5, .int 1), (4, .int 0), (3, .ref ou), (2, .ref mo), (1, .ref gx), (0, .ref b)]) hx hb dL_law_2696 hl (by decide) rfl (fun ls hl => ?_)
  refine lv_aload_n hx hb dL_law_2698 rfl (lv_at hl 4 rfl) ?_
  refine x_callV (rest := []) (wr := []) (m_thrown l dC dI k mo V1_1 1 z_2) B mV_X12_thrown mw_2144 hl [0] [] rfl rfl ⟨by decide, by decide⟩ (by decide) (q0 := 0) rfl rfl rfl ⟨Nat.le_of_ble_eq_true rfl, Nat.le_of_ble_eq_true rfl⟩ (Nat.le_of_ble_eq_true rfl) rfl dL_law_2699 ⟨Nat.le_of_ble_eq_true rfl, Nat.le_of_ble_eq_true rfl⟩ (fun r w H locs hp B => ?_)
  obtain ⟨rfl, rfl⟩ := hp
  have B := bd_to (ws' := [(mo, .inr (10, fvM V1_1))]) rfl B
  refine lv_iload hx hb dL_law_2702 (lv_at hl 1 rfl) ?_
  refine lv_icmp_eq (tgt := 2709) hx hb dL_law_2704 (by decide) (fun _ => ?_) (fun c9 => absurd (by decide) c9)
  refine lv_iload hx hb dL_law_2709 (lv_at hl 1 rfl) ?_
  refine lv_if_ne (tgt := 2726) hx hb dL_law_2711 (by decide) (fun _ => ?_) (fun c9 => absurd c9 (by decide))
  refine lv_goto (tgt := 2809) hx hb dL_law_2726 (by decide) ?_
  exact law_end hX hbl hr B (lv_sub hl [6, 2] rfl) (Nat.le_of_ble_eq_true rfl) (Nat.le_of_ble_eq_true rfl)

theorem mw_1841 : (Jvm.Cond.methodLink "GalleyforgeLaw" (262 : Nat) ({ cls := "GalleyforgeLaw", name := "range", desc := "(LGalleyforge;III[J)I" } : Jvm.MethodName)) ∈ gt := gt_at 1976 (by decide +kernel) (by decide +kernel)
theorem mw_1842 : (Jvm.Cond.static ({ cls := "GalleyforgeLaw", name := "range", desc := "(LGalleyforge;III[J)I" } : Jvm.MethodName)) ∈ gt := gt_at 1977 (by decide +kernel) (by decide +kernel)
theorem mw_1843 : (Jvm.Cond.codeWith ({ cls := "GalleyforgeLaw", name := "range", desc := "(LGalleyforge;III[J)I" } : Jvm.MethodName) method_39_code (6 : Nat) (Option.some Jvm.ClassFile.FieldType.int) [((0 : Nat), (12 : Nat), (15 : Nat), (13 : Nat))]) ∈ gt := gt_at 1978 (by decide +kernel) (by decide +kernel)
theorem mw_2578 : (Jvm.Cond.methodLink "GalleyforgeLaw" (264 : Nat) ({ cls := "GalleyforgeModel", name := "range", desc := "(III)I" } : Jvm.MethodName)) ∈ gt := gt_at 2713 (by decide +kernel) (by decide +kernel)
theorem mw_2579 : (Jvm.Cond.instanceMethod ({ cls := "GalleyforgeModel", name := "range", desc := "(III)I" } : Jvm.MethodName)) ∈ gt := gt_at 2714 (by decide +kernel) (by decide +kernel)
theorem mw_2580 : (Jvm.Cond.selects "GalleyforgeModel" ({ cls := "GalleyforgeModel", name := "range", desc := "(III)I" } : Jvm.MethodName) ({ cls := "GalleyforgeModel", name := "range", desc := "(III)I" } : Jvm.MethodName)) ∈ gt := gt_at 2715 (by decide +kernel) (by decide +kernel)
theorem mw_2581 : (Jvm.Cond.code ({ cls := "GalleyforgeModel", name := "range", desc := "(III)I" } : Jvm.MethodName) prog_14_method_111_code (11 : Nat) (Option.some Jvm.ClassFile.FieldType.int)) ∈ gt := gt_at 2716 (by decide +kernel) (by decide +kernel)
theorem mV_X12_range : mV yX12_range cX12_range 11 (some .int) 3 := ⟨⟨mw_2581, mw_13, by decide, by decide, by decide +kernel⟩, mw_2579, mw_2580⟩
theorem mW_L_range : mW yL_range cL_range 6 (some .int) [((0 : Nat), (12 : Nat), (15 : Nat), (13 : Nat))] 5 := ⟨⟨mw_1843, mw_0, by decide, by decide, by decide +kernel⟩, mw_1842⟩
theorem dL_law_2729 : decode cL_law 2729 = .ok (.aload_n 1, 1) := by decide +kernel
theorem dL_law_2730 : decode cL_law 2730 = .ok (.aload_n 0, 1) := by decide +kernel
theorem dL_law_2731 : decode cL_law 2731 = .ok (.iload 4, 2) := by decide +kernel
theorem dL_law_2733 : decode cL_law 2733 = .ok (.iconst 1, 1) := by decide +kernel
theorem dL_law_2734 : decode cL_law 2734 = .ok (.iadd, 1) := by decide +kernel
theorem dL_law_2735 : decode cL_law 2735 = .ok (.iaload, 1) := by decide +kernel
theorem dL_law_2736 : decode cL_law 2736 = .ok (.aload_n 0, 1) := by decide +kernel
theorem dL_law_2737 : decode cL_law 2737 = .ok (.iload 4, 2) := by decide +kernel
theorem dL_law_2739 : decode cL_law 2739 = .ok (.iconst 2, 1) := by decide +kernel
theorem dL_law_2740 : decode cL_law 2740 = .ok (.iadd, 1) := by decide +kernel
theorem dL_law_2741 : decode cL_law 2741 = .ok (.iaload, 1) := by decide +kernel
theorem dL_law_2742 : decode cL_law 2742 = .ok (.aload_n 0, 1) := by decide +kernel
theorem dL_law_2743 : decode cL_law 2743 = .ok (.iload 4, 2) := by decide +kernel
theorem dL_law_2745 : decode cL_law 2745 = .ok (.iconst 3, 1) := by decide +kernel
theorem dL_law_2746 : decode cL_law 2746 = .ok (.iadd, 1) := by decide +kernel
theorem dL_law_2747 : decode cL_law 2747 = .ok (.iaload, 1) := by decide +kernel
theorem dL_law_2748 : decode cL_law 2748 = .ok (.aload_n 3, 1) := by decide +kernel
theorem dL_law_2749 : decode cL_law 2749 = .ok (.invokestatic 262, 3) := by decide +kernel
theorem dL_law_2752 : decode cL_law 2752 = .ok (.istore 5, 2) := by decide +kernel
theorem dL_law_2754 : decode cL_law 2754 = .ok (.aload_n 2, 1) := by decide +kernel
theorem dL_law_2755 : decode cL_law 2755 = .ok (.aload_n 0, 1) := by decide +kernel
theorem dL_law_2756 : decode cL_law 2756 = .ok (.iload 4, 2) := by decide +kernel
theorem dL_law_2758 : decode cL_law 2758 = .ok (.iconst 1, 1) := by decide +kernel
theorem dL_law_2759 : decode cL_law 2759 = .ok (.iadd, 1) := by decide +kernel
theorem dL_law_2760 : decode cL_law 2760 = .ok (.iaload, 1) := by decide +kernel
theorem dL_law_2761 : decode cL_law 2761 = .ok (.aload_n 0, 1) := by decide +kernel
theorem dL_law_2762 : decode cL_law 2762 = .ok (.iload 4, 2) := by decide +kernel
theorem dL_law_2764 : decode cL_law 2764 = .ok (.iconst 2, 1) := by decide +kernel
theorem dL_law_2765 : decode cL_law 2765 = .ok (.iadd, 1) := by decide +kernel
theorem dL_law_2766 : decode cL_law 2766 = .ok (.iaload, 1) := by decide +kernel
theorem dL_law_2767 : decode cL_law 2767 = .ok (.aload_n 0, 1) := by decide +kernel
theorem dL_law_2768 : decode cL_law 2768 = .ok (.iload 4, 2) := by decide +kernel
theorem dL_law_2770 : decode cL_law 2770 = .ok (.iconst 3, 1) := by decide +kernel
theorem dL_law_2771 : decode cL_law 2771 = .ok (.iadd, 1) := by decide +kernel
theorem dL_law_2772 : decode cL_law 2772 = .ok (.iaload, 1) := by decide +kernel
theorem dL_law_2773 : decode cL_law 2773 = .ok (.invokevirtual 264, 3) := by decide +kernel
theorem dL_law_2776 : decode cL_law 2776 = .ok (.istore 6, 2) := by decide +kernel
theorem dL_law_2778 : decode cL_law 2778 = .ok (.aload_n 2, 1) := by decide +kernel
theorem dL_law_2779 : decode cL_law 2779 = .ok (.invokevirtual 142, 3) := by decide +kernel
theorem dL_law_2782 : decode cL_law 2782 = .ok (.iload 5, 2) := by decide +kernel
theorem dL_law_2784 : decode cL_law 2784 = .ok (.if_icmp .eq 5, 3) := by decide +kernel
theorem dL_law_2789 : decode cL_law 2789 = .ok (.iload 5, 2) := by decide +kernel
theorem dL_law_2791 : decode cL_law 2791 = .ok (.ifCond .ne 15, 3) := by decide +kernel
theorem dL_law_2806 : decode cL_law 2806 = .ok (.goto 3, 3) := by decide +kernel
set_option maxHeartbeats 4000000 in
set_option maxRecDepth 100000 in
theorem law_range (l : Launch) (hl0 : l.stackTraces = false) (dC : Nat → ClassId) (dI : Nat → Nat → Nat) (k : Nat → ClassId) {p : Program} {e : Env} {s : State} {m : MethodId} {below : List Frame} {meth : Method} {c : Code} {b : Nat} {xs : Nat → Int32} (hX : va_X b 7 xs s s.heap) (hbl : b < s.heap.size) (hr : meth.sig.returnType = ret) {H : Heap} {locs : List Loc} {ls : Array Slot} (gx : Nat) (T : Nat) (LA : Nat) (sp : Nat) (dr : Nat) (bl : Nat) (pt : Nat) (fk : Nat) (fh : Nat) (ky : Nat) (LN : Nat) (ST : Nat) (L0 : Nat) (lc0 : Nat) (le0 : Nat) (ll0 : Nat) (ld0 : Nat) (wl0 : Nat) (op0 : Nat) (dg0 : Nat) (L1 : Nat) (lc1 : Nat) (le1 : Nat) (ll1 : Nat) (ld1 : Nat) (wl1 : Nat) (op1 : Nat) (dg1 : Nat) (R0 : Nat) (r00 : Nat) (r10 : Nat) (r20 : Nat) (r30 : Nat) (r40 : Nat) (r50 : Nat) (r60 : Nat) (r70 : Nat) (wr0 : Nat) (lr0 : Nat) (tt0 : Nat) (fr0 : Nat) (r80 : Nat) (r90 : Nat) (R1 : Nat) (r01 : Nat) (r11 : Nat) (r21 : Nat) (r31 : Nat) (r41 : Nat) (r51 : Nat) (r61 : Nat) (r71 : Nat) (wr1 : Nat) (lr1 : Nat) (tt1 : Nat) (fr1 : Nat) (r81 : Nat) (r91 : Nat) (P0 : Nat) (pg0 : Nat) (p00 : Nat) (p10 : Nat) (p20 : Nat) (p30 : Nat) (p40 : Nat) (p50 : Nat) (P1 : Nat) (pg1 : Nat) (p01 : Nat) (p11 : Nat) (p21 : Nat) (p31 : Nat) (p41 : Nat) (p51 : Nat) (ou : Nat) (mo : Nat) (V : Nat → Value) (aDg : Nat) (aRn : Nat) (aSo : Nat) (aHi : Nat) (aNr : Nat) (aNw : Nat) (aNl : Nat) (aNc : Nat) (aNp : Nat) (aNq : Nat) (aNs : Nat) (aNn : Nat) (h9 : V 9 = .int 0) (h21 : V 21 = .int 0) (h47 : V 47 = .ref aDg) (h77 : V 77 = .ref aRn) (h80 : V 80 = .int (-1)) (h90 : V 90 = .ref aSo) (h92 : V 92 = .ref aHi) (h69 : V 69 = .ref aNr) (h70 : V 70 = .ref aNw) (h71 : V 71 = .ref aNl) (h72 : V 72 = .ref aNc) (h73 : V 73 = .ref aNp) (h74 : V 74 = .ref aNq) (h75 : V 75 = .ref aNs) (h76 : V 76 = .ref aNn) (B : bd p s m #[Value.ref b] meth c cL_law 8 "GalleyforgeLaw" dC dI k (fun q => s.heap.size ≤ q) [(gx, .inr (9, [.ref T, .ref LA, .ref sp, .int 0, .ref dr])), (LA, .inl (k 3, 2, .inr (.inr (.inr (.inr (va_up (va_up (fun _ => none) 0 (some L0)) 1 (some L1))))))), (T, .inr (8, [.ref bl, .ref pt, .ref fk, .ref fh, .int 0, .ref ky, .int 60, .int 12])), (bl, .inr (11, [.int 0, .ref (dI 99 1), .int 0])), (L0, .inr (1, [.ref T, .int 0, .ref LN, .ref R0, .ref P0, .int 1, .int 0, .ref lc0, .ref le0, .ref ll0, .ref ld0, .ref wl0, .ref op0, .int 0, .int 0, .int 1365, .ref dg0])), (dg0, .inl (k 0, 730, .inl (fun _ => 0))), (R0, .inr (5, [.int 0, .ref r00, .ref r10, .ref r20, .ref r30, .ref r40, .ref r50, .ref r60, .ref r70, .ref wr0, .ref lr0, .ref tt0, .int 0, .int 0, .ref fr0, .ref r80, .ref r90, .int 0])), (wr0, .inl (k 0, 192, .inl (fun _ => 0))), (lr0, .inl (k 0, 6, .inl (fun _ => 0))), (tt0, .inl (k 1, 8, .inl (fun _ => 0))), (fr0, .inl (k 0, 5, .inl (fun _ => 0))), (P0, .inr (4, [.ref T, .ref R0, .ref pg0, .ref ST, .int 0, .int 0, .ref p00, .ref p10, .ref p20, .ref p30, .ref p40, .ref p50])), (p50, .inl (k 0, 5, .inl (fun _ => 0))), (L1, .inr (1, [.ref T, .int 1, .ref LN, .ref R1, .ref P1, .int 1, .int 0, .ref lc1, .ref le1, .ref ll1, .ref ld1, .ref wl1, .ref op1, .int 0, .int 0, .int 1365, .ref dg1])), (dg1, .inl (k 0, 730, .inl (fun _ => 0))), (R1, .inr (5, [.int 0, .ref r01, .ref r11, .ref r21, .ref r31, .ref r41, .ref r51, .ref r61, .ref r71, .ref wr1, .ref lr1, .ref tt1, .int 0, .int 0, .ref fr1, .ref r81, .ref r91, .int 0])), (wr1, .inl (k 0, 192, .inl (fun _ => 0))), (lr1, .inl (k 0, 6, .inl (fun _ => 0))), (tt1, .inl (k 1, 8, .inl (fun _ => 0))), (fr1, .inl (k 0, 5, .inl (fun _ => 0))), (P1, .inr (4, [.ref T, .ref R1, .ref pg1, .ref ST, .int 0, .int 0, .ref p01, .ref p11, .ref p21, .ref p31, .ref p41, .ref p51])), (p51, .inl (k 0, 5, .inl (fun _ => 0))), (op0, .inl (k 1, 967, .inl (fun _ => 0))), (op1, .inl (k 1, 967, .inl (fun _ => 0))), (ou, .inl (k 2, 1, .inr (.inl (fun _ => 0)))), (mo, .inr (10, fvM V)), (aNr, .inl (k 0, 16000, .inl (fun _ => 0))), (aNw, .inl (k 0, 16000, .inl (fun _ => 0))), (aNl, .inl (k 0, 16000, .inl (fun _ => 0))), (aNc, .inl (k 0, 16000, .inl (fun _ => 0))), (aNp, .inl (k 0, 16000, .inl (fun _ => 0))), (aNq, .inl (k 0, 16000, .inl (fun _ => 0))), (aNs, .inl (k 0, 16000, .inl (fun _ => 0))), (aNn, .inl (k 0, 16000, .inl (fun _ => 0))), (aRn, .inl (k 0, 769, .inl (fun _ => 0))), (aSo, .inl (k 0, 5, .inl (fun _ => 0))), (aDg, .inl (k 0, 6, .inl (fun _ => 0))), (aHi, .inl (k 0, 800, .inl (fun _ => 0)))] H locs) (hl : lv_has ls 8 [(4, .int 0), (3, .ref ou), (2, .ref mo), (1, .ref gx), (0, .ref b)]) : W p l e room_1 s m #[Value.ref b] below meth c H locs 157 183312 (lw_Z below #[Value.ref b] s) (F0 m 2729 ls []) := by
  have hx := B.1.1
  have hb := B.1.2.1
  refine lv_aload_n hx hb dL_law_2729 rfl (lv_at hl 3 rfl) ?_
  refine lv_aload_n hx hb dL_law_2730 rfl (lv_at hl 4 rfl) ?_
  refine lv_iload hx hb dL_law_2731 (lv_at hl 0 rfl) ?_
  refine lv_iconst (v := 1) hx hb dL_law_2733 (by decide) ?_
  refine lv_iadd hx hb dL_law_2734 ?_
  refine lv_seti (y := 1) (by decide) ?_
  refine va_sld hx hb hX hbl (Nat.not_le.mpr hbl) B.2.2.2.2.2 (vpc (by decide)) dL_law_2735 ?_
  refine lv_seti (y := xs 1) rfl ?_
  refine lv_aload_n hx hb dL_law_2736 rfl (lv_at hl 4 rfl) ?_
  refine lv_iload hx hb dL_law_2737 (lv_at hl 0 rfl) ?_
  refine lv_iconst (v := 2) hx hb dL_law_2739 (by decide) ?_
  refine lv_iadd hx hb dL_law_2740 ?_
  refine lv_seti (y := 2) (by decide) ?_
  refine va_sld hx hb hX hbl (Nat.not_le.mpr hbl) B.2.2.2.2.2 (vpc (by decide)) dL_law_2741 ?_
  refine lv_seti (y := xs 2) rfl ?_
  refine lv_aload_n hx hb dL_law_2742 rfl (lv_at hl 4 rfl) ?_
  refine lv_iload hx hb dL_law_2743 (lv_at hl 0 rfl) ?_
  refine lv_iconst (v := 3) hx hb dL_law_2745 (by decide) ?_
  refine lv_iadd hx hb dL_law_2746 ?_
  refine lv_seti (y := 3) (by decide) ?_
  refine va_sld hx hb hX hbl (Nat.not_le.mpr hbl) B.2.2.2.2.2 (vpc (by decide)) dL_law_2747 ?_
  refine lv_seti (y := xs 3) rfl ?_
  refine lv_aload_n hx hb dL_law_2748 rfl (lv_at hl 1 rfl) ?_
  refine x_callW (rest := []) (wr := [(mo, .inr (10, fvM V)), (aNr, .inl (k 0, 16000, .inl (fun _ => 0))), (aNw, .inl (k 0, 16000, .inl (fun _ => 0))), (aNl, .inl (k 0, 16000, .inl (fun _ => 0))), (aNc, .inl (k 0, 16000, .inl (fun _ => 0))), (aNp, .inl (k 0, 16000, .inl (fun _ => 0))), (aNq, .inl (k 0, 16000, .inl (fun _ => 0))), (aNs, .inl (k 0, 16000, .inl (fun _ => 0))), (aNn, .inl (k 0, 16000, .inl (fun _ => 0))), (aRn, .inl (k 0, 769, .inl (fun _ => 0))), (aSo, .inl (k 0, 5, .inl (fun _ => 0))), (aDg, .inl (k 0, 6, .inl (fun _ => 0))), (aHi, .inl (k 0, 800, .inl (fun _ => 0)))]) (w_range l dC dI k hl0 gx T LA sp dr bl pt fk fh ky LN ST L0 lc0 le0 ll0 ld0 wl0 op0 dg0 L1 lc1 le1 ll1 ld1 wl1 op1 dg1 R0 r00 r10 r20 r30 r40 r50 r60 r70 wr0 lr0 tt0 fr0 r80 r90 R1 r01 r11 r21 r31 r41 r51 r61 r71 wr1 lr1 tt1 fr1 r81 r91 P0 pg0 p00 p10 p20 p30 p40 p50 P1 pg1 p01 p11 p21 p31 p41 p51 (xs 1) (xs 2) (xs 3) ou) B mW_L_range mw_1841 hl [0, 1, 2, 3, 4, 5, 6, 7, 8, 9, 10, 11, 12, 13, 14, 15, 16, 17, 18, 19, 20, 21, 22, 23, 24] [25, 26, 27, 28, 29, 30, 31, 32, 33, 34, 35, 36, 37] rfl rfl ⟨by decide, by decide⟩ (by decide) ⟨Nat.le_of_ble_eq_true rfl, Nat.le_of_ble_eq_true rfl⟩ (Nat.le_of_ble_eq_true rfl) rfl dL_law_2749 ⟨Nat.le_of_ble_eq_true rfl, Nat.le_of_ble_eq_true rfl⟩ (fun r w H locs hp B => ?_)
  obtain ⟨rfl, rfl⟩ := hp
  have B := bd_to (ws' := [(mo, .inr (10, fvM V)), (aNr, .inl (k 0, 16000, .inl (fun _ => 0))), (aNw, .inl (k 0, 16000, .inl (fun _ => 0))), (aNl, .inl (k 0, 16000, .inl (fun _ => 0))), (aNc, .inl (k 0, 16000, .inl (fun _ => 0))), (aNp, .inl (k 0, 16000, .inl (fun _ => 0))), (aNq, .inl (k 0, 16000, .inl (fun _ => 0))), (aNs, .inl (k 0, 16000, .inl (fun _ => 0))), (aNn, .inl (k 0, 16000, .inl (fun _ => 0))), (aRn, .inl (k 0, 769, .inl (fun _ => 0))), (aSo, .inl (k 0, 5, .inl (fun _ => 0))), (aDg, .inl (k 0, 6, .inl (fun _ => 0))), (aHi, .inl (k 0, 800, .inl (fun _ => 0)))]) rfl B
  refine lv_istore (lv' := [(5, .int 1), (4, .int 0), (3, .ref ou), (2, .ref mo), (1, .ref gx), (0, .ref b)]) hx hb dL_law_2752 hl (by decide) rfl (fun ls hl => ?_)
  refine lv_aload_n hx hb dL_law_2754 rfl (lv_at hl 3 rfl) ?_
  refine lv_aload_n hx hb dL_law_2755 rfl (lv_at hl 5 rfl) ?_
  refine lv_iload hx hb dL_law_2756 (lv_at hl 1 rfl) ?_
  refine lv_iconst (v := 1) hx hb dL_law_2758 (by decide) ?_
  refine lv_iadd hx hb dL_law_2759 ?_
  refine lv_seti (y := 1) (by decide) ?_
  refine va_sld hx hb hX hbl (Nat.not_le.mpr hbl) B.2.2.2.2.2 (vpc (by decide)) dL_law_2760 ?_
  refine lv_seti (y := xs 1) rfl ?_
  refine lv_aload_n hx hb dL_law_2761 rfl (lv_at hl 5 rfl) ?_
  refine lv_iload hx hb dL_law_2762 (lv_at hl 1 rfl) ?_
  refine lv_iconst (v := 2) hx hb dL_law_2764 (by decide) ?_
  refine lv_iadd hx hb dL_law_2765 ?_
  refine lv_seti (y := 2) (by decide) ?_
  refine va_sld hx hb hX hbl (Nat.not_le.mpr hbl) B.2.2.2.2.2 (vpc (by decide)) dL_law_2766 ?_
  refine lv_seti (y := xs 2) rfl ?_
  refine lv_aload_n hx hb dL_law_2767 rfl (lv_at hl 5 rfl) ?_
  refine lv_iload hx hb dL_law_2768 (lv_at hl 1 rfl) ?_
  refine lv_iconst (v := 3) hx hb dL_law_2770 (by decide) ?_
  refine lv_iadd hx hb dL_law_2771 ?_
  refine lv_seti (y := 3) (by decide) ?_
  refine va_sld hx hb hX hbl (Nat.not_le.mpr hbl) B.2.2.2.2.2 (vpc (by decide)) dL_law_2772 ?_
  refine lv_seti (y := xs 3) rfl ?_
  refine x_callV (rest := []) (wr := []) (m_range l dC dI k mo V aDg aRn aSo aHi aNr aNw aNl aNc aNp aNq aNs aNn (xs 1) (xs 2) (xs 3) h9 h21 h47 h77 h80 h90 h92 h69 h70 h71 h72 h73 h74 h75 h76) B mV_X12_range mw_2578 hl [0, 1, 2, 3, 4, 5, 6, 7, 8, 9, 10, 11, 12] [] rfl rfl ⟨by decide, by decide⟩ (by decide) (q0 := 0) rfl rfl rfl ⟨Nat.le_of_ble_eq_true rfl, Nat.le_of_ble_eq_true rfl⟩ (Nat.le_of_ble_eq_true rfl) rfl dL_law_2773 ⟨Nat.le_of_ble_eq_true rfl, Nat.le_of_ble_eq_true rfl⟩ (fun r w H locs hp B => ?_)
  obtain ⟨V1_1, z_2, rfl, rfl⟩ := hp
  have B := bd_to (ws' := [(mo, .inr (10, fvM V1_1))]) rfl B
  refine lv_istore (lv' := [(6, .int 0), (5, .int 1), (4, .int 0), (3, .ref ou), (2, .ref mo), (1, .ref gx), (0, .ref b)]) hx hb dL_law_2776 hl (by decide) rfl (fun ls hl => ?_)
  refine lv_aload_n hx hb dL_law_2778 rfl (lv_at hl 4 rfl) ?_
  refine x_callV (rest := []) (wr := []) (m_thrown l dC dI k mo V1_1 1 z_2) B mV_X12_thrown mw_2144 hl [0] [] rfl rfl ⟨by decide, by decide⟩ (by decide) (q0 := 0) rfl rfl rfl ⟨Nat.le_of_ble_eq_true rfl, Nat.le_of_ble_eq_true rfl⟩ (Nat.le_of_ble_eq_true rfl) rfl dL_law_2779 ⟨Nat.le_of_ble_eq_true rfl, Nat.le_of_ble_eq_true rfl⟩ (fun r w H locs hp B => ?_)
  obtain ⟨rfl, rfl⟩ := hp
  have B := bd_to (ws' := [(mo, .inr (10, fvM V1_1))]) rfl B
  refine lv_iload hx hb dL_law_2782 (lv_at hl 1 rfl) ?_
  refine lv_icmp_eq (tgt := 2789) hx hb dL_law_2784 (by decide) (fun _ => ?_) (fun c9 => absurd (by decide) c9)
  refine lv_iload hx hb dL_law_2789 (lv_at hl 1 rfl) ?_
  refine lv_if_ne (tgt := 2806) hx hb dL_law_2791 (by decide) (fun _ => ?_) (fun c9 => absurd c9 (by decide))
  refine lv_goto (tgt := 2809) hx hb dL_law_2806 (by decide) ?_
  exact law_end hX hbl hr B (lv_sub hl [6, 2] rfl) (Nat.le_of_ble_eq_true rfl) (Nat.le_of_ble_eq_true rfl)

end
