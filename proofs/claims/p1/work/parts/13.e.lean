section
set_option maxHeartbeats 4000000 in
set_option maxRecDepth 100000 in
theorem c_pageOfLabel2 (l : Launch) (dC : Nat → ClassId) (dI : Nat → Nat → Nat) (k : Nat → ClassId) (L : Nat) (lc : Nat) (le : Nat) (ll : Nat) (ld : Nat) (wl : Nat) (op : Nat) (dg : Nat) (T : Nat) (LN : Nat) (R : Nat) (P : Nat) (v : Int32) (r0 : Nat) (r1 : Nat) (r2 : Nat) (r3 : Nat) (r4 : Nat) (r5 : Nat) (r6 : Nat) (r7 : Nat) (wr : Nat) (lr : Nat) (tt : Nat) (fr : Nat) (r8 : Nat) (r9 : Nat) (gl : Nat → Int32) (lb : Int32) (hgl : ∀ j, j < 6 → gl j = -1) (hlb : 0 ≤ lb.toInt ∧ lb.toInt ≤ 5) : Ct l dC dI k yX1_pageOfLabel (.code yX1_pageOfLabel cX1_pageOfLabel 2 (some .int)) ({ frames := 0, cells := 0, slots := 0, locals := 0 } : Room) [.ref L, .int lb] [(L, .inr (1, [.ref T, .int v, .ref LN, .ref R, .ref P, .int 0, .int 0, .ref lc, .ref le, .ref ll, .ref ld, .ref wl, .ref op, .int 1, .int 1, .int 1365, .ref dg])), (R, .inr (5, [.int 0, .ref r0, .ref r1, .ref r2, .ref r3, .ref r4, .ref r5, .ref r6, .ref r7, .ref wr, .ref lr, .ref tt, .int 0, .int 0, .ref fr, .ref r8, .ref r9, .int 0])), (lr, .inl (k 0, 6, .inl gl))] (fun r w => (r = some (.int (-1)) ∧ w = [])) := by
  refine ct_of (by decide) (Nat.le_of_ble_eq_true rfl) ?_
  intro p e s m args below meth c H locs B hr hnm ls hl
  have hx := B.1.1
  have hb := B.1.2.1
  have hl : lv_has ls 2 [(0, .ref L), (1, .int lb)] := hl
  refine lv_aload_n hx hb dX1_pageOfLabel_0 rfl (lv_at hl 0 rfl) ?_
  refine x_get (ci := 1) (C := RX1) (T := TX1) (N := 17) (v := .ref R) B 0 rfl rfl in_X1 3 (by decide) mw_414 (fun _ h9 => h9) rfl dX1_pageOfLabel_1 ?_
  refine x_get (ci := 5) (C := RX6) (T := TX6) (N := 18) (v := .ref lr) B 1 rfl rfl in_X6 10 (by decide) mw_250 (fun _ h9 => h9) rfl dX1_pageOfLabel_4 ?_
  refine lv_iload_n hx hb dX1_pageOfLabel_7 rfl (lv_at hl 1 rfl) ?_
  refine x_iald (v := (-1)) B 2 rfl (zin (by omega) (by omega)) dX1_pageOfLabel_8 (hgl _ (zcl (by omega) (by omega))) ?_
  refine lv_iconst (v := (-1)) hx hb dX1_pageOfLabel_9 (by decide) ?_
  refine lv_icmp_ne (tgt := 17) hx hb dX1_pageOfLabel_10 (by decide) (fun c9 => absurd c9 (by decide)) (fun _ => ?_)
  refine lv_iconst (v := (-1)) hx hb dX1_pageOfLabel_13 (by decide) ?_
  refine lv_goto (tgt := 33) hx hb dX1_pageOfLabel_14 (by decide) ?_
  have B := bd_sub (ws' := []) [] (by decide) rfl B
  exact x_iret B hr (⟨rfl, rfl⟩) (Nat.le_of_ble_eq_true rfl) (Nat.le_of_ble_eq_true rfl) dX1_pageOfLabel_33

theorem mw_1096 : (Jvm.Cond.methodLink "Galleyforge" (137 : Nat) ({ cls := "Galleyforge", name := "checkLabel", desc := "(I)V" } : Jvm.MethodName)) ∈ gt := gt_at 1231 (by decide +kernel) (by decide +kernel)
theorem mw_1097 : (Jvm.Cond.static ({ cls := "Galleyforge", name := "checkLabel", desc := "(I)V" } : Jvm.MethodName)) ∈ gt := gt_at 1232 (by decide +kernel) (by decide +kernel)
theorem mw_1098 : (Jvm.Cond.code ({ cls := "Galleyforge", name := "checkLabel", desc := "(I)V" } : Jvm.MethodName) prog_1_method_42_code (1 : Nat) (Option.none : Option Jvm.ClassFile.FieldType)) ∈ gt := gt_at 1233 (by decide +kernel) (by decide +kernel)
theorem mw_1812 : (Jvm.Cond.methodLink "Galleyforge" (369 : Nat) ({ cls := "Galleyforge$Layout", name := "pageOfLabel", desc := "(I)I" } : Jvm.MethodName)) ∈ gt := gt_at 1947 (by decide +kernel) (by decide +kernel)
theorem mS_X11_checkLabel : mS yX11_checkLabel cX11_checkLabel 1 none 1 := ⟨⟨mw_1098, mw_1, by decide, by decide, by decide +kernel⟩, mw_1097⟩
theorem dX11_labelPage_0 : decode cX11_labelPage 0 = .ok (.iload_n 1, 1) := by decide +kernel
theorem dX11_labelPage_1 : decode cX11_labelPage 1 = .ok (.invokestatic 238, 3) := by decide +kernel
theorem dX11_labelPage_4 : decode cX11_labelPage 4 = .ok (.iload_n 2, 1) := by decide +kernel
theorem dX11_labelPage_5 : decode cX11_labelPage 5 = .ok (.invokestatic 137, 3) := by decide +kernel
theorem dX11_labelPage_8 : decode cX11_labelPage 8 = .ok (.aload_n 0, 1) := by decide +kernel
theorem dX11_labelPage_9 : decode cX11_labelPage 9 = .ok (.iload_n 1, 1) := by decide +kernel
theorem dX11_labelPage_10 : decode cX11_labelPage 10 = .ok (.invokevirtual 279, 3) := by decide +kernel
theorem dX11_labelPage_13 : decode cX11_labelPage 13 = .ok (.iload_n 2, 1) := by decide +kernel
theorem dX11_labelPage_14 : decode cX11_labelPage 14 = .ok (.invokevirtual 369, 3) := by decide +kernel
theorem dX11_labelPage_17 : decode cX11_labelPage 17 = .ok (.ireturn, 1) := by decide +kernel
set_option maxHeartbeats 4000000 in
set_option maxRecDepth 100000 in
theorem c_labelPage (l : Launch) (dC : Nat → ClassId) (dI : Nat → Nat → Nat) (k : Nat → ClassId) (hl0 : l.stackTraces = false) (gx : Nat) (T : Nat) (LA : Nat) (sp : Nat) (dr : Nat) (bl : Nat) (pt : Nat) (fk : Nat) (fh : Nat) (ky : Nat) (LN : Nat) (ST : Nat) (L0 : Nat) (lc0 : Nat) (le0 : Nat) (ll0 : Nat) (ld0 : Nat) (wl0 : Nat) (op0 : Nat) (dg0 : Nat) (L1 : Nat) (lc1 : Nat) (le1 : Nat) (ll1 : Nat) (ld1 : Nat) (wl1 : Nat) (op1 : Nat) (dg1 : Nat) (R0 : Nat) (r00 : Nat) (r10 : Nat) (r20 : Nat) (r30 : Nat) (r40 : Nat) (r50 : Nat) (r60 : Nat) (r70 : Nat) (wr0 : Nat) (lr0 : Nat) (tt0 : Nat) (fr0 : Nat) (r80 : Nat) (r90 : Nat) (R1 : Nat) (r01 : Nat) (r11 : Nat) (r21 : Nat) (r31 : Nat) (r41 : Nat) (r51 : Nat) (r61 : Nat) (r71 : Nat) (wr1 : Nat) (lr1 : Nat) (tt1 : Nat) (fr1 : Nat) (r81 : Nat) (r91 : Nat) (P0 : Nat) (pg0 : Nat) (p00 : Nat) (p10 : Nat) (p20 : Nat) (p30 : Nat) (p40 : Nat) (p50 : Nat) (P1 : Nat) (pg1 : Nat) (p01 : Nat) (p11 : Nat) (p21 : Nat) (p31 : Nat) (p41 : Nat) (p51 : Nat) (v : Int32) (x1 : Int32) : Xt l dC dI k yX11_labelPage (.code yX11_labelPage cX11_labelPage 3 (some .int)) ({ frames := 8, cells := 3, slots := 18, locals := 125 } : Room) [.ref gx, .int v, .int x1] [(gx, .inr (9, [.ref T, .ref LA, .ref sp, .int 0, .ref dr])), (LA, .inl (k 3, 2, .inr (.inr (.inr (.inr (va_up (va_up (fun _ => none) 0 (some L0)) 1 (some L1))))))), (T, .inr (8, [.ref bl, .ref pt, .ref fk, .ref fh, .int 0, .ref ky, .int 60, .int 12])), (bl, .inr (11, [.int 0, .ref (dI 99 1), .int 0])), (L0, .inr (1, [.ref T, .int 0, .ref LN, .ref R0, .ref P0, .int 1, .int 0, .ref lc0, .ref le0, .ref ll0, .ref ld0, .ref wl0, .ref op0, .int 0, .int 0, .int 1365, .ref dg0])), (dg0, .inl (k 0, 730, .inl (fun _ => 0))), (R0, .inr (5, [.int 0, .ref r00, .ref r10, .ref r20, .ref r30, .ref r40, .ref r50, .ref r60, .ref r70, .ref wr0, .ref lr0, .ref tt0, .int 0, .int 0, .ref fr0, .ref r80, .ref r90, .int 0])), (wr0, .inl (k 0, 192, .inl (fun _ => 0))), (lr0, .inl (k 0, 6, .inl (fun _ => 0))), (tt0, .inl (k 1, 8, .inl (fun _ => 0))), (fr0, .inl (k 0, 5, .inl (fun _ => 0))), (P0, .inr (4, [.ref T, .ref R0, .ref pg0, .ref ST, .int 0, .int 0, .ref p00, .ref p10, .ref p20, .ref p30, .ref p40, .ref p50])), (p50, .inl (k 0, 5, .inl (fun _ => 0))), (L1, .inr (1, [.ref T, .int 1, .ref LN, .ref R1, .ref P1, .int 1, .int 0, .ref lc1, .ref le1, .ref ll1, .ref ld1, .ref wl1, .ref op1, .int 0, .int 0, .int 1365, .ref dg1])), (dg1, .inl (k 0, 730, .inl (fun _ => 0))), (R1, .inr (5, [.int 0, .ref r01, .ref r11, .ref r21, .ref r31, .ref r41, .ref r51, .ref r61, .ref r71, .ref wr1, .ref lr1, .ref tt1, .int 0, .int 0, .ref fr1, .ref r81, .ref r91, .int 0])), (wr1, .inl (k 0, 192, .inl (fun _ => 0))), (lr1, .inl (k 0, 6, .inl (fun _ => 0))), (tt1, .inl (k 1, 8, .inl (fun _ => 0))), (fr1, .inl (k 0, 5, .inl (fun _ => 0))), (P1, .inr (4, [.ref T, .ref R1, .ref pg1, .ref ST, .int 0, .int 0, .ref p01, .ref p11, .ref p21, .ref p31, .ref p41, .ref p51])), (p51, .inl (k 0, 5, .inl (fun _ => 0)))] (fun r w => ((0 ≤ v.toInt ∧ v.toInt ≤ 1) ∧ (0 ≤ x1.toInt ∧ x1.toInt ≤ 5) ∧ r = some (.int (-1)) ∧ w = [])) (fun E => (¬ ((0 ≤ v.toInt ∧ v.toInt ≤ 1) ∧ (0 ≤ x1.toInt ∧ x1.toInt ≤ 5)) ∧ E = "java/lang/IndexOutOfBoundsException")) := by
  refine xt_of (by decide) (Nat.le_of_ble_eq_true rfl) ?_
  intro p e s m args below meth c H locs B hr hex ls hl
  have hx := B.1.1
  have hb := B.1.2.1
  have hl : lv_has ls 3 [(0, .ref gx), (1, .int v), (2, .int x1)] := hl
  refine lv_iload_n hx hb dX11_labelPage_0 rfl (lv_at hl 1 rfl) ?_
  refine x_callSx (rest := []) (wr := [(gx, .inr (9, [.ref T, .ref LA, .ref sp, .int 0, .ref dr])), (LA, .inl (k 3, 2, .inr (.inr (.inr (.inr (va_up (va_up (fun _ => none) 0 (some L0)) 1 (some L1))))))), (T, .inr (8, [.ref bl, .ref pt, .ref fk, .ref fh, .int 0, .ref ky, .int 60, .int 12])), (bl, .inr (11, [.int 0, .ref (dI 99 1), .int 0])), (L0, .inr (1, [.ref T, .int 0, .ref LN, .ref R0, .ref P0, .int 1, .int 0, .ref lc0, .ref le0, .ref ll0, .ref ld0, .ref wl0, .ref op0, .int 0, .int 0, .int 1365, .ref dg0])), (dg0, .inl (k 0, 730, .inl (fun _ => 0))), (R0, .inr (5, [.int 0, .ref r00, .ref r10, .ref r20, .ref r30, .ref r40, .ref r50, .ref r60, .ref r70, .ref wr0, .ref lr0, .ref tt0, .int 0, .int 0, .ref fr0, .ref r80, .ref r90, .int 0])), (wr0, .inl (k 0, 192, .inl (fun _ => 0))), (lr0, .inl (k 0, 6, .inl (fun _ => 0))), (tt0, .inl (k 1, 8, .inl (fun _ => 0))), (fr0, .inl (k 0, 5, .inl (fun _ => 0))), (P0, .inr (4, [.ref T, .ref R0, .ref pg0, .ref ST, .int 0, .int 0, .ref p00, .ref p10, .ref p20, .ref p30, .ref p40, .ref p50])), (p50, .inl (k 0, 5, .inl (fun _ => 0))), (L1, .inr (1, [.ref T, .int 1, .ref LN, .ref R1, .ref P1, .int 1, .int 0, .ref lc1, .ref le1, .ref ll1, .ref ld1, .ref wl1, .ref op1, .int 0, .int 0, .int 1365, .ref dg1])), (dg1, .inl (k 0, 730, .inl (fun _ => 0))), (R1, .inr (5, [.int 0, .ref r01, .ref r11, .ref r21, .ref r31, .ref r41, .ref r51, .ref r61, .ref r71, .ref wr1, .ref lr1, .ref tt1, .int 0, .int 0, .ref fr1, .ref r81, .ref r91, .int 0])), (wr1, .inl (k 0, 192, .inl (fun _ => 0))), (lr1, .inl (k 0, 6, .inl (fun _ => 0))), (tt1, .inl (k 1, 8, .inl (fun _ => 0))), (fr1, .inl (k 0, 5, .inl (fun _ => 0))), (P1, .inr (4, [.ref T, .ref R1, .ref pg1, .ref ST, .int 0, .int 0, .ref p01, .ref p11, .ref p21, .ref p31, .ref p41, .ref p51])), (p51, .inl (k 0, 5, .inl (fun _ => 0)))]) (c_checkVariant l dC dI k hl0 v) B mS_X11_checkVariant mw_1286 hl [] [0, 1, 2, 3, 4, 5, 6, 7, 8, 9, 10, 11, 12, 13, 14, 15, 16, 17, 18, 19, 20, 21] rfl rfl ⟨by decide, by decide⟩ (by decide) ⟨Nat.le_of_ble_eq_true rfl, Nat.le_of_ble_eq_true rfl⟩ (Nat.le_of_ble_eq_true rfl) rfl dX11_labelPage_1 ⟨Nat.le_of_ble_eq_true rfl, Nat.le_of_ble_eq_true rfl⟩ (fun E ce q9 H locs hp B h1 h2 h3 => ?_) (fun r w H locs hp B => ?_)
  · rcases hp with ⟨z0_0, rfl⟩
    exact x_out hex (⟨by omega, rfl⟩) B h1 h2 h3 (Nat.le_of_ble_eq_true rfl) (Nat.le_of_ble_eq_true rfl)
  · skip
    obtain ⟨z_2, rfl, rfl⟩ := hp
    have B := bd_to (ws' := [(gx, .inr (9, [.ref T, .ref LA, .ref sp, .int 0, .ref dr])), (LA, .inl (k 3, 2, .inr (.inr (.inr (.inr (va_up (va_up (fun _ => none) 0 (some L0)) 1 (some L1))))))), (T, .inr (8, [.ref bl, .ref pt, .ref fk, .ref fh, .int 0, .ref ky, .int 60, .int 12])), (bl, .inr (11, [.int 0, .ref (dI 99 1), .int 0])), (L0, .inr (1, [.ref T, .int 0, .ref LN, .ref R0, .ref P0, .int 1, .int 0, .ref lc0, .ref le0, .ref ll0, .ref ld0, .ref wl0, .ref op0, .int 0, .int 0, .int 1365, .ref dg0])), (dg0, .inl (k 0, 730, .inl (fun _ => 0))), (R0, .inr (5, [.int 0, .ref r00, .ref r10, .ref r20, .ref r30, .ref r40, .ref r50, .ref r60, .ref r70, .ref wr0, .ref lr0, .ref tt0, .int 0, .int 0, .ref fr0, .ref r80, .ref r90, .int 0])), (wr0, .inl (k 0, 192, .inl (fun _ => 0))), (lr0, .inl (k 0, 6, .inl (fun _ => 0))), (tt0, .inl (k 1, 8, .inl (fun _ => 0))), (fr0, .inl (k 0, 5, .inl (fun _ => 0))), (P0, .inr (4, [.ref T, .ref R0, .ref pg0, .ref ST, .int 0, .int 0, .ref p00, .ref p10, .ref p20, .ref p30, .ref p40, .ref p50])), (p50, .inl (k 0, 5, .inl (fun _ => 0))), (L1, .inr (1, [.ref T, .int 1, .ref LN, .ref R1, .ref P1, .int 1, .int 0, .ref lc1, .ref le1, .ref ll1, .ref ld1, .ref wl1, .ref op1, .int 0, .int 0, .int 1365, .ref dg1])), (dg1, .inl (k 0, 730, .inl (fun _ => 0))), (R1, .inr (5, [.int 0, .ref r01, .ref r11, .ref r21, .ref r31, .ref r41, .ref r51, .ref r61, .ref r71, .ref wr1, .ref lr1, .ref tt1, .int 0, .int 0, .ref fr1, .ref r81, .ref r91, .int 0])), (wr1, .inl (k 0, 192, .inl (fun _ => 0))), (lr1, .inl (k 0, 6, .inl (fun _ => 0))), (tt1, .inl (k 1, 8, .inl (fun _ => 0))), (fr1, .inl (k 0, 5, .inl (fun _ => 0))), (P1, .inr (4, [.ref T, .ref R1, .ref pg1, .ref ST, .int 0, .int 0, .ref p01, .ref p11, .ref p21, .ref p31, .ref p41, .ref p51])), (p51, .inl (k 0, 5, .inl (fun _ => 0)))]) rfl B
    refine lv_iload_n hx hb dX11_labelPage_4 rfl (lv_at hl 2 rfl) ?_
    refine x_callSx (rest := []) (wr := [(gx, .inr (9, [.ref T, .ref LA, .ref sp, .int 0, .ref dr])), (LA, .inl (k 3, 2, .inr (.inr (.inr (.inr (va_up (va_up (fun _ => none) 0 (some L0)) 1 (some L1))))))), (T, .inr (8, [.ref bl, .ref pt, .ref fk, .ref fh, .int 0, .ref ky, .int 60, .int 12])), (bl, .inr (11, [.int 0, .ref (dI 99 1), .int 0])), (L0, .inr (1, [.ref T, .int 0, .ref LN, .ref R0, .ref P0, .int 1, .int 0, .ref lc0, .ref le0, .ref ll0, .ref ld0, .ref wl0, .ref op0, .int 0, .int 0, .int 1365, .ref dg0])), (dg0, .inl (k 0, 730, .inl (fun _ => 0))), (R0, .inr (5, [.int 0, .ref r00, .ref r10, .ref r20, .ref r30, .ref r40, .ref r50, .ref r60, .ref r70, .ref wr0, .ref lr0, .ref tt0, .int 0, .int 0, .ref fr0, .ref r80, .ref r90, .int 0])), (wr0, .inl (k 0, 192, .inl (fun _ => 0))), (lr0, .inl (k 0, 6, .inl (fun _ => 0))), (tt0, .inl (k 1, 8, .inl (fun _ => 0))), (fr0, .inl (k 0, 5, .inl (fun _ => 0))), (P0, .inr (4, [.ref T, .ref R0, .ref pg0, .ref ST, .int 0, .int 0, .ref p00, .ref p10, .ref p20, .ref p30, .ref p40, .ref p50])), (p50, .inl (k 0, 5, .inl (fun _ => 0))), (L1, .inr (1, [.ref T, .int 1, .ref LN, .ref R1, .ref P1, .int 1, .int 0, .ref lc1, .ref le1, .ref ll1, .ref ld1, .ref wl1, .ref op1, .int 0, .int 0, .int 1365, .ref dg1])), (dg1, .inl (k 0, 730, .inl (fun _ => 0))), (R1, .inr (5, [.int 0, .ref r01, .ref r11, .ref r21, .ref r31, .ref r41, .ref r51, .ref r61, .ref r71, .ref wr1, .ref lr1, .ref tt1, .int 0, .int 0, .ref fr1, .ref r81, .ref r91, .int 0])), (wr1, .inl (k 0, 192, .inl (fun _ => 0))), (lr1, .inl (k 0, 6, .inl (fun _ => 0))), (tt1, .inl (k 1, 8, .inl (fun _ => 0))), (fr1, .inl (k 0, 5, .inl (fun _ => 0))), (P1, .inr (4, [.ref T, .ref R1, .ref pg1, .ref ST, .int 0, .int 0, .ref p01, .ref p11, .ref p21, .ref p31, .ref p41, .ref p51])), (p51, .inl (k 0, 5, .inl (fun _ => 0)))]) (c_checkLabel l dC dI k hl0 x1) B mS_X11_checkLabel mw_1096 hl [] [0, 1, 2, 3, 4, 5, 6, 7, 8, 9, 10, 11, 12, 13, 14, 15, 16, 17, 18, 19, 20, 21] rfl rfl ⟨by decide, by decide⟩ (by decide) ⟨Nat.le_of_ble_eq_true rfl, Nat.le_of_ble_eq_true rfl⟩ (Nat.le_of_ble_eq_true rfl) rfl dX11_labelPage_5 ⟨Nat.le_of_ble_eq_true rfl, Nat.le_of_ble_eq_true rfl⟩ (fun E ce q9 H locs hp B h1 h2 h3 => ?_) (fun r w H locs hp B => ?_)
    · rcases hp with ⟨z2_0, rfl⟩
      exact x_out hex (⟨by omega, rfl⟩) B h1 h2 h3 (Nat.le_of_ble_eq_true rfl) (Nat.le_of_ble_eq_true rfl)
    · skip
      obtain ⟨z_4, rfl, rfl⟩ := hp
      have B := bd_to (ws' := [(gx, .inr (9, [.ref T, .ref LA, .ref sp, .int 0, .ref dr])), (LA, .inl (k 3, 2, .inr (.inr (.inr (.inr (va_up (va_up (fun _ => none) 0 (some L0)) 1 (some L1))))))), (T, .inr (8, [.ref bl, .ref pt, .ref fk, .ref fh, .int 0, .ref ky, .int 60, .int 12])), (bl, .inr (11, [.int 0, .ref (dI 99 1), .int 0])), (L0, .inr (1, [.ref T, .int 0, .ref LN, .ref R0, .ref P0, .int 1, .int 0, .ref lc0, .ref le0, .ref ll0, .ref ld0, .ref wl0, .ref op0, .int 0, .int 0, .int 1365, .ref dg0])), (dg0, .inl (k 0, 730, .inl (fun _ => 0))), (R0, .inr (5, [.int 0, .ref r00, .ref r10, .ref r20, .ref r30, .ref r40, .ref r50, .ref r60, .ref r70, .ref wr0, .ref lr0, .ref tt0, .int 0, .int 0, .ref fr0, .ref r80, .ref r90, .int 0])), (wr0, .inl (k 0, 192, .inl (fun _ => 0))), (lr0, .inl (k 0, 6, .inl (fun _ => 0))), (tt0, .inl (k 1, 8, .inl (fun _ => 0))), (fr0, .inl (k 0, 5, .inl (fun _ => 0))), (P0, .inr (4, [.ref T, .ref R0, .ref pg0, .ref ST, .int 0, .int 0, .ref p00, .ref p10, .ref p20, .ref p30, .ref p40, .ref p50])), (p50, .inl (k 0, 5, .inl (fun _ => 0))), (L1, .inr (1, [.ref T, .int 1, .ref LN, .ref R1, .ref P1, .int 1, .int 0, .ref lc1, .ref le1, .ref ll1, .ref ld1, .ref wl1, .ref op1, .int 0, .int 0, .int 1365, .ref dg1])), (dg1, .inl (k 0, 730, .inl (fun _ => 0))), (R1, .inr (5, [.int 0, .ref r01, .ref r11, .ref r21, .ref r31, .ref r41, .ref r51, .ref r61, .ref r71, .ref wr1, .ref lr1, .ref tt1, .int 0, .int 0, .ref fr1, .ref r81, .ref r91, .int 0])), (wr1, .inl (k 0, 192, .inl (fun _ => 0))), (lr1, .inl (k 0, 6, .inl (fun _ => 0))), (tt1, .inl (k 1, 8, .inl (fun _ => 0))), (fr1, .inl (k 0, 5, .inl (fun _ => 0))), (P1, .inr (4, [.ref T, .ref R1, .ref pg1, .ref ST, .int 0, .int 0, .ref p01, .ref p11, .ref p21, .ref p31, .ref p41, .ref p51])), (p51, .inl (k 0, 5, .inl (fun _ => 0)))]) rfl B
      refine lv_aload_n hx hb dX11_labelPage_8 rfl (lv_at hl 0 rfl) ?_
      refine lv_iload_n hx hb dX11_labelPage_9 rfl (lv_at hl 1 rfl) ?_
      refine x_callVx (rest := []) (wr := []) (c_layoutOf l dC dI k hl0 gx T LA sp dr bl pt fk fh ky LN ST L0 lc0 le0 ll0 ld0 wl0 op0 dg0 L1 lc1 le1 ll1 ld1 wl1 op1 dg1 R0 r00 r10 r20 r30 r40 r50 r60 r70 wr0 lr0 tt0 fr0 r80 r90 R1 r01 r11 r21 r31 r41 r51 r61 r71 wr1 lr1 tt1 fr1 r81 r91 P0 pg0 p00 p10 p20 p30 p40 p50 P1 pg1 p01 p11 p21 p31 p41 p51 v) B mV_X11_layoutOf mw_1366 hl [0, 1, 2, 3, 4, 5, 6, 7, 8, 9, 10, 11, 12, 13, 14, 15, 16, 17, 18, 19, 20, 21] [] rfl rfl ⟨by decide, by decide⟩ (by decide) (q0 := 0) rfl rfl rfl ⟨Nat.le_of_ble_eq_true rfl, Nat.le_of_ble_eq_true rfl⟩ (Nat.le_of_ble_eq_true rfl) rfl dX11_labelPage_10 ⟨Nat.le_of_ble_eq_true rfl, Nat.le_of_ble_eq_true rfl⟩ (fun E ce q9 H locs hp B h1 h2 h3 => ?_) (fun r w H locs hp B => ?_)
      · rcases hp with ⟨z4_0, rfl⟩
        exfalso; first | omega | exact absurd z4_0 (by decide)
      · skip
        rcases hp with ⟨gl_6, z_7, z_8, rfl, rfl⟩ | ⟨gl_9, z_10, z_11, rfl, rfl⟩
        · skip
          have B := bd_to (ws' := [(gx, .inr (9, [.ref T, .ref LA, .ref sp, .int 0, .ref dr])), (T, .inr (8, [.ref bl, .ref pt, .ref fk, .ref fh, .int 0, .ref ky, .int 60, .int 12])), (bl, .inr (11, [.int 0, .ref (dI 99 1), .int 0])), (L0, .inr (1, [.ref T, .int 0, .ref LN, .ref R0, .ref P0, .int 0, .int 0, .ref lc0, .ref le0, .ref ll0, .ref ld0, .ref wl0, .ref op0, .int 1, .int 1, .int 1365, .ref dg0])), (R0, .inr (5, [.int 0, .ref r00, .ref r10, .ref r20, .ref r30, .ref r40, .ref r50, .ref r60, .ref r70, .ref wr0, .ref lr0, .ref tt0, .int 0, .int 0, .ref fr0, .ref r80, .ref r90, .int 0])), (tt0, .inl (k 1, 8, .inl (upd (upd (upd (upd (upd (upd (upd (upd (fun _ => 0) 0 0) 1 0) 2 0) 3 0) 4 0) 5 0) 6 0) 7 0))), (lr0, .inl (k 0, 6, .inl gl_6)), (P0, .inr (4, [.ref T, .ref R0, .ref pg0, .ref ST, .int 0, .int 0, .ref p00, .ref p10, .ref p20, .ref p30, .ref p40, .ref p50]))]) rfl B
          refine lv_iload_n hx hb dX11_labelPage_13 rfl (lv_at hl 2 rfl) ?_
          refine x_callV (rest := []) (wr := [(gx, .inr (9, [.ref T, .ref LA, .ref sp, .int 0, .ref dr])), (T, .inr (8, [.ref bl, .ref pt, .ref fk, .ref fh, .int 0, .ref ky, .int 60, .int 12])), (bl, .inr (11, [.int 0, .ref (dI 99 1), .int 0])), (tt0, .inl (k 1, 8, .inl (upd (upd (upd (upd (upd (upd (upd (upd (fun _ => 0) 0 0) 1 0) 2 0) 3 0) 4 0) 5 0) 6 0) 7 0))), (P0, .inr (4, [.ref T, .ref R0, .ref pg0, .ref ST, .int 0, .int 0, .ref p00, .ref p10, .ref p20, .ref p30, .ref p40, .ref p50]))]) (c_pageOfLabel2 l dC dI k L0 lc0 le0 ll0 ld0 wl0 op0 dg0 T LN R0 P0 0 r00 r10 r20 r30 r40 r50 r60 r70 wr0 lr0 tt0 fr0 r80 r90 gl_6 x1 z_8 (by first | omega | decide)) B mV_X1_pageOfLabel mw_1812 hl [3, 4, 6] [0, 1, 2, 5, 7] rfl rfl ⟨by decide, by decide⟩ (by decide) (q0 := 0) rfl rfl rfl ⟨Nat.le_of_ble_eq_true rfl, Nat.le_of_ble_eq_true rfl⟩ (Nat.le_of_ble_eq_true rfl) rfl dX11_labelPage_14 ⟨Nat.le_of_ble_eq_true rfl, Nat.le_of_ble_eq_true rfl⟩ (fun r w H locs hp B => ?_)
          obtain ⟨rfl, rfl⟩ := hp
          have B := bd_to (ws' := [(gx, .inr (9, [.ref T, .ref LA, .ref sp, .int 0, .ref dr])), (T, .inr (8, [.ref bl, .ref pt, .ref fk, .ref fh, .int 0, .ref ky, .int 60, .int 12])), (bl, .inr (11, [.int 0, .ref (dI 99 1), .int 0])), (tt0, .inl (k 1, 8, .inl (upd (upd (upd (upd (upd (upd (upd (upd (fun _ => 0) 0 0) 1 0) 2 0) 3 0) 4 0) 5 0) 6 0) 7 0))), (P0, .inr (4, [.ref T, .ref R0, .ref pg0, .ref ST, .int 0, .int 0, .ref p00, .ref p10, .ref p20, .ref p30, .ref p40, .ref p50]))]) rfl B
          have B := bd_sub (ws' := []) [] (by decide) rfl B
          exact vx_ret (x_iret B hr (⟨by omega, by omega, rfl, rfl⟩) (Nat.le_of_ble_eq_true rfl) (Nat.le_of_ble_eq_true rfl) dX11_labelPage_17)
        · skip
          have B := bd_to (ws' := [(gx, .inr (9, [.ref T, .ref LA, .ref sp, .int 0, .ref dr])), (T, .inr (8, [.ref bl, .ref pt, .ref fk, .ref fh, .int 0, .ref ky, .int 60, .int 12])), (bl, .inr (11, [.int 0, .ref (dI 99 1), .int 0])), (L1, .inr (1, [.ref T, .int 1, .ref LN, .ref R1, .ref P1, .int 0, .int 0, .ref lc1, .ref le1, .ref ll1, .ref ld1, .ref wl1, .ref op1, .int 1, .int 1, .int 1365, .ref dg1])), (R1, .inr (5, [.int 0, .ref r01, .ref r11, .ref r21, .ref r31, .ref r41, .ref r51, .ref r61, .ref r71, .ref wr1, .ref lr1, .ref tt1, .int 0, .int 0, .ref fr1, .ref r81, .ref r91, .int 0])), (tt1, .inl (k 1, 8, .inl (upd (upd (upd (upd (upd (upd (upd (upd (fun _ => 0) 0 0) 1 0) 2 0) 3 0) 4 0) 5 0) 6 0) 7 0))), (lr1, .inl (k 0, 6, .inl gl_9)), (P1, .inr (4, [.ref T, .ref R1, .ref pg1, .ref ST, .int 0, .int 0, .ref p01, .ref p11, .ref p21, .ref p31, .ref p41, .ref p51]))]) rfl B
          refine lv_iload_n hx hb dX11_labelPage_13 rfl (lv_at hl 2 rfl) ?_
          refine x_callV (rest := []) (wr := [(gx, .inr (9, [.ref T, .ref LA, .ref sp, .int 0, .ref dr])), (T, .inr (8, [.ref bl, .ref pt, .ref fk, .ref fh, .int 0, .ref ky, .int 60, .int 12])), (bl, .inr (11, [.int 0, .ref (dI 99 1), .int 0])), (tt1, .inl (k 1, 8, .inl (upd (upd (upd (upd (upd (upd (upd (upd (fun _ => 0) 0 0) 1 0) 2 0) 3 0) 4 0) 5 0) 6 0) 7 0))), (P1, .inr (4, [.ref T, .ref R1, .ref pg1, .ref ST, .int 0, .int 0, .ref p01, .ref p11, .ref p21, .ref p31, .ref p41, .ref p51]))]) (c_pageOfLabel2 l dC dI k L1 lc1 le1 ll1 ld1 wl1 op1 dg1 T LN R1 P1 1 r01 r11 r21 r31 r41 r51 r61 r71 wr1 lr1 tt1 fr1 r81 r91 gl_9 x1 z_11 (by first | omega | decide)) B mV_X1_pageOfLabel mw_1812 hl [3, 4, 6] [0, 1, 2, 5, 7] rfl rfl ⟨by decide, by decide⟩ (by decide) (q0 := 0) rfl rfl rfl ⟨Nat.le_of_ble_eq_true rfl, Nat.le_of_ble_eq_true rfl⟩ (Nat.le_of_ble_eq_true rfl) rfl dX11_labelPage_14 ⟨Nat.le_of_ble_eq_true rfl, Nat.le_of_ble_eq_true rfl⟩ (fun r w H locs hp B => ?_)
          obtain ⟨rfl, rfl⟩ := hp
          have B := bd_to (ws' := [(gx, .inr (9, [.ref T, .ref LA, .ref sp, .int 0, .ref dr])), (T, .inr (8, [.ref bl, .ref pt, .ref fk, .ref fh, .int 0, .ref ky, .int 60, .int 12])), (bl, .inr (11, [.int 0, .ref (dI 99 1), .int 0])), (tt1, .inl (k 1, 8, .inl (upd (upd (upd (upd (upd (upd (upd (upd (fun _ => 0) 0 0) 1 0) 2 0) 3 0) 4 0) 5 0) 6 0) 7 0))), (P1, .inr (4, [.ref T, .ref R1, .ref pg1, .ref ST, .int 0, .int 0, .ref p01, .ref p11, .ref p21, .ref p31, .ref p41, .ref p51]))]) rfl B
          have B := bd_sub (ws' := []) [] (by decide) rfl B
          exact vx_ret (x_iret B hr (⟨by omega, by omega, rfl, rfl⟩) (Nat.le_of_ble_eq_true rfl) (Nat.le_of_ble_eq_true rfl) dX11_labelPage_17)

theorem dX1_headingAt_0 : decode cX1_headingAt 0 = .ok (.iconst 0, 1) := by decide +kernel
theorem dX1_headingAt_1 : decode cX1_headingAt 1 = .ok (.istore_n 2, 1) := by decide +kernel
theorem dX1_headingAt_2 : decode cX1_headingAt 2 = .ok (.iconst 0, 1) := by decide +kernel
theorem dX1_headingAt_3 : decode cX1_headingAt 3 = .ok (.istore_n 3, 1) := by decide +kernel
theorem dX1_headingAt_4 : decode cX1_headingAt 4 = .ok (.iload_n 3, 1) := by decide +kernel
theorem dX1_headingAt_5 : decode cX1_headingAt 5 = .ok (.aload_n 0, 1) := by decide +kernel
theorem dX1_headingAt_6 : decode cX1_headingAt 6 = .ok (.getfield 43, 3) := by decide +kernel
theorem dX1_headingAt_9 : decode cX1_headingAt 9 = .ok (.getfield 79, 3) := by decide +kernel
theorem dX1_headingAt_12 : decode cX1_headingAt 12 = .ok (.invokevirtual 85, 3) := by decide +kernel
theorem dX1_headingAt_15 : decode cX1_headingAt 15 = .ok (.if_icmp .ge 27, 3) := by decide +kernel
theorem dX1_headingAt_42 : decode cX1_headingAt 42 = .ok (.iconst (-1), 1) := by decide +kernel
theorem dX1_headingAt_43 : decode cX1_headingAt 43 = .ok (.ireturn, 1) := by decide +kernel
set_option maxHeartbeats 4000000 in
set_option maxRecDepth 100000 in
theorem c_headingAt (l : Launch) (dC : Nat → ClassId) (dI : Nat → Nat → Nat) (k : Nat → ClassId) (L : Nat) (lc : Nat) (le : Nat) (ll : Nat) (ld : Nat) (wl : Nat) (op : Nat) (dg : Nat) (T : Nat) (LN : Nat) (R : Nat) (P : Nat) (v : Int32) (bl : Nat) (pt : Nat) (fk : Nat) (fh : Nat) (ky : Nat) (x1 : Int32) : Ct l dC dI k yX1_headingAt (.code yX1_headingAt cX1_headingAt 4 (some .int)) ({ frames := 1, cells := 0, slots := 0, locals := 20 } : Room) [.ref L, .int x1] [(L, .inr (1, [.ref T, .int v, .ref LN, .ref R, .ref P, .int 0, .int 0, .ref lc, .ref le, .ref ll, .ref ld, .ref wl, .ref op, .int 1, .int 1, .int 1365, .ref dg])), (T, .inr (8, [.ref bl, .ref pt, .ref fk, .ref fh, .int 0, .ref ky, .int 60, .int 12])), (bl, .inr (11, [.int 0, .ref (dI 99 1), .int 0]))] (fun r w => (r = some (.int (-1)) ∧ w = [])) := by
  refine ct_of (by decide) (Nat.le_of_ble_eq_true rfl) ?_
  intro p e s m args below meth c H locs B hr hnm ls hl
  have hx := B.1.1
  have hb := B.1.2.1
  have hl : lv_has ls 4 [(0, .ref L), (1, .int x1)] := hl
  refine lv_iconst (v := 0) hx hb dX1_headingAt_0 (by decide) ?_
  refine lv_istore_n (lv' := [(2, .int 0), (0, .ref L), (1, .int x1)]) hx hb dX1_headingAt_1 rfl hl (by decide) rfl (fun ls hl => ?_)
  refine lv_iconst (v := 0) hx hb dX1_headingAt_2 (by decide) ?_
  refine lv_istore_n (lv' := [(3, .int 0), (2, .int 0), (0, .ref L), (1, .int x1)]) hx hb dX1_headingAt_3 rfl hl (by decide) rfl (fun ls hl => ?_)
  refine lv_iload_n hx hb dX1_headingAt_4 rfl (lv_at hl 0 rfl) ?_
  refine lv_aload_n hx hb dX1_headingAt_5 rfl (lv_at hl 2 rfl) ?_
  refine x_get (ci := 1) (C := RX1) (T := TX1) (N := 17) (v := .ref T) B 0 rfl rfl in_X1 0 (by decide) mw_411 (fun _ h9 => h9) rfl dX1_headingAt_6 ?_
  refine x_get (ci := 8) (C := RX9) (T := TX9) (N := 8) (v := .ref bl) B 1 rfl rfl in_X9 0 (by decide) mw_78 (fun _ h9 => h9) rfl dX1_headingAt_9 ?_
  refine x_callV (rest := [.int 0]) (wr := [(L, .inr (1, [.ref T, .int v, .ref LN, .ref R, .ref P, .int 0, .int 0, .ref lc, .ref le, .ref ll, .ref ld, .ref wl, .ref op, .int 1, .int 1, .int 1365, .ref dg])), (T, .inr (8, [.ref bl, .ref pt, .ref fk, .ref fh, .int 0, .ref ky, .int 60, .int 12]))]) (c_size l dC dI k bl (dI 99 1) 0 0) B mV_Jx4a65c_size_8abf5 mw_1374 hl [2] [0, 1] rfl rfl ⟨by decide, by decide⟩ (by decide) (q0 := 0) rfl rfl rfl ⟨Nat.le_of_ble_eq_true rfl, Nat.le_of_ble_eq_true rfl⟩ (Nat.le_of_ble_eq_true rfl) rfl dX1_headingAt_12 ⟨Nat.le_of_ble_eq_true rfl, Nat.le_of_ble_eq_true rfl⟩ (fun r w H locs hp B => ?_)
  obtain ⟨rfl, rfl⟩ := hp
  have B := bd_to (ws' := [(L, .inr (1, [.ref T, .int v, .ref LN, .ref R, .ref P, .int 0, .int 0, .ref lc, .ref le, .ref ll, .ref ld, .ref wl, .ref op, .int 1, .int 1, .int 1365, .ref dg])), (T, .inr (8, [.ref bl, .ref pt, .ref fk, .ref fh, .int 0, .ref ky, .int 60, .int 12])), (bl, .inr (11, [.int 0, .ref (dI 99 1), .int 0]))]) rfl B
  refine lv_icmp_ge (tgt := 42) hx hb dX1_headingAt_15 (by decide) (fun _ => ?_) (fun c9 => absurd (by decide) c9)
  refine lv_iconst (v := (-1)) hx hb dX1_headingAt_42 (by decide) ?_
  have B := bd_sub (ws' := []) [] (by decide) rfl B
  exact x_iret B hr (⟨rfl, rfl⟩) (Nat.le_of_ble_eq_true rfl) (Nat.le_of_ble_eq_true rfl) dX1_headingAt_43

theorem mw_1820 : (Jvm.Cond.methodLink "Galleyforge" (372 : Nat) ({ cls := "Galleyforge$Layout", name := "headingAt", desc := "(I)I" } : Jvm.MethodName)) ∈ gt := gt_at 1955 (by decide +kernel) (by decide +kernel)
theorem mw_1821 : (Jvm.Cond.instanceMethod ({ cls := "Galleyforge$Layout", name := "headingAt", desc := "(I)I" } : Jvm.MethodName)) ∈ gt := gt_at 1956 (by decide +kernel) (by decide +kernel)
theorem mw_1822 : (Jvm.Cond.selects "Galleyforge$Layout" ({ cls := "Galleyforge$Layout", name := "headingAt", desc := "(I)I" } : Jvm.MethodName) ({ cls := "Galleyforge$Layout", name := "headingAt", desc := "(I)I" } : Jvm.MethodName)) ∈ gt := gt_at 1957 (by decide +kernel) (by decide +kernel)
theorem mw_1823 : (Jvm.Cond.code ({ cls := "Galleyforge$Layout", name := "headingAt", desc := "(I)I" } : Jvm.MethodName) prog_3_method_14_code (4 : Nat) (Option.some Jvm.ClassFile.FieldType.int)) ∈ gt := gt_at 1958 (by decide +kernel) (by decide +kernel)
theorem mV_X1_headingAt : mV yX1_headingAt cX1_headingAt 4 (some .int) 1 := ⟨⟨mw_1823, mw_8, by decide, by decide, by decide +kernel⟩, mw_1821, mw_1822⟩
theorem dX11_contentsAt_0 : decode cX11_contentsAt 0 = .ok (.aload_n 0, 1) := by decide +kernel
theorem dX11_contentsAt_1 : decode cX11_contentsAt 1 = .ok (.iload_n 1, 1) := by decide +kernel
theorem dX11_contentsAt_2 : decode cX11_contentsAt 2 = .ok (.invokevirtual 279, 3) := by decide +kernel
theorem dX11_contentsAt_5 : decode cX11_contentsAt 5 = .ok (.astore_n 3, 1) := by decide +kernel
theorem dX11_contentsAt_6 : decode cX11_contentsAt 6 = .ok (.aload_n 3, 1) := by decide +kernel
theorem dX11_contentsAt_7 : decode cX11_contentsAt 7 = .ok (.iload_n 2, 1) := by decide +kernel
theorem dX11_contentsAt_8 : decode cX11_contentsAt 8 = .ok (.invokevirtual 372, 3) := by decide +kernel
theorem dX11_contentsAt_11 : decode cX11_contentsAt 11 = .ok (.istore 4, 2) := by decide +kernel
theorem dX11_contentsAt_13 : decode cX11_contentsAt 13 = .ok (.iload 4, 2) := by decide +kernel
theorem dX11_contentsAt_15 : decode cX11_contentsAt 15 = .ok (.iconst (-1), 1) := by decide +kernel
theorem dX11_contentsAt_16 : decode cX11_contentsAt 16 = .ok (.if_icmp .ne 14, 3) := by decide +kernel
theorem dX11_contentsAt_19 : decode cX11_contentsAt 19 = .ok (.new 47, 3) := by decide +kernel
theorem dX11_contentsAt_22 : decode cX11_contentsAt 22 = .ok (.dup, 1) := by decide +kernel
theorem dX11_contentsAt_23 : decode cX11_contentsAt 23 = .ok (.ldc_w 375, 3) := by decide +kernel
theorem dX11_contentsAt_26 : decode cX11_contentsAt 26 = .ok (.invokespecial 51, 3) := by decide +kernel
theorem dX11_contentsAt_29 : decode cX11_contentsAt 29 = .ok (.athrow, 1) := by decide +kernel
set_option maxHeartbeats 4000000 in
set_option maxRecDepth 100000 in
theorem c_contentsAt (l : Launch) (dC : Nat → ClassId) (dI : Nat → Nat → Nat) (k : Nat → ClassId) (hl0 : l.stackTraces = false) (gx : Nat) (T : Nat) (LA : Nat) (sp : Nat) (dr : Nat) (bl : Nat) (pt : Nat) (fk : Nat) (fh : Nat) (ky : Nat) (LN : Nat) (ST : Nat) (L0 : Nat) (lc0 : Nat) (le0 : Nat) (ll0 : Nat) (ld0 : Nat) (wl0 : Nat) (op0 : Nat) (dg0 : Nat) (L1 : Nat) (lc1 : Nat) (le1 : Nat) (ll1 : Nat) (ld1 : Nat) (wl1 : Nat) (op1 : Nat) (dg1 : Nat) (R0 : Nat) (r00 : Nat) (r10 : Nat) (r20 : Nat) (r30 : Nat) (r40 : Nat) (r50 : Nat) (r60 : Nat) (r70 : Nat) (wr0 : Nat) (lr0 : Nat) (tt0 : Nat) (fr0 : Nat) (r80 : Nat) (r90 : Nat) (R1 : Nat) (r01 : Nat) (r11 : Nat) (r21 : Nat) (r31 : Nat) (r41 : Nat) (r51 : Nat) (r61 : Nat) (r71 : Nat) (wr1 : Nat) (lr1 : Nat) (tt1 : Nat) (fr1 : Nat) (r81 : Nat) (r91 : Nat) (P0 : Nat) (pg0 : Nat) (p00 : Nat) (p10 : Nat) (p20 : Nat) (p30 : Nat) (p40 : Nat) (p50 : Nat) (P1 : Nat) (pg1 : Nat) (p01 : Nat) (p11 : Nat) (p21 : Nat) (p31 : Nat) (p41 : Nat) (p51 : Nat) (v : Int32) (x1 : Int32) : Xt l dC dI k yX11_contentsAt (.code yX11_contentsAt cX11_contentsAt 5 (some .int)) ({ frames := 8, cells := 2, slots := 12, locals := 125 } : Room) [.ref gx, .int v, .int x1] [(gx, .inr (9, [.ref T, .ref LA, .ref sp, .int 0, .ref dr])), (LA, .inl (k 3, 2, .inr (.inr (.inr (.inr (va_up (va_up (fun _ => none) 0 (some L0)) 1 (some L1))))))), (T, .inr (8, [.ref bl, .ref pt, .ref fk, .ref fh, .int 0, .ref ky, .int 60, .int 12])), (bl, .inr (11, [.int 0, .ref (dI 99 1), .int 0])), (L0, .inr (1, [.ref T, .int 0, .ref LN, .ref R0, .ref P0, .int 1, .int 0, .ref lc0, .ref le0, .ref ll0, .ref ld0, .ref wl0, .ref op0, .int 0, .int 0, .int 1365, .ref dg0])), (dg0, .inl (k 0, 730, .inl (fun _ => 0))), (R0, .inr (5, [.int 0, .ref r00, .ref r10, .ref r20, .ref r30, .ref r40, .ref r50, .ref r60, .ref r70, .ref wr0, .ref lr0, .ref tt0, .int 0, .int 0, .ref fr0, .ref r80, .ref r90, .int 0])), (wr0, .inl (k 0, 192, .inl (fun _ => 0))), (lr0, .inl (k 0, 6, .inl (fun _ => 0))), (tt0, .inl (k 1, 8, .inl (fun _ => 0))), (fr0, .inl (k 0, 5, .inl (fun _ => 0))), (P0, .inr (4, [.ref T, .ref R0, .ref pg0, .ref ST, .int 0, .int 0, .ref p00, .ref p10, .ref p20, .ref p30, .ref p40, .ref p50])), (p50, .inl (k 0, 5, .inl (fun _ => 0))), (L1, .inr (1, [.ref T, .int 1, .ref LN, .ref R1, .ref P1, .int 1, .int 0, .ref lc1, .ref le1, .ref ll1, .ref ld1, .ref wl1, .ref op1, .int 0, .int 0, .int 1365, .ref dg1])), (dg1, .inl (k 0, 730, .inl (fun _ => 0))), (R1, .inr (5, [.int 0, .ref r01, .ref r11, .ref r21, .ref r31, .ref r41, .ref r51, .ref r61, .ref r71, .ref wr1, .ref lr1, .ref tt1, .int 0, .int 0, .ref fr1, .ref r81, .ref r91, .int 0])), (wr1, .inl (k 0, 192, .inl (fun _ => 0))), (lr1, .inl (k 0, 6, .inl (fun _ => 0))), (tt1, .inl (k 1, 8, .inl (fun _ => 0))), (fr1, .inl (k 0, 5, .inl (fun _ => 0))), (P1, .inr (4, [.ref T, .ref R1, .ref pg1, .ref ST, .int 0, .int 0, .ref p01, .ref p11, .ref p21, .ref p31, .ref p41, .ref p51])), (p51, .inl (k 0, 5, .inl (fun _ => 0)))] (fun r w => False) (fun E => (E = "java/lang/IndexOutOfBoundsException")) := by
  refine xt_of (by decide) (Nat.le_of_ble_eq_true rfl) ?_
  intro p e s m args below meth c H locs B hr hex ls hl
  have hx := B.1.1
  have hb := B.1.2.1
  have hl : lv_has ls 5 [(0, .ref gx), (1, .int v), (2, .int x1)] := hl
  refine lv_aload_n hx hb dX11_contentsAt_0 rfl (lv_at hl 0 rfl) ?_
  refine lv_iload_n hx hb dX11_contentsAt_1 rfl (lv_at hl 1 rfl) ?_
  refine x_callVx (rest := []) (wr := []) (c_layoutOf l dC dI k hl0 gx T LA sp dr bl pt fk fh ky LN ST L0 lc0 le0 ll0 ld0 wl0 op0 dg0 L1 lc1 le1 ll1 ld1 wl1 op1 dg1 R0 r00 r10 r20 r30 r40 r50 r60 r70 wr0 lr0 tt0 fr0 r80 r90 R1 r01 r11 r21 r31 r41 r51 r61 r71 wr1 lr1 tt1 fr1 r81 r91 P0 pg0 p00 p10 p20 p30 p40 p50 P1 pg1 p01 p11 p21 p31 p41 p51 v) B mV_X11_layoutOf mw_1366 hl [0, 1, 2, 3, 4, 5, 6, 7, 8, 9, 10, 11, 12, 13, 14, 15, 16, 17, 18, 19, 20, 21] [] rfl rfl ⟨by decide, by decide⟩ (by decide) (q0 := 0) rfl rfl rfl ⟨Nat.le_of_ble_eq_true rfl, Nat.le_of_ble_eq_true rfl⟩ (Nat.le_of_ble_eq_true rfl) rfl dX11_contentsAt_2 ⟨Nat.le_of_ble_eq_true rfl, Nat.le_of_ble_eq_true rfl⟩ (fun E ce q9 H locs hp B h1 h2 h3 => ?_) (fun r w H locs hp B => ?_)
  · rcases hp with ⟨z0_0, rfl⟩
    exact x_out hex (rfl) B h1 h2 h3 (Nat.le_of_ble_eq_true rfl) (Nat.le_of_ble_eq_true rfl)
  · skip
    rcases hp with ⟨gl_2, z_3, z_4, rfl, rfl⟩ | ⟨gl_5, z_6, z_7, rfl, rfl⟩
    · skip
      have B := bd_to (ws' := [(gx, .inr (9, [.ref T, .ref LA, .ref sp, .int 0, .ref dr])), (T, .inr (8, [.ref bl, .ref pt, .ref fk, .ref fh, .int 0, .ref ky, .int 60, .int 12])), (bl, .inr (11, [.int 0, .ref (dI 99 1), .int 0])), (L0, .inr (1, [.ref T, .int 0, .ref LN, .ref R0, .ref P0, .int 0, .int 0, .ref lc0, .ref le0, .ref ll0, .ref ld0, .ref wl0, .ref op0, .int 1, .int 1, .int 1365, .ref dg0])), (R0, .inr (5, [.int 0, .ref r00, .ref r10, .ref r20, .ref r30, .ref r40, .ref r50, .ref r60, .ref r70, .ref wr0, .ref lr0, .ref tt0, .int 0, .int 0, .ref fr0, .ref r80, .ref r90, .int 0])), (tt0, .inl (k 1, 8, .inl (upd (upd (upd (upd (upd (upd (upd (upd (fun _ => 0) 0 0) 1 0) 2 0) 3 0) 4 0) 5 0) 6 0) 7 0))), (lr0, .inl (k 0, 6, .inl gl_2)), (P0, .inr (4, [.ref T, .ref R0, .ref pg0, .ref ST, .int 0, .int 0, .ref p00, .ref p10, .ref p20, .ref p30, .ref p40, .ref p50]))]) rfl B
      refine lv_astore_n (lv' := [(3, .ref L0), (0, .ref gx), (1, .int v), (2, .int x1)]) hx hb dX11_contentsAt_5 rfl hl (by decide) rfl (fun ls hl => ?_)
      refine lv_aload_n hx hb dX11_contentsAt_6 rfl (lv_at hl 0 rfl) ?_
      refine lv_iload_n hx hb dX11_contentsAt_7 rfl (lv_at hl 3 rfl) ?_
      refine x_callV (rest := []) (wr := [(gx, .inr (9, [.ref T, .ref LA, .ref sp, .int 0, .ref dr])), (R0, .inr (5, [.int 0, .ref r00, .ref r10, .ref r20, .ref r30, .ref r40, .ref r50, .ref r60, .ref r70, .ref wr0, .ref lr0, .ref tt0, .int 0, .int 0, .ref fr0, .ref r80, .ref r90, .int 0])), (tt0, .inl (k 1, 8, .inl (upd (upd (upd (upd (upd (upd (upd (upd (fun _ => 0) 0 0) 1 0) 2 0) 3 0) 4 0) 5 0) 6 0) 7 0))), (lr0, .inl (k 0, 6, .inl gl_2)), (P0, .inr (4, [.ref T, .ref R0, .ref pg0, .ref ST, .int 0, .int 0, .ref p00, .ref p10, .ref p20, .ref p30, .ref p40, .ref p50]))]) (c_headingAt l dC dI k L0 lc0 le0 ll0 ld0 wl0 op0 dg0 T LN R0 P0 0 bl pt fk fh ky x1) B mV_X1_headingAt mw_1820 hl [3, 1, 2] [0, 4, 5, 6, 7] rfl rfl ⟨by decide, by decide⟩ (by decide) (q0 := 0) rfl rfl rfl ⟨Nat.le_of_ble_eq_true rfl, Nat.le_of_ble_eq_true rfl⟩ (Nat.le_of_ble_eq_true rfl) rfl dX11_contentsAt_8 ⟨Nat.le_of_ble_eq_true rfl, Nat.le_of_ble_eq_true rfl⟩ (fun r w H locs hp B => ?_)
      obtain ⟨rfl, rfl⟩ := hp
      have B := bd_to (ws' := [(gx, .inr (9, [.ref T, .ref LA, .ref sp, .int 0, .ref dr])), (R0, .inr (5, [.int 0, .ref r00, .ref r10, .ref r20, .ref r30, .ref r40, .ref r50, .ref r60, .ref r70, .ref wr0, .ref lr0, .ref tt0, .int 0, .int 0, .ref fr0, .ref r80, .ref r90, .int 0])), (tt0, .inl (k 1, 8, .inl (upd (upd (upd (upd (upd (upd (upd (upd (fun _ => 0) 0 0) 1 0) 2 0) 3 0) 4 0) 5 0) 6 0) 7 0))), (lr0, .inl (k 0, 6, .inl gl_2)), (P0, .inr (4, [.ref T, .ref R0, .ref pg0, .ref ST, .int 0, .int 0, .ref p00, .ref p10, .ref p20, .ref p30, .ref p40, .ref p50]))]) rfl B
      refine lv_istore (lv' := [(4, .int (-1)), (3, .ref L0), (0, .ref gx), (1, .int v), (2, .int x1)]) hx hb dX11_contentsAt_11 hl (by decide) rfl (fun ls hl => ?_)
      refine lv_iload hx hb dX11_contentsAt_13 (lv_at hl 0 rfl) ?_
      refine lv_iconst (v := (-1)) hx hb dX11_contentsAt_15 (by decide) ?_
      refine lv_icmp_ne (tgt := 30) hx hb dX11_contentsAt_16 (by decide) (fun c9 => absurd c9 (by decide)) (fun _ => ?_)
      exact x_thrW (tx := "no such heading") xE_ioobe (rfl) hl0 B hex hl (by decide +kernel) dX11_contentsAt_19 dX11_contentsAt_22 dX11_contentsAt_23 dX11_contentsAt_26 dX11_contentsAt_29 ⟨Nat.le_of_ble_eq_true rfl, Nat.le_of_ble_eq_true rfl, Nat.le_of_ble_eq_true rfl, Nat.le_of_ble_eq_true rfl⟩ ⟨Nat.le_of_ble_eq_true rfl, Nat.le_of_ble_eq_true rfl⟩
    · skip
      have B := bd_to (ws' := [(gx, .inr (9, [.ref T, .ref LA, .ref sp, .int 0, .ref dr])), (T, .inr (8, [.ref bl, .ref pt, .ref fk, .ref fh, .int 0, .ref ky, .int 60, .int 12])), (bl, .inr (11, [.int 0, .ref (dI 99 1), .int 0])), (L1, .inr (1, [.ref T, .int 1, .ref LN, .ref R1, .ref P1, .int 0, .int 0, .ref lc1, .ref le1, .ref ll1, .ref ld1, .ref wl1, .ref op1, .int 1, .int 1, .int 1365, .ref dg1])), (R1, .inr (5, [.int 0, .ref r01, .ref r11, .ref r21, .ref r31, .ref r41, .ref r51, .ref r61, .ref r71, .ref wr1, .ref lr1, .ref tt1, .int 0, .int 0, .ref fr1, .ref r81, .ref r91, .int 0])), (tt1, .inl (k 1, 8, .inl (upd (upd (upd (upd (upd (upd (upd (upd (fun _ => 0) 0 0) 1 0) 2 0) 3 0) 4 0) 5 0) 6 0) 7 0))), (lr1, .inl (k 0, 6, .inl gl_5)), (P1, .inr (4, [.ref T, .ref R1, .ref pg1, .ref ST, .int 0, .int 0, .ref p01, .ref p11, .ref p21, .ref p31, .ref p41, .ref p51]))]) rfl B
      refine lv_astore_n (lv' := [(3, .ref L1), (0, .ref gx), (1, .int v), (2, .int x1)]) hx hb dX11_contentsAt_5 rfl hl (by decide) rfl (fun ls hl => ?_)
      refine lv_aload_n hx hb dX11_contentsAt_6 rfl (lv_at hl 0 rfl) ?_
      refine lv_iload_n hx hb dX11_contentsAt_7 rfl (lv_at hl 3 rfl) ?_
      refine x_callV (rest := []) (wr := [(gx, .inr (9, [.ref T, .ref LA, .ref sp, .int 0, .ref dr])), (R1, .inr (5, [.int 0, .ref r01, .ref r11, .ref r21, .ref r31, .ref r41, .ref r51, .ref r61, .ref r71, .ref wr1, .ref lr1, .ref tt1, .int 0, .int 0, .ref fr1, .ref r81, .ref r91, .int 0])), (tt1, .inl (k 1, 8, .inl (upd (upd (upd (upd (upd (upd (upd (upd (fun _ => 0) 0 0) 1 0) 2 0) 3 0) 4 0) 5 0) 6 0) 7 0))), (lr1, .inl (k 0, 6, .inl gl_5)), (P1, .inr (4, [.ref T, .ref R1, .ref pg1, .ref ST, .int 0, .int 0, .ref p01, .ref p11, .ref p21, .ref p31, .ref p41, .ref p51]))]) (c_headingAt l dC dI k L1 lc1 le1 ll1 ld1 wl1 op1 dg1 T LN R1 P1 1 bl pt fk fh ky x1) B mV_X1_headingAt mw_1820 hl [3, 1, 2] [0, 4, 5, 6, 7] rfl rfl ⟨by decide, by decide⟩ (by decide) (q0 := 0) rfl rfl rfl ⟨Nat.le_of_ble_eq_true rfl, Nat.le_of_ble_eq_true rfl⟩ (Nat.le_of_ble_eq_true rfl) rfl dX11_contentsAt_8 ⟨Nat.le_of_ble_eq_true rfl, Nat.le_of_ble_eq_true rfl⟩ (fun r w H locs hp B => ?_)
      obtain ⟨rfl, rfl⟩ := hp
      have B := bd_to (ws' := [(gx, .inr (9, [.ref T, .ref LA, .ref sp, .int 0, .ref dr])), (R1, .inr (5, [.int 0, .ref r01, .ref r11, .ref r21, .ref r31, .ref r41, .ref r51, .ref r61, .ref r71, .ref wr1, .ref lr1, .ref tt1, .int 0, .int 0, .ref fr1, .ref r81, .ref r91, .int 0])), (tt1, .inl (k 1, 8, .inl (upd (upd (upd (upd (upd (upd (upd (upd (fun _ => 0) 0 0) 1 0) 2 0) 3 0) 4 0) 5 0) 6 0) 7 0))), (lr1, .inl (k 0, 6, .inl gl_5)), (P1, .inr (4, [.ref T, .ref R1, .ref pg1, .ref ST, .int 0, .int 0, .ref p01, .ref p11, .ref p21, .ref p31, .ref p41, .ref p51]))]) rfl B
      refine lv_istore (lv' := [(4, .int (-1)), (3, .ref L1), (0, .ref gx), (1, .int v), (2, .int x1)]) hx hb dX11_contentsAt_11 hl (by decide) rfl (fun ls hl => ?_)
      refine lv_iload hx hb dX11_contentsAt_13 (lv_at hl 0 rfl) ?_
      refine lv_iconst (v := (-1)) hx hb dX11_contentsAt_15 (by decide) ?_
      refine lv_icmp_ne (tgt := 30) hx hb dX11_contentsAt_16 (by decide) (fun c9 => absurd c9 (by decide)) (fun _ => ?_)
      exact x_thrW (tx := "no such heading") xE_ioobe (rfl) hl0 B hex hl (by decide +kernel) dX11_contentsAt_19 dX11_contentsAt_22 dX11_contentsAt_23 dX11_contentsAt_26 dX11_contentsAt_29 ⟨Nat.le_of_ble_eq_true rfl, Nat.le_of_ble_eq_true rfl, Nat.le_of_ble_eq_true rfl, Nat.le_of_ble_eq_true rfl⟩ ⟨Nat.le_of_ble_eq_true rfl, Nat.le_of_ble_eq_true rfl⟩

theorem mw_252 : (Jvm.Cond.fieldLink "Galleyforge$Layout" (184 : Nat) "Galleyforge$Rows" "termThere" "[Z") ∈ gt := gt_at 387 (by decide +kernel) (by decide +kernel)
theorem dX1_termAt_0 : decode cX1_termAt 0 = .ok (.iconst 0, 1) := by decide +kernel
theorem dX1_termAt_1 : decode cX1_termAt 1 = .ok (.istore_n 2, 1) := by decide +kernel
theorem dX1_termAt_2 : decode cX1_termAt 2 = .ok (.iload_n 2, 1) := by decide +kernel
theorem dX1_termAt_3 : decode cX1_termAt 3 = .ok (.bipush 8, 2) := by decide +kernel
theorem dX1_termAt_5 : decode cX1_termAt 5 = .ok (.if_icmp .ge 32, 3) := by decide +kernel
theorem dX1_termAt_8 : decode cX1_termAt 8 = .ok (.aload_n 0, 1) := by decide +kernel
theorem dX1_termAt_9 : decode cX1_termAt 9 = .ok (.getfield 57, 3) := by decide +kernel
theorem dX1_termAt_12 : decode cX1_termAt 12 = .ok (.getfield 184, 3) := by decide +kernel
theorem dX1_termAt_15 : decode cX1_termAt 15 = .ok (.iload_n 2, 1) := by decide +kernel
theorem dX1_termAt_16 : decode cX1_termAt 16 = .ok (.baload, 1) := by decide +kernel
theorem dX1_termAt_17 : decode cX1_termAt 17 = .ok (.ifCond .eq 14, 3) := by decide +kernel
theorem dX1_termAt_31 : decode cX1_termAt 31 = .ok (.iinc 2 1, 3) := by decide +kernel
theorem dX1_termAt_34 : decode cX1_termAt 34 = .ok (.goto (-32), 3) := by decide +kernel
theorem dX1_termAt_37 : decode cX1_termAt 37 = .ok (.iconst (-1), 1) := by decide +kernel
theorem dX1_termAt_38 : decode cX1_termAt 38 = .ok (.ireturn, 1) := by decide +kernel
set_option maxHeartbeats 4000000 in
set_option maxRecDepth 100000 in
theorem c_termAt (l : Launch) (dC : Nat → ClassId) (dI : Nat → Nat → Nat) (k : Nat → ClassId) (L : Nat) (lc : Nat) (le : Nat) (ll : Nat) (ld : Nat) (wl : Nat) (op : Nat) (dg : Nat) (T : Nat) (LN : Nat) (R : Nat) (P : Nat) (v : Int32) (r0 : Nat) (r1 : Nat) (r2 : Nat) (r3 : Nat) (r4 : Nat) (r5 : Nat) (r6 : Nat) (r7 : Nat) (wr : Nat) (lr : Nat) (tt : Nat) (fr : Nat) (r8 : Nat) (r9 : Nat) (x1 : Int32) : Ct l dC dI k yX1_termAt (.code yX1_termAt cX1_termAt 3 (some .int)) ({ frames := 0, cells := 0, slots := 0, locals := 0 } : Room) [.ref L, .int x1] [(L, .inr (1, [.ref T, .int v, .ref LN, .ref R, .ref P, .int 0, .int 0, .ref lc, .ref le, .ref ll, .ref ld, .ref wl, .ref op, .int 1, .int 1, .int 1365, .ref dg])), (R, .inr (5, [.int 0, .ref r0, .ref r1, .ref r2, .ref r3, .ref r4, .ref r5, .ref r6, .ref r7, .ref wr, .ref lr, .ref tt, .int 0, .int 0, .ref fr, .ref r8, .ref r9, .int 0])), (tt, .inl (k 1, 8, .inl (upd (upd (upd (upd (upd (upd (upd (upd (fun _ => 0) 0 0) 1 0) 2 0) 3 0) 4 0) 5 0) 6 0) 7 0)))] (fun r w => (r = some (.int (-1)) ∧ w = [])) := by
  refine ct_of (by decide) (Nat.le_of_ble_eq_true rfl) ?_
  intro p e s m args below meth c H locs B hr hnm ls hl
  have hx := B.1.1
  have hb := B.1.2.1
  have hl : lv_has ls 3 [(0, .ref L), (1, .int x1)] := hl
  refine lv_iconst (v := 0) hx hb dX1_termAt_0 (by decide) ?_
  refine lv_istore_n (lv' := [(2, .int 0), (0, .ref L), (1, .int x1)]) hx hb dX1_termAt_1 rfl hl (by decide) rfl (fun ls hl => ?_)
  refine lv_iload_n hx hb dX1_termAt_2 rfl (lv_at hl 0 rfl) ?_
  refine lv_bipush (v := 8) hx hb dX1_termAt_3 (by decide) ?_
  refine lv_icmp_ge (tgt := 37) hx hb dX1_termAt_5 (by decide) (fun c9 => absurd c9 (by decide)) (fun _ => ?_)
  refine lv_aload_n hx hb dX1_termAt_8 rfl (lv_at hl 1 rfl) ?_
  refine x_get (ci := 1) (C := RX1) (T := TX1) (N := 17) (v := .ref R) B 0 rfl rfl in_X1 3 (by decide) mw_414 (fun _ h9 => h9) rfl dX1_termAt_9 ?_
  refine x_get (ci := 5) (C := RX6) (T := TX6) (N := 18) (v := .ref tt) B 1 rfl rfl in_X6 11 (by decide) mw_252 (fun _ h9 => h9) rfl dX1_termAt_12 ?_
  refine lv_iload_n hx hb dX1_termAt_15 rfl (lv_at hl 0 rfl) ?_
  refine x_zald (v := 0) B 2 rfl (vpc (by decide)) dX1_termAt_16 (by rfl) ?_
  refine lv_if_eq (tgt := 31) hx hb dX1_termAt_17 (by decide) (fun _ => ?_) (fun c9 => absurd (by decide) c9)
  refine lv_iinc (v := 1) (lv' := [(2, .int 1), (0, .ref L), (1, .int x1)]) hx hb dX1_termAt_31 hl (k := 0) rfl (by decide) (by decide) rfl (fun ls hl => ?_)
  refine lv_goto (tgt := 2) hx hb dX1_termAt_34 (by decide) ?_
  refine lv_iload_n hx hb dX1_termAt_2 rfl (lv_at hl 0 rfl) ?_
  refine lv_bipush (v := 8) hx hb dX1_termAt_3 (by decide) ?_
  refine lv_icmp_ge (tgt := 37) hx hb dX1_termAt_5 (by decide) (fun c9 => absurd c9 (by decide)) (fun _ => ?_)
  refine lv_aload_n hx hb dX1_termAt_8 rfl (lv_at hl 1 rfl) ?_
  refine x_get (ci := 1) (C := RX1) (T := TX1) (N := 17) (v := .ref R) B 0 rfl rfl in_X1 3 (by decide) mw_414 (fun _ h9 => h9) rfl dX1_termAt_9 ?_
  refine x_get (ci := 5) (C := RX6) (T := TX6) (N := 18) (v := .ref tt) B 1 rfl rfl in_X6 11 (by decide) mw_252 (fun _ h9 => h9) rfl dX1_termAt_12 ?_
  refine lv_iload_n hx hb dX1_termAt_15 rfl (lv_at hl 0 rfl) ?_
  refine x_zald (v := 0) B 2 rfl (vpc (by decide)) dX1_termAt_16 (by rfl) ?_
  refine lv_if_eq (tgt := 31) hx hb dX1_termAt_17 (by decide) (fun _ => ?_) (fun c9 => absurd (by decide) c9)
  refine lv_iinc (v := 2) (lv' := [(2, .int 2), (0, .ref L), (1, .int x1)]) hx hb dX1_termAt_31 hl (k := 0) rfl (by decide) (by decide) rfl (fun ls hl => ?_)
  refine lv_goto (tgt := 2) hx hb dX1_termAt_34 (by decide) ?_
  refine lv_iload_n hx hb dX1_termAt_2 rfl (lv_at hl 0 rfl) ?_
  refine lv_bipush (v := 8) hx hb dX1_termAt_3 (by decide) ?_
  refine lv_icmp_ge (tgt := 37) hx hb dX1_termAt_5 (by decide) (fun c9 => absurd c9 (by decide)) (fun _ => ?_)
  refine lv_aload_n hx hb dX1_termAt_8 rfl (lv_at hl 1 rfl) ?_
  refine x_get (ci := 1) (C := RX1) (T := TX1) (N := 17) (v := .ref R) B 0 rfl rfl in_X1 3 (by decide) mw_414 (fun _ h9 => h9) rfl dX1_termAt_9 ?_
  refine x_get (ci := 5) (C := RX6) (T := TX6) (N := 18) (v := .ref tt) B 1 rfl rfl in_X6 11 (by decide) mw_252 (fun _ h9 => h9) rfl dX1_termAt_12 ?_
  refine lv_iload_n hx hb dX1_termAt_15 rfl (lv_at hl 0 rfl) ?_
  refine x_zald (v := 0) B 2 rfl (vpc (by decide)) dX1_termAt_16 (by rfl) ?_
  refine lv_if_eq (tgt := 31) hx hb dX1_termAt_17 (by decide) (fun _ => ?_) (fun c9 => absurd (by decide) c9)
  refine lv_iinc (v := 3) (lv' := [(2, .int 3), (0, .ref L), (1, .int x1)]) hx hb dX1_termAt_31 hl (k := 0) rfl (by decide) (by decide) rfl (fun ls hl => ?_)
  refine lv_goto (tgt := 2) hx hb dX1_termAt_34 (by decide) ?_
  refine lv_iload_n hx hb dX1_termAt_2 rfl (lv_at hl 0 rfl) ?_
  refine lv_bipush (v := 8) hx hb dX1_termAt_3 (by decide) ?_
  refine lv_icmp_ge (tgt := 37) hx hb dX1_termAt_5 (by decide) (fun c9 => absurd c9 (by decide)) (fun _ => ?_)
  refine lv_aload_n hx hb dX1_termAt_8 rfl (lv_at hl 1 rfl) ?_
  refine x_get (ci := 1) (C := RX1) (T := TX1) (N := 17) (v := .ref R) B 0 rfl rfl in_X1 3 (by decide) mw_414 (fun _ h9 => h9) rfl dX1_termAt_9 ?_
  refine x_get (ci := 5) (C := RX6) (T := TX6) (N := 18) (v := .ref tt) B 1 rfl rfl in_X6 11 (by decide) mw_252 (fun _ h9 => h9) rfl dX1_termAt_12 ?_
  refine lv_iload_n hx hb dX1_termAt_15 rfl (lv_at hl 0 rfl) ?_
  refine x_zald (v := 0) B 2 rfl (vpc (by decide)) dX1_termAt_16 (by rfl) ?_
  refine lv_if_eq (tgt := 31) hx hb dX1_termAt_17 (by decide) (fun _ => ?_) (fun c9 => absurd (by decide) c9)
  refine lv_iinc (v := 4) (lv' := [(2, .int 4), (0, .ref L), (1, .int x1)]) hx hb dX1_termAt_31 hl (k := 0) rfl (by decide) (by decide) rfl (fun ls hl => ?_)
  refine lv_goto (tgt := 2) hx hb dX1_termAt_34 (by decide) ?_
  refine lv_iload_n hx hb dX1_termAt_2 rfl (lv_at hl 0 rfl) ?_
  refine lv_bipush (v := 8) hx hb dX1_termAt_3 (by decide) ?_
  refine lv_icmp_ge (tgt := 37) hx hb dX1_termAt_5 (by decide) (fun c9 => absurd c9 (by decide)) (fun _ => ?_)
  refine lv_aload_n hx hb dX1_termAt_8 rfl (lv_at hl 1 rfl) ?_
  refine x_get (ci := 1) (C := RX1) (T := TX1) (N := 17) (v := .ref R) B 0 rfl rfl in_X1 3 (by decide) mw_414 (fun _ h9 => h9) rfl dX1_termAt_9 ?_
  refine x_get (ci := 5) (C := RX6) (T := TX6) (N := 18) (v := .ref tt) B 1 rfl rfl in_X6 11 (by decide) mw_252 (fun _ h9 => h9) rfl dX1_termAt_12 ?_
  refine lv_iload_n hx hb dX1_termAt_15 rfl (lv_at hl 0 rfl) ?_
  refine x_zald (v := 0) B 2 rfl (vpc (by decide)) dX1_termAt_16 (by rfl) ?_
  refine lv_if_eq (tgt := 31) hx hb dX1_termAt_17 (by decide) (fun _ => ?_) (fun c9 => absurd (by decide) c9)
  refine lv_iinc (v := 5) (lv' := [(2, .int 5), (0, .ref L), (1, .int x1)]) hx hb dX1_termAt_31 hl (k := 0) rfl (by decide) (by decide) rfl (fun ls hl => ?_)
  refine lv_goto (tgt := 2) hx hb dX1_termAt_34 (by decide) ?_
  refine lv_iload_n hx hb dX1_termAt_2 rfl (lv_at hl 0 rfl) ?_
  refine lv_bipush (v := 8) hx hb dX1_termAt_3 (by decide) ?_
  refine lv_icmp_ge (tgt := 37) hx hb dX1_termAt_5 (by decide) (fun c9 => absurd c9 (by decide)) (fun _ => ?_)
  refine lv_aload_n hx hb dX1_termAt_8 rfl (lv_at hl 1 rfl) ?_
  refine x_get (ci := 1) (C := RX1) (T := TX1) (N := 17) (v := .ref R) B 0 rfl rfl in_X1 3 (by decide) mw_414 (fun _ h9 => h9) rfl dX1_termAt_9 ?_
  refine x_get (ci := 5) (C := RX6) (T := TX6) (N := 18) (v := .ref tt) B 1 rfl rfl in_X6 11 (by decide) mw_252 (fun _ h9 => h9) rfl dX1_termAt_12 ?_
  refine lv_iload_n hx hb dX1_termAt_15 rfl (lv_at hl 0 rfl) ?_
  refine x_zald (v := 0) B 2 rfl (vpc (by decide)) dX1_termAt_16 (by rfl) ?_
  refine lv_if_eq (tgt := 31) hx hb dX1_termAt_17 (by decide) (fun _ => ?_) (fun c9 => absurd (by decide) c9)
  refine lv_iinc (v := 6) (lv' := [(2, .int 6), (0, .ref L), (1, .int x1)]) hx hb dX1_termAt_31 hl (k := 0) rfl (by decide) (by decide) rfl (fun ls hl => ?_)
  refine lv_goto (tgt := 2) hx hb dX1_termAt_34 (by decide) ?_
  refine lv_iload_n hx hb dX1_termAt_2 rfl (lv_at hl 0 rfl) ?_
  refine lv_bipush (v := 8) hx hb dX1_termAt_3 (by decide) ?_
  refine lv_icmp_ge (tgt := 37) hx hb dX1_termAt_5 (by decide) (fun c9 => absurd c9 (by decide)) (fun _ => ?_)
  refine lv_aload_n hx hb dX1_termAt_8 rfl (lv_at hl 1 rfl) ?_
  refine x_get (ci := 1) (C := RX1) (T := TX1) (N := 17) (v := .ref R) B 0 rfl rfl in_X1 3 (by decide) mw_414 (fun _ h9 => h9) rfl dX1_termAt_9 ?_
  refine x_get (ci := 5) (C := RX6) (T := TX6) (N := 18) (v := .ref tt) B 1 rfl rfl in_X6 11 (by decide) mw_252 (fun _ h9 => h9) rfl dX1_termAt_12 ?_
  refine lv_iload_n hx hb dX1_termAt_15 rfl (lv_at hl 0 rfl) ?_
  refine x_zald (v := 0) B 2 rfl (vpc (by decide)) dX1_termAt_16 (by rfl) ?_
  refine lv_if_eq (tgt := 31) hx hb dX1_termAt_17 (by decide) (fun _ => ?_) (fun c9 => absurd (by decide) c9)
  refine lv_iinc (v := 7) (lv' := [(2, .int 7), (0, .ref L), (1, .int x1)]) hx hb dX1_termAt_31 hl (k := 0) rfl (by decide) (by decide) rfl (fun ls hl => ?_)
  refine lv_goto (tgt := 2) hx hb dX1_termAt_34 (by decide) ?_
  refine lv_iload_n hx hb dX1_termAt_2 rfl (lv_at hl 0 rfl) ?_
  refine lv_bipush (v := 8) hx hb dX1_termAt_3 (by decide) ?_
  refine lv_icmp_ge (tgt := 37) hx hb dX1_termAt_5 (by decide) (fun c9 => absurd c9 (by decide)) (fun _ => ?_)
  refine lv_aload_n hx hb dX1_termAt_8 rfl (lv_at hl 1 rfl) ?_
  refine x_get (ci := 1) (C := RX1) (T := TX1) (N := 17) (v := .ref R) B 0 rfl rfl in_X1 3 (by decide) mw_414 (fun _ h9 => h9) rfl dX1_termAt_9 ?_
  refine x_get (ci := 5) (C := RX6) (T := TX6) (N := 18) (v := .ref tt) B 1 rfl rfl in_X6 11 (by decide) mw_252 (fun _ h9 => h9) rfl dX1_termAt_12 ?_
  refine lv_iload_n hx hb dX1_termAt_15 rfl (lv_at hl 0 rfl) ?_
  refine x_zald (v := 0) B 2 rfl (vpc (by decide)) dX1_termAt_16 (by rfl) ?_
  refine lv_if_eq (tgt := 31) hx hb dX1_termAt_17 (by decide) (fun _ => ?_) (fun c9 => absurd (by decide) c9)
  refine lv_iinc (v := 8) (lv' := [(2, .int 8), (0, .ref L), (1, .int x1)]) hx hb dX1_termAt_31 hl (k := 0) rfl (by decide) (by decide) rfl (fun ls hl => ?_)
  refine lv_goto (tgt := 2) hx hb dX1_termAt_34 (by decide) ?_
  refine lv_iload_n hx hb dX1_termAt_2 rfl (lv_at hl 0 rfl) ?_
  refine lv_bipush (v := 8) hx hb dX1_termAt_3 (by decide) ?_
  refine lv_icmp_ge (tgt := 37) hx hb dX1_termAt_5 (by decide) (fun _ => ?_) (fun c9 => absurd (by decide) c9)
  refine lv_iconst (v := (-1)) hx hb dX1_termAt_37 (by decide) ?_
  have B := bd_sub (ws' := []) [] (by decide) rfl B
  exact x_iret B hr (⟨rfl, rfl⟩) (Nat.le_of_ble_eq_true rfl) (Nat.le_of_ble_eq_true rfl) dX1_termAt_38

theorem mw_1832 : (Jvm.Cond.methodLink "Galleyforge" (378 : Nat) ({ cls := "Galleyforge$Layout", name := "termAt", desc := "(I)I" } : Jvm.MethodName)) ∈ gt := gt_at 1967 (by decide +kernel) (by decide +kernel)
theorem mw_1833 : (Jvm.Cond.instanceMethod ({ cls := "Galleyforge$Layout", name := "termAt", desc := "(I)I" } : Jvm.MethodName)) ∈ gt := gt_at 1968 (by decide +kernel) (by decide +kernel)
theorem mw_1834 : (Jvm.Cond.selects "Galleyforge$Layout" ({ cls := "Galleyforge$Layout", name := "termAt", desc := "(I)I" } : Jvm.MethodName) ({ cls := "Galleyforge$Layout", name := "termAt", desc := "(I)I" } : Jvm.MethodName)) ∈ gt := gt_at 1969 (by decide +kernel) (by decide +kernel)
theorem mw_1835 : (Jvm.Cond.code ({ cls := "Galleyforge$Layout", name := "termAt", desc := "(I)I" } : Jvm.MethodName) prog_3_method_15_code (3 : Nat) (Option.some Jvm.ClassFile.FieldType.int)) ∈ gt := gt_at 1970 (by decide +kernel) (by decide +kernel)
theorem mV_X1_termAt : mV yX1_termAt cX1_termAt 3 (some .int) 1 := ⟨⟨mw_1835, mw_8, by decide, by decide, by decide +kernel⟩, mw_1833, mw_1834⟩
theorem dX11_indexAt_0 : decode cX11_indexAt 0 = .ok (.aload_n 0, 1) := by decide +kernel
theorem dX11_indexAt_1 : decode cX11_indexAt 1 = .ok (.iload_n 1, 1) := by decide +kernel
theorem dX11_indexAt_2 : decode cX11_indexAt 2 = .ok (.invokevirtual 279, 3) := by decide +kernel
theorem dX11_indexAt_5 : decode cX11_indexAt 5 = .ok (.iload_n 2, 1) := by decide +kernel
theorem dX11_indexAt_6 : decode cX11_indexAt 6 = .ok (.invokevirtual 378, 3) := by decide +kernel
theorem dX11_indexAt_9 : decode cX11_indexAt 9 = .ok (.istore_n 3, 1) := by decide +kernel
theorem dX11_indexAt_10 : decode cX11_indexAt 10 = .ok (.iload_n 3, 1) := by decide +kernel
theorem dX11_indexAt_11 : decode cX11_indexAt 11 = .ok (.iconst (-1), 1) := by decide +kernel
theorem dX11_indexAt_12 : decode cX11_indexAt 12 = .ok (.if_icmp .ne 14, 3) := by decide +kernel
theorem dX11_indexAt_15 : decode cX11_indexAt 15 = .ok (.new 47, 3) := by decide +kernel
theorem dX11_indexAt_18 : decode cX11_indexAt 18 = .ok (.dup, 1) := by decide +kernel
theorem dX11_indexAt_19 : decode cX11_indexAt 19 = .ok (.ldc_w 381, 3) := by decide +kernel
theorem dX11_indexAt_22 : decode cX11_indexAt 22 = .ok (.invokespecial 51, 3) := by decide +kernel
theorem dX11_indexAt_25 : decode cX11_indexAt 25 = .ok (.athrow, 1) := by decide +kernel
set_option maxHeartbeats 4000000 in
set_option maxRecDepth 100000 in
theorem c_indexAt (l : Launch) (dC : Nat → ClassId) (dI : Nat → Nat → Nat) (k : Nat → ClassId) (hl0 : l.stackTraces = false) (gx : Nat) (T : Nat) (LA : Nat) (sp : Nat) (dr : Nat) (bl : Nat) (pt : Nat) (fk : Nat) (fh : Nat) (ky : Nat) (LN : Nat) (ST : Nat) (L0 : Nat) (lc0 : Nat) (le0 : Nat) (ll0 : Nat) (ld0 : Nat) (wl0 : Nat) (op0 : Nat) (dg0 : Nat) (L1 : Nat) (lc1 : Nat) (le1 : Nat) (ll1 : Nat) (ld1 : Nat) (wl1 : Nat) (op1 : Nat) (dg1 : Nat) (R0 : Nat) (r00 : Nat) (r10 : Nat) (r20 : Nat) (r30 : Nat) (r40 : Nat) (r50 : Nat) (r60 : Nat) (r70 : Nat) (wr0 : Nat) (lr0 : Nat) (tt0 : Nat) (fr0 : Nat) (r80 : Nat) (r90 : Nat) (R1 : Nat) (r01 : Nat) (r11 : Nat) (r21 : Nat) (r31 : Nat) (r41 : Nat) (r51 : Nat) (r61 : Nat) (r71 : Nat) (wr1 : Nat) (lr1 : Nat) (tt1 : Nat) (fr1 : Nat) (r81 : Nat) (r91 : Nat) (P0 : Nat) (pg0 : Nat) (p00 : Nat) (p10 : Nat) (p20 : Nat) (p30 : Nat) (p40 : Nat) (p50 : Nat) (P1 : Nat) (pg1 : Nat) (p01 : Nat) (p11 : Nat) (p21 : Nat) (p31 : Nat) (p41 : Nat) (p51 : Nat) (v : Int32) (x1 : Int32) : Xt l dC dI k yX11_indexAt (.code yX11_indexAt cX11_indexAt 4 (some .int)) ({ frames := 8, cells := 2, slots := 12, locals := 125 } : Room) [.ref gx, .int v, .int x1] [(gx, .inr (9, [.ref T, .ref LA, .ref sp, .int 0, .ref dr])), (LA, .inl (k 3, 2, .inr (.inr (.inr (.inr (va_up (va_up (fun _ => none) 0 (some L0)) 1 (some L1))))))), (T, .inr (8, [.ref bl, .ref pt, .ref fk, .ref fh, .int 0, .ref ky, .int 60, .int 12])), (bl, .inr (11, [.int 0, .ref (dI 99 1), .int 0])), (L0, .inr (1, [.ref T, .int 0, .ref LN, .ref R0, .ref P0, .int 1, .int 0, .ref lc0, .ref le0, .ref ll0, .ref ld0, .ref wl0, .ref op0, .int 0, .int 0, .int 1365, .ref dg0])), (dg0, .inl (k 0, 730, .inl (fun _ => 0))), (R0, .inr (5, [.int 0, .ref r00, .ref r10, .ref r20, .ref r30, .ref r40, .ref r50, .ref r60, .ref r70, .ref wr0, .ref lr0, .ref tt0, .int 0, .int 0, .ref fr0, .ref r80, .ref r90, .int 0])), (wr0, .inl (k 0, 192, .inl (fun _ => 0))), (lr0, .inl (k 0, 6, .inl (fun _ => 0))), (tt0, .inl (k 1, 8, .inl (fun _ => 0))), (fr0, .inl (k 0, 5, .inl (fun _ => 0))), (P0, .inr (4, [.ref T, .ref R0, .ref pg0, .ref ST, .int 0, .int 0, .ref p00, .ref p10, .ref p20, .ref p30, .ref p40, .ref p50])), (p50, .inl (k 0, 5, .inl (fun _ => 0))), (L1, .inr (1, [.ref T, .int 1, .ref LN, .ref R1, .ref P1, .int 1, .int 0, .ref lc1, .ref le1, .ref ll1, .ref ld1, .ref wl1, .ref op1, .int 0, .int 0, .int 1365, .ref dg1])), (dg1, .inl (k 0, 730, .inl (fun _ => 0))), (R1, .inr (5, [.int 0, .ref r01, .ref r11, .ref r21, .ref r31, .ref r41, .ref r51, .ref r61, .ref r71, .ref wr1, .ref lr1, .ref tt1, .int 0, .int 0, .ref fr1, .ref r81, .ref r91, .int 0])), (wr1, .inl (k 0, 192, .inl (fun _ => 0))), (lr1, .inl (k 0, 6, .inl (fun _ => 0))), (tt1, .inl (k 1, 8, .inl (fun _ => 0))), (fr1, .inl (k 0, 5, .inl (fun _ => 0))), (P1, .inr (4, [.ref T, .ref R1, .ref pg1, .ref ST, .int 0, .int 0, .ref p01, .ref p11, .ref p21, .ref p31, .ref p41, .ref p51])), (p51, .inl (k 0, 5, .inl (fun _ => 0)))] (fun r w => False) (fun E => (E = "java/lang/IndexOutOfBoundsException")) := by
  refine xt_of (by decide) (Nat.le_of_ble_eq_true rfl) ?_
  intro p e s m args below meth c H locs B hr hex ls hl
  have hx := B.1.1
  have hb := B.1.2.1
  have hl : lv_has ls 4 [(0, .ref gx), (1, .int v), (2, .int x1)] := hl
  refine lv_aload_n hx hb dX11_indexAt_0 rfl (lv_at hl 0 rfl) ?_
  refine lv_iload_n hx hb dX11_indexAt_1 rfl (lv_at hl 1 rfl) ?_
  refine x_callVx (rest := []) (wr := []) (c_layoutOf l dC dI k hl0 gx T LA sp dr bl pt fk fh ky LN ST L0 lc0 le0 ll0 ld0 wl0 op0 dg0 L1 lc1 le1 ll1 ld1 wl1 op1 dg1 R0 r00 r10 r20 r30 r40 r50 r60 r70 wr0 lr0 tt0 fr0 r80 r90 R1 r01 r11 r21 r31 r41 r51 r61 r71 wr1 lr1 tt1 fr1 r81 r91 P0 pg0 p00 p10 p20 p30 p40 p50 P1 pg1 p01 p11 p21 p31 p41 p51 v) B mV_X11_layoutOf mw_1366 hl [0, 1, 2, 3, 4, 5, 6, 7, 8, 9, 10, 11, 12, 13, 14, 15, 16, 17, 18, 19, 20, 21] [] rfl rfl ⟨by decide, by decide⟩ (by decide) (q0 := 0) rfl rfl rfl ⟨Nat.le_of_ble_eq_true rfl, Nat.le_of_ble_eq_true rfl⟩ (Nat.le_of_ble_eq_true rfl) rfl dX11_indexAt_2 ⟨Nat.le_of_ble_eq_true rfl, Nat.le_of_ble_eq_true rfl⟩ (fun E ce q9 H locs hp B h1 h2 h3 => ?_) (fun r w H locs hp B => ?_)
  · rcases hp with ⟨z0_0, rfl⟩
    exact x_out hex (rfl) B h1 h2 h3 (Nat.le_of_ble_eq_true rfl) (Nat.le_of_ble_eq_true rfl)
  · skip
    rcases hp with ⟨gl_2, z_3, z_4, rfl, rfl⟩ | ⟨gl_5, z_6, z_7, rfl, rfl⟩
    · skip
      have B := bd_to (ws' := [(gx, .inr (9, [.ref T, .ref LA, .ref sp, .int 0, .ref dr])), (T, .inr (8, [.ref bl, .ref pt, .ref fk, .ref fh, .int 0, .ref ky, .int 60, .int 12])), (bl, .inr (11, [.int 0, .ref (dI 99 1), .int 0])), (L0, .inr (1, [.ref T, .int 0, .ref LN, .ref R0, .ref P0, .int 0, .int 0, .ref lc0, .ref le0, .ref ll0, .ref ld0, .ref wl0, .ref op0, .int 1, .int 1, .int 1365, .ref dg0])), (R0, .inr (5, [.int 0, .ref r00, .ref r10, .ref r20, .ref r30, .ref r40, .ref r50, .ref r60, .ref r70, .ref wr0, .ref lr0, .ref tt0, .int 0, .int 0, .ref fr0, .ref r80, .ref r90, .int 0])), (tt0, .inl (k 1, 8, .inl (upd (upd (upd (upd (upd (upd (upd (upd (fun _ => 0) 0 0) 1 0) 2 0) 3 0) 4 0) 5 0) 6 0) 7 0))), (lr0, .inl (k 0, 6, .inl gl_2)), (P0, .inr (4, [.ref T, .ref R0, .ref pg0, .ref ST, .int 0, .int 0, .ref p00, .ref p10, .ref p20, .ref p30, .ref p40, .ref p50]))]) rfl B
      refine lv_iload_n hx hb dX11_indexAt_5 rfl (lv_at hl 2 rfl) ?_
      refine x_callV (rest := []) (wr := [(gx, .inr (9, [.ref T, .ref LA, .ref sp, .int 0, .ref dr])), (T, .inr (8, [.ref bl, .ref pt, .ref fk, .ref fh, .int 0, .ref ky, .int 60, .int 12])), (bl, .inr (11, [.int 0, .ref (dI 99 1), .int 0])), (lr0, .inl (k 0, 6, .inl gl_2)), (P0, .inr (4, [.ref T, .ref R0, .ref pg0, .ref ST, .int 0, .int 0, .ref p00, .ref p10, .ref p20, .ref p30, .ref p40, .ref p50]))]) (c_termAt l dC dI k L0 lc0 le0 ll0 ld0 wl0 op0 dg0 T LN R0 P0 0 r00 r10 r20 r30 r40 r50 r60 r70 wr0 lr0 tt0 fr0 r80 r90 x1) B mV_X1_termAt mw_1832 hl [3, 4, 5] [0, 1, 2, 6, 7] rfl rfl ⟨by decide, by decide⟩ (by decide) (q0 := 0) rfl rfl rfl ⟨Nat.le_of_ble_eq_true rfl, Nat.le_of_ble_eq_true rfl⟩ (Nat.le_of_ble_eq_true rfl) rfl dX11_indexAt_6 ⟨Nat.le_of_ble_eq_true rfl, Nat.le_of_ble_eq_true rfl⟩ (fun r w H locs hp B => ?_)
      obtain ⟨rfl, rfl⟩ := hp
      have B := bd_to (ws' := [(gx, .inr (9, [.ref T, .ref LA, .ref sp, .int 0, .ref dr])), (T, .inr (8, [.ref bl, .ref pt, .ref fk, .ref fh, .int 0, .ref ky, .int 60, .int 12])), (bl, .inr (11, [.int 0, .ref (dI 99 1), .int 0])), (lr0, .inl (k 0, 6, .inl gl_2)), (P0, .inr (4, [.ref T, .ref R0, .ref pg0, .ref ST, .int 0, .int 0, .ref p00, .ref p10, .ref p20, .ref p30, .ref p40, .ref p50]))]) rfl B
      refine lv_istore_n (lv' := [(3, .int (-1)), (0, .ref gx), (1, .int v), (2, .int x1)]) hx hb dX11_indexAt_9 rfl hl (by decide) rfl (fun ls hl => ?_)
      refine lv_iload_n hx hb dX11_indexAt_10 rfl (lv_at hl 0 rfl) ?_
      refine lv_iconst (v := (-1)) hx hb dX11_indexAt_11 (by decide) ?_
      refine lv_icmp_ne (tgt := 26) hx hb dX11_indexAt_12 (by decide) (fun c9 => absurd c9 (by decide)) (fun _ => ?_)
      exact x_thrW (tx := "not so many terms") xE_ioobe (rfl) hl0 B hex hl (by decide +kernel) dX11_indexAt_15 dX11_indexAt_18 dX11_indexAt_19 dX11_indexAt_22 dX11_indexAt_25 ⟨Nat.le_of_ble_eq_true rfl, Nat.le_of_ble_eq_true rfl, Nat.le_of_ble_eq_true rfl, Nat.le_of_ble_eq_true rfl⟩ ⟨Nat.le_of_ble_eq_true rfl, Nat.le_of_ble_eq_true rfl⟩
    · skip
      have B := bd_to (ws' := [(gx, .inr (9, [.ref T, .ref LA, .ref sp, .int 0, .ref dr])), (T, .inr (8, [.ref bl, .ref pt, .ref fk, .ref fh, .int 0, .ref ky, .int 60, .int 12])), (bl, .inr (11, [.int 0, .ref (dI 99 1), .int 0])), (L1, .inr (1, [.ref T, .int 1, .ref LN, .ref R1, .ref P1, .int 0, .int 0, .ref lc1, .ref le1, .ref ll1, .ref ld1, .ref wl1, .ref op1, .int 1, .int 1, .int 1365, .ref dg1])), (R1, .inr (5, [.int 0, .ref r01, .ref r11, .ref r21, .ref r31, .ref r41, .ref r51, .ref r61, .ref r71, .ref wr1, .ref lr1, .ref tt1, .int 0, .int 0, .ref fr1, .ref r81, .ref r91, .int 0])), (tt1, .inl (k 1, 8, .inl (upd (upd (upd (upd (upd (upd (upd (upd (fun _ => 0) 0 0) 1 0) 2 0) 3 0) 4 0) 5 0) 6 0) 7 0))), (lr1, .inl (k 0, 6, .inl gl_5)), (P1, .inr (4, [.ref T, .ref R1, .ref pg1, .ref ST, .int 0, .int 0, .ref p01, .ref p11, .ref p21, .ref p31, .ref p41, .ref p51]))]) rfl B
      refine lv_iload_n hx hb dX11_indexAt_5 rfl (lv_at hl 2 rfl) ?_
      refine x_callV (rest := []) (wr := [(gx, .inr (9, [.ref T, .ref LA, .ref sp, .int 0, .ref dr])), (T, .inr (8, [.ref bl, .ref pt, .ref fk, .ref fh, .int 0, .ref ky, .int 60, .int 12])), (bl, .inr (11, [.int 0, .ref (dI 99 1), .int 0])), (lr1, .inl (k 0, 6, .inl gl_5)), (P1, .inr (4, [.ref T, .ref R1, .ref pg1, .ref ST, .int 0, .int 0, .ref p01, .ref p11, .ref p21, .ref p31, .ref p41, .ref p51]))]) (c_termAt l dC dI k L1 lc1 le1 ll1 ld1 wl1 op1 dg1 T LN R1 P1 1 r01 r11 r21 r31 r41 r51 r61 r71 wr1 lr1 tt1 fr1 r81 r91 x1) B mV_X1_termAt mw_1832 hl [3, 4, 5] [0, 1, 2, 6, 7] rfl rfl ⟨by decide, by decide⟩ (by decide) (q0 := 0) rfl rfl rfl ⟨Nat.le_of_ble_eq_true rfl, Nat.le_of_ble_eq_true rfl⟩ (Nat.le_of_ble_eq_true rfl) rfl dX11_indexAt_6 ⟨Nat.le_of_ble_eq_true rfl, Nat.le_of_ble_eq_true rfl⟩ (fun r w H locs hp B => ?_)
      obtain ⟨rfl, rfl⟩ := hp
      have B := bd_to (ws' := [(gx, .inr (9, [.ref T, .ref LA, .ref sp, .int 0, .ref dr])), (T, .inr (8, [.ref bl, .ref pt, .ref fk, .ref fh, .int 0, .ref ky, .int 60, .int 12])), (bl, .inr (11, [.int 0, .ref (dI 99 1), .int 0])), (lr1, .inl (k 0, 6, .inl gl_5)), (P1, .inr (4, [.ref T, .ref R1, .ref pg1, .ref ST, .int 0, .int 0, .ref p01, .ref p11, .ref p21, .ref p31, .ref p41, .ref p51]))]) rfl B
      refine lv_istore_n (lv' := [(3, .int (-1)), (0, .ref gx), (1, .int v), (2, .int x1)]) hx hb dX11_indexAt_9 rfl hl (by decide) rfl (fun ls hl => ?_)
      refine lv_iload_n hx hb dX11_indexAt_10 rfl (lv_at hl 0 rfl) ?_
      refine lv_iconst (v := (-1)) hx hb dX11_indexAt_11 (by decide) ?_
      refine lv_icmp_ne (tgt := 26) hx hb dX11_indexAt_12 (by decide) (fun c9 => absurd c9 (by decide)) (fun _ => ?_)
      exact x_thrW (tx := "not so many terms") xE_ioobe (rfl) hl0 B hex hl (by decide +kernel) dX11_indexAt_15 dX11_indexAt_18 dX11_indexAt_19 dX11_indexAt_22 dX11_indexAt_25 ⟨Nat.le_of_ble_eq_true rfl, Nat.le_of_ble_eq_true rfl, Nat.le_of_ble_eq_true rfl, Nat.le_of_ble_eq_true rfl⟩ ⟨Nat.le_of_ble_eq_true rfl, Nat.le_of_ble_eq_true rfl⟩

theorem mw_371 : (Jvm.Cond.fieldLink "Galleyforge$Layout" (196 : Nat) "Galleyforge$Pages" "count" "I") ∈ gt := gt_at 506 (by decide +kernel) (by decide +kernel)
theorem dX1_findPagesOf_0 : decode cX1_findPagesOf 0 = .ok (.iconst 0, 1) := by decide +kernel
theorem dX1_findPagesOf_1 : decode cX1_findPagesOf 1 = .ok (.istore_n 2, 1) := by decide +kernel
theorem dX1_findPagesOf_2 : decode cX1_findPagesOf 2 = .ok (.iload_n 2, 1) := by decide +kernel
theorem dX1_findPagesOf_3 : decode cX1_findPagesOf 3 = .ok (.aload_n 0, 1) := by decide +kernel
theorem dX1_findPagesOf_4 : decode cX1_findPagesOf 4 = .ok (.getfield 66, 3) := by decide +kernel
theorem dX1_findPagesOf_7 : decode cX1_findPagesOf 7 = .ok (.getfield 196, 3) := by decide +kernel
theorem dX1_findPagesOf_10 : decode cX1_findPagesOf 10 = .ok (.iconst 1, 1) := by decide +kernel
theorem dX1_findPagesOf_11 : decode cX1_findPagesOf 11 = .ok (.iadd, 1) := by decide +kernel
theorem dX1_findPagesOf_12 : decode cX1_findPagesOf 12 = .ok (.if_icmp .gt 16, 3) := by decide +kernel
theorem dX1_findPagesOf_15 : decode cX1_findPagesOf 15 = .ok (.aload_n 0, 1) := by decide +kernel
theorem dX1_findPagesOf_16 : decode cX1_findPagesOf 16 = .ok (.getfield 32, 3) := by decide +kernel
theorem dX1_findPagesOf_19 : decode cX1_findPagesOf 19 = .ok (.iload_n 2, 1) := by decide +kernel
theorem dX1_findPagesOf_20 : decode cX1_findPagesOf 20 = .ok (.iconst 0, 1) := by decide +kernel
theorem dX1_findPagesOf_21 : decode cX1_findPagesOf 21 = .ok (.bastore, 1) := by decide +kernel
theorem dX1_findPagesOf_22 : decode cX1_findPagesOf 22 = .ok (.iinc 2 1, 3) := by decide +kernel
theorem dX1_findPagesOf_25 : decode cX1_findPagesOf 25 = .ok (.goto (-23), 3) := by decide +kernel
theorem dX1_findPagesOf_28 : decode cX1_findPagesOf 28 = .ok (.iconst 0, 1) := by decide +kernel
theorem dX1_findPagesOf_29 : decode cX1_findPagesOf 29 = .ok (.istore_n 2, 1) := by decide +kernel
theorem dX1_findPagesOf_30 : decode cX1_findPagesOf 30 = .ok (.iload_n 2, 1) := by decide +kernel
theorem dX1_findPagesOf_31 : decode cX1_findPagesOf 31 = .ok (.aload_n 0, 1) := by decide +kernel
theorem dX1_findPagesOf_32 : decode cX1_findPagesOf 32 = .ok (.getfield 43, 3) := by decide +kernel
theorem dX1_findPagesOf_35 : decode cX1_findPagesOf 35 = .ok (.getfield 79, 3) := by decide +kernel
theorem dX1_findPagesOf_38 : decode cX1_findPagesOf 38 = .ok (.invokevirtual 85, 3) := by decide +kernel
theorem dX1_findPagesOf_41 : decode cX1_findPagesOf 41 = .ok (.if_icmp .ge 101, 3) := by decide +kernel
theorem dX1_findPagesOf_142 : decode cX1_findPagesOf 142 = .ok (.return_, 1) := by decide +kernel
set_option maxHeartbeats 4000000 in
set_option maxRecDepth 100000 in
theorem c_findPagesOf (l : Launch) (dC : Nat → ClassId) (dI : Nat → Nat → Nat) (k : Nat → ClassId) (L : Nat) (lc : Nat) (le : Nat) (ll : Nat) (ld : Nat) (wl : Nat) (op : Nat) (dg : Nat) (T : Nat) (LN : Nat) (R : Nat) (P : Nat) (v : Int32) (bl : Nat) (pt : Nat) (fk : Nat) (fh : Nat) (ky : Nat) (pg : Nat) (p0 : Nat) (p1 : Nat) (p2 : Nat) (p3 : Nat) (p4 : Nat) (p5 : Nat) (ST : Nat) (x1 : Int32) : Ct l dC dI k yX1_findPagesOf (.code yX1_findPagesOf cX1_findPagesOf 6 none) ({ frames := 1, cells := 0, slots := 0, locals := 20 } : Room) [.ref L, .int x1] [(L, .inr (1, [.ref T, .int v, .ref LN, .ref R, .ref P, .int 0, .int 0, .ref lc, .ref le, .ref ll, .ref ld, .ref wl, .ref op, .int 1, .int 1, .int 1365, .ref dg])), (T, .inr (8, [.ref bl, .ref pt, .ref fk, .ref fh, .int 0, .ref ky, .int 60, .int 12])), (bl, .inr (11, [.int 0, .ref (dI 99 1), .int 0])), (P, .inr (4, [.ref T, .ref R, .ref pg, .ref ST, .int 0, .int 0, .ref p0, .ref p1, .ref p2, .ref p3, .ref p4, .ref p5])), (op, .inl (k 1, 967, .inl (fun _ => 0)))] (fun r w => (r = none ∧ w = [(L, .inr (1, [.ref T, .int v, .ref LN, .ref R, .ref P, .int 0, .int 0, .ref lc, .ref le, .ref ll, .ref ld, .ref wl, .ref op, .int 1, .int 1, .int 1365, .ref dg])), (P, .inr (4, [.ref T, .ref R, .ref pg, .ref ST, .int 0, .int 0, .ref p0, .ref p1, .ref p2, .ref p3, .ref p4, .ref p5]))])) := by
  refine ct_of (by decide) (Nat.le_of_ble_eq_true rfl) ?_
  intro p e s m args below meth c H locs B hr hnm ls hl
  have hx := B.1.1
  have hb := B.1.2.1
  have hl : lv_has ls 6 [(0, .ref L), (1, .int x1)] := hl
  refine lv_iconst (v := 0) hx hb dX1_findPagesOf_0 (by decide) ?_
  refine lv_istore_n (lv' := [(2, .int 0), (0, .ref L), (1, .int x1)]) hx hb dX1_findPagesOf_1 rfl hl (by decide) rfl (fun ls hl => ?_)
  refine lv_iload_n hx hb dX1_findPagesOf_2 rfl (lv_at hl 0 rfl) ?_
  refine lv_aload_n hx hb dX1_findPagesOf_3 rfl (lv_at hl 1 rfl) ?_
  refine x_get (ci := 1) (C := RX1) (T := TX1) (N := 17) (v := .ref P) B 0 rfl rfl in_X1 4 (by decide) mw_416 (fun _ h9 => h9) rfl dX1_findPagesOf_4 ?_
  refine x_get (ci := 4) (C := RX4) (T := TX4) (N := 12) (v := .int 0) B 3 rfl rfl in_X4 4 (by decide) mw_371 (fun _ h9 => h9) rfl dX1_findPagesOf_7 ?_
  refine lv_iconst (v := 1) hx hb dX1_findPagesOf_10 (by decide) ?_
  refine lv_iadd hx hb dX1_findPagesOf_11 ?_
  refine lv_seti (y := 1) (by decide) ?_
  refine lv_icmp_gt (tgt := 28) hx hb dX1_findPagesOf_12 (by decide) (fun c9 => absurd c9 (by decide)) (fun _ => ?_)
  refine lv_aload_n hx hb dX1_findPagesOf_15 rfl (lv_at hl 1 rfl) ?_
  refine x_get (ci := 1) (C := RX1) (T := TX1) (N := 17) (v := .ref op) B 0 rfl rfl in_X1 12 (by decide) mw_430 (fun _ h9 => h9) rfl dX1_findPagesOf_16 ?_
  refine lv_iload_n hx hb dX1_findPagesOf_19 rfl (lv_at hl 0 rfl) ?_
  refine lv_iconst (v := 0) hx hb dX1_findPagesOf_20 (by decide) ?_
  refine x_zast (x' := 0) B 4 rfl (by decide) (vpc (by decide)) dX1_findPagesOf_21 (j := 0) (by decide) (fun H locs B => ?_)
  have B := bd_to (ws' := [(L, .inr (1, [.ref T, .int v, .ref LN, .ref R, .ref P, .int 0, .int 0, .ref lc, .ref le, .ref ll, .ref ld, .ref wl, .ref op, .int 1, .int 1, .int 1365, .ref dg])), (T, .inr (8, [.ref bl, .ref pt, .ref fk, .ref fh, .int 0, .ref ky, .int 60, .int 12])), (bl, .inr (11, [.int 0, .ref (dI 99 1), .int 0])), (P, .inr (4, [.ref T, .ref R, .ref pg, .ref ST, .int 0, .int 0, .ref p0, .ref p1, .ref p2, .ref p3, .ref p4, .ref p5])), (op, .inl (k 1, 967, .inl (upd (fun _ => 0) 0 0)))]) rfl B
  refine lv_iinc (v := 1) (lv' := [(2, .int 1), (0, .ref L), (1, .int x1)]) hx hb dX1_findPagesOf_22 hl (k := 0) rfl (by decide) (by decide) rfl (fun ls hl => ?_)
  refine lv_goto (tgt := 2) hx hb dX1_findPagesOf_25 (by decide) ?_
  refine lv_iload_n hx hb dX1_findPagesOf_2 rfl (lv_at hl 0 rfl) ?_
  refine lv_aload_n hx hb dX1_findPagesOf_3 rfl (lv_at hl 1 rfl) ?_
  refine x_get (ci := 1) (C := RX1) (T := TX1) (N := 17) (v := .ref P) B 0 rfl rfl in_X1 4 (by decide) mw_416 (fun _ h9 => h9) rfl dX1_findPagesOf_4 ?_
  refine x_get (ci := 4) (C := RX4) (T := TX4) (N := 12) (v := .int 0) B 3 rfl rfl in_X4 4 (by decide) mw_371 (fun _ h9 => h9) rfl dX1_findPagesOf_7 ?_
  refine lv_iconst (v := 1) hx hb dX1_findPagesOf_10 (by decide) ?_
  refine lv_iadd hx hb dX1_findPagesOf_11 ?_
  refine lv_seti (y := 1) (by decide) ?_
  refine lv_icmp_gt (tgt := 28) hx hb dX1_findPagesOf_12 (by decide) (fun c9 => absurd c9 (by decide)) (fun _ => ?_)
  refine lv_aload_n hx hb dX1_findPagesOf_15 rfl (lv_at hl 1 rfl) ?_
  refine x_get (ci := 1) (C := RX1) (T := TX1) (N := 17) (v := .ref op) B 0 rfl rfl in_X1 12 (by decide) mw_430 (fun _ h9 => h9) rfl dX1_findPagesOf_16 ?_
  refine lv_iload_n hx hb dX1_findPagesOf_19 rfl (lv_at hl 0 rfl) ?_
  refine lv_iconst (v := 0) hx hb dX1_findPagesOf_20 (by decide) ?_
  refine x_zast (x' := 0) B 4 rfl (by decide) (vpc (by decide)) dX1_findPagesOf_21 (j := 1) (by decide) (fun H locs B => ?_)
  have B := bd_to (ws' := [(L, .inr (1, [.ref T, .int v, .ref LN, .ref R, .ref P, .int 0, .int 0, .ref lc, .ref le, .ref ll, .ref ld, .ref wl, .ref op, .int 1, .int 1, .int 1365, .ref dg])), (T, .inr (8, [.ref bl, .ref pt, .ref fk, .ref fh, .int 0, .ref ky, .int 60, .int 12])), (bl, .inr (11, [.int 0, .ref (dI 99 1), .int 0])), (P, .inr (4, [.ref T, .ref R, .ref pg, .ref ST, .int 0, .int 0, .ref p0, .ref p1, .ref p2, .ref p3, .ref p4, .ref p5])), (op, .inl (k 1, 967, .inl (upd (upd (fun _ => 0) 0 0) 1 0)))]) rfl B
  refine lv_iinc (v := 2) (lv' := [(2, .int 2), (0, .ref L), (1, .int x1)]) hx hb dX1_findPagesOf_22 hl (k := 0) rfl (by decide) (by decide) rfl (fun ls hl => ?_)
  refine lv_goto (tgt := 2) hx hb dX1_findPagesOf_25 (by decide) ?_
  refine lv_iload_n hx hb dX1_findPagesOf_2 rfl (lv_at hl 0 rfl) ?_
  refine lv_aload_n hx hb dX1_findPagesOf_3 rfl (lv_at hl 1 rfl) ?_
  refine x_get (ci := 1) (C := RX1) (T := TX1) (N := 17) (v := .ref P) B 0 rfl rfl in_X1 4 (by decide) mw_416 (fun _ h9 => h9) rfl dX1_findPagesOf_4 ?_
  refine x_get (ci := 4) (C := RX4) (T := TX4) (N := 12) (v := .int 0) B 3 rfl rfl in_X4 4 (by decide) mw_371 (fun _ h9 => h9) rfl dX1_findPagesOf_7 ?_
  refine lv_iconst (v := 1) hx hb dX1_findPagesOf_10 (by decide) ?_
  refine lv_iadd hx hb dX1_findPagesOf_11 ?_
  refine lv_seti (y := 1) (by decide) ?_
  refine lv_icmp_gt (tgt := 28) hx hb dX1_findPagesOf_12 (by decide) (fun _ => ?_) (fun c9 => absurd (by decide) c9)
  refine lv_iconst (v := 0) hx hb dX1_findPagesOf_28 (by decide) ?_
  refine lv_istore_n (lv' := [(2, .int 0), (0, .ref L), (1, .int x1)]) hx hb dX1_findPagesOf_29 rfl hl (by decide) rfl (fun ls hl => ?_)
  refine lv_iload_n hx hb dX1_findPagesOf_30 rfl (lv_at hl 0 rfl) ?_
  refine lv_aload_n hx hb dX1_findPagesOf_31 rfl (lv_at hl 1 rfl) ?_
  refine x_get (ci := 1) (C := RX1) (T := TX1) (N := 17) (v := .ref T) B 0 rfl rfl in_X1 0 (by decide) mw_411 (fun _ h9 => h9) rfl dX1_findPagesOf_32 ?_
  refine x_get (ci := 8) (C := RX9) (T := TX9) (N := 8) (v := .ref bl) B 1 rfl rfl in_X9 0 (by decide) mw_78 (fun _ h9 => h9) rfl dX1_findPagesOf_35 ?_
  refine x_callV (rest := [.int 0]) (wr := [(L, .inr (1, [.ref T, .int v, .ref LN, .ref R, .ref P, .int 0, .int 0, .ref lc, .ref le, .ref ll, .ref ld, .ref wl, .ref op, .int 1, .int 1, .int 1365, .ref dg])), (T, .inr (8, [.ref bl, .ref pt, .ref fk, .ref fh, .int 0, .ref ky, .int 60, .int 12])), (P, .inr (4, [.ref T, .ref R, .ref pg, .ref ST, .int 0, .int 0, .ref p0, .ref p1, .ref p2, .ref p3, .ref p4, .ref p5])), (op, .inl (k 1, 967, .inl (upd (upd (fun _ => 0) 0 0) 1 0)))]) (c_size l dC dI k bl (dI 99 1) 0 0) B mV_Jx4a65c_size_8abf5 mw_1374 hl [2] [0, 1, 3, 4] rfl rfl ⟨by decide, by decide⟩ (by decide) (q0 := 0) rfl rfl rfl ⟨Nat.le_of_ble_eq_true rfl, Nat.le_of_ble_eq_true rfl⟩ (Nat.le_of_ble_eq_true rfl) rfl dX1_findPagesOf_38 ⟨Nat.le_of_ble_eq_true rfl, Nat.le_of_ble_eq_true rfl⟩ (fun r w H locs hp B => ?_)
  obtain ⟨rfl, rfl⟩ := hp
  have B := bd_to (ws' := [(L, .inr (1, [.ref T, .int v, .ref LN, .ref R, .ref P, .int 0, .int 0, .ref lc, .ref le, .ref ll, .ref ld, .ref wl, .ref op, .int 1, .int 1, .int 1365, .ref dg])), (T, .inr (8, [.ref bl, .ref pt, .ref fk, .ref fh, .int 0, .ref ky, .int 60, .int 12])), (P, .inr (4, [.ref T, .ref R, .ref pg, .ref ST, .int 0, .int 0, .ref p0, .ref p1, .ref p2, .ref p3, .ref p4, .ref p5])), (op, .inl (k 1, 967, .inl (upd (upd (fun _ => 0) 0 0) 1 0))), (bl, .inr (11, [.int 0, .ref (dI 99 1), .int 0]))]) rfl B
  refine lv_icmp_ge (tgt := 142) hx hb dX1_findPagesOf_41 (by decide) (fun _ => ?_) (fun c9 => absurd (by decide) c9)
  have B := bd_sub (ws' := [(L, .inr (1, [.ref T, .int v, .ref LN, .ref R, .ref P, .int 0, .int 0, .ref lc, .ref le, .ref ll, .ref ld, .ref wl, .ref op, .int 1, .int 1, .int 1365, .ref dg])), (P, .inr (4, [.ref T, .ref R, .ref pg, .ref ST, .int 0, .int 0, .ref p0, .ref p1, .ref p2, .ref p3, .ref p4, .ref p5]))]) [0, 2] (by decide) rfl B
  exact x_vret B hr (⟨rfl, rfl⟩) (Nat.le_of_ble_eq_true rfl) (Nat.le_of_ble_eq_true rfl) dX1_findPagesOf_142

theorem mw_1852 : (Jvm.Cond.methodLink "Galleyforge$Layout" (193 : Nat) ({ cls := "Galleyforge$Layout", name := "findPagesOf", desc := "(I)V" } : Jvm.MethodName)) ∈ gt := gt_at 1987 (by decide +kernel) (by decide +kernel)
theorem mw_1854 : (Jvm.Cond.instanceMethod ({ cls := "Galleyforge$Layout", name := "findPagesOf", desc := "(I)V" } : Jvm.MethodName)) ∈ gt := gt_at 1989 (by decide +kernel) (by decide +kernel)
theorem mw_1855 : (Jvm.Cond.code ({ cls := "Galleyforge$Layout", name := "findPagesOf", desc := "(I)V" } : Jvm.MethodName) prog_3_method_18_code (6 : Nat) (Option.none : Option Jvm.ClassFile.FieldType)) ∈ gt := gt_at 1990 (by decide +kernel) (by decide +kernel)
theorem ms_69 : Cond.selects "Galleyforge$Layout" (⟨"Galleyforge$Layout", "findPagesOf", "(I)V"⟩ : MethodName) (⟨"Galleyforge$Layout", "findPagesOf", "(I)V"⟩ : MethodName) ∈ gt := gt_at 69 (by decide +kernel) (by decide +kernel)
theorem mV_X1_findPagesOf : mV yX1_findPagesOf cX1_findPagesOf 6 none 1 := ⟨⟨mw_1855, mw_8, by decide, by decide, by decide +kernel⟩, mw_1854, ms_69⟩
theorem dX1_rangeOf_0 : decode cX1_rangeOf 0 = .ok (.aload_n 0, 1) := by decide +kernel
theorem dX1_rangeOf_1 : decode cX1_rangeOf 1 = .ok (.iload_n 1, 1) := by decide +kernel
theorem dX1_rangeOf_2 : decode cX1_rangeOf 2 = .ok (.invokevirtual 193, 3) := by decide +kernel
theorem dX1_rangeOf_5 : decode cX1_rangeOf 5 = .ok (.iconst 0, 1) := by decide +kernel
theorem dX1_rangeOf_6 : decode cX1_rangeOf 6 = .ok (.istore_n 3, 1) := by decide +kernel
theorem dX1_rangeOf_7 : decode cX1_rangeOf 7 = .ok (.iconst 0, 1) := by decide +kernel
theorem dX1_rangeOf_8 : decode cX1_rangeOf 8 = .ok (.istore 4, 2) := by decide +kernel
theorem dX1_rangeOf_10 : decode cX1_rangeOf 10 = .ok (.iconst 1, 1) := by decide +kernel
theorem dX1_rangeOf_11 : decode cX1_rangeOf 11 = .ok (.istore 5, 2) := by decide +kernel
theorem dX1_rangeOf_13 : decode cX1_rangeOf 13 = .ok (.iload 5, 2) := by decide +kernel
theorem dX1_rangeOf_15 : decode cX1_rangeOf 15 = .ok (.aload_n 0, 1) := by decide +kernel
theorem dX1_rangeOf_16 : decode cX1_rangeOf 16 = .ok (.getfield 66, 3) := by decide +kernel
theorem dX1_rangeOf_19 : decode cX1_rangeOf 19 = .ok (.getfield 196, 3) := by decide +kernel
theorem dX1_rangeOf_22 : decode cX1_rangeOf 22 = .ok (.if_icmp .gt 68, 3) := by decide +kernel
theorem dX1_rangeOf_90 : decode cX1_rangeOf 90 = .ok (.iconst (-1), 1) := by decide +kernel
theorem dX1_rangeOf_91 : decode cX1_rangeOf 91 = .ok (.ireturn, 1) := by decide +kernel
set_option maxHeartbeats 4000000 in
set_option maxRecDepth 100000 in
theorem c_rangeOf (l : Launch) (dC : Nat → ClassId) (dI : Nat → Nat → Nat) (k : Nat → ClassId) (L : Nat) (lc : Nat) (le : Nat) (ll : Nat) (ld : Nat) (wl : Nat) (op : Nat) (dg : Nat) (T : Nat) (LN : Nat) (R : Nat) (P : Nat) (v : Int32) (bl : Nat) (pt : Nat) (fk : Nat) (fh : Nat) (ky : Nat) (pg : Nat) (p0 : Nat) (p1 : Nat) (p2 : Nat) (p3 : Nat) (p4 : Nat) (p5 : Nat) (ST : Nat) (x1 : Int32) (x2 : Int32) : Ct l dC dI k yX1_rangeOf (.code yX1_rangeOf cX1_rangeOf 6 (some .int)) ({ frames := 2, cells := 0, slots := 0, locals := 45 } : Room) [.ref L, .int x1, .int x2] [(L, .inr (1, [.ref T, .int v, .ref LN, .ref R, .ref P, .int 0, .int 0, .ref lc, .ref le, .ref ll, .ref ld, .ref wl, .ref op, .int 1, .int 1, .int 1365, .ref dg])), (T, .inr (8, [.ref bl, .ref pt, .ref fk, .ref fh, .int 0, .ref ky, .int 60, .int 12])), (bl, .inr (11, [.int 0, .ref (dI 99 1), .int 0])), (P, .inr (4, [.ref T, .ref R, .ref pg, .ref ST, .int 0, .int 0, .ref p0, .ref p1, .ref p2, .ref p3, .ref p4, .ref p5])), (op, .inl (k 1, 967, .inl (fun _ => 0)))] (fun r w => (r = some (.int (-1)) ∧ w = [])) := by
  refine ct_of (by decide) (Nat.le_of_ble_eq_true rfl) ?_
  intro p e s m args below meth c H locs B hr hnm ls hl
  have hx := B.1.1
  have hb := B.1.2.1
  have hl : lv_has ls 6 [(0, .ref L), (1, .int x1), (2, .int x2)] := hl
  refine lv_aload_n hx hb dX1_rangeOf_0 rfl (lv_at hl 0 rfl) ?_
  refine lv_iload_n hx hb dX1_rangeOf_1 rfl (lv_at hl 1 rfl) ?_
  refine x_callV (rest := []) (wr := []) (c_findPagesOf l dC dI k L lc le ll ld wl op dg T LN R P v bl pt fk fh ky pg p0 p1 p2 p3 p4 p5 ST x1) B mV_X1_findPagesOf mw_1852 hl [0, 1, 2, 3, 4] [] rfl rfl ⟨by decide, by decide⟩ (by decide) (q0 := 0) rfl rfl rfl ⟨Nat.le_of_ble_eq_true rfl, Nat.le_of_ble_eq_true rfl⟩ (Nat.le_of_ble_eq_true rfl) rfl dX1_rangeOf_2 ⟨Nat.le_of_ble_eq_true rfl, Nat.le_of_ble_eq_true rfl⟩ (fun r w H locs hp B => ?_)
  obtain ⟨rfl, rfl⟩ := hp
  have B := bd_to (ws' := [(L, .inr (1, [.ref T, .int v, .ref LN, .ref R, .ref P, .int 0, .int 0, .ref lc, .ref le, .ref ll, .ref ld, .ref wl, .ref op, .int 1, .int 1, .int 1365, .ref dg])), (P, .inr (4, [.ref T, .ref R, .ref pg, .ref ST, .int 0, .int 0, .ref p0, .ref p1, .ref p2, .ref p3, .ref p4, .ref p5]))]) rfl B
  refine lv_iconst (v := 0) hx hb dX1_rangeOf_5 (by decide) ?_
  refine lv_istore_n (lv' := [(3, .int 0), (0, .ref L), (1, .int x1), (2, .int x2)]) hx hb dX1_rangeOf_6 rfl hl (by decide) rfl (fun ls hl => ?_)
  refine lv_iconst (v := 0) hx hb dX1_rangeOf_7 (by decide) ?_
  refine lv_istore (lv' := [(4, .int 0), (3, .int 0), (0, .ref L), (1, .int x1), (2, .int x2)]) hx hb dX1_rangeOf_8 hl (by decide) rfl (fun ls hl => ?_)
  refine lv_iconst (v := 1) hx hb dX1_rangeOf_10 (by decide) ?_
  refine lv_istore (lv' := [(5, .int 1), (4, .int 0), (3, .int 0), (0, .ref L), (1, .int x1), (2, .int x2)]) hx hb dX1_rangeOf_11 hl (by decide) rfl (fun ls hl => ?_)
  refine lv_iload hx hb dX1_rangeOf_13 (lv_at hl 0 rfl) ?_
  refine lv_aload_n hx hb dX1_rangeOf_15 rfl (lv_at hl 3 rfl) ?_
  refine x_get (ci := 1) (C := RX1) (T := TX1) (N := 17) (v := .ref P) B 0 rfl rfl in_X1 4 (by decide) mw_416 (fun _ h9 => h9) rfl dX1_rangeOf_16 ?_
  refine x_get (ci := 4) (C := RX4) (T := TX4) (N := 12) (v := .int 0) B 1 rfl rfl in_X4 4 (by decide) mw_371 (fun _ h9 => h9) rfl dX1_rangeOf_19 ?_
  refine lv_icmp_gt (tgt := 90) hx hb dX1_rangeOf_22 (by decide) (fun _ => ?_) (fun c9 => absurd (by decide) c9)
  refine lv_iconst (v := (-1)) hx hb dX1_rangeOf_90 (by decide) ?_
  have B := bd_sub (ws' := []) [] (by decide) rfl B
  exact x_iret B hr (⟨rfl, rfl⟩) (Nat.le_of_ble_eq_true rfl) (Nat.le_of_ble_eq_true rfl) dX1_rangeOf_91

theorem mw_1260 : (Jvm.Cond.methodLink "Galleyforge" (224 : Nat) ({ cls := "Galleyforge", name := "checkTerm", desc := "(I)V" } : Jvm.MethodName)) ∈ gt := gt_at 1395 (by decide +kernel) (by decide +kernel)
theorem mw_1261 : (Jvm.Cond.static ({ cls := "Galleyforge", name := "checkTerm", desc := "(I)V" } : Jvm.MethodName)) ∈ gt := gt_at 1396 (by decide +kernel) (by decide +kernel)
theorem mw_1262 : (Jvm.Cond.code ({ cls := "Galleyforge", name := "checkTerm", desc := "(I)V" } : Jvm.MethodName) prog_1_method_43_code (1 : Nat) (Option.none : Option Jvm.ClassFile.FieldType)) ∈ gt := gt_at 1397 (by decide +kernel) (by decide +kernel)
theorem mw_1848 : (Jvm.Cond.methodLink "Galleyforge" (383 : Nat) ({ cls := "Galleyforge$Layout", name := "rangeOf", desc := "(II)I" } : Jvm.MethodName)) ∈ gt := gt_at 1983 (by decide +kernel) (by decide +kernel)
theorem mw_1849 : (Jvm.Cond.instanceMethod ({ cls := "Galleyforge$Layout", name := "rangeOf", desc := "(II)I" } : Jvm.MethodName)) ∈ gt := gt_at 1984 (by decide +kernel) (by decide +kernel)
theorem mw_1850 : (Jvm.Cond.selects "Galleyforge$Layout" ({ cls := "Galleyforge$Layout", name := "rangeOf", desc := "(II)I" } : Jvm.MethodName) ({ cls := "Galleyforge$Layout", name := "rangeOf", desc := "(II)I" } : Jvm.MethodName)) ∈ gt := gt_at 1985 (by decide +kernel) (by decide +kernel)
theorem mw_1851 : (Jvm.Cond.code ({ cls := "Galleyforge$Layout", name := "rangeOf", desc := "(II)I" } : Jvm.MethodName) prog_3_method_17_code (6 : Nat) (Option.some Jvm.ClassFile.FieldType.int)) ∈ gt := gt_at 1986 (by decide +kernel) (by decide +kernel)
theorem mS_X11_checkTerm : mS yX11_checkTerm cX11_checkTerm 1 none 1 := ⟨⟨mw_1262, mw_1, by decide, by decide, by decide +kernel⟩, mw_1261⟩
theorem mV_X1_rangeOf : mV yX1_rangeOf cX1_rangeOf 6 (some .int) 2 := ⟨⟨mw_1851, mw_8, by decide, by decide, by decide +kernel⟩, mw_1849, mw_1850⟩
theorem dX11_range_0 : decode cX11_range 0 = .ok (.iload_n 1, 1) := by decide +kernel
theorem dX11_range_1 : decode cX11_range 1 = .ok (.invokestatic 238, 3) := by decide +kernel
theorem dX11_range_4 : decode cX11_range 4 = .ok (.iload_n 2, 1) := by decide +kernel
theorem dX11_range_5 : decode cX11_range 5 = .ok (.invokestatic 224, 3) := by decide +kernel
theorem dX11_range_8 : decode cX11_range 8 = .ok (.aload_n 0, 1) := by decide +kernel
theorem dX11_range_9 : decode cX11_range 9 = .ok (.iload_n 1, 1) := by decide +kernel
theorem dX11_range_10 : decode cX11_range 10 = .ok (.invokevirtual 279, 3) := by decide +kernel
theorem dX11_range_13 : decode cX11_range 13 = .ok (.iload_n 2, 1) := by decide +kernel
theorem dX11_range_14 : decode cX11_range 14 = .ok (.iload_n 3, 1) := by decide +kernel
theorem dX11_range_15 : decode cX11_range 15 = .ok (.invokevirtual 383, 3) := by decide +kernel
theorem dX11_range_18 : decode cX11_range 18 = .ok (.istore 4, 2) := by decide +kernel
theorem dX11_range_20 : decode cX11_range 20 = .ok (.iload 4, 2) := by decide +kernel
theorem dX11_range_22 : decode cX11_range 22 = .ok (.iconst (-1), 1) := by decide +kernel
theorem dX11_range_23 : decode cX11_range 23 = .ok (.if_icmp .ne 14, 3) := by decide +kernel
theorem dX11_range_26 : decode cX11_range 26 = .ok (.new 47, 3) := by decide +kernel
theorem dX11_range_29 : decode cX11_range 29 = .ok (.dup, 1) := by decide +kernel
theorem dX11_range_30 : decode cX11_range 30 = .ok (.ldc_w 386, 3) := by decide +kernel
theorem dX11_range_33 : decode cX11_range 33 = .ok (.invokespecial 51, 3) := by decide +kernel
theorem dX11_range_36 : decode cX11_range 36 = .ok (.athrow, 1) := by decide +kernel
set_option maxHeartbeats 4000000 in
set_option maxRecDepth 100000 in
theorem c_range (l : Launch) (dC : Nat → ClassId) (dI : Nat → Nat → Nat) (k : Nat → ClassId) (hl0 : l.stackTraces = false) (gx : Nat) (T : Nat) (LA : Nat) (sp : Nat) (dr : Nat) (bl : Nat) (pt : Nat) (fk : Nat) (fh : Nat) (ky : Nat) (LN : Nat) (ST : Nat) (L0 : Nat) (lc0 : Nat) (le0 : Nat) (ll0 : Nat) (ld0 : Nat) (wl0 : Nat) (op0 : Nat) (dg0 : Nat) (L1 : Nat) (lc1 : Nat) (le1 : Nat) (ll1 : Nat) (ld1 : Nat) (wl1 : Nat) (op1 : Nat) (dg1 : Nat) (R0 : Nat) (r00 : Nat) (r10 : Nat) (r20 : Nat) (r30 : Nat) (r40 : Nat) (r50 : Nat) (r60 : Nat) (r70 : Nat) (wr0 : Nat) (lr0 : Nat) (tt0 : Nat) (fr0 : Nat) (r80 : Nat) (r90 : Nat) (R1 : Nat) (r01 : Nat) (r11 : Nat) (r21 : Nat) (r31 : Nat) (r41 : Nat) (r51 : Nat) (r61 : Nat) (r71 : Nat) (wr1 : Nat) (lr1 : Nat) (tt1 : Nat) (fr1 : Nat) (r81 : Nat) (r91 : Nat) (P0 : Nat) (pg0 : Nat) (p00 : Nat) (p10 : Nat) (p20 : Nat) (p30 : Nat) (p40 : Nat) (p50 : Nat) (P1 : Nat) (pg1 : Nat) (p01 : Nat) (p11 : Nat) (p21 : Nat) (p31 : Nat) (p41 : Nat) (p51 : Nat) (v : Int32) (x1 : Int32) (x2 : Int32) : Xt l dC dI k yX11_range (.code yX11_range cX11_range 5 (some .int)) ({ frames := 8, cells := 4, slots := 24, locals := 125 } : Room) [.ref gx, .int v, .int x1, .int x2] [(gx, .inr (9, [.ref T, .ref LA, .ref sp, .int 0, .ref dr])), (LA, .inl (k 3, 2, .inr (.inr (.inr (.inr (va_up (va_up (fun _ => none) 0 (some L0)) 1 (some L1))))))), (T, .inr (8, [.ref bl, .ref pt, .ref fk, .ref fh, .int 0, .ref ky, .int 60, .int 12])), (bl, .inr (11, [.int 0, .ref (dI 99 1), .int 0])), (L0, .inr (1, [.ref T, .int 0, .ref LN, .ref R0, .ref P0, .int 1, .int 0, .ref lc0, .ref le0, .ref ll0, .ref ld0, .ref wl0, .ref op0, .int 0, .int 0, .int 1365, .ref dg0])), (dg0, .inl (k 0, 730, .inl (fun _ => 0))), (R0, .inr (5, [.int 0, .ref r00, .ref r10, .ref r20, .ref r30, .ref r40, .ref r50, .ref r60, .ref r70, .ref wr0, .ref lr0, .ref tt0, .int 0, .int 0, .ref fr0, .ref r80, .ref r90, .int 0])), (wr0, .inl (k 0, 192, .inl (fun _ => 0))), (lr0, .inl (k 0, 6, .inl (fun _ => 0))), (tt0, .inl (k 1, 8, .inl (fun _ => 0))), (fr0, .inl (k 0, 5, .inl (fun _ => 0))), (P0, .inr (4, [.ref T, .ref R0, .ref pg0, .ref ST, .int 0, .int 0, .ref p00, .ref p10, .ref p20, .ref p30, .ref p40, .ref p50])), (p50, .inl (k 0, 5, .inl (fun _ => 0))), (L1, .inr (1, [.ref T, .int 1, .ref LN, .ref R1, .ref P1, .int 1, .int 0, .ref lc1, .ref le1, .ref ll1, .ref ld1, .ref wl1, .ref op1, .int 0, .int 0, .int 1365, .ref dg1])), (dg1, .inl (k 0, 730, .inl (fun _ => 0))), (R1, .inr (5, [.int 0, .ref r01, .ref r11, .ref r21, .ref r31, .ref r41, .ref r51, .ref r61, .ref r71, .ref wr1, .ref lr1, .ref tt1, .int 0, .int 0, .ref fr1, .ref r81, .ref r91, .int 0])), (wr1, .inl (k 0, 192, .inl (fun _ => 0))), (lr1, .inl (k 0, 6, .inl (fun _ => 0))), (tt1, .inl (k 1, 8, .inl (fun _ => 0))), (fr1, .inl (k 0, 5, .inl (fun _ => 0))), (P1, .inr (4, [.ref T, .ref R1, .ref pg1, .ref ST, .int 0, .int 0, .ref p01, .ref p11, .ref p21, .ref p31, .ref p41, .ref p51])), (p51, .inl (k 0, 5, .inl (fun _ => 0))), (op0, .inl (k 1, 967, .inl (fun _ => 0))), (op1, .inl (k 1, 967, .inl (fun _ => 0)))] (fun r w => False) (fun E => (E = "java/lang/IndexOutOfBoundsException")) := by
  refine xt_of (by decide) (Nat.le_of_ble_eq_true rfl) ?_
  intro p e s m args below meth c H locs B hr hex ls hl
  have hx := B.1.1
  have hb := B.1.2.1
  have hl : lv_has ls 5 [(0, .ref gx), (1, .int v), (2, .int x1), (3, .int x2)] := hl
  refine lv_iload_n hx hb dX11_range_0 rfl (lv_at hl 1 rfl) ?_
  refine x_callSx (rest := []) (wr := [(gx, .inr (9, [.ref T, .ref LA, .ref sp, .int 0, .ref dr])), (LA, .inl (k 3, 2, .inr (.inr (.inr (.inr (va_up (va_up (fun _ => none) 0 (some L0)) 1 (some L1))))))), (T, .inr (8, [.ref bl, .ref pt, .ref fk, .ref fh, .int 0, .ref ky, .int 60, .int 12])), (bl, .inr (11, [.int 0, .ref (dI 99 1), .int 0])), (L0, .inr (1, [.ref T, .int 0, .ref LN, .ref R0, .ref P0, .int 1, .int 0, .ref lc0, .ref le0, .ref ll0, .ref ld0, .ref wl0, .ref op0, .int 0, .int 0, .int 1365, .ref dg0])), (dg0, .inl (k 0, 730, .inl (fun _ => 0))), (R0, .inr (5, [.int 0, .ref r00, .ref r10, .ref r20, .ref r30, .ref r40, .ref r50, .ref r60, .ref r70, .ref wr0, .ref lr0, .ref tt0, .int 0, .int 0, .ref fr0, .ref r80, .ref r90, .int 0])), (wr0, .inl (k 0, 192, .inl (fun _ => 0))), (lr0, .inl (k 0, 6, .inl (fun _ => 0))), (tt0, .inl (k 1, 8, .inl (fun _ => 0))), (fr0, .inl (k 0, 5, .inl (fun _ => 0))), (P0, .inr (4, [.ref T, .ref R0, .ref pg0, .ref ST, .int 0, .int 0, .ref p00, .ref p10, .ref p20, .ref p30, .ref p40, .ref p50])), (p50, .inl (k 0, 5, .inl (fun _ => 0))), (L1, .inr (1, [.ref T, .int 1, .ref LN, .ref R1, .ref P1, .int 1, .int 0, .ref lc1, .ref le1, .ref ll1, .ref ld1, .ref wl1, .ref op1, .int 0, .int 0, .int 1365, .ref dg1])), (dg1, .inl (k 0, 730, .inl (fun _ => 0))), (R1, .inr (5, [.int 0, .ref r01, .ref r11, .ref r21, .ref r31, .ref r41, .ref r51, .ref r61, .ref r71, .ref wr1, .ref lr1, .ref tt1, .int 0, .int 0, .ref fr1, .ref r81, .ref r91, .int 0])), (wr1, .inl (k 0, 192, .inl (fun _ => 0))), (lr1, .inl (k 0, 6, .inl (fun _ => 0))), (tt1, .inl (k 1, 8, .inl (fun _ => 0))), (fr1, .inl (k 0, 5, .inl (fun _ => 0))), (P1, .inr (4, [.ref T, .ref R1, .ref pg1, .ref ST, .int 0, .int 0, .ref p01, .ref p11, .ref p21, .ref p31, .ref p41, .ref p51])), (p51, .inl (k 0, 5, .inl (fun _ => 0))), (op0, .inl (k 1, 967, .inl (fun _ => 0))), (op1, .inl (k 1, 967, .inl (fun _ => 0)))]) (c_checkVariant l dC dI k hl0 v) B mS_X11_checkVariant mw_1286 hl [] [0, 1, 2, 3, 4, 5, 6, 7, 8, 9, 10, 11, 12, 13, 14, 15, 16, 17, 18, 19, 20, 21, 22, 23] rfl rfl ⟨by decide, by decide⟩ (by decide) ⟨Nat.le_of_ble_eq_true rfl, Nat.le_of_ble_eq_true rfl⟩ (Nat.le_of_ble_eq_true rfl) rfl dX11_range_1 ⟨Nat.le_of_ble_eq_true rfl, Nat.le_of_ble_eq_true rfl⟩ (fun E ce q9 H locs hp B h1 h2 h3 => ?_) (fun r w H locs hp B => ?_)
  · rcases hp with ⟨z0_0, rfl⟩
    exact x_out hex (rfl) B h1 h2 h3 (Nat.le_of_ble_eq_true rfl) (Nat.le_of_ble_eq_true rfl)
  · skip
    obtain ⟨z_2, rfl, rfl⟩ := hp
    have B := bd_to (ws' := [(gx, .inr (9, [.ref T, .ref LA, .ref sp, .int 0, .ref dr])), (LA, .inl (k 3, 2, .inr (.inr (.inr (.inr (va_up (va_up (fun _ => none) 0 (some L0)) 1 (some L1))))))), (T, .inr (8, [.ref bl, .ref pt, .ref fk, .ref fh, .int 0, .ref ky, .int 60, .int 12])), (bl, .inr (11, [.int 0, .ref (dI 99 1), .int 0])), (L0, .inr (1, [.ref T, .int 0, .ref LN, .ref R0, .ref P0, .int 1, .int 0, .ref lc0, .ref le0, .ref ll0, .ref ld0, .ref wl0, .ref op0, .int 0, .int 0, .int 1365, .ref dg0])), (dg0, .inl (k 0, 730, .inl (fun _ => 0))), (R0, .inr (5, [.int 0, .ref r00, .ref r10, .ref r20, .ref r30, .ref r40, .ref r50, .ref r60, .ref r70, .ref wr0, .ref lr0, .ref tt0, .int 0, .int 0, .ref fr0, .ref r80, .ref r90, .int 0])), (wr0, .inl (k 0, 192, .inl (fun _ => 0))), (lr0, .inl (k 0, 6, .inl (fun _ => 0))), (tt0, .inl (k 1, 8, .inl (fun _ => 0))), (fr0, .inl (k 0, 5, .inl (fun _ => 0))), (P0, .inr (4, [.ref T, .ref R0, .ref pg0, .ref ST, .int 0, .int 0, .ref p00, .ref p10, .ref p20, .ref p30, .ref p40, .ref p50])), (p50, .inl (k 0, 5, .inl (fun _ => 0))), (L1, .inr (1, [.ref T, .int 1, .ref LN, .ref R1, .ref P1, .int 1, .int 0, .ref lc1, .ref le1, .ref ll1, .ref ld1, .ref wl1, .ref op1, .int 0, .int 0, .int 1365, .ref dg1])), (dg1, .inl (k 0, 730, .inl (fun _ => 0))), (R1, .inr (5, [.int 0, .ref r01, .ref r11, .ref r21, .ref r31, .ref r41, .ref r51, .ref r61, .ref r71, .ref wr1, .ref lr1, .ref tt1, .int 0, .int 0, .ref fr1, .ref r81, .ref r91, .int 0])), (wr1, .inl (k 0, 192, .inl (fun _ => 0))), (lr1, .inl (k 0, 6, .inl (fun _ => 0))), (tt1, .inl (k 1, 8, .inl (fun _ => 0))), (fr1, .inl (k 0, 5, .inl (fun _ => 0))), (P1, .inr (4, [.ref T, .ref R1, .ref pg1, .ref ST, .int 0, .int 0, .ref p01, .ref p11, .ref p21, .ref p31, .ref p41, .ref p51])), (p51, .inl (k 0, 5, .inl (fun _ => 0))), (op0, .inl (k 1, 967, .inl (fun _ => 0))), (op1, .inl (k 1, 967, .inl (fun _ => 0)))]) rfl B
    refine lv_iload_n hx hb dX11_range_4 rfl (lv_at hl 2 rfl) ?_
    refine x_callSx (rest := []) (wr := [(gx, .inr (9, [.ref T, .ref LA, .ref sp, .int 0, .ref dr])), (LA, .inl (k 3, 2, .inr (.inr (.inr (.inr (va_up (va_up (fun _ => none) 0 (some L0)) 1 (some L1))))))), (T, .inr (8, [.ref bl, .ref pt, .ref fk, .ref fh, .int 0, .ref ky, .int 60, .int 12])), (bl, .inr (11, [.int 0, .ref (dI 99 1), .int 0])), (L0, .inr (1, [.ref T, .int 0, .ref LN, .ref R0, .ref P0, .int 1, .int 0, .ref lc0, .ref le0, .ref ll0, .ref ld0, .ref wl0, .ref op0, .int 0, .int 0, .int 1365, .ref dg0])), (dg0, .inl (k 0, 730, .inl (fun _ => 0))), (R0, .inr (5, [.int 0, .ref r00, .ref r10, .ref r20, .ref r30, .ref r40, .ref r50, .ref r60, .ref r70, .ref wr0, .ref lr0, .ref tt0, .int 0, .int 0, .ref fr0, .ref r80, .ref r90, .int 0])), (wr0, .inl (k 0, 192, .inl (fun _ => 0))), (lr0, .inl (k 0, 6, .inl (fun _ => 0))), (tt0, .inl (k 1, 8, .inl (fun _ => 0))), (fr0, .inl (k 0, 5, .inl (fun _ => 0))), (P0, .inr (4, [.ref T, .ref R0, .ref pg0, .ref ST, .int 0, .int 0, .ref p00, .ref p10, .ref p20, .ref p30, .ref p40, .ref p50])), (p50, .inl (k 0, 5, .inl (fun _ => 0))), (L1, .inr (1, [.ref T, .int 1, .ref LN, .ref R1, .ref P1, .int 1, .int 0, .ref lc1, .ref le1, .ref ll1, .ref ld1, .ref wl1, .ref op1, .int 0, .int 0, .int 1365, .ref dg1])), (dg1, .inl (k 0, 730, .inl (fun _ => 0))), (R1, .inr (5, [.int 0, .ref r01, .ref r11, .ref r21, .ref r31, .ref r41, .ref r51, .ref r61, .ref r71, .ref wr1, .ref lr1, .ref tt1, .int 0, .int 0, .ref fr1, .ref r81, .ref r91, .int 0])), (wr1, .inl (k 0, 192, .inl (fun _ => 0))), (lr1, .inl (k 0, 6, .inl (fun _ => 0))), (tt1, .inl (k 1, 8, .inl (fun _ => 0))), (fr1, .inl (k 0, 5, .inl (fun _ => 0))), (P1, .inr (4, [.ref T, .ref R1, .ref pg1, .ref ST, .int 0, .int 0, .ref p01, .ref p11, .ref p21, .ref p31, .ref p41, .ref p51])), (p51, .inl (k 0, 5, .inl (fun _ => 0))), (op0, .inl (k 1, 967, .inl (fun _ => 0))), (op1, .inl (k 1, 967, .inl (fun _ => 0)))]) (c_checkTerm l dC dI k hl0 x1) B mS_X11_checkTerm mw_1260 hl [] [0, 1, 2, 3, 4, 5, 6, 7, 8, 9, 10, 11, 12, 13, 14, 15, 16, 17, 18, 19, 20, 21, 22, 23] rfl rfl ⟨by decide, by decide⟩ (by decide) ⟨Nat.le_of_ble_eq_true rfl, Nat.le_of_ble_eq_true rfl⟩ (Nat.le_of_ble_eq_true rfl) rfl dX11_range_5 ⟨Nat.le_of_ble_eq_true rfl, Nat.le_of_ble_eq_true rfl⟩ (fun E ce q9 H locs hp B h1 h2 h3 => ?_) (fun r w H locs hp B => ?_)
    · rcases hp with ⟨z2_0, rfl⟩
      exact x_out hex (rfl) B h1 h2 h3 (Nat.le_of_ble_eq_true rfl) (Nat.le_of_ble_eq_true rfl)
    · skip
      obtain ⟨z_4, rfl, rfl⟩ := hp
      have B := bd_to (ws' := [(gx, .inr (9, [.ref T, .ref LA, .ref sp, .int 0, .ref dr])), (LA, .inl (k 3, 2, .inr (.inr (.inr (.inr (va_up (va_up (fun _ => none) 0 (some L0)) 1 (some L1))))))), (T, .inr (8, [.ref bl, .ref pt, .ref fk, .ref fh, .int 0, .ref ky, .int 60, .int 12])), (bl, .inr (11, [.int 0, .ref (dI 99 1), .int 0])), (L0, .inr (1, [.ref T, .int 0, .ref LN, .ref R0, .ref P0, .int 1, .int 0, .ref lc0, .ref le0, .ref ll0, .ref ld0, .ref wl0, .ref op0, .int 0, .int 0, .int 1365, .ref dg0])), (dg0, .inl (k 0, 730, .inl (fun _ => 0))), (R0, .inr (5, [.int 0, .ref r00, .ref r10, .ref r20, .ref r30, .ref r40, .ref r50, .ref r60, .ref r70, .ref wr0, .ref lr0, .ref tt0, .int 0, .int 0, .ref fr0, .ref r80, .ref r90, .int 0])), (wr0, .inl (k 0, 192, .inl (fun _ => 0))), (lr0, .inl (k 0, 6, .inl (fun _ => 0))), (tt0, .inl (k 1, 8, .inl (fun _ => 0))), (fr0, .inl (k 0, 5, .inl (fun _ => 0))), (P0, .inr (4, [.ref T, .ref R0, .ref pg0, .ref ST, .int 0, .int 0, .ref p00, .ref p10, .ref p20, .ref p30, .ref p40, .ref p50])), (p50, .inl (k 0, 5, .inl (fun _ => 0))), (L1, .inr (1, [.ref T, .int 1, .ref LN, .ref R1, .ref P1, .int 1, .int 0, .ref lc1, .ref le1, .ref ll1, .ref ld1, .ref wl1, .ref op1, .int 0, .int 0, .int 1365, .ref dg1])), (dg1, .inl (k 0, 730, .inl (fun _ => 0))), (R1, .inr (5, [.int 0, .ref r01, .ref r11, .ref r21, .ref r31, .ref r41, .ref r51, .ref r61, .ref r71, .ref wr1, .ref lr1, .ref tt1, .int 0, .int 0, .ref fr1, .ref r81, .ref r91, .int 0])), (wr1, .inl (k 0, 192, .inl (fun _ => 0))), (lr1, .inl (k 0, 6, .inl (fun _ => 0))), (tt1, .inl (k 1, 8, .inl (fun _ => 0))), (fr1, .inl (k 0, 5, .inl (fun _ => 0))), (P1, .inr (4, [.ref T, .ref R1, .ref pg1, .ref ST, .int 0, .int 0, .ref p01, .ref p11, .ref p21, .ref p31, .ref p41, .ref p51])), (p51, .inl (k 0, 5, .inl (fun _ => 0))), (op0, .inl (k 1, 967, .inl (fun _ => 0))), (op1, .inl (k 1, 967, .inl (fun _ => 0)))]) rfl B
      refine lv_aload_n hx hb dX11_range_8 rfl (lv_at hl 0 rfl) ?_
      refine lv_iload_n hx hb dX11_range_9 rfl (lv_at hl 1 rfl) ?_
      refine x_callVx (rest := []) (wr := [(op0, .inl (k 1, 967, .inl (fun _ => 0))), (op1, .inl (k 1, 967, .inl (fun _ => 0)))]) (c_layoutOf l dC dI k hl0 gx T LA sp dr bl pt fk fh ky LN ST L0 lc0 le0 ll0 ld0 wl0 op0 dg0 L1 lc1 le1 ll1 ld1 wl1 op1 dg1 R0 r00 r10 r20 r30 r40 r50 r60 r70 wr0 lr0 tt0 fr0 r80 r90 R1 r01 r11 r21 r31 r41 r51 r61 r71 wr1 lr1 tt1 fr1 r81 r91 P0 pg0 p00 p10 p20 p30 p40 p50 P1 pg1 p01 p11 p21 p31 p41 p51 v) B mV_X11_layoutOf mw_1366 hl [0, 1, 2, 3, 4, 5, 6, 7, 8, 9, 10, 11, 12, 13, 14, 15, 16, 17, 18, 19, 20, 21] [22, 23] rfl rfl ⟨by decide, by decide⟩ (by decide) (q0 := 0) rfl rfl rfl ⟨Nat.le_of_ble_eq_true rfl, Nat.le_of_ble_eq_true rfl⟩ (Nat.le_of_ble_eq_true rfl) rfl dX11_range_10 ⟨Nat.le_of_ble_eq_true rfl, Nat.le_of_ble_eq_true rfl⟩ (fun E ce q9 H locs hp B h1 h2 h3 => ?_) (fun r w H locs hp B => ?_)
      · rcases hp with ⟨z4_0, rfl⟩
        exfalso; first | omega | exact absurd z4_0 (by decide)
      · skip
        rcases hp with ⟨gl_6, z_7, z_8, rfl, rfl⟩ | ⟨gl_9, z_10, z_11, rfl, rfl⟩
        · skip
          have B := bd_to (ws' := [(op0, .inl (k 1, 967, .inl (fun _ => 0))), (op1, .inl (k 1, 967, .inl (fun _ => 0))), (gx, .inr (9, [.ref T, .ref LA, .ref sp, .int 0, .ref dr])), (T, .inr (8, [.ref bl, .ref pt, .ref fk, .ref fh, .int 0, .ref ky, .int 60, .int 12])), (bl, .inr (11, [.int 0, .ref (dI 99 1), .int 0])), (L0, .inr (1, [.ref T, .int 0, .ref LN, .ref R0, .ref P0, .int 0, .int 0, .ref lc0, .ref le0, .ref ll0, .ref ld0, .ref wl0, .ref op0, .int 1, .int 1, .int 1365, .ref dg0])), (R0, .inr (5, [.int 0, .ref r00, .ref r10, .ref r20, .ref r30, .ref r40, .ref r50, .ref r60, .ref r70, .ref wr0, .ref lr0, .ref tt0, .int 0, .int 0, .ref fr0, .ref r80, .ref r90, .int 0])), (tt0, .inl (k 1, 8, .inl (upd (upd (upd (upd (upd (upd (upd (upd (fun _ => 0) 0 0) 1 0) 2 0) 3 0) 4 0) 5 0) 6 0) 7 0))), (lr0, .inl (k 0, 6, .inl gl_6)), (P0, .inr (4, [.ref T, .ref R0, .ref pg0, .ref ST, .int 0, .int 0, .ref p00, .ref p10, .ref p20, .ref p30, .ref p40, .ref p50]))]) rfl B
          refine lv_iload_n hx hb dX11_range_13 rfl (lv_at hl 2 rfl) ?_
          refine lv_iload_n hx hb dX11_range_14 rfl (lv_at hl 3 rfl) ?_
          refine x_callV (rest := []) (wr := [(op1, .inl (k 1, 967, .inl (fun _ => 0))), (gx, .inr (9, [.ref T, .ref LA, .ref sp, .int 0, .ref dr])), (R0, .inr (5, [.int 0, .ref r00, .ref r10, .ref r20, .ref r30, .ref r40, .ref r50, .ref r60, .ref r70, .ref wr0, .ref lr0, .ref tt0, .int 0, .int 0, .ref fr0, .ref r80, .ref r90, .int 0])), (tt0, .inl (k 1, 8, .inl (upd (upd (upd (upd (upd (upd (upd (upd (fun _ => 0) 0 0) 1 0) 2 0) 3 0) 4 0) 5 0) 6 0) 7 0))), (lr0, .inl (k 0, 6, .inl gl_6))]) (c_rangeOf l dC dI k L0 lc0 le0 ll0 ld0 wl0 op0 dg0 T LN R0 P0 0 bl pt fk fh ky pg0 p00 p10 p20 p30 p40 p50 ST x1 x2) B mV_X1_rangeOf mw_1848 hl [5, 3, 4, 9, 0] [1, 2, 6, 7, 8] rfl rfl ⟨by decide, by decide⟩ (by decide) (q0 := 0) rfl rfl rfl ⟨Nat.le_of_ble_eq_true rfl, Nat.le_of_ble_eq_true rfl⟩ (Nat.le_of_ble_eq_true rfl) rfl dX11_range_15 ⟨Nat.le_of_ble_eq_true rfl, Nat.le_of_ble_eq_true rfl⟩ (fun r w H locs hp B => ?_)
          obtain ⟨rfl, rfl⟩ := hp
          have B := bd_to (ws' := [(op1, .inl (k 1, 967, .inl (fun _ => 0))), (gx, .inr (9, [.ref T, .ref LA, .ref sp, .int 0, .ref dr])), (R0, .inr (5, [.int 0, .ref r00, .ref r10, .ref r20, .ref r30, .ref r40, .ref r50, .ref r60, .ref r70, .ref wr0, .ref lr0, .ref tt0, .int 0, .int 0, .ref fr0, .ref r80, .ref r90, .int 0])), (tt0, .inl (k 1, 8, .inl (upd (upd (upd (upd (upd (upd (upd (upd (fun _ => 0) 0 0) 1 0) 2 0) 3 0) 4 0) 5 0) 6 0) 7 0))), (lr0, .inl (k 0, 6, .inl gl_6))]) rfl B
          refine lv_istore (lv' := [(4, .int (-1)), (0, .ref gx), (1, .int v), (2, .int x1), (3, .int x2)]) hx hb dX11_range_18 hl (by decide) rfl (fun ls hl => ?_)
          refine lv_iload hx hb dX11_range_20 (lv_at hl 0 rfl) ?_
          refine lv_iconst (v := (-1)) hx hb dX11_range_22 (by decide) ?_
          refine lv_icmp_ne (tgt := 37) hx hb dX11_range_23 (by decide) (fun c9 => absurd c9 (by decide)) (fun _ => ?_)
          exact x_thrW (tx := "no such range") xE_ioobe (rfl) hl0 B hex hl (by decide +kernel) dX11_range_26 dX11_range_29 dX11_range_30 dX11_range_33 dX11_range_36 ⟨Nat.le_of_ble_eq_true rfl, Nat.le_of_ble_eq_true rfl, Nat.le_of_ble_eq_true rfl, Nat.le_of_ble_eq_true rfl⟩ ⟨Nat.le_of_ble_eq_true rfl, Nat.le_of_ble_eq_true rfl⟩
        · skip
          have B := bd_to (ws' := [(op0, .inl (k 1, 967, .inl (fun _ => 0))), (op1, .inl (k 1, 967, .inl (fun _ => 0))), (gx, .inr (9, [.ref T, .ref LA, .ref sp, .int 0, .ref dr])), (T, .inr (8, [.ref bl, .ref pt, .ref fk, .ref fh, .int 0, .ref ky, .int 60, .int 12])), (bl, .inr (11, [.int 0, .ref (dI 99 1), .int 0])), (L1, .inr (1, [.ref T, .int 1, .ref LN, .ref R1, .ref P1, .int 0, .int 0, .ref lc1, .ref le1, .ref ll1, .ref ld1, .ref wl1, .ref op1, .int 1, .int 1, .int 1365, .ref dg1])), (R1, .inr (5, [.int 0, .ref r01, .ref r11, .ref r21, .ref r31, .ref r41, .ref r51, .ref r61, .ref r71, .ref wr1, .ref lr1, .ref tt1, .int 0, .int 0, .ref fr1, .ref r81, .ref r91, .int 0])), (tt1, .inl (k 1, 8, .inl (upd (upd (upd (upd (upd (upd (upd (upd (fun _ => 0) 0 0) 1 0) 2 0) 3 0) 4 0) 5 0) 6 0) 7 0))), (lr1, .inl (k 0, 6, .inl gl_9)), (P1, .inr (4, [.ref T, .ref R1, .ref pg1, .ref ST, .int 0, .int 0, .ref p01, .ref p11, .ref p21, .ref p31, .ref p41, .ref p51]))]) rfl B
          refine lv_iload_n hx hb dX11_range_13 rfl (lv_at hl 2 rfl) ?_
          refine lv_iload_n hx hb dX11_range_14 rfl (lv_at hl 3 rfl) ?_
          refine x_callV (rest := []) (wr := [(op0, .inl (k 1, 967, .inl (fun _ => 0))), (gx, .inr (9, [.ref T, .ref LA, .ref sp, .int 0, .ref dr])), (R1, .inr (5, [.int 0, .ref r01, .ref r11, .ref r21, .ref r31, .ref r41, .ref r51, .ref r61, .ref r71, .ref wr1, .ref lr1, .ref tt1, .int 0, .int 0, .ref fr1, .ref r81, .ref r91, .int 0])), (tt1, .inl (k 1, 8, .inl (upd (upd (upd (upd (upd (upd (upd (upd (fun _ => 0) 0 0) 1 0) 2 0) 3 0) 4 0) 5 0) 6 0) 7 0))), (lr1, .inl (k 0, 6, .inl gl_9))]) (c_rangeOf l dC dI k L1 lc1 le1 ll1 ld1 wl1 op1 dg1 T LN R1 P1 1 bl pt fk fh ky pg1 p01 p11 p21 p31 p41 p51 ST x1 x2) B mV_X1_rangeOf mw_1848 hl [5, 3, 4, 9, 1] [0, 2, 6, 7, 8] rfl rfl ⟨by decide, by decide⟩ (by decide) (q0 := 0) rfl rfl rfl ⟨Nat.le_of_ble_eq_true rfl, Nat.le_of_ble_eq_true rfl⟩ (Nat.le_of_ble_eq_true rfl) rfl dX11_range_15 ⟨Nat.le_of_ble_eq_true rfl, Nat.le_of_ble_eq_true rfl⟩ (fun r w H locs hp B => ?_)
          obtain ⟨rfl, rfl⟩ := hp
          have B := bd_to (ws' := [(op0, .inl (k 1, 967, .inl (fun _ => 0))), (gx, .inr (9, [.ref T, .ref LA, .ref sp, .int 0, .ref dr])), (R1, .inr (5, [.int 0, .ref r01, .ref r11, .ref r21, .ref r31, .ref r41, .ref r51, .ref r61, .ref r71, .ref wr1, .ref lr1, .ref tt1, .int 0, .int 0, .ref fr1, .ref r81, .ref r91, .int 0])), (tt1, .inl (k 1, 8, .inl (upd (upd (upd (upd (upd (upd (upd (upd (fun _ => 0) 0 0) 1 0) 2 0) 3 0) 4 0) 5 0) 6 0) 7 0))), (lr1, .inl (k 0, 6, .inl gl_9))]) rfl B
          refine lv_istore (lv' := [(4, .int (-1)), (0, .ref gx), (1, .int v), (2, .int x1), (3, .int x2)]) hx hb dX11_range_18 hl (by decide) rfl (fun ls hl => ?_)
          refine lv_iload hx hb dX11_range_20 (lv_at hl 0 rfl) ?_
          refine lv_iconst (v := (-1)) hx hb dX11_range_22 (by decide) ?_
          refine lv_icmp_ne (tgt := 37) hx hb dX11_range_23 (by decide) (fun c9 => absurd c9 (by decide)) (fun _ => ?_)
          exact x_thrW (tx := "no such range") xE_ioobe (rfl) hl0 B hex hl (by decide +kernel) dX11_range_26 dX11_range_29 dX11_range_30 dX11_range_33 dX11_range_36 ⟨Nat.le_of_ble_eq_true rfl, Nat.le_of_ble_eq_true rfl, Nat.le_of_ble_eq_true rfl, Nat.le_of_ble_eq_true rfl⟩ ⟨Nat.le_of_ble_eq_true rfl, Nat.le_of_ble_eq_true rfl⟩

end
