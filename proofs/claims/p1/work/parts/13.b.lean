section
theorem dX1_forget_0 : decode cX1_forget 0 = .ok (.aload_n 0, 1) := by decide +kernel
theorem dX1_forget_1 : decode cX1_forget 1 = .ok (.iconst 1, 1) := by decide +kernel
theorem dX1_forget_2 : decode cX1_forget 2 = .ok (.putfield 9, 3) := by decide +kernel
theorem dX1_forget_5 : decode cX1_forget 5 = .ok (.aload_n 0, 1) := by decide +kernel
theorem dX1_forget_6 : decode cX1_forget 6 = .ok (.iconst 0, 1) := by decide +kernel
theorem dX1_forget_7 : decode cX1_forget 7 = .ok (.putfield 70, 3) := by decide +kernel
theorem dX1_forget_10 : decode cX1_forget 10 = .ok (.aload_n 0, 1) := by decide +kernel
theorem dX1_forget_11 : decode cX1_forget 11 = .ok (.iconst 0, 1) := by decide +kernel
theorem dX1_forget_12 : decode cX1_forget 12 = .ok (.putfield 73, 3) := by decide +kernel
theorem dX1_forget_15 : decode cX1_forget 15 = .ok (.aload_n 0, 1) := by decide +kernel
theorem dX1_forget_16 : decode cX1_forget 16 = .ok (.iconst 0, 1) := by decide +kernel
theorem dX1_forget_17 : decode cX1_forget 17 = .ok (.putfield 76, 3) := by decide +kernel
theorem dX1_forget_20 : decode cX1_forget 20 = .ok (.aload_n 0, 1) := by decide +kernel
theorem dX1_forget_21 : decode cX1_forget 21 = .ok (.sipush 1365, 3) := by decide +kernel
theorem dX1_forget_24 : decode cX1_forget 24 = .ok (.putfield 36, 3) := by decide +kernel
theorem dX1_forget_27 : decode cX1_forget 27 = .ok (.return_, 1) := by decide +kernel
set_option maxHeartbeats 4000000 in
set_option maxRecDepth 100000 in
theorem c_forget (l : Launch) (dC : Nat → ClassId) (dI : Nat → Nat → Nat) (k : Nat → ClassId) (L : Nat) (lc : Nat) (le : Nat) (ll : Nat) (ld : Nat) (wl : Nat) (op : Nat) (dg : Nat) (T : Nat) (LN : Nat) (R : Nat) (P : Nat) (v : Int32) : Ct l dC dI k yX1_forget (.code yX1_forget cX1_forget 1 none) ({ frames := 0, cells := 0, slots := 0, locals := 0 } : Room) [.ref L] [(L, .inr (1, [.ref T, .int v, .ref LN, .ref R, .ref P, .int 1, .int 0, .ref lc, .ref le, .ref ll, .ref ld, .ref wl, .ref op, .int 0, .int 0, .int 1365, .ref dg]))] (fun r w => (r = none ∧ w = [(L, .inr (1, [.ref T, .int v, .ref LN, .ref R, .ref P, .int 1, .int 0, .ref lc, .ref le, .ref ll, .ref ld, .ref wl, .ref op, .int 0, .int 0, .int 1365, .ref dg]))])) := by
  refine ct_of (by decide) (Nat.le_of_ble_eq_true rfl) ?_
  intro p e s m args below meth c H locs B hr hnm ls hl
  have hx := B.1.1
  have hb := B.1.2.1
  have hl : lv_has ls 1 [(0, .ref L)] := hl
  refine lv_aload_n hx hb dX1_forget_0 rfl (lv_at hl 0 rfl) ?_
  refine lv_iconst (v := 1) hx hb dX1_forget_1 (by decide) ?_
  refine x_put (ci := 1) (C := RX1) (T := TX1) (N := 17) (ty := .boolean) (v := .int 1) B tyX1_ok nmX1 0 rfl rfl in_X1 5 (by decide) mw_418 (fun _ h9 => h9) rfl (by decide +kernel) (by decide) rfl (Nat.le_of_ble_eq_true rfl) dX1_forget_2 (fun H locs B => ?_)
  have B := bd_to (ws' := [(L, .inr (1, [.ref T, .int v, .ref LN, .ref R, .ref P, .int 1, .int 0, .ref lc, .ref le, .ref ll, .ref ld, .ref wl, .ref op, .int 0, .int 0, .int 1365, .ref dg]))]) rfl B
  refine lv_aload_n hx hb dX1_forget_5 rfl (lv_at hl 0 rfl) ?_
  refine lv_iconst (v := 0) hx hb dX1_forget_6 (by decide) ?_
  refine x_put (ci := 1) (C := RX1) (T := TX1) (N := 17) (ty := .boolean) (v := .int 0) B tyX1_ok nmX1 0 rfl rfl in_X1 6 (by decide) mw_420 (fun _ h9 => h9) rfl (by decide +kernel) (by decide) rfl (Nat.le_of_ble_eq_true rfl) dX1_forget_7 (fun H locs B => ?_)
  have B := bd_to (ws' := [(L, .inr (1, [.ref T, .int v, .ref LN, .ref R, .ref P, .int 1, .int 0, .ref lc, .ref le, .ref ll, .ref ld, .ref wl, .ref op, .int 0, .int 0, .int 1365, .ref dg]))]) rfl B
  refine lv_aload_n hx hb dX1_forget_10 rfl (lv_at hl 0 rfl) ?_
  refine lv_iconst (v := 0) hx hb dX1_forget_11 (by decide) ?_
  refine x_put (ci := 1) (C := RX1) (T := TX1) (N := 17) (ty := .boolean) (v := .int 0) B tyX1_ok nmX1 0 rfl rfl in_X1 14 (by decide) mw_433 (fun _ h9 => h9) rfl (by decide +kernel) (by decide) rfl (Nat.le_of_ble_eq_true rfl) dX1_forget_12 (fun H locs B => ?_)
  have B := bd_to (ws' := [(L, .inr (1, [.ref T, .int v, .ref LN, .ref R, .ref P, .int 1, .int 0, .ref lc, .ref le, .ref ll, .ref ld, .ref wl, .ref op, .int 0, .int 0, .int 1365, .ref dg]))]) rfl B
  refine lv_aload_n hx hb dX1_forget_15 rfl (lv_at hl 0 rfl) ?_
  refine lv_iconst (v := 0) hx hb dX1_forget_16 (by decide) ?_
  refine x_put (ci := 1) (C := RX1) (T := TX1) (N := 17) (ty := .int) (v := .int 0) B tyX1_ok nmX1 0 rfl rfl in_X1 13 (by decide) mw_431 (fun _ h9 => h9) rfl (by decide +kernel) rfl rfl (Nat.le_of_ble_eq_true rfl) dX1_forget_17 (fun H locs B => ?_)
  have B := bd_to (ws' := [(L, .inr (1, [.ref T, .int v, .ref LN, .ref R, .ref P, .int 1, .int 0, .ref lc, .ref le, .ref ll, .ref ld, .ref wl, .ref op, .int 0, .int 0, .int 1365, .ref dg]))]) rfl B
  refine lv_aload_n hx hb dX1_forget_20 rfl (lv_at hl 0 rfl) ?_
  refine lv_sipush (v := 1365) hx hb dX1_forget_21 (by decide) ?_
  refine x_put (ci := 1) (C := RX1) (T := TX1) (N := 17) (ty := .int) (v := .int 1365) B tyX1_ok nmX1 0 rfl rfl in_X1 15 (by decide) mw_435 (fun _ h9 => h9) rfl (by decide +kernel) rfl rfl (Nat.le_of_ble_eq_true rfl) dX1_forget_24 (fun H locs B => ?_)
  have B := bd_to (ws' := [(L, .inr (1, [.ref T, .int v, .ref LN, .ref R, .ref P, .int 1, .int 0, .ref lc, .ref le, .ref ll, .ref ld, .ref wl, .ref op, .int 0, .int 0, .int 1365, .ref dg]))]) rfl B
  have B := bd_sub (ws' := [(L, .inr (1, [.ref T, .int v, .ref LN, .ref R, .ref P, .int 1, .int 0, .ref lc, .ref le, .ref ll, .ref ld, .ref wl, .ref op, .int 0, .int 0, .int 1365, .ref dg]))]) [0] (by decide) rfl B
  exact x_vret B hr (⟨rfl, rfl⟩) (Nat.le_of_ble_eq_true rfl) (Nat.le_of_ble_eq_true rfl) dX1_forget_27

theorem mw_772 : (Jvm.Cond.methodLink "Galleyforge" (316 : Nat) ({ cls := "Galleyforge$Layout", name := "forget", desc := "()V" } : Jvm.MethodName)) ∈ gt := gt_at 907 (by decide +kernel) (by decide +kernel)
theorem mw_773 : (Jvm.Cond.instanceMethod ({ cls := "Galleyforge$Layout", name := "forget", desc := "()V" } : Jvm.MethodName)) ∈ gt := gt_at 908 (by decide +kernel) (by decide +kernel)
theorem mw_774 : (Jvm.Cond.selects "Galleyforge$Layout" ({ cls := "Galleyforge$Layout", name := "forget", desc := "()V" } : Jvm.MethodName) ({ cls := "Galleyforge$Layout", name := "forget", desc := "()V" } : Jvm.MethodName)) ∈ gt := gt_at 909 (by decide +kernel) (by decide +kernel)
theorem mw_775 : (Jvm.Cond.code ({ cls := "Galleyforge$Layout", name := "forget", desc := "()V" } : Jvm.MethodName) prog_3_method_2_code (1 : Nat) (Option.none : Option Jvm.ClassFile.FieldType)) ∈ gt := gt_at 910 (by decide +kernel) (by decide +kernel)
theorem mV_X1_forget : mV yX1_forget cX1_forget 1 none 0 := ⟨⟨mw_775, mw_8, by decide, by decide, by decide +kernel⟩, mw_773, mw_774⟩
theorem dX11_forgetLayouts_0 : decode cX11_forgetLayouts 0 = .ok (.iconst 0, 1) := by decide +kernel
theorem dX11_forgetLayouts_1 : decode cX11_forgetLayouts 1 = .ok (.istore_n 1, 1) := by decide +kernel
theorem dX11_forgetLayouts_2 : decode cX11_forgetLayouts 2 = .ok (.iload_n 1, 1) := by decide +kernel
theorem dX11_forgetLayouts_3 : decode cX11_forgetLayouts 3 = .ok (.iconst 2, 1) := by decide +kernel
theorem dX11_forgetLayouts_4 : decode cX11_forgetLayouts 4 = .ok (.if_icmp .ge 18, 3) := by decide +kernel
theorem dX11_forgetLayouts_7 : decode cX11_forgetLayouts 7 = .ok (.aload_n 0, 1) := by decide +kernel
theorem dX11_forgetLayouts_8 : decode cX11_forgetLayouts 8 = .ok (.getfield 27, 3) := by decide +kernel
theorem dX11_forgetLayouts_11 : decode cX11_forgetLayouts 11 = .ok (.iload_n 1, 1) := by decide +kernel
theorem dX11_forgetLayouts_12 : decode cX11_forgetLayouts 12 = .ok (.aaload, 1) := by decide +kernel
theorem dX11_forgetLayouts_13 : decode cX11_forgetLayouts 13 = .ok (.invokevirtual 316, 3) := by decide +kernel
theorem dX11_forgetLayouts_16 : decode cX11_forgetLayouts 16 = .ok (.iinc 1 1, 3) := by decide +kernel
theorem dX11_forgetLayouts_19 : decode cX11_forgetLayouts 19 = .ok (.goto (-17), 3) := by decide +kernel
theorem dX11_forgetLayouts_22 : decode cX11_forgetLayouts 22 = .ok (.return_, 1) := by decide +kernel
set_option maxHeartbeats 4000000 in
set_option maxRecDepth 100000 in
theorem c_forgetLayouts (l : Launch) (dC : Nat → ClassId) (dI : Nat → Nat → Nat) (k : Nat → ClassId) (gx : Nat) (T : Nat) (LA : Nat) (sp : Nat) (dr : Nat) (L0 : Nat) (L1 : Nat) (LN : Nat) (lc0 : Nat) (le0 : Nat) (ll0 : Nat) (ld0 : Nat) (wl0 : Nat) (op0 : Nat) (dg0 : Nat) (lc1 : Nat) (le1 : Nat) (ll1 : Nat) (ld1 : Nat) (wl1 : Nat) (op1 : Nat) (dg1 : Nat) (R0 : Nat) (P0 : Nat) (R1 : Nat) (P1 : Nat) : Ct l dC dI k yX11_forgetLayouts (.code yX11_forgetLayouts cX11_forgetLayouts 2 none) ({ frames := 1, cells := 0, slots := 0, locals := 20 } : Room) [.ref gx] [(gx, .inr (9, [.ref T, .ref LA, .ref sp, .int 0, .ref dr])), (LA, .inl (k 3, 2, .inr (.inr (.inr (.inr (va_up (va_up (fun _ => none) 0 (some L0)) 1 (some L1))))))), (L0, .inr (1, [.ref T, .int 0, .ref LN, .ref R0, .ref P0, .int 1, .int 0, .ref lc0, .ref le0, .ref ll0, .ref ld0, .ref wl0, .ref op0, .int 0, .int 0, .int 1365, .ref dg0])), (L1, .inr (1, [.ref T, .int 1, .ref LN, .ref R1, .ref P1, .int 1, .int 0, .ref lc1, .ref le1, .ref ll1, .ref ld1, .ref wl1, .ref op1, .int 0, .int 0, .int 1365, .ref dg1]))] (fun r w => (r = none ∧ w = [(gx, .inr (9, [.ref T, .ref LA, .ref sp, .int 0, .ref dr]))])) := by
  refine ct_of (by decide) (Nat.le_of_ble_eq_true rfl) ?_
  intro p e s m args below meth c H locs B hr hnm ls hl
  have hx := B.1.1
  have hb := B.1.2.1
  have hl : lv_has ls 2 [(0, .ref gx)] := hl
  refine lv_iconst (v := 0) hx hb dX11_forgetLayouts_0 (by decide) ?_
  refine lv_istore_n (lv' := [(1, .int 0), (0, .ref gx)]) hx hb dX11_forgetLayouts_1 rfl hl (by decide) rfl (fun ls hl => ?_)
  refine lv_iload_n hx hb dX11_forgetLayouts_2 rfl (lv_at hl 0 rfl) ?_
  refine lv_iconst (v := 2) hx hb dX11_forgetLayouts_3 (by decide) ?_
  refine lv_icmp_ge (tgt := 22) hx hb dX11_forgetLayouts_4 (by decide) (fun c9 => absurd c9 (by decide)) (fun _ => ?_)
  refine lv_aload_n hx hb dX11_forgetLayouts_7 rfl (lv_at hl 1 rfl) ?_
  refine x_get (ci := 9) (C := RX11) (T := TX11) (N := 5) (v := .ref LA) B 0 rfl rfl in_X11 1 (by decide) mw_476 (fun _ h9 => h9) rfl dX11_forgetLayouts_8 ?_
  refine lv_iload_n hx hb dX11_forgetLayouts_11 rfl (lv_at hl 0 rfl) ?_
  refine x_aldq (v := L0) B 1 rfl (vpc (by decide)) dX11_forgetLayouts_12 (by rfl) ?_
  refine x_callV (rest := []) (wr := [(gx, .inr (9, [.ref T, .ref LA, .ref sp, .int 0, .ref dr])), (LA, .inl (k 3, 2, .inr (.inr (.inr (.inr (va_up (va_up (fun _ => none) 0 (some L0)) 1 (some L1))))))), (L1, .inr (1, [.ref T, .int 1, .ref LN, .ref R1, .ref P1, .int 1, .int 0, .ref lc1, .ref le1, .ref ll1, .ref ld1, .ref wl1, .ref op1, .int 0, .int 0, .int 1365, .ref dg1]))]) (c_forget l dC dI k L0 lc0 le0 ll0 ld0 wl0 op0 dg0 T LN R0 P0 0) B mV_X1_forget mw_772 hl [2] [0, 1, 3] rfl rfl ⟨by decide, by decide⟩ (by decide) (q0 := 0) rfl rfl rfl ⟨Nat.le_of_ble_eq_true rfl, Nat.le_of_ble_eq_true rfl⟩ (Nat.le_of_ble_eq_true rfl) rfl dX11_forgetLayouts_13 ⟨Nat.le_of_ble_eq_true rfl, Nat.le_of_ble_eq_true rfl⟩ (fun r w H locs hp B => ?_)
  obtain ⟨rfl, rfl⟩ := hp
  have B := bd_to (ws' := [(gx, .inr (9, [.ref T, .ref LA, .ref sp, .int 0, .ref dr])), (LA, .inl (k 3, 2, .inr (.inr (.inr (.inr (va_up (va_up (fun _ => none) 0 (some L0)) 1 (some L1))))))), (L1, .inr (1, [.ref T, .int 1, .ref LN, .ref R1, .ref P1, .int 1, .int 0, .ref lc1, .ref le1, .ref ll1, .ref ld1, .ref wl1, .ref op1, .int 0, .int 0, .int 1365, .ref dg1])), (L0, .inr (1, [.ref T, .int 0, .ref LN, .ref R0, .ref P0, .int 1, .int 0, .ref lc0, .ref le0, .ref ll0, .ref ld0, .ref wl0, .ref op0, .int 0, .int 0, .int 1365, .ref dg0]))]) rfl B
  refine lv_iinc (v := 1) (lv' := [(1, .int 1), (0, .ref gx)]) hx hb dX11_forgetLayouts_16 hl (k := 0) rfl (by decide) (by decide) rfl (fun ls hl => ?_)
  refine lv_goto (tgt := 2) hx hb dX11_forgetLayouts_19 (by decide) ?_
  refine lv_iload_n hx hb dX11_forgetLayouts_2 rfl (lv_at hl 0 rfl) ?_
  refine lv_iconst (v := 2) hx hb dX11_forgetLayouts_3 (by decide) ?_
  refine lv_icmp_ge (tgt := 22) hx hb dX11_forgetLayouts_4 (by decide) (fun c9 => absurd c9 (by decide)) (fun _ => ?_)
  refine lv_aload_n hx hb dX11_forgetLayouts_7 rfl (lv_at hl 1 rfl) ?_
  refine x_get (ci := 9) (C := RX11) (T := TX11) (N := 5) (v := .ref LA) B 0 rfl rfl in_X11 1 (by decide) mw_476 (fun _ h9 => h9) rfl dX11_forgetLayouts_8 ?_
  refine lv_iload_n hx hb dX11_forgetLayouts_11 rfl (lv_at hl 0 rfl) ?_
  refine x_aldq (v := L1) B 1 rfl (vpc (by decide)) dX11_forgetLayouts_12 (by rfl) ?_
  refine x_callV (rest := []) (wr := [(gx, .inr (9, [.ref T, .ref LA, .ref sp, .int 0, .ref dr])), (LA, .inl (k 3, 2, .inr (.inr (.inr (.inr (va_up (va_up (fun _ => none) 0 (some L0)) 1 (some L1))))))), (L0, .inr (1, [.ref T, .int 0, .ref LN, .ref R0, .ref P0, .int 1, .int 0, .ref lc0, .ref le0, .ref ll0, .ref ld0, .ref wl0, .ref op0, .int 0, .int 0, .int 1365, .ref dg0]))]) (c_forget l dC dI k L1 lc1 le1 ll1 ld1 wl1 op1 dg1 T LN R1 P1 1) B mV_X1_forget mw_772 hl [2] [0, 1, 3] rfl rfl ⟨by decide, by decide⟩ (by decide) (q0 := 0) rfl rfl rfl ⟨Nat.le_of_ble_eq_true rfl, Nat.le_of_ble_eq_true rfl⟩ (Nat.le_of_ble_eq_true rfl) rfl dX11_forgetLayouts_13 ⟨Nat.le_of_ble_eq_true rfl, Nat.le_of_ble_eq_true rfl⟩ (fun r w H locs hp B => ?_)
  obtain ⟨rfl, rfl⟩ := hp
  have B := bd_to (ws' := [(gx, .inr (9, [.ref T, .ref LA, .ref sp, .int 0, .ref dr])), (LA, .inl (k 3, 2, .inr (.inr (.inr (.inr (va_up (va_up (fun _ => none) 0 (some L0)) 1 (some L1))))))), (L0, .inr (1, [.ref T, .int 0, .ref LN, .ref R0, .ref P0, .int 1, .int 0, .ref lc0, .ref le0, .ref ll0, .ref ld0, .ref wl0, .ref op0, .int 0, .int 0, .int 1365, .ref dg0])), (L1, .inr (1, [.ref T, .int 1, .ref LN, .ref R1, .ref P1, .int 1, .int 0, .ref lc1, .ref le1, .ref ll1, .ref ld1, .ref wl1, .ref op1, .int 0, .int 0, .int 1365, .ref dg1]))]) rfl B
  refine lv_iinc (v := 2) (lv' := [(1, .int 2), (0, .ref gx)]) hx hb dX11_forgetLayouts_16 hl (k := 0) rfl (by decide) (by decide) rfl (fun ls hl => ?_)
  refine lv_goto (tgt := 2) hx hb dX11_forgetLayouts_19 (by decide) ?_
  refine lv_iload_n hx hb dX11_forgetLayouts_2 rfl (lv_at hl 0 rfl) ?_
  refine lv_iconst (v := 2) hx hb dX11_forgetLayouts_3 (by decide) ?_
  refine lv_icmp_ge (tgt := 22) hx hb dX11_forgetLayouts_4 (by decide) (fun _ => ?_) (fun c9 => absurd (by decide) c9)
  have B := bd_sub (ws' := [(gx, .inr (9, [.ref T, .ref LA, .ref sp, .int 0, .ref dr]))]) [0] (by decide) rfl B
  exact x_vret B hr (⟨rfl, rfl⟩) (Nat.le_of_ble_eq_true rfl) (Nat.le_of_ble_eq_true rfl) dX11_forgetLayouts_22

theorem dX11_checkVariant_0 : decode cX11_checkVariant 0 = .ok (.iload_n 0, 1) := by decide +kernel
theorem dX11_checkVariant_1 : decode cX11_checkVariant 1 = .ok (.ifCond .lt 8, 3) := by decide +kernel
theorem dX11_checkVariant_4 : decode cX11_checkVariant 4 = .ok (.iload_n 0, 1) := by decide +kernel
theorem dX11_checkVariant_5 : decode cX11_checkVariant 5 = .ok (.iconst 2, 1) := by decide +kernel
theorem dX11_checkVariant_6 : decode cX11_checkVariant 6 = .ok (.if_icmp .lt 14, 3) := by decide +kernel
theorem dX11_checkVariant_9 : decode cX11_checkVariant 9 = .ok (.new 47, 3) := by decide +kernel
theorem dX11_checkVariant_12 : decode cX11_checkVariant 12 = .ok (.dup, 1) := by decide +kernel
theorem dX11_checkVariant_13 : decode cX11_checkVariant 13 = .ok (.ldc_w 388, 3) := by decide +kernel
theorem dX11_checkVariant_16 : decode cX11_checkVariant 16 = .ok (.invokespecial 51, 3) := by decide +kernel
theorem dX11_checkVariant_19 : decode cX11_checkVariant 19 = .ok (.athrow, 1) := by decide +kernel
theorem dX11_checkVariant_20 : decode cX11_checkVariant 20 = .ok (.return_, 1) := by decide +kernel
set_option maxHeartbeats 4000000 in
set_option maxRecDepth 100000 in
theorem c_checkVariant (l : Launch) (dC : Nat → ClassId) (dI : Nat → Nat → Nat) (k : Nat → ClassId) (hl0 : l.stackTraces = false) (v : Int32) : Xt l dC dI k yX11_checkVariant (.code yX11_checkVariant cX11_checkVariant 1 none) ({ frames := 6, cells := 1, slots := 6, locals := 82 } : Room) [.int v] [] (fun r w => ((0 ≤ v.toInt ∧ v.toInt ≤ 1) ∧ r = none ∧ w = [])) (fun E => (¬ (0 ≤ v.toInt ∧ v.toInt ≤ 1) ∧ E = "java/lang/IndexOutOfBoundsException")) := by
  refine xt_of (by decide) (Nat.le_of_ble_eq_true rfl) ?_
  intro p e s m args below meth c H locs B hr hex ls hl
  have hx := B.1.1
  have hb := B.1.2.1
  have hl : lv_has ls 1 [(0, .int v)] := hl
  refine lv_iload_n hx hb dX11_checkVariant_0 rfl (lv_at hl 0 rfl) ?_
  refine lv_if_lt (tgt := 9) hx hb dX11_checkVariant_1 (by decide) (fun c_1 => ?_) (fun c_1 => ?_)
  · have zc_1 : v.toInt < 0 := zlt c_1
    exact x_thrW (tx := "no such variant") xE_ioobe (⟨by omega, rfl⟩) hl0 B hex hl (by decide +kernel) dX11_checkVariant_9 dX11_checkVariant_12 dX11_checkVariant_13 dX11_checkVariant_16 dX11_checkVariant_19 ⟨Nat.le_of_ble_eq_true rfl, Nat.le_of_ble_eq_true rfl, Nat.le_of_ble_eq_true rfl, Nat.le_of_ble_eq_true rfl⟩ ⟨Nat.le_of_ble_eq_true rfl, Nat.le_of_ble_eq_true rfl⟩
  · have zc_1 : 0 ≤ v.toInt := znlt c_1
    refine lv_iload_n hx hb dX11_checkVariant_4 rfl (lv_at hl 0 rfl) ?_
    refine lv_iconst (v := 2) hx hb dX11_checkVariant_5 (by decide) ?_
    refine lv_icmp_lt (tgt := 20) hx hb dX11_checkVariant_6 (by decide) (fun c_2 => ?_) (fun c_2 => ?_)
    · have zc_2 : v.toInt < 2 := zlt c_2
      have B := bd_sub (ws' := []) [] (by decide) rfl B
      exact vx_ret (x_vret B hr (⟨by omega, rfl, rfl⟩) (Nat.le_of_ble_eq_true rfl) (Nat.le_of_ble_eq_true rfl) dX11_checkVariant_20)
    · have zc_2 : 2 ≤ v.toInt := znlt c_2
      exact x_thrW (tx := "no such variant") xE_ioobe (⟨by omega, rfl⟩) hl0 B hex hl (by decide +kernel) dX11_checkVariant_9 dX11_checkVariant_12 dX11_checkVariant_13 dX11_checkVariant_16 dX11_checkVariant_19 ⟨Nat.le_of_ble_eq_true rfl, Nat.le_of_ble_eq_true rfl, Nat.le_of_ble_eq_true rfl, Nat.le_of_ble_eq_true rfl⟩ ⟨Nat.le_of_ble_eq_true rfl, Nat.le_of_ble_eq_true rfl⟩

theorem dX11_checkLabel_0 : decode cX11_checkLabel 0 = .ok (.iload_n 0, 1) := by decide +kernel
theorem dX11_checkLabel_1 : decode cX11_checkLabel 1 = .ok (.ifCond .lt 9, 3) := by decide +kernel
theorem dX11_checkLabel_4 : decode cX11_checkLabel 4 = .ok (.iload_n 0, 1) := by decide +kernel
theorem dX11_checkLabel_5 : decode cX11_checkLabel 5 = .ok (.bipush 6, 2) := by decide +kernel
theorem dX11_checkLabel_7 : decode cX11_checkLabel 7 = .ok (.if_icmp .lt 14, 3) := by decide +kernel
theorem dX11_checkLabel_10 : decode cX11_checkLabel 10 = .ok (.new 47, 3) := by decide +kernel
theorem dX11_checkLabel_13 : decode cX11_checkLabel 13 = .ok (.dup, 1) := by decide +kernel
theorem dX11_checkLabel_14 : decode cX11_checkLabel 14 = .ok (.ldc_w 390, 3) := by decide +kernel
theorem dX11_checkLabel_17 : decode cX11_checkLabel 17 = .ok (.invokespecial 51, 3) := by decide +kernel
theorem dX11_checkLabel_20 : decode cX11_checkLabel 20 = .ok (.athrow, 1) := by decide +kernel
theorem dX11_checkLabel_21 : decode cX11_checkLabel 21 = .ok (.return_, 1) := by decide +kernel
set_option maxHeartbeats 4000000 in
set_option maxRecDepth 100000 in
theorem c_checkLabel (l : Launch) (dC : Nat → ClassId) (dI : Nat → Nat → Nat) (k : Nat → ClassId) (hl0 : l.stackTraces = false) (v : Int32) : Xt l dC dI k yX11_checkLabel (.code yX11_checkLabel cX11_checkLabel 1 none) ({ frames := 6, cells := 1, slots := 6, locals := 82 } : Room) [.int v] [] (fun r w => ((0 ≤ v.toInt ∧ v.toInt ≤ 5) ∧ r = none ∧ w = [])) (fun E => (¬ (0 ≤ v.toInt ∧ v.toInt ≤ 5) ∧ E = "java/lang/IndexOutOfBoundsException")) := by
  refine xt_of (by decide) (Nat.le_of_ble_eq_true rfl) ?_
  intro p e s m args below meth c H locs B hr hex ls hl
  have hx := B.1.1
  have hb := B.1.2.1
  have hl : lv_has ls 1 [(0, .int v)] := hl
  refine lv_iload_n hx hb dX11_checkLabel_0 rfl (lv_at hl 0 rfl) ?_
  refine lv_if_lt (tgt := 10) hx hb dX11_checkLabel_1 (by decide) (fun c_1 => ?_) (fun c_1 => ?_)
  · have zc_1 : v.toInt < 0 := zlt c_1
    exact x_thrW (tx := "no such label") xE_ioobe (⟨by omega, rfl⟩) hl0 B hex hl (by decide +kernel) dX11_checkLabel_10 dX11_checkLabel_13 dX11_checkLabel_14 dX11_checkLabel_17 dX11_checkLabel_20 ⟨Nat.le_of_ble_eq_true rfl, Nat.le_of_ble_eq_true rfl, Nat.le_of_ble_eq_true rfl, Nat.le_of_ble_eq_true rfl⟩ ⟨Nat.le_of_ble_eq_true rfl, Nat.le_of_ble_eq_true rfl⟩
  · have zc_1 : 0 ≤ v.toInt := znlt c_1
    refine lv_iload_n hx hb dX11_checkLabel_4 rfl (lv_at hl 0 rfl) ?_
    refine lv_bipush (v := 6) hx hb dX11_checkLabel_5 (by decide) ?_
    refine lv_icmp_lt (tgt := 21) hx hb dX11_checkLabel_7 (by decide) (fun c_2 => ?_) (fun c_2 => ?_)
    · have zc_2 : v.toInt < 6 := zlt c_2
      have B := bd_sub (ws' := []) [] (by decide) rfl B
      exact vx_ret (x_vret B hr (⟨by omega, rfl, rfl⟩) (Nat.le_of_ble_eq_true rfl) (Nat.le_of_ble_eq_true rfl) dX11_checkLabel_21)
    · have zc_2 : 6 ≤ v.toInt := znlt c_2
      exact x_thrW (tx := "no such label") xE_ioobe (⟨by omega, rfl⟩) hl0 B hex hl (by decide +kernel) dX11_checkLabel_10 dX11_checkLabel_13 dX11_checkLabel_14 dX11_checkLabel_17 dX11_checkLabel_20 ⟨Nat.le_of_ble_eq_true rfl, Nat.le_of_ble_eq_true rfl, Nat.le_of_ble_eq_true rfl, Nat.le_of_ble_eq_true rfl⟩ ⟨Nat.le_of_ble_eq_true rfl, Nat.le_of_ble_eq_true rfl⟩

theorem dX11_checkTerm_0 : decode cX11_checkTerm 0 = .ok (.iload_n 0, 1) := by decide +kernel
theorem dX11_checkTerm_1 : decode cX11_checkTerm 1 = .ok (.ifCond .lt 9, 3) := by decide +kernel
theorem dX11_checkTerm_4 : decode cX11_checkTerm 4 = .ok (.iload_n 0, 1) := by decide +kernel
theorem dX11_checkTerm_5 : decode cX11_checkTerm 5 = .ok (.bipush 8, 2) := by decide +kernel
theorem dX11_checkTerm_7 : decode cX11_checkTerm 7 = .ok (.if_icmp .lt 14, 3) := by decide +kernel
theorem dX11_checkTerm_10 : decode cX11_checkTerm 10 = .ok (.new 47, 3) := by decide +kernel
theorem dX11_checkTerm_13 : decode cX11_checkTerm 13 = .ok (.dup, 1) := by decide +kernel
theorem dX11_checkTerm_14 : decode cX11_checkTerm 14 = .ok (.ldc_w 392, 3) := by decide +kernel
theorem dX11_checkTerm_17 : decode cX11_checkTerm 17 = .ok (.invokespecial 51, 3) := by decide +kernel
theorem dX11_checkTerm_20 : decode cX11_checkTerm 20 = .ok (.athrow, 1) := by decide +kernel
theorem dX11_checkTerm_21 : decode cX11_checkTerm 21 = .ok (.return_, 1) := by decide +kernel
set_option maxHeartbeats 4000000 in
set_option maxRecDepth 100000 in
theorem c_checkTerm (l : Launch) (dC : Nat → ClassId) (dI : Nat → Nat → Nat) (k : Nat → ClassId) (hl0 : l.stackTraces = false) (v : Int32) : Xt l dC dI k yX11_checkTerm (.code yX11_checkTerm cX11_checkTerm 1 none) ({ frames := 6, cells := 1, slots := 6, locals := 82 } : Room) [.int v] [] (fun r w => ((0 ≤ v.toInt ∧ v.toInt ≤ 7) ∧ r = none ∧ w = [])) (fun E => (¬ (0 ≤ v.toInt ∧ v.toInt ≤ 7) ∧ E = "java/lang/IndexOutOfBoundsException")) := by
  refine xt_of (by decide) (Nat.le_of_ble_eq_true rfl) ?_
  intro p e s m args below meth c H locs B hr hex ls hl
  have hx := B.1.1
  have hb := B.1.2.1
  have hl : lv_has ls 1 [(0, .int v)] := hl
  refine lv_iload_n hx hb dX11_checkTerm_0 rfl (lv_at hl 0 rfl) ?_
  refine lv_if_lt (tgt := 10) hx hb dX11_checkTerm_1 (by decide) (fun c_1 => ?_) (fun c_1 => ?_)
  · have zc_1 : v.toInt < 0 := zlt c_1
    exact x_thrW (tx := "no such term") xE_ioobe (⟨by omega, rfl⟩) hl0 B hex hl (by decide +kernel) dX11_checkTerm_10 dX11_checkTerm_13 dX11_checkTerm_14 dX11_checkTerm_17 dX11_checkTerm_20 ⟨Nat.le_of_ble_eq_true rfl, Nat.le_of_ble_eq_true rfl, Nat.le_of_ble_eq_true rfl, Nat.le_of_ble_eq_true rfl⟩ ⟨Nat.le_of_ble_eq_true rfl, Nat.le_of_ble_eq_true rfl⟩
  · have zc_1 : 0 ≤ v.toInt := znlt c_1
    refine lv_iload_n hx hb dX11_checkTerm_4 rfl (lv_at hl 0 rfl) ?_
    refine lv_bipush (v := 8) hx hb dX11_checkTerm_5 (by decide) ?_
    refine lv_icmp_lt (tgt := 21) hx hb dX11_checkTerm_7 (by decide) (fun c_2 => ?_) (fun c_2 => ?_)
    · have zc_2 : v.toInt < 8 := zlt c_2
      have B := bd_sub (ws' := []) [] (by decide) rfl B
      exact vx_ret (x_vret B hr (⟨by omega, rfl, rfl⟩) (Nat.le_of_ble_eq_true rfl) (Nat.le_of_ble_eq_true rfl) dX11_checkTerm_21)
    · have zc_2 : 8 ≤ v.toInt := znlt c_2
      exact x_thrW (tx := "no such term") xE_ioobe (⟨by omega, rfl⟩) hl0 B hex hl (by decide +kernel) dX11_checkTerm_10 dX11_checkTerm_13 dX11_checkTerm_14 dX11_checkTerm_17 dX11_checkTerm_20 ⟨Nat.le_of_ble_eq_true rfl, Nat.le_of_ble_eq_true rfl, Nat.le_of_ble_eq_true rfl, Nat.le_of_ble_eq_true rfl⟩ ⟨Nat.le_of_ble_eq_true rfl, Nat.le_of_ble_eq_true rfl⟩

theorem mw_79 : (Jvm.Cond.fieldLink "Galleyforge" (153 : Nat) "Galleyforge$Text" "blocks" "Ljava/util/ArrayList;") ∈ gt := gt_at 214 (by decide +kernel) (by decide +kernel)
theorem mw_499 : (Jvm.Cond.methodLink "Galleyforge" (85 : Nat) ({ cls := "java/util/ArrayList", name := "size", desc := "()I" } : Jvm.MethodName)) ∈ gt := gt_at 634 (by decide +kernel) (by decide +kernel)
theorem dX11_checkBlock_0 : decode cX11_checkBlock 0 = .ok (.iload_n 1, 1) := by decide +kernel
theorem dX11_checkBlock_1 : decode cX11_checkBlock 1 = .ok (.ifCond .lt 17, 3) := by decide +kernel
theorem dX11_checkBlock_4 : decode cX11_checkBlock 4 = .ok (.iload_n 1, 1) := by decide +kernel
theorem dX11_checkBlock_5 : decode cX11_checkBlock 5 = .ok (.aload_n 0, 1) := by decide +kernel
theorem dX11_checkBlock_6 : decode cX11_checkBlock 6 = .ok (.getfield 12, 3) := by decide +kernel
theorem dX11_checkBlock_9 : decode cX11_checkBlock 9 = .ok (.getfield 153, 3) := by decide +kernel
theorem dX11_checkBlock_12 : decode cX11_checkBlock 12 = .ok (.invokevirtual 85, 3) := by decide +kernel
theorem dX11_checkBlock_15 : decode cX11_checkBlock 15 = .ok (.if_icmp .lt 14, 3) := by decide +kernel
theorem dX11_checkBlock_18 : decode cX11_checkBlock 18 = .ok (.new 47, 3) := by decide +kernel
theorem dX11_checkBlock_21 : decode cX11_checkBlock 21 = .ok (.dup, 1) := by decide +kernel
theorem dX11_checkBlock_22 : decode cX11_checkBlock 22 = .ok (.ldc_w 405, 3) := by decide +kernel
theorem dX11_checkBlock_25 : decode cX11_checkBlock 25 = .ok (.invokespecial 51, 3) := by decide +kernel
theorem dX11_checkBlock_28 : decode cX11_checkBlock 28 = .ok (.athrow, 1) := by decide +kernel
set_option maxHeartbeats 4000000 in
set_option maxRecDepth 100000 in
theorem c_checkBlock (l : Launch) (dC : Nat → ClassId) (dI : Nat → Nat → Nat) (k : Nat → ClassId) (hl0 : l.stackTraces = false) (gx : Nat) (T : Nat) (LA : Nat) (sp : Nat) (dr : Nat) (bl : Nat) (pt : Nat) (fk : Nat) (fh : Nat) (ky : Nat) (x1 : Int32) : Xt l dC dI k yX11_checkBlock (.code yX11_checkBlock cX11_checkBlock 2 none) ({ frames := 6, cells := 1, slots := 6, locals := 82 } : Room) [.ref gx, .int x1] [(gx, .inr (9, [.ref T, .ref LA, .ref sp, .int 0, .ref dr])), (T, .inr (8, [.ref bl, .ref pt, .ref fk, .ref fh, .int 0, .ref ky, .int 60, .int 12])), (bl, .inr (11, [.int 0, .ref (dI 99 1), .int 0]))] (fun r w => False) (fun E => (E = "java/lang/IndexOutOfBoundsException")) := by
  refine xt_of (by decide) (Nat.le_of_ble_eq_true rfl) ?_
  intro p e s m args below meth c H locs B hr hex ls hl
  have hx := B.1.1
  have hb := B.1.2.1
  have hl : lv_has ls 2 [(0, .ref gx), (1, .int x1)] := hl
  refine lv_iload_n hx hb dX11_checkBlock_0 rfl (lv_at hl 1 rfl) ?_
  refine lv_if_lt (tgt := 18) hx hb dX11_checkBlock_1 (by decide) (fun c_1 => ?_) (fun c_1 => ?_)
  · have zc_1 : x1.toInt < 0 := zlt c_1
    exact x_thrW (tx := "no such block") xE_ioobe (rfl) hl0 B hex hl (by decide +kernel) dX11_checkBlock_18 dX11_checkBlock_21 dX11_checkBlock_22 dX11_checkBlock_25 dX11_checkBlock_28 ⟨Nat.le_of_ble_eq_true rfl, Nat.le_of_ble_eq_true rfl, Nat.le_of_ble_eq_true rfl, Nat.le_of_ble_eq_true rfl⟩ ⟨Nat.le_of_ble_eq_true rfl, Nat.le_of_ble_eq_true rfl⟩
  · have zc_1 : 0 ≤ x1.toInt := znlt c_1
    refine lv_iload_n hx hb dX11_checkBlock_4 rfl (lv_at hl 1 rfl) ?_
    refine lv_aload_n hx hb dX11_checkBlock_5 rfl (lv_at hl 0 rfl) ?_
    refine x_get (ci := 9) (C := RX11) (T := TX11) (N := 5) (v := .ref T) B 0 rfl rfl in_X11 0 (by decide) mw_475 (fun _ h9 => h9) rfl dX11_checkBlock_6 ?_
    refine x_get (ci := 8) (C := RX9) (T := TX9) (N := 8) (v := .ref bl) B 1 rfl rfl in_X9 0 (by decide) mw_79 (fun _ h9 => h9) rfl dX11_checkBlock_9 ?_
    refine x_callV (rest := [.int x1]) (wr := [(gx, .inr (9, [.ref T, .ref LA, .ref sp, .int 0, .ref dr])), (T, .inr (8, [.ref bl, .ref pt, .ref fk, .ref fh, .int 0, .ref ky, .int 60, .int 12]))]) (c_size l dC dI k bl (dI 99 1) 0 0) B mV_Jx4a65c_size_8abf5 mw_499 hl [2] [0, 1] rfl rfl ⟨by decide, by decide⟩ (by decide) (q0 := 0) rfl rfl rfl ⟨Nat.le_of_ble_eq_true rfl, Nat.le_of_ble_eq_true rfl⟩ (Nat.le_of_ble_eq_true rfl) rfl dX11_checkBlock_12 ⟨Nat.le_of_ble_eq_true rfl, Nat.le_of_ble_eq_true rfl⟩ (fun r w H locs hp B => ?_)
    obtain ⟨rfl, rfl⟩ := hp
    have B := bd_to (ws' := [(gx, .inr (9, [.ref T, .ref LA, .ref sp, .int 0, .ref dr])), (T, .inr (8, [.ref bl, .ref pt, .ref fk, .ref fh, .int 0, .ref ky, .int 60, .int 12])), (bl, .inr (11, [.int 0, .ref (dI 99 1), .int 0]))]) rfl B
    refine lv_icmp_lt (tgt := 29) hx hb dX11_checkBlock_15 (by decide) (fun c9 => by have z9 : x1.toInt < 0 := zlt c9; omega) (fun c_2 => ?_)
    exact x_thrW (tx := "no such block") xE_ioobe (rfl) hl0 B hex hl (by decide +kernel) dX11_checkBlock_18 dX11_checkBlock_21 dX11_checkBlock_22 dX11_checkBlock_25 dX11_checkBlock_28 ⟨Nat.le_of_ble_eq_true rfl, Nat.le_of_ble_eq_true rfl, Nat.le_of_ble_eq_true rfl, Nat.le_of_ble_eq_true rfl⟩ ⟨Nat.le_of_ble_eq_true rfl, Nat.le_of_ble_eq_true rfl⟩

theorem mw_1 : (Jvm.Cond.initialized "Galleyforge") ∈ gt := gt_at 136 (by decide +kernel) (by decide +kernel)
theorem mw_787 : (Jvm.Cond.methodLink "Galleyforge" (168 : Nat) ({ cls := "Galleyforge", name := "checkBlock", desc := "(I)V" } : Jvm.MethodName)) ∈ gt := gt_at 922 (by decide +kernel) (by decide +kernel)
theorem mw_789 : (Jvm.Cond.instanceMethod ({ cls := "Galleyforge", name := "checkBlock", desc := "(I)V" } : Jvm.MethodName)) ∈ gt := gt_at 924 (by decide +kernel) (by decide +kernel)
theorem mw_790 : (Jvm.Cond.code ({ cls := "Galleyforge", name := "checkBlock", desc := "(I)V" } : Jvm.MethodName) prog_1_method_48_code (2 : Nat) (Option.none : Option Jvm.ClassFile.FieldType)) ∈ gt := gt_at 925 (by decide +kernel) (by decide +kernel)
theorem ms_8 : Cond.selects "Galleyforge" (⟨"Galleyforge", "checkBlock", "(I)V"⟩ : MethodName) (⟨"Galleyforge", "checkBlock", "(I)V"⟩ : MethodName) ∈ gt := gt_at 8 (by decide +kernel) (by decide +kernel)
theorem mV_X11_checkBlock : mV yX11_checkBlock cX11_checkBlock 2 none 1 := ⟨⟨mw_790, mw_1, by decide, by decide, by decide +kernel⟩, mw_789, ms_8⟩
theorem dX11_blockAt_0 : decode cX11_blockAt 0 = .ok (.aload_n 0, 1) := by decide +kernel
theorem dX11_blockAt_1 : decode cX11_blockAt 1 = .ok (.iload_n 1, 1) := by decide +kernel
theorem dX11_blockAt_2 : decode cX11_blockAt 2 = .ok (.invokevirtual 168, 3) := by decide +kernel
set_option maxHeartbeats 4000000 in
set_option maxRecDepth 100000 in
theorem c_blockAt (l : Launch) (dC : Nat → ClassId) (dI : Nat → Nat → Nat) (k : Nat → ClassId) (hl0 : l.stackTraces = false) (gx : Nat) (T : Nat) (LA : Nat) (sp : Nat) (dr : Nat) (bl : Nat) (pt : Nat) (fk : Nat) (fh : Nat) (ky : Nat) (x1 : Int32) : Xt l dC dI k yX11_blockAt (.code yX11_blockAt cX11_blockAt 2 (some (.object "Galleyforge$Block"))) ({ frames := 7, cells := 1, slots := 6, locals := 103 } : Room) [.ref gx, .int x1] [(gx, .inr (9, [.ref T, .ref LA, .ref sp, .int 0, .ref dr])), (T, .inr (8, [.ref bl, .ref pt, .ref fk, .ref fh, .int 0, .ref ky, .int 60, .int 12])), (bl, .inr (11, [.int 0, .ref (dI 99 1), .int 0]))] (fun r w => False) (fun E => (E = "java/lang/IndexOutOfBoundsException")) := by
  refine xt_of (by decide) (Nat.le_of_ble_eq_true rfl) ?_
  intro p e s m args below meth c H locs B hr hex ls hl
  have hx := B.1.1
  have hb := B.1.2.1
  have hl : lv_has ls 2 [(0, .ref gx), (1, .int x1)] := hl
  refine lv_aload_n hx hb dX11_blockAt_0 rfl (lv_at hl 0 rfl) ?_
  refine lv_iload_n hx hb dX11_blockAt_1 rfl (lv_at hl 1 rfl) ?_
  refine x_callVx (rest := []) (wr := []) (c_checkBlock l dC dI k hl0 gx T LA sp dr bl pt fk fh ky x1) B mV_X11_checkBlock mw_787 hl [0, 1, 2] [] rfl rfl ⟨by decide, by decide⟩ (by decide) (q0 := 0) rfl rfl rfl ⟨Nat.le_of_ble_eq_true rfl, Nat.le_of_ble_eq_true rfl⟩ (Nat.le_of_ble_eq_true rfl) rfl dX11_blockAt_2 ⟨Nat.le_of_ble_eq_true rfl, Nat.le_of_ble_eq_true rfl⟩ (fun E ce q9 H locs hp B h1 h2 h3 => ?_) (fun r w H locs hp B => ?_)
  · rcases hp with rfl
    exact x_out hex (rfl) B h1 h2 h3 (Nat.le_of_ble_eq_true rfl) (Nat.le_of_ble_eq_true rfl)
  · exact hp.elim

theorem mw_783 : (Jvm.Cond.methodLink "Galleyforge" (109 : Nat) ({ cls := "Galleyforge", name := "blockAt", desc := "(I)LGalleyforge$Block;" } : Jvm.MethodName)) ∈ gt := gt_at 918 (by decide +kernel) (by decide +kernel)
theorem mw_785 : (Jvm.Cond.instanceMethod ({ cls := "Galleyforge", name := "blockAt", desc := "(I)LGalleyforge$Block;" } : Jvm.MethodName)) ∈ gt := gt_at 920 (by decide +kernel) (by decide +kernel)
theorem mw_786 : (Jvm.Cond.code ({ cls := "Galleyforge", name := "blockAt", desc := "(I)LGalleyforge$Block;" } : Jvm.MethodName) prog_1_method_49_code (2 : Nat) (Option.some (Jvm.ClassFile.FieldType.object "Galleyforge$Block"))) ∈ gt := gt_at 921 (by decide +kernel) (by decide +kernel)
theorem ms_7 : Cond.selects "Galleyforge" (⟨"Galleyforge", "blockAt", "(I)LGalleyforge$Block;"⟩ : MethodName) (⟨"Galleyforge", "blockAt", "(I)LGalleyforge$Block;"⟩ : MethodName) ∈ gt := gt_at 7 (by decide +kernel) (by decide +kernel)
theorem mV_X11_blockAt : mV yX11_blockAt cX11_blockAt 2 (some (.object "Galleyforge$Block")) 1 := ⟨⟨mw_786, mw_1, by decide, by decide, by decide +kernel⟩, mw_785, ms_7⟩
theorem dX11_tableAt_0 : decode cX11_tableAt 0 = .ok (.aload_n 0, 1) := by decide +kernel
theorem dX11_tableAt_1 : decode cX11_tableAt 1 = .ok (.iload_n 1, 1) := by decide +kernel
theorem dX11_tableAt_2 : decode cX11_tableAt 2 = .ok (.invokevirtual 109, 3) := by decide +kernel
set_option maxHeartbeats 4000000 in
set_option maxRecDepth 100000 in
theorem c_tableAt (l : Launch) (dC : Nat → ClassId) (dI : Nat → Nat → Nat) (k : Nat → ClassId) (hl0 : l.stackTraces = false) (gx : Nat) (T : Nat) (LA : Nat) (sp : Nat) (dr : Nat) (bl : Nat) (pt : Nat) (fk : Nat) (fh : Nat) (ky : Nat) (x1 : Int32) : Xt l dC dI k yX11_tableAt (.code yX11_tableAt cX11_tableAt 3 (some (.object "Galleyforge$Table"))) ({ frames := 8, cells := 1, slots := 6, locals := 124 } : Room) [.ref gx, .int x1] [(gx, .inr (9, [.ref T, .ref LA, .ref sp, .int 0, .ref dr])), (T, .inr (8, [.ref bl, .ref pt, .ref fk, .ref fh, .int 0, .ref ky, .int 60, .int 12])), (bl, .inr (11, [.int 0, .ref (dI 99 1), .int 0]))] (fun r w => False) (fun E => (E = "java/lang/IndexOutOfBoundsException")) := by
  refine xt_of (by decide) (Nat.le_of_ble_eq_true rfl) ?_
  intro p e s m args below meth c H locs B hr hex ls hl
  have hx := B.1.1
  have hb := B.1.2.1
  have hl : lv_has ls 3 [(0, .ref gx), (1, .int x1)] := hl
  refine lv_aload_n hx hb dX11_tableAt_0 rfl (lv_at hl 0 rfl) ?_
  refine lv_iload_n hx hb dX11_tableAt_1 rfl (lv_at hl 1 rfl) ?_
  refine x_callVx (rest := []) (wr := []) (c_blockAt l dC dI k hl0 gx T LA sp dr bl pt fk fh ky x1) B mV_X11_blockAt mw_783 hl [0, 1, 2] [] rfl rfl ⟨by decide, by decide⟩ (by decide) (q0 := 0) rfl rfl rfl ⟨Nat.le_of_ble_eq_true rfl, Nat.le_of_ble_eq_true rfl⟩ (Nat.le_of_ble_eq_true rfl) rfl dX11_tableAt_2 ⟨Nat.le_of_ble_eq_true rfl, Nat.le_of_ble_eq_true rfl⟩ (fun E ce q9 H locs hp B h1 h2 h3 => ?_) (fun r w H locs hp B => ?_)
  · rcases hp with rfl
    exact x_out hex (rfl) B h1 h2 h3 (Nat.le_of_ble_eq_true rfl) (Nat.le_of_ble_eq_true rfl)
  · exact hp.elim

theorem mw_372 : (Jvm.Cond.fieldLink "Galleyforge" (308 : Nat) "Galleyforge$Pages" "count" "I") ∈ gt := gt_at 507 (by decide +kernel) (by decide +kernel)
theorem dX11_checkPage_0 : decode cX11_checkPage 0 = .ok (.iload_n 1, 1) := by decide +kernel
theorem dX11_checkPage_1 : decode cX11_checkPage 1 = .ok (.iconst 1, 1) := by decide +kernel
theorem dX11_checkPage_2 : decode cX11_checkPage 2 = .ok (.if_icmp .lt 11, 3) := by decide +kernel
theorem dX11_checkPage_5 : decode cX11_checkPage 5 = .ok (.iload_n 1, 1) := by decide +kernel
theorem dX11_checkPage_6 : decode cX11_checkPage 6 = .ok (.aload_n 0, 1) := by decide +kernel
theorem dX11_checkPage_7 : decode cX11_checkPage 7 = .ok (.getfield 308, 3) := by decide +kernel
theorem dX11_checkPage_10 : decode cX11_checkPage 10 = .ok (.if_icmp .le 14, 3) := by decide +kernel
theorem dX11_checkPage_13 : decode cX11_checkPage 13 = .ok (.new 47, 3) := by decide +kernel
theorem dX11_checkPage_16 : decode cX11_checkPage 16 = .ok (.dup, 1) := by decide +kernel
theorem dX11_checkPage_17 : decode cX11_checkPage 17 = .ok (.ldc_w 394, 3) := by decide +kernel
theorem dX11_checkPage_20 : decode cX11_checkPage 20 = .ok (.invokespecial 51, 3) := by decide +kernel
theorem dX11_checkPage_23 : decode cX11_checkPage 23 = .ok (.athrow, 1) := by decide +kernel
set_option maxHeartbeats 4000000 in
set_option maxRecDepth 100000 in
theorem c_checkPage (l : Launch) (dC : Nat → ClassId) (dI : Nat → Nat → Nat) (k : Nat → ClassId) (hl0 : l.stackTraces = false) (P : Nat) (pg : Nat) (p0 : Nat) (p1 : Nat) (p2 : Nat) (p3 : Nat) (p4 : Nat) (p5 : Nat) (T : Nat) (R : Nat) (ST : Nat) (x1 : Int32) : Xt l dC dI k yX11_checkPage (.code yX11_checkPage cX11_checkPage 2 none) ({ frames := 6, cells := 1, slots := 6, locals := 82 } : Room) [.ref P, .int x1] [(P, .inr (4, [.ref T, .ref R, .ref pg, .ref ST, .int 0, .int 0, .ref p0, .ref p1, .ref p2, .ref p3, .ref p4, .ref p5]))] (fun r w => False) (fun E => (E = "java/lang/IndexOutOfBoundsException")) := by
  refine xt_of (by decide) (Nat.le_of_ble_eq_true rfl) ?_
  intro p e s m args below meth c H locs B hr hex ls hl
  have hx := B.1.1
  have hb := B.1.2.1
  have hl : lv_has ls 2 [(0, .ref P), (1, .int x1)] := hl
  refine lv_iload_n hx hb dX11_checkPage_0 rfl (lv_at hl 1 rfl) ?_
  refine lv_iconst (v := 1) hx hb dX11_checkPage_1 (by decide) ?_
  refine lv_icmp_lt (tgt := 13) hx hb dX11_checkPage_2 (by decide) (fun c_1 => ?_) (fun c_1 => ?_)
  · have zc_1 : x1.toInt < 1 := zlt c_1
    exact x_thrW (tx := "no such page") xE_ioobe (rfl) hl0 B hex hl (by decide +kernel) dX11_checkPage_13 dX11_checkPage_16 dX11_checkPage_17 dX11_checkPage_20 dX11_checkPage_23 ⟨Nat.le_of_ble_eq_true rfl, Nat.le_of_ble_eq_true rfl, Nat.le_of_ble_eq_true rfl, Nat.le_of_ble_eq_true rfl⟩ ⟨Nat.le_of_ble_eq_true rfl, Nat.le_of_ble_eq_true rfl⟩
  · have zc_1 : 1 ≤ x1.toInt := znlt c_1
    refine lv_iload_n hx hb dX11_checkPage_5 rfl (lv_at hl 1 rfl) ?_
    refine lv_aload_n hx hb dX11_checkPage_6 rfl (lv_at hl 0 rfl) ?_
    refine x_get (ci := 4) (C := RX4) (T := TX4) (N := 12) (v := .int 0) B 0 rfl rfl in_X4 4 (by decide) mw_372 (fun _ h9 => h9) rfl dX11_checkPage_7 ?_
    refine lv_icmp_le (tgt := 24) hx hb dX11_checkPage_10 (by decide) (fun c9 => by have z9 : x1.toInt ≤ 0 := zle c9; omega) (fun c_2 => ?_)
    exact x_thrW (tx := "no such page") xE_ioobe (rfl) hl0 B hex hl (by decide +kernel) dX11_checkPage_13 dX11_checkPage_16 dX11_checkPage_17 dX11_checkPage_20 dX11_checkPage_23 ⟨Nat.le_of_ble_eq_true rfl, Nat.le_of_ble_eq_true rfl, Nat.le_of_ble_eq_true rfl, Nat.le_of_ble_eq_true rfl⟩ ⟨Nat.le_of_ble_eq_true rfl, Nat.le_of_ble_eq_true rfl⟩

theorem mw_419 : (Jvm.Cond.fieldLink "Galleyforge" (407 : Nat) "Galleyforge$Layout" "goesOn" "Z") ∈ gt := gt_at 554 (by decide +kernel) (by decide +kernel)
theorem mw_1286 : (Jvm.Cond.methodLink "Galleyforge" (238 : Nat) ({ cls := "Galleyforge", name := "checkVariant", desc := "(I)V" } : Jvm.MethodName)) ∈ gt := gt_at 1421 (by decide +kernel) (by decide +kernel)
theorem mw_1287 : (Jvm.Cond.static ({ cls := "Galleyforge", name := "checkVariant", desc := "(I)V" } : Jvm.MethodName)) ∈ gt := gt_at 1422 (by decide +kernel) (by decide +kernel)
theorem mw_1288 : (Jvm.Cond.code ({ cls := "Galleyforge", name := "checkVariant", desc := "(I)V" } : Jvm.MethodName) prog_1_method_41_code (1 : Nat) (Option.none : Option Jvm.ClassFile.FieldType)) ∈ gt := gt_at 1423 (by decide +kernel) (by decide +kernel)
theorem mw_1370 : (Jvm.Cond.methodLink "Galleyforge" (410 : Nat) ({ cls := "Galleyforge$Layout", name := "makeRound", desc := "()V" } : Jvm.MethodName)) ∈ gt := gt_at 1505 (by decide +kernel) (by decide +kernel)
theorem mw_1371 : (Jvm.Cond.instanceMethod ({ cls := "Galleyforge$Layout", name := "makeRound", desc := "()V" } : Jvm.MethodName)) ∈ gt := gt_at 1506 (by decide +kernel) (by decide +kernel)
theorem mw_1372 : (Jvm.Cond.selects "Galleyforge$Layout" ({ cls := "Galleyforge$Layout", name := "makeRound", desc := "()V" } : Jvm.MethodName) ({ cls := "Galleyforge$Layout", name := "makeRound", desc := "()V" } : Jvm.MethodName)) ∈ gt := gt_at 1507 (by decide +kernel) (by decide +kernel)
theorem mw_1373 : (Jvm.Cond.code ({ cls := "Galleyforge$Layout", name := "makeRound", desc := "()V" } : Jvm.MethodName) prog_3_method_3_code (2 : Nat) (Option.none : Option Jvm.ClassFile.FieldType)) ∈ gt := gt_at 1508 (by decide +kernel) (by decide +kernel)
theorem mS_X11_checkVariant : mS yX11_checkVariant cX11_checkVariant 1 none 1 := ⟨⟨mw_1288, mw_1, by decide, by decide, by decide +kernel⟩, mw_1287⟩
theorem mV_X1_makeRound : mV yX1_makeRound cX1_makeRound 2 none 0 := ⟨⟨mw_1373, mw_8, by decide, by decide, by decide +kernel⟩, mw_1371, mw_1372⟩
theorem dX11_layoutOf_0 : decode cX11_layoutOf 0 = .ok (.iload_n 1, 1) := by decide +kernel
theorem dX11_layoutOf_1 : decode cX11_layoutOf 1 = .ok (.invokestatic 238, 3) := by decide +kernel
theorem dX11_layoutOf_4 : decode cX11_layoutOf 4 = .ok (.aload_n 0, 1) := by decide +kernel
theorem dX11_layoutOf_5 : decode cX11_layoutOf 5 = .ok (.getfield 27, 3) := by decide +kernel
theorem dX11_layoutOf_8 : decode cX11_layoutOf 8 = .ok (.iload_n 1, 1) := by decide +kernel
theorem dX11_layoutOf_9 : decode cX11_layoutOf 9 = .ok (.aaload, 1) := by decide +kernel
theorem dX11_layoutOf_10 : decode cX11_layoutOf 10 = .ok (.astore_n 2, 1) := by decide +kernel
theorem dX11_layoutOf_11 : decode cX11_layoutOf 11 = .ok (.iconst 0, 1) := by decide +kernel
theorem dX11_layoutOf_12 : decode cX11_layoutOf 12 = .ok (.istore_n 3, 1) := by decide +kernel
theorem dX11_layoutOf_13 : decode cX11_layoutOf 13 = .ok (.iload_n 3, 1) := by decide +kernel
theorem dX11_layoutOf_14 : decode cX11_layoutOf 14 = .ok (.sipush 730, 3) := by decide +kernel
theorem dX11_layoutOf_17 : decode cX11_layoutOf 17 = .ok (.if_icmp .gt 20, 3) := by decide +kernel
theorem dX11_layoutOf_20 : decode cX11_layoutOf 20 = .ok (.aload_n 2, 1) := by decide +kernel
theorem dX11_layoutOf_21 : decode cX11_layoutOf 21 = .ok (.getfield 407, 3) := by decide +kernel
theorem dX11_layoutOf_24 : decode cX11_layoutOf 24 = .ok (.ifCond .eq 13, 3) := by decide +kernel
theorem dX11_layoutOf_27 : decode cX11_layoutOf 27 = .ok (.aload_n 2, 1) := by decide +kernel
theorem dX11_layoutOf_28 : decode cX11_layoutOf 28 = .ok (.invokevirtual 410, 3) := by decide +kernel
theorem dX11_layoutOf_31 : decode cX11_layoutOf 31 = .ok (.iinc 3 1, 3) := by decide +kernel
theorem dX11_layoutOf_34 : decode cX11_layoutOf 34 = .ok (.goto (-21), 3) := by decide +kernel
theorem dX11_layoutOf_37 : decode cX11_layoutOf 37 = .ok (.aload_n 2, 1) := by decide +kernel
theorem dX11_layoutOf_38 : decode cX11_layoutOf 38 = .ok (.areturn, 1) := by decide +kernel
set_option maxHeartbeats 4000000 in
set_option maxRecDepth 100000 in
theorem c_layoutOf (l : Launch) (dC : Nat → ClassId) (dI : Nat → Nat → Nat) (k : Nat → ClassId) (hl0 : l.stackTraces = false) (gx : Nat) (T : Nat) (LA : Nat) (sp : Nat) (dr : Nat) (bl : Nat) (pt : Nat) (fk : Nat) (fh : Nat) (ky : Nat) (LN : Nat) (ST : Nat) (L0 : Nat) (lc0 : Nat) (le0 : Nat) (ll0 : Nat) (ld0 : Nat) (wl0 : Nat) (op0 : Nat) (dg0 : Nat) (L1 : Nat) (lc1 : Nat) (le1 : Nat) (ll1 : Nat) (ld1 : Nat) (wl1 : Nat) (op1 : Nat) (dg1 : Nat) (R0 : Nat) (r00 : Nat) (r10 : Nat) (r20 : Nat) (r30 : Nat) (r40 : Nat) (r50 : Nat) (r60 : Nat) (r70 : Nat) (wr0 : Nat) (lr0 : Nat) (tt0 : Nat) (fr0 : Nat) (r80 : Nat) (r90 : Nat) (R1 : Nat) (r01 : Nat) (r11 : Nat) (r21 : Nat) (r31 : Nat) (r41 : Nat) (r51 : Nat) (r61 : Nat) (r71 : Nat) (wr1 : Nat) (lr1 : Nat) (tt1 : Nat) (fr1 : Nat) (r81 : Nat) (r91 : Nat) (P0 : Nat) (pg0 : Nat) (p00 : Nat) (p10 : Nat) (p20 : Nat) (p30 : Nat) (p40 : Nat) (p50 : Nat) (P1 : Nat) (pg1 : Nat) (p01 : Nat) (p11 : Nat) (p21 : Nat) (p31 : Nat) (p41 : Nat) (p51 : Nat) (v : Int32) : Xt l dC dI k yX11_layoutOf (.code yX11_layoutOf cX11_layoutOf 4 (some (.object "Galleyforge$Layout"))) ({ frames := 7, cells := 1, slots := 6, locals := 102 } : Room) [.ref gx, .int v] [(gx, .inr (9, [.ref T, .ref LA, .ref sp, .int 0, .ref dr])), (LA, .inl (k 3, 2, .inr (.inr (.inr (.inr (va_up (va_up (fun _ => none) 0 (some L0)) 1 (some L1))))))), (T, .inr (8, [.ref bl, .ref pt, .ref fk, .ref fh, .int 0, .ref ky, .int 60, .int 12])), (bl, .inr (11, [.int 0, .ref (dI 99 1), .int 0])), (L0, .inr (1, [.ref T, .int 0, .ref LN, .ref R0, .ref P0, .int 1, .int 0, .ref lc0, .ref le0, .ref ll0, .ref ld0, .ref wl0, .ref op0, .int 0, .int 0, .int 1365, .ref dg0])), (dg0, .inl (k 0, 730, .inl (fun _ => 0))), (R0, .inr (5, [.int 0, .ref r00, .ref r10, .ref r20, .ref r30, .ref r40, .ref r50, .ref r60, .ref r70, .ref wr0, .ref lr0, .ref tt0, .int 0, .int 0, .ref fr0, .ref r80, .ref r90, .int 0])), (wr0, .inl (k 0, 192, .inl (fun _ => 0))), (lr0, .inl (k 0, 6, .inl (fun _ => 0))), (tt0, .inl (k 1, 8, .inl (fun _ => 0))), (fr0, .inl (k 0, 5, .inl (fun _ => 0))), (P0, .inr (4, [.ref T, .ref R0, .ref pg0, .ref ST, .int 0, .int 0, .ref p00, .ref p10, .ref p20, .ref p30, .ref p40, .ref p50])), (p50, .inl (k 0, 5, .inl (fun _ => 0))), (L1, .inr (1, [.ref T, .int 1, .ref LN, .ref R1, .ref P1, .int 1, .int 0, .ref lc1, .ref le1, .ref ll1, .ref ld1, .ref wl1, .ref op1, .int 0, .int 0, .int 1365, .ref dg1])), (dg1, .inl (k 0, 730, .inl (fun _ => 0))), (R1, .inr (5, [.int 0, .ref r01, .ref r11, .ref r21, .ref r31, .ref r41, .ref r51, .ref r61, .ref r71, .ref wr1, .ref lr1, .ref tt1, .int 0, .int 0, .ref fr1, .ref r81, .ref r91, .int 0])), (wr1, .inl (k 0, 192, .inl (fun _ => 0))), (lr1, .inl (k 0, 6, .inl (fun _ => 0))), (tt1, .inl (k 1, 8, .inl (fun _ => 0))), (fr1, .inl (k 0, 5, .inl (fun _ => 0))), (P1, .inr (4, [.ref T, .ref R1, .ref pg1, .ref ST, .int 0, .int 0, .ref p01, .ref p11, .ref p21, .ref p31, .ref p41, .ref p51])), (p51, .inl (k 0, 5, .inl (fun _ => 0)))] (fun r w => (∃ (gl : Nat → Int32), (0 ≤ v.toInt ∧ v.toInt ≤ 0) ∧ (∀ j, j < 6 → gl j = -1) ∧ r = some (.ref L0) ∧ w = [(gx, .inr (9, [.ref T, .ref LA, .ref sp, .int 0, .ref dr])), (T, .inr (8, [.ref bl, .ref pt, .ref fk, .ref fh, .int 0, .ref ky, .int 60, .int 12])), (bl, .inr (11, [.int 0, .ref (dI 99 1), .int 0])), (L0, .inr (1, [.ref T, .int 0, .ref LN, .ref R0, .ref P0, .int 0, .int 0, .ref lc0, .ref le0, .ref ll0, .ref ld0, .ref wl0, .ref op0, .int 1, .int 1, .int 1365, .ref dg0])), (R0, .inr (5, [.int 0, .ref r00, .ref r10, .ref r20, .ref r30, .ref r40, .ref r50, .ref r60, .ref r70, .ref wr0, .ref lr0, .ref tt0, .int 0, .int 0, .ref fr0, .ref r80, .ref r90, .int 0])), (tt0, .inl (k 1, 8, .inl (upd (upd (upd (upd (upd (upd (upd (upd (fun _ => 0) 0 0) 1 0) 2 0) 3 0) 4 0) 5 0) 6 0) 7 0))), (lr0, .inl (k 0, 6, .inl gl)), (P0, .inr (4, [.ref T, .ref R0, .ref pg0, .ref ST, .int 0, .int 0, .ref p00, .ref p10, .ref p20, .ref p30, .ref p40, .ref p50]))]) ∨ (∃ (gl : Nat → Int32), (1 ≤ v.toInt ∧ v.toInt ≤ 1) ∧ (∀ j, j < 6 → gl j = -1) ∧ r = some (.ref L1) ∧ w = [(gx, .inr (9, [.ref T, .ref LA, .ref sp, .int 0, .ref dr])), (T, .inr (8, [.ref bl, .ref pt, .ref fk, .ref fh, .int 0, .ref ky, .int 60, .int 12])), (bl, .inr (11, [.int 0, .ref (dI 99 1), .int 0])), (L1, .inr (1, [.ref T, .int 1, .ref LN, .ref R1, .ref P1, .int 0, .int 0, .ref lc1, .ref le1, .ref ll1, .ref ld1, .ref wl1, .ref op1, .int 1, .int 1, .int 1365, .ref dg1])), (R1, .inr (5, [.int 0, .ref r01, .ref r11, .ref r21, .ref r31, .ref r41, .ref r51, .ref r61, .ref r71, .ref wr1, .ref lr1, .ref tt1, .int 0, .int 0, .ref fr1, .ref r81, .ref r91, .int 0])), (tt1, .inl (k 1, 8, .inl (upd (upd (upd (upd (upd (upd (upd (upd (fun _ => 0) 0 0) 1 0) 2 0) 3 0) 4 0) 5 0) 6 0) 7 0))), (lr1, .inl (k 0, 6, .inl gl)), (P1, .inr (4, [.ref T, .ref R1, .ref pg1, .ref ST, .int 0, .int 0, .ref p01, .ref p11, .ref p21, .ref p31, .ref p41, .ref p51]))])) (fun E => (¬ (0 ≤ v.toInt ∧ v.toInt ≤ 1) ∧ E = "java/lang/IndexOutOfBoundsException")) := by
  refine xt_of (by decide) (Nat.le_of_ble_eq_true rfl) ?_
  intro p e s m args below meth c H locs B hr hex ls hl
  have hx := B.1.1
  have hb := B.1.2.1
  have hl : lv_has ls 4 [(0, .ref gx), (1, .int v)] := hl
  refine lv_iload_n hx hb dX11_layoutOf_0 rfl (lv_at hl 1 rfl) ?_
  refine x_callSx (rest := []) (wr := [(gx, .inr (9, [.ref T, .ref LA, .ref sp, .int 0, .ref dr])), (LA, .inl (k 3, 2, .inr (.inr (.inr (.inr (va_up (va_up (fun _ => none) 0 (some L0)) 1 (some L1))))))), (T, .inr (8, [.ref bl, .ref pt, .ref fk, .ref fh, .int 0, .ref ky, .int 60, .int 12])), (bl, .inr (11, [.int 0, .ref (dI 99 1), .int 0])), (L0, .inr (1, [.ref T, .int 0, .ref LN, .ref R0, .ref P0, .int 1, .int 0, .ref lc0, .ref le0, .ref ll0, .ref ld0, .ref wl0, .ref op0, .int 0, .int 0, .int 1365, .ref dg0])), (dg0, .inl (k 0, 730, .inl (fun _ => 0))), (R0, .inr (5, [.int 0, .ref r00, .ref r10, .ref r20, .ref r30, .ref r40, .ref r50, .ref r60, .ref r70, .ref wr0, .ref lr0, .ref tt0, .int 0, .int 0, .ref fr0, .ref r80, .ref r90, .int 0])), (wr0, .inl (k 0, 192, .inl (fun _ => 0))), (lr0, .inl (k 0, 6, .inl (fun _ => 0))), (tt0, .inl (k 1, 8, .inl (fun _ => 0))), (fr0, .inl (k 0, 5, .inl (fun _ => 0))), (P0, .inr (4, [.ref T, .ref R0, .ref pg0, .ref ST, .int 0, .int 0, .ref p00, .ref p10, .ref p20, .ref p30, .ref p40, .ref p50])), (p50, .inl (k 0, 5, .inl (fun _ => 0))), (L1, .inr (1, [.ref T, .int 1, .ref LN, .ref R1, .ref P1, .int 1, .int 0, .ref lc1, .ref le1, .ref ll1, .ref ld1, .ref wl1, .ref op1, .int 0, .int 0, .int 1365, .ref dg1])), (dg1, .inl (k 0, 730, .inl (fun _ => 0))), (R1, .inr (5, [.int 0, .ref r01, .ref r11, .ref r21, .ref r31, .ref r41, .ref r51, .ref r61, .ref r71, .ref wr1, .ref lr1, .ref tt1, .int 0, .int 0, .ref fr1, .ref r81, .ref r91, .int 0])), (wr1, .inl (k 0, 192, .inl (fun _ => 0))), (lr1, .inl (k 0, 6, .inl (fun _ => 0))), (tt1, .inl (k 1, 8, .inl (fun _ => 0))), (fr1, .inl (k 0, 5, .inl (fun _ => 0))), (P1, .inr (4, [.ref T, .ref R1, .ref pg1, .ref ST, .int 0, .int 0, .ref p01, .ref p11, .ref p21, .ref p31, .ref p41, .ref p51])), (p51, .inl (k 0, 5, .inl (fun _ => 0)))]) (c_checkVariant l dC dI k hl0 v) B mS_X11_checkVariant mw_1286 hl [] [0, 1, 2, 3, 4, 5, 6, 7, 8, 9, 10, 11, 12, 13, 14, 15, 16, 17, 18, 19, 20, 21] rfl rfl ⟨by decide, by decide⟩ (by decide) ⟨Nat.le_of_ble_eq_true rfl, Nat.le_of_ble_eq_true rfl⟩ (Nat.le_of_ble_eq_true rfl) rfl dX11_layoutOf_1 ⟨Nat.le_of_ble_eq_true rfl, Nat.le_of_ble_eq_true rfl⟩ (fun E ce q9 H locs hp B h1 h2 h3 => ?_) (fun r w H locs hp B => ?_)
  · rcases hp with ⟨z0_0, rfl⟩
    exact x_out hex (⟨by omega, rfl⟩) B h1 h2 h3 (Nat.le_of_ble_eq_true rfl) (Nat.le_of_ble_eq_true rfl)
  · skip
    obtain ⟨z_2, rfl, rfl⟩ := hp
    have B := bd_to (ws' := [(gx, .inr (9, [.ref T, .ref LA, .ref sp, .int 0, .ref dr])), (LA, .inl (k 3, 2, .inr (.inr (.inr (.inr (va_up (va_up (fun _ => none) 0 (some L0)) 1 (some L1))))))), (T, .inr (8, [.ref bl, .ref pt, .ref fk, .ref fh, .int 0, .ref ky, .int 60, .int 12])), (bl, .inr (11, [.int 0, .ref (dI 99 1), .int 0])), (L0, .inr (1, [.ref T, .int 0, .ref LN, .ref R0, .ref P0, .int 1, .int 0, .ref lc0, .ref le0, .ref ll0, .ref ld0, .ref wl0, .ref op0, .int 0, .int 0, .int 1365, .ref dg0])), (dg0, .inl (k 0, 730, .inl (fun _ => 0))), (R0, .inr (5, [.int 0, .ref r00, .ref r10, .ref r20, .ref r30, .ref r40, .ref r50, .ref r60, .ref r70, .ref wr0, .ref lr0, .ref tt0, .int 0, .int 0, .ref fr0, .ref r80, .ref r90, .int 0])), (wr0, .inl (k 0, 192, .inl (fun _ => 0))), (lr0, .inl (k 0, 6, .inl (fun _ => 0))), (tt0, .inl (k 1, 8, .inl (fun _ => 0))), (fr0, .inl (k 0, 5, .inl (fun _ => 0))), (P0, .inr (4, [.ref T, .ref R0, .ref pg0, .ref ST, .int 0, .int 0, .ref p00, .ref p10, .ref p20, .ref p30, .ref p40, .ref p50])), (p50, .inl (k 0, 5, .inl (fun _ => 0))), (L1, .inr (1, [.ref T, .int 1, .ref LN, .ref R1, .ref P1, .int 1, .int 0, .ref lc1, .ref le1, .ref ll1, .ref ld1, .ref wl1, .ref op1, .int 0, .int 0, .int 1365, .ref dg1])), (dg1, .inl (k 0, 730, .inl (fun _ => 0))), (R1, .inr (5, [.int 0, .ref r01, .ref r11, .ref r21, .ref r31, .ref r41, .ref r51, .ref r61, .ref r71, .ref wr1, .ref lr1, .ref tt1, .int 0, .int 0, .ref fr1, .ref r81, .ref r91, .int 0])), (wr1, .inl (k 0, 192, .inl (fun _ => 0))), (lr1, .inl (k 0, 6, .inl (fun _ => 0))), (tt1, .inl (k 1, 8, .inl (fun _ => 0))), (fr1, .inl (k 0, 5, .inl (fun _ => 0))), (P1, .inr (4, [.ref T, .ref R1, .ref pg1, .ref ST, .int 0, .int 0, .ref p01, .ref p11, .ref p21, .ref p31, .ref p41, .ref p51])), (p51, .inl (k 0, 5, .inl (fun _ => 0)))]) rfl B
    refine lv_aload_n hx hb dX11_layoutOf_4 rfl (lv_at hl 0 rfl) ?_
    refine x_get (ci := 9) (C := RX11) (T := TX11) (N := 5) (v := .ref LA) B 0 rfl rfl in_X11 1 (by decide) mw_476 (fun _ h9 => h9) rfl dX11_layoutOf_5 ?_
    refine lv_iload_n hx hb dX11_layoutOf_8 rfl (lv_at hl 1 rfl) ?_
    have zc_3 : v.toInt = 0 ∨ v.toInt = 1 := by omega
    rcases zc_3 with zc_3 | zc_3
    · have ec_3 : v = 0 := zint (by rw [zc_3]; decide)
      refine x_aldq (v := L0) B 1 rfl (zin (by omega) (by omega)) dX11_layoutOf_9 (by rw [ec_3]; rfl) ?_
      refine lv_astore_n (lv' := [(2, .ref L0), (0, .ref gx), (1, .int v)]) hx hb dX11_layoutOf_10 rfl hl (by decide) rfl (fun ls hl => ?_)
      refine lv_iconst (v := 0) hx hb dX11_layoutOf_11 (by decide) ?_
      refine lv_istore_n (lv' := [(3, .int 0), (2, .ref L0), (0, .ref gx), (1, .int v)]) hx hb dX11_layoutOf_12 rfl hl (by decide) rfl (fun ls hl => ?_)
      refine lv_iload_n hx hb dX11_layoutOf_13 rfl (lv_at hl 0 rfl) ?_
      refine lv_sipush (v := 730) hx hb dX11_layoutOf_14 (by decide) ?_
      refine lv_icmp_gt (tgt := 37) hx hb dX11_layoutOf_17 (by decide) (fun c9 => absurd c9 (by decide)) (fun _ => ?_)
      refine lv_aload_n hx hb dX11_layoutOf_20 rfl (lv_at hl 1 rfl) ?_
      refine x_get (ci := 1) (C := RX1) (T := TX1) (N := 17) (v := .int 1) B 4 rfl rfl in_X1 5 (by decide) mw_419 (fun _ h9 => h9) rfl dX11_layoutOf_21 ?_
      refine lv_if_eq (tgt := 37) hx hb dX11_layoutOf_24 (by decide) (fun c9 => absurd c9 (by decide)) (fun _ => ?_)
      refine lv_aload_n hx hb dX11_layoutOf_27 rfl (lv_at hl 1 rfl) ?_
      refine x_callV (rest := []) (wr := [(gx, .inr (9, [.ref T, .ref LA, .ref sp, .int 0, .ref dr])), (LA, .inl (k 3, 2, .inr (.inr (.inr (.inr (va_up (va_up (fun _ => none) 0 (some L0)) 1 (some L1))))))), (L1, .inr (1, [.ref T, .int 1, .ref LN, .ref R1, .ref P1, .int 1, .int 0, .ref lc1, .ref le1, .ref ll1, .ref ld1, .ref wl1, .ref op1, .int 0, .int 0, .int 1365, .ref dg1])), (dg1, .inl (k 0, 730, .inl (fun _ => 0))), (R1, .inr (5, [.int 0, .ref r01, .ref r11, .ref r21, .ref r31, .ref r41, .ref r51, .ref r61, .ref r71, .ref wr1, .ref lr1, .ref tt1, .int 0, .int 0, .ref fr1, .ref r81, .ref r91, .int 0])), (wr1, .inl (k 0, 192, .inl (fun _ => 0))), (lr1, .inl (k 0, 6, .inl (fun _ => 0))), (tt1, .inl (k 1, 8, .inl (fun _ => 0))), (fr1, .inl (k 0, 5, .inl (fun _ => 0))), (P1, .inr (4, [.ref T, .ref R1, .ref pg1, .ref ST, .int 0, .int 0, .ref p01, .ref p11, .ref p21, .ref p31, .ref p41, .ref p51])), (p51, .inl (k 0, 5, .inl (fun _ => 0)))]) (c_makeRound l dC dI k L0 lc0 le0 ll0 ld0 wl0 op0 dg0 T LN R0 P0 0 bl pt fk fh ky r00 r10 r20 r30 r40 r50 r60 r70 wr0 lr0 tt0 fr0 r80 r90 pg0 p00 p10 p20 p30 p40 p50 ST) B mV_X1_makeRound mw_1370 hl [4, 2, 3, 5, 6, 7, 8, 9, 10, 11, 12] [0, 1, 13, 14, 15, 16, 17, 18, 19, 20, 21] rfl rfl ⟨by decide, by decide⟩ (by decide) (q0 := 0) rfl rfl rfl ⟨Nat.le_of_ble_eq_true rfl, Nat.le_of_ble_eq_true rfl⟩ (Nat.le_of_ble_eq_true rfl) rfl dX11_layoutOf_28 ⟨Nat.le_of_ble_eq_true rfl, Nat.le_of_ble_eq_true rfl⟩ (fun r w H locs hp B => ?_)
      obtain ⟨gl_4, z_5, rfl, rfl⟩ := hp
      have B := bd_to (ws' := [(gx, .inr (9, [.ref T, .ref LA, .ref sp, .int 0, .ref dr])), (LA, .inl (k 3, 2, .inr (.inr (.inr (.inr (va_up (va_up (fun _ => none) 0 (some L0)) 1 (some L1))))))), (L1, .inr (1, [.ref T, .int 1, .ref LN, .ref R1, .ref P1, .int 1, .int 0, .ref lc1, .ref le1, .ref ll1, .ref ld1, .ref wl1, .ref op1, .int 0, .int 0, .int 1365, .ref dg1])), (dg1, .inl (k 0, 730, .inl (fun _ => 0))), (R1, .inr (5, [.int 0, .ref r01, .ref r11, .ref r21, .ref r31, .ref r41, .ref r51, .ref r61, .ref r71, .ref wr1, .ref lr1, .ref tt1, .int 0, .int 0, .ref fr1, .ref r81, .ref r91, .int 0])), (wr1, .inl (k 0, 192, .inl (fun _ => 0))), (lr1, .inl (k 0, 6, .inl (fun _ => 0))), (tt1, .inl (k 1, 8, .inl (fun _ => 0))), (fr1, .inl (k 0, 5, .inl (fun _ => 0))), (P1, .inr (4, [.ref T, .ref R1, .ref pg1, .ref ST, .int 0, .int 0, .ref p01, .ref p11, .ref p21, .ref p31, .ref p41, .ref p51])), (p51, .inl (k 0, 5, .inl (fun _ => 0))), (L0, .inr (1, [.ref T, .int 0, .ref LN, .ref R0, .ref P0, .int 0, .int 0, .ref lc0, .ref le0, .ref ll0, .ref ld0, .ref wl0, .ref op0, .int 1, .int 1, .int 1365, .ref dg0])), (T, .inr (8, [.ref bl, .ref pt, .ref fk, .ref fh, .int 0, .ref ky, .int 60, .int 12])), (bl, .inr (11, [.int 0, .ref (dI 99 1), .int 0])), (R0, .inr (5, [.int 0, .ref r00, .ref r10, .ref r20, .ref r30, .ref r40, .ref r50, .ref r60, .ref r70, .ref wr0, .ref lr0, .ref tt0, .int 0, .int 0, .ref fr0, .ref r80, .ref r90, .int 0])), (tt0, .inl (k 1, 8, .inl (upd (upd (upd (upd (upd (upd (upd (upd (fun _ => 0) 0 0) 1 0) 2 0) 3 0) 4 0) 5 0) 6 0) 7 0))), (lr0, .inl (k 0, 6, .inl gl_4)), (P0, .inr (4, [.ref T, .ref R0, .ref pg0, .ref ST, .int 0, .int 0, .ref p00, .ref p10, .ref p20, .ref p30, .ref p40, .ref p50]))]) rfl B
      refine lv_iinc (v := 1) (lv' := [(3, .int 1), (2, .ref L0), (0, .ref gx), (1, .int v)]) hx hb dX11_layoutOf_31 hl (k := 0) rfl (by decide) (by decide) rfl (fun ls hl => ?_)
      refine lv_goto (tgt := 13) hx hb dX11_layoutOf_34 (by decide) ?_
      refine lv_iload_n hx hb dX11_layoutOf_13 rfl (lv_at hl 0 rfl) ?_
      refine lv_sipush (v := 730) hx hb dX11_layoutOf_14 (by decide) ?_
      refine lv_icmp_gt (tgt := 37) hx hb dX11_layoutOf_17 (by decide) (fun c9 => absurd c9 (by decide)) (fun _ => ?_)
      refine lv_aload_n hx hb dX11_layoutOf_20 rfl (lv_at hl 1 rfl) ?_
      refine x_get (ci := 1) (C := RX1) (T := TX1) (N := 17) (v := .int 0) B 11 rfl rfl in_X1 5 (by decide) mw_419 (fun _ h9 => h9) rfl dX11_layoutOf_21 ?_
      refine lv_if_eq (tgt := 37) hx hb dX11_layoutOf_24 (by decide) (fun _ => ?_) (fun c9 => absurd (by decide) c9)
      refine lv_aload_n hx hb dX11_layoutOf_37 rfl (lv_at hl 1 rfl) ?_
      have B := bd_sub (ws' := [(gx, .inr (9, [.ref T, .ref LA, .ref sp, .int 0, .ref dr])), (T, .inr (8, [.ref bl, .ref pt, .ref fk, .ref fh, .int 0, .ref ky, .int 60, .int 12])), (bl, .inr (11, [.int 0, .ref (dI 99 1), .int 0])), (L0, .inr (1, [.ref T, .int 0, .ref LN, .ref R0, .ref P0, .int 0, .int 0, .ref lc0, .ref le0, .ref ll0, .ref ld0, .ref wl0, .ref op0, .int 1, .int 1, .int 1365, .ref dg0])), (R0, .inr (5, [.int 0, .ref r00, .ref r10, .ref r20, .ref r30, .ref r40, .ref r50, .ref r60, .ref r70, .ref wr0, .ref lr0, .ref tt0, .int 0, .int 0, .ref fr0, .ref r80, .ref r90, .int 0])), (tt0, .inl (k 1, 8, .inl (upd (upd (upd (upd (upd (upd (upd (upd (fun _ => 0) 0 0) 1 0) 2 0) 3 0) 4 0) 5 0) 6 0) 7 0))), (lr0, .inl (k 0, 6, .inl gl_4)), (P0, .inr (4, [.ref T, .ref R0, .ref pg0, .ref ST, .int 0, .int 0, .ref p00, .ref p10, .ref p20, .ref p30, .ref p40, .ref p50]))]) [0, 12, 13, 11, 14, 15, 16, 17] (by decide) rfl B
      exact vx_ret (x_aret B hr (Or.inl (⟨gl_4, by omega, z_5, rfl, rfl⟩)) (Nat.le_of_ble_eq_true rfl) (Nat.le_of_ble_eq_true rfl) dX11_layoutOf_38)
    · have ec_3 : v = 1 := zint (by rw [zc_3]; decide)
      refine x_aldq (v := L1) B 1 rfl (zin (by omega) (by omega)) dX11_layoutOf_9 (by rw [ec_3]; rfl) ?_
      refine lv_astore_n (lv' := [(2, .ref L1), (0, .ref gx), (1, .int v)]) hx hb dX11_layoutOf_10 rfl hl (by decide) rfl (fun ls hl => ?_)
      refine lv_iconst (v := 0) hx hb dX11_layoutOf_11 (by decide) ?_
      refine lv_istore_n (lv' := [(3, .int 0), (2, .ref L1), (0, .ref gx), (1, .int v)]) hx hb dX11_layoutOf_12 rfl hl (by decide) rfl (fun ls hl => ?_)
      refine lv_iload_n hx hb dX11_layoutOf_13 rfl (lv_at hl 0 rfl) ?_
      refine lv_sipush (v := 730) hx hb dX11_layoutOf_14 (by decide) ?_
      refine lv_icmp_gt (tgt := 37) hx hb dX11_layoutOf_17 (by decide) (fun c9 => absurd c9 (by decide)) (fun _ => ?_)
      refine lv_aload_n hx hb dX11_layoutOf_20 rfl (lv_at hl 1 rfl) ?_
      refine x_get (ci := 1) (C := RX1) (T := TX1) (N := 17) (v := .int 1) B 13 rfl rfl in_X1 5 (by decide) mw_419 (fun _ h9 => h9) rfl dX11_layoutOf_21 ?_
      refine lv_if_eq (tgt := 37) hx hb dX11_layoutOf_24 (by decide) (fun c9 => absurd c9 (by decide)) (fun _ => ?_)
      refine lv_aload_n hx hb dX11_layoutOf_27 rfl (lv_at hl 1 rfl) ?_
      refine x_callV (rest := []) (wr := [(gx, .inr (9, [.ref T, .ref LA, .ref sp, .int 0, .ref dr])), (LA, .inl (k 3, 2, .inr (.inr (.inr (.inr (va_up (va_up (fun _ => none) 0 (some L0)) 1 (some L1))))))), (L0, .inr (1, [.ref T, .int 0, .ref LN, .ref R0, .ref P0, .int 1, .int 0, .ref lc0, .ref le0, .ref ll0, .ref ld0, .ref wl0, .ref op0, .int 0, .int 0, .int 1365, .ref dg0])), (dg0, .inl (k 0, 730, .inl (fun _ => 0))), (R0, .inr (5, [.int 0, .ref r00, .ref r10, .ref r20, .ref r30, .ref r40, .ref r50, .ref r60, .ref r70, .ref wr0, .ref lr0, .ref tt0, .int 0, .int 0, .ref fr0, .ref r80, .ref r90, .int 0])), (wr0, .inl (k 0, 192, .inl (fun _ => 0))), (lr0, .inl (k 0, 6, .inl (fun _ => 0))), (tt0, .inl (k 1, 8, .inl (fun _ => 0))), (fr0, .inl (k 0, 5, .inl (fun _ => 0))), (P0, .inr (4, [.ref T, .ref R0, .ref pg0, .ref ST, .int 0, .int 0, .ref p00, .ref p10, .ref p20, .ref p30, .ref p40, .ref p50])), (p50, .inl (k 0, 5, .inl (fun _ => 0)))]) (c_makeRound l dC dI k L1 lc1 le1 ll1 ld1 wl1 op1 dg1 T LN R1 P1 1 bl pt fk fh ky r01 r11 r21 r31 r41 r51 r61 r71 wr1 lr1 tt1 fr1 r81 r91 pg1 p01 p11 p21 p31 p41 p51 ST) B mV_X1_makeRound mw_1370 hl [13, 2, 3, 14, 15, 16, 17, 18, 19, 20, 21] [0, 1, 4, 5, 6, 7, 8, 9, 10, 11, 12] rfl rfl ⟨by decide, by decide⟩ (by decide) (q0 := 0) rfl rfl rfl ⟨Nat.le_of_ble_eq_true rfl, Nat.le_of_ble_eq_true rfl⟩ (Nat.le_of_ble_eq_true rfl) rfl dX11_layoutOf_28 ⟨Nat.le_of_ble_eq_true rfl, Nat.le_of_ble_eq_true rfl⟩ (fun r w H locs hp B => ?_)
      obtain ⟨gl_6, z_7, rfl, rfl⟩ := hp
      have B := bd_to (ws' := [(gx, .inr (9, [.ref T, .ref LA, .ref sp, .int 0, .ref dr])), (LA, .inl (k 3, 2, .inr (.inr (.inr (.inr (va_up (va_up (fun _ => none) 0 (some L0)) 1 (some L1))))))), (L0, .inr (1, [.ref T, .int 0, .ref LN, .ref R0, .ref P0, .int 1, .int 0, .ref lc0, .ref le0, .ref ll0, .ref ld0, .ref wl0, .ref op0, .int 0, .int 0, .int 1365, .ref dg0])), (dg0, .inl (k 0, 730, .inl (fun _ => 0))), (R0, .inr (5, [.int 0, .ref r00, .ref r10, .ref r20, .ref r30, .ref r40, .ref r50, .ref r60, .ref r70, .ref wr0, .ref lr0, .ref tt0, .int 0, .int 0, .ref fr0, .ref r80, .ref r90, .int 0])), (wr0, .inl (k 0, 192, .inl (fun _ => 0))), (lr0, .inl (k 0, 6, .inl (fun _ => 0))), (tt0, .inl (k 1, 8, .inl (fun _ => 0))), (fr0, .inl (k 0, 5, .inl (fun _ => 0))), (P0, .inr (4, [.ref T, .ref R0, .ref pg0, .ref ST, .int 0, .int 0, .ref p00, .ref p10, .ref p20, .ref p30, .ref p40, .ref p50])), (p50, .inl (k 0, 5, .inl (fun _ => 0))), (L1, .inr (1, [.ref T, .int 1, .ref LN, .ref R1, .ref P1, .int 0, .int 0, .ref lc1, .ref le1, .ref ll1, .ref ld1, .ref wl1, .ref op1, .int 1, .int 1, .int 1365, .ref dg1])), (T, .inr (8, [.ref bl, .ref pt, .ref fk, .ref fh, .int 0, .ref ky, .int 60, .int 12])), (bl, .inr (11, [.int 0, .ref (dI 99 1), .int 0])), (R1, .inr (5, [.int 0, .ref r01, .ref r11, .ref r21, .ref r31, .ref r41, .ref r51, .ref r61, .ref r71, .ref wr1, .ref lr1, .ref tt1, .int 0, .int 0, .ref fr1, .ref r81, .ref r91, .int 0])), (tt1, .inl (k 1, 8, .inl (upd (upd (upd (upd (upd (upd (upd (upd (fun _ => 0) 0 0) 1 0) 2 0) 3 0) 4 0) 5 0) 6 0) 7 0))), (lr1, .inl (k 0, 6, .inl gl_6)), (P1, .inr (4, [.ref T, .ref R1, .ref pg1, .ref ST, .int 0, .int 0, .ref p01, .ref p11, .ref p21, .ref p31, .ref p41, .ref p51]))]) rfl B
      refine lv_iinc (v := 1) (lv' := [(3, .int 1), (2, .ref L1), (0, .ref gx), (1, .int v)]) hx hb dX11_layoutOf_31 hl (k := 0) rfl (by decide) (by decide) rfl (fun ls hl => ?_)
      refine lv_goto (tgt := 13) hx hb dX11_layoutOf_34 (by decide) ?_
      refine lv_iload_n hx hb dX11_layoutOf_13 rfl (lv_at hl 0 rfl) ?_
      refine lv_sipush (v := 730) hx hb dX11_layoutOf_14 (by decide) ?_
      refine lv_icmp_gt (tgt := 37) hx hb dX11_layoutOf_17 (by decide) (fun c9 => absurd c9 (by decide)) (fun _ => ?_)
      refine lv_aload_n hx hb dX11_layoutOf_20 rfl (lv_at hl 1 rfl) ?_
      refine x_get (ci := 1) (C := RX1) (T := TX1) (N := 17) (v := .int 0) B 11 rfl rfl in_X1 5 (by decide) mw_419 (fun _ h9 => h9) rfl dX11_layoutOf_21 ?_
      refine lv_if_eq (tgt := 37) hx hb dX11_layoutOf_24 (by decide) (fun _ => ?_) (fun c9 => absurd (by decide) c9)
      refine lv_aload_n hx hb dX11_layoutOf_37 rfl (lv_at hl 1 rfl) ?_
      have B := bd_sub (ws' := [(gx, .inr (9, [.ref T, .ref LA, .ref sp, .int 0, .ref dr])), (T, .inr (8, [.ref bl, .ref pt, .ref fk, .ref fh, .int 0, .ref ky, .int 60, .int 12])), (bl, .inr (11, [.int 0, .ref (dI 99 1), .int 0])), (L1, .inr (1, [.ref T, .int 1, .ref LN, .ref R1, .ref P1, .int 0, .int 0, .ref lc1, .ref le1, .ref ll1, .ref ld1, .ref wl1, .ref op1, .int 1, .int 1, .int 1365, .ref dg1])), (R1, .inr (5, [.int 0, .ref r01, .ref r11, .ref r21, .ref r31, .ref r41, .ref r51, .ref r61, .ref r71, .ref wr1, .ref lr1, .ref tt1, .int 0, .int 0, .ref fr1, .ref r81, .ref r91, .int 0])), (tt1, .inl (k 1, 8, .inl (upd (upd (upd (upd (upd (upd (upd (upd (fun _ => 0) 0 0) 1 0) 2 0) 3 0) 4 0) 5 0) 6 0) 7 0))), (lr1, .inl (k 0, 6, .inl gl_6)), (P1, .inr (4, [.ref T, .ref R1, .ref pg1, .ref ST, .int 0, .int 0, .ref p01, .ref p11, .ref p21, .ref p31, .ref p41, .ref p51]))]) [0, 12, 13, 11, 14, 15, 16, 17] (by decide) rfl B
      exact vx_ret (x_aret B hr (Or.inr (⟨gl_6, by omega, z_7, rfl, rfl⟩)) (Nat.le_of_ble_eq_true rfl) (Nat.le_of_ble_eq_true rfl) dX11_layoutOf_38)

end
