section
theorem mw_1196 : (Jvm.Cond.methodLink "GalleyforgeLaw" (170 : Nat) ({ cls := "GalleyforgeLaw", name := "remove", desc := "(LGalleyforge;I[J)I" } : Jvm.MethodName)) ∈ gt := gt_at 1331 (by decide +kernel) (by decide +kernel)
theorem mw_1197 : (Jvm.Cond.static ({ cls := "GalleyforgeLaw", name := "remove", desc := "(LGalleyforge;I[J)I" } : Jvm.MethodName)) ∈ gt := gt_at 1332 (by decide +kernel) (by decide +kernel)
theorem mw_1198 : (Jvm.Cond.codeWith ({ cls := "GalleyforgeLaw", name := "remove", desc := "(LGalleyforge;I[J)I" } : Jvm.MethodName) method_10_code (4 : Nat) (Option.some Jvm.ClassFile.FieldType.int) [((0 : Nat), (9 : Nat), (12 : Nat), (13 : Nat))]) ∈ gt := gt_at 1333 (by decide +kernel) (by decide +kernel)
theorem mw_2215 : (Jvm.Cond.methodLink "GalleyforgeLaw" (172 : Nat) ({ cls := "GalleyforgeModel", name := "remove", desc := "(I)I" } : Jvm.MethodName)) ∈ gt := gt_at 2350 (by decide +kernel) (by decide +kernel)
theorem mw_2216 : (Jvm.Cond.instanceMethod ({ cls := "GalleyforgeModel", name := "remove", desc := "(I)I" } : Jvm.MethodName)) ∈ gt := gt_at 2351 (by decide +kernel) (by decide +kernel)
theorem mw_2217 : (Jvm.Cond.selects "GalleyforgeModel" ({ cls := "GalleyforgeModel", name := "remove", desc := "(I)I" } : Jvm.MethodName) ({ cls := "GalleyforgeModel", name := "remove", desc := "(I)I" } : Jvm.MethodName)) ∈ gt := gt_at 2352 (by decide +kernel) (by decide +kernel)
theorem mw_2218 : (Jvm.Cond.code ({ cls := "GalleyforgeModel", name := "remove", desc := "(I)I" } : Jvm.MethodName) prog_14_method_20_code (4 : Nat) (Option.some Jvm.ClassFile.FieldType.int)) ∈ gt := gt_at 2353 (by decide +kernel) (by decide +kernel)
theorem mV_X12_remove : mV yX12_remove cX12_remove 4 (some .int) 1 := ⟨⟨mw_2218, mw_13, by decide, by decide, by decide +kernel⟩, mw_2216, mw_2217⟩
theorem mW_L_remove : mW yL_remove cL_remove 4 (some .int) [((0 : Nat), (9 : Nat), (12 : Nat), (13 : Nat))] 3 := ⟨⟨mw_1198, mw_0, by decide, by decide, by decide +kernel⟩, mw_1197⟩
theorem dL_law_701 : decode cL_law 701 = .ok (.aload_n 1, 1) := by decide +kernel
theorem dL_law_702 : decode cL_law 702 = .ok (.aload_n 0, 1) := by decide +kernel
theorem dL_law_703 : decode cL_law 703 = .ok (.iload 4, 2) := by decide +kernel
theorem dL_law_705 : decode cL_law 705 = .ok (.iconst 1, 1) := by decide +kernel
theorem dL_law_706 : decode cL_law 706 = .ok (.iadd, 1) := by decide +kernel
theorem dL_law_707 : decode cL_law 707 = .ok (.iaload, 1) := by decide +kernel
theorem dL_law_708 : decode cL_law 708 = .ok (.aload_n 3, 1) := by decide +kernel
theorem dL_law_709 : decode cL_law 709 = .ok (.invokestatic 170, 3) := by decide +kernel
theorem dL_law_712 : decode cL_law 712 = .ok (.istore 5, 2) := by decide +kernel
theorem dL_law_714 : decode cL_law 714 = .ok (.aload_n 2, 1) := by decide +kernel
theorem dL_law_715 : decode cL_law 715 = .ok (.aload_n 0, 1) := by decide +kernel
theorem dL_law_716 : decode cL_law 716 = .ok (.iload 4, 2) := by decide +kernel
theorem dL_law_718 : decode cL_law 718 = .ok (.iconst 1, 1) := by decide +kernel
theorem dL_law_719 : decode cL_law 719 = .ok (.iadd, 1) := by decide +kernel
theorem dL_law_720 : decode cL_law 720 = .ok (.iaload, 1) := by decide +kernel
theorem dL_law_721 : decode cL_law 721 = .ok (.invokevirtual 172, 3) := by decide +kernel
theorem dL_law_724 : decode cL_law 724 = .ok (.istore 6, 2) := by decide +kernel
theorem dL_law_726 : decode cL_law 726 = .ok (.aload_n 2, 1) := by decide +kernel
theorem dL_law_727 : decode cL_law 727 = .ok (.invokevirtual 142, 3) := by decide +kernel
theorem dL_law_730 : decode cL_law 730 = .ok (.iload 5, 2) := by decide +kernel
theorem dL_law_732 : decode cL_law 732 = .ok (.if_icmp .eq 5, 3) := by decide +kernel
theorem dL_law_737 : decode cL_law 737 = .ok (.iload 5, 2) := by decide +kernel
theorem dL_law_739 : decode cL_law 739 = .ok (.ifCond .ne 15, 3) := by decide +kernel
theorem dL_law_754 : decode cL_law 754 = .ok (.goto 2055, 3) := by decide +kernel
set_option maxHeartbeats 4000000 in
set_option maxRecDepth 100000 in
theorem law_remove (l : Launch) (hl0 : l.stackTraces = false) (dC : Nat → ClassId) (dI : Nat → Nat → Nat) (k : Nat → ClassId) {p : Program} {e : Env} {s : State} {m : MethodId} {below : List Frame} {meth : Method} {c : Code} {b : Nat} {xs : Nat → Int32} (hX : va_X b 7 xs s s.heap) (hbl : b < s.heap.size) (hr : meth.sig.returnType = ret) {H : Heap} {locs : List Loc} {ls : Array Slot} (gx : Nat) (T : Nat) (LA : Nat) (sp : Nat) (dr : Nat) (bl : Nat) (pt : Nat) (fk : Nat) (fh : Nat) (ky : Nat) (ou : Nat) (mo : Nat) (V : Nat → Value) (h9 : V 9 = .int 0) (B : bd p s m #[Value.ref b] meth c cL_law 8 "GalleyforgeLaw" dC dI k (fun q => s.heap.size ≤ q) [(gx, .inr (9, [.ref T, .ref LA, .ref sp, .int 0, .ref dr])), (T, .inr (8, [.ref bl, .ref pt, .ref fk, .ref fh, .int 0, .ref ky, .int 60, .int 12])), (bl, .inr (11, [.int 0, .ref (dI 99 1), .int 0])), (ou, .inl (k 2, 1, .inr (.inl (fun _ => 0)))), (mo, .inr (10, fvM V))] H locs) (hl : lv_has ls 8 [(4, .int 0), (3, .ref ou), (2, .ref mo), (1, .ref gx), (0, .ref b)]) : W p l e room_1 s m #[Value.ref b] below meth c H locs 157 183312 (lw_Z below #[Value.ref b] s) (F0 m 701 ls []) := by
  have hx := B.1.1
  have hb := B.1.2.1
  refine lv_aload_n hx hb dL_law_701 rfl (lv_at hl 3 rfl) ?_
  refine lv_aload_n hx hb dL_law_702 rfl (lv_at hl 4 rfl) ?_
  refine lv_iload hx hb dL_law_703 (lv_at hl 0 rfl) ?_
  refine lv_iconst (v := 1) hx hb dL_law_705 (by decide) ?_
  refine lv_iadd hx hb dL_law_706 ?_
  refine lv_seti (y := 1) (by decide) ?_
  refine va_sld hx hb hX hbl (Nat.not_le.mpr hbl) B.2.2.2.2.2 (vpc (by decide)) dL_law_707 ?_
  refine lv_seti (y := xs 1) rfl ?_
  refine lv_aload_n hx hb dL_law_708 rfl (lv_at hl 1 rfl) ?_
  refine x_callW (rest := []) (wr := [(mo, .inr (10, fvM V))]) (w_remove l dC dI k hl0 gx T LA sp dr bl pt fk fh ky (xs 1) ou) B mW_L_remove mw_1196 hl [0, 1, 2, 3] [4] rfl rfl ⟨by decide, by decide⟩ (by decide) ⟨Nat.le_of_ble_eq_true rfl, Nat.le_of_ble_eq_true rfl⟩ (Nat.le_of_ble_eq_true rfl) rfl dL_law_709 ⟨Nat.le_of_ble_eq_true rfl, Nat.le_of_ble_eq_true rfl⟩ (fun r w H locs hp B => ?_)
  obtain ⟨rfl, rfl⟩ := hp
  have B := bd_to (ws' := [(mo, .inr (10, fvM V))]) rfl B
  refine lv_istore (lv' := [(5, .int 1), (4, .int 0), (3, .ref ou), (2, .ref mo), (1, .ref gx), (0, .ref b)]) hx hb dL_law_712 hl (by decide) rfl (fun ls hl => ?_)
  refine lv_aload_n hx hb dL_law_714 rfl (lv_at hl 3 rfl) ?_
  refine lv_aload_n hx hb dL_law_715 rfl (lv_at hl 5 rfl) ?_
  refine lv_iload hx hb dL_law_716 (lv_at hl 1 rfl) ?_
  refine lv_iconst (v := 1) hx hb dL_law_718 (by decide) ?_
  refine lv_iadd hx hb dL_law_719 ?_
  refine lv_seti (y := 1) (by decide) ?_
  refine va_sld hx hb hX hbl (Nat.not_le.mpr hbl) B.2.2.2.2.2 (vpc (by decide)) dL_law_720 ?_
  refine lv_seti (y := xs 1) rfl ?_
  refine x_callV (rest := []) (wr := []) (m_remove l dC dI k mo V (xs 1) h9) B mV_X12_remove mw_2215 hl [0] [] rfl rfl ⟨by decide, by decide⟩ (by decide) (q0 := 0) rfl rfl rfl ⟨Nat.le_of_ble_eq_true rfl, Nat.le_of_ble_eq_true rfl⟩ (Nat.le_of_ble_eq_true rfl) rfl dL_law_721 ⟨Nat.le_of_ble_eq_true rfl, Nat.le_of_ble_eq_true rfl⟩ (fun r w H locs hp B => ?_)
  obtain ⟨V1_1, z_2, rfl, rfl⟩ := hp
  have B := bd_to (ws' := [(mo, .inr (10, fvM V1_1))]) rfl B
  refine lv_istore (lv' := [(6, .int 0), (5, .int 1), (4, .int 0), (3, .ref ou), (2, .ref mo), (1, .ref gx), (0, .ref b)]) hx hb dL_law_724 hl (by decide) rfl (fun ls hl => ?_)
  refine lv_aload_n hx hb dL_law_726 rfl (lv_at hl 4 rfl) ?_
  refine x_callV (rest := []) (wr := []) (m_thrown l dC dI k mo V1_1 1 z_2) B mV_X12_thrown mw_2144 hl [0] [] rfl rfl ⟨by decide, by decide⟩ (by decide) (q0 := 0) rfl rfl rfl ⟨Nat.le_of_ble_eq_true rfl, Nat.le_of_ble_eq_true rfl⟩ (Nat.le_of_ble_eq_true rfl) rfl dL_law_727 ⟨Nat.le_of_ble_eq_true rfl, Nat.le_of_ble_eq_true rfl⟩ (fun r w H locs hp B => ?_)
  obtain ⟨rfl, rfl⟩ := hp
  have B := bd_to (ws' := [(mo, .inr (10, fvM V1_1))]) rfl B
  refine lv_iload hx hb dL_law_730 (lv_at hl 1 rfl) ?_
  refine lv_icmp_eq (tgt := 737) hx hb dL_law_732 (by decide) (fun _ => ?_) (fun c9 => absurd (by decide) c9)
  refine lv_iload hx hb dL_law_737 (lv_at hl 1 rfl) ?_
  refine lv_if_ne (tgt := 754) hx hb dL_law_739 (by decide) (fun _ => ?_) (fun c9 => absurd c9 (by decide))
  refine lv_goto (tgt := 2809) hx hb dL_law_754 (by decide) ?_
  exact law_end hX hbl hr B (lv_sub hl [6, 2] rfl) (Nat.le_of_ble_eq_true rfl) (Nat.le_of_ble_eq_true rfl)

theorem mw_1203 : (Jvm.Cond.methodLink "GalleyforgeLaw" (173 : Nat) ({ cls := "GalleyforgeLaw", name := "style", desc := "(LGalleyforge;III[J)I" } : Jvm.MethodName)) ∈ gt := gt_at 1338 (by decide +kernel) (by decide +kernel)
theorem mw_1204 : (Jvm.Cond.static ({ cls := "GalleyforgeLaw", name := "style", desc := "(LGalleyforge;III[J)I" } : Jvm.MethodName)) ∈ gt := gt_at 1339 (by decide +kernel) (by decide +kernel)
theorem mw_1205 : (Jvm.Cond.codeWith ({ cls := "GalleyforgeLaw", name := "style", desc := "(LGalleyforge;III[J)I" } : Jvm.MethodName) method_11_code (6 : Nat) (Option.some Jvm.ClassFile.FieldType.int) [((0 : Nat), (12 : Nat), (15 : Nat), (13 : Nat)), ((0 : Nat), (12 : Nat), (19 : Nat), (21 : Nat))]) ∈ gt := gt_at 1340 (by decide +kernel) (by decide +kernel)
theorem mw_2219 : (Jvm.Cond.methodLink "GalleyforgeLaw" (175 : Nat) ({ cls := "GalleyforgeModel", name := "style", desc := "(III)I" } : Jvm.MethodName)) ∈ gt := gt_at 2354 (by decide +kernel) (by decide +kernel)
theorem mw_2220 : (Jvm.Cond.instanceMethod ({ cls := "GalleyforgeModel", name := "style", desc := "(III)I" } : Jvm.MethodName)) ∈ gt := gt_at 2355 (by decide +kernel) (by decide +kernel)
theorem mw_2221 : (Jvm.Cond.selects "GalleyforgeModel" ({ cls := "GalleyforgeModel", name := "style", desc := "(III)I" } : Jvm.MethodName) ({ cls := "GalleyforgeModel", name := "style", desc := "(III)I" } : Jvm.MethodName)) ∈ gt := gt_at 2356 (by decide +kernel) (by decide +kernel)
theorem mw_2222 : (Jvm.Cond.code ({ cls := "GalleyforgeModel", name := "style", desc := "(III)I" } : Jvm.MethodName) prog_14_method_22_code (8 : Nat) (Option.some Jvm.ClassFile.FieldType.int)) ∈ gt := gt_at 2357 (by decide +kernel) (by decide +kernel)
theorem mV_X12_style : mV yX12_style cX12_style 8 (some .int) 3 := ⟨⟨mw_2222, mw_13, by decide, by decide, by decide +kernel⟩, mw_2220, mw_2221⟩
theorem mW_L_style : mW yL_style cL_style 6 (some .int) [((0 : Nat), (12 : Nat), (15 : Nat), (13 : Nat)), ((0 : Nat), (12 : Nat), (19 : Nat), (21 : Nat))] 5 := ⟨⟨mw_1205, mw_0, by decide, by decide, by decide +kernel⟩, mw_1204⟩
theorem dL_law_757 : decode cL_law 757 = .ok (.aload_n 1, 1) := by decide +kernel
theorem dL_law_758 : decode cL_law 758 = .ok (.aload_n 0, 1) := by decide +kernel
theorem dL_law_759 : decode cL_law 759 = .ok (.iload 4, 2) := by decide +kernel
theorem dL_law_761 : decode cL_law 761 = .ok (.iconst 1, 1) := by decide +kernel
theorem dL_law_762 : decode cL_law 762 = .ok (.iadd, 1) := by decide +kernel
theorem dL_law_763 : decode cL_law 763 = .ok (.iaload, 1) := by decide +kernel
theorem dL_law_764 : decode cL_law 764 = .ok (.aload_n 0, 1) := by decide +kernel
theorem dL_law_765 : decode cL_law 765 = .ok (.iload 4, 2) := by decide +kernel
theorem dL_law_767 : decode cL_law 767 = .ok (.iconst 2, 1) := by decide +kernel
theorem dL_law_768 : decode cL_law 768 = .ok (.iadd, 1) := by decide +kernel
theorem dL_law_769 : decode cL_law 769 = .ok (.iaload, 1) := by decide +kernel
theorem dL_law_770 : decode cL_law 770 = .ok (.aload_n 0, 1) := by decide +kernel
theorem dL_law_771 : decode cL_law 771 = .ok (.iload 4, 2) := by decide +kernel
theorem dL_law_773 : decode cL_law 773 = .ok (.iconst 3, 1) := by decide +kernel
theorem dL_law_774 : decode cL_law 774 = .ok (.iadd, 1) := by decide +kernel
theorem dL_law_775 : decode cL_law 775 = .ok (.iaload, 1) := by decide +kernel
theorem dL_law_776 : decode cL_law 776 = .ok (.aload_n 3, 1) := by decide +kernel
theorem dL_law_777 : decode cL_law 777 = .ok (.invokestatic 173, 3) := by decide +kernel
theorem dL_law_780 : decode cL_law 780 = .ok (.istore 5, 2) := by decide +kernel
theorem dL_law_782 : decode cL_law 782 = .ok (.aload_n 2, 1) := by decide +kernel
theorem dL_law_783 : decode cL_law 783 = .ok (.aload_n 0, 1) := by decide +kernel
theorem dL_law_784 : decode cL_law 784 = .ok (.iload 4, 2) := by decide +kernel
theorem dL_law_786 : decode cL_law 786 = .ok (.iconst 1, 1) := by decide +kernel
theorem dL_law_787 : decode cL_law 787 = .ok (.iadd, 1) := by decide +kernel
theorem dL_law_788 : decode cL_law 788 = .ok (.iaload, 1) := by decide +kernel
theorem dL_law_789 : decode cL_law 789 = .ok (.aload_n 0, 1) := by decide +kernel
theorem dL_law_790 : decode cL_law 790 = .ok (.iload 4, 2) := by decide +kernel
theorem dL_law_792 : decode cL_law 792 = .ok (.iconst 2, 1) := by decide +kernel
theorem dL_law_793 : decode cL_law 793 = .ok (.iadd, 1) := by decide +kernel
theorem dL_law_794 : decode cL_law 794 = .ok (.iaload, 1) := by decide +kernel
theorem dL_law_795 : decode cL_law 795 = .ok (.aload_n 0, 1) := by decide +kernel
theorem dL_law_796 : decode cL_law 796 = .ok (.iload 4, 2) := by decide +kernel
theorem dL_law_798 : decode cL_law 798 = .ok (.iconst 3, 1) := by decide +kernel
theorem dL_law_799 : decode cL_law 799 = .ok (.iadd, 1) := by decide +kernel
theorem dL_law_800 : decode cL_law 800 = .ok (.iaload, 1) := by decide +kernel
theorem dL_law_801 : decode cL_law 801 = .ok (.invokevirtual 175, 3) := by decide +kernel
theorem dL_law_804 : decode cL_law 804 = .ok (.istore 6, 2) := by decide +kernel
theorem dL_law_806 : decode cL_law 806 = .ok (.aload_n 2, 1) := by decide +kernel
theorem dL_law_807 : decode cL_law 807 = .ok (.invokevirtual 142, 3) := by decide +kernel
theorem dL_law_810 : decode cL_law 810 = .ok (.iload 5, 2) := by decide +kernel
theorem dL_law_812 : decode cL_law 812 = .ok (.if_icmp .eq 5, 3) := by decide +kernel
theorem dL_law_817 : decode cL_law 817 = .ok (.iload 5, 2) := by decide +kernel
theorem dL_law_819 : decode cL_law 819 = .ok (.ifCond .ne 15, 3) := by decide +kernel
theorem dL_law_834 : decode cL_law 834 = .ok (.goto 1975, 3) := by decide +kernel
set_option maxHeartbeats 4000000 in
set_option maxRecDepth 100000 in
theorem law_style (l : Launch) (hl0 : l.stackTraces = false) (dC : Nat → ClassId) (dI : Nat → Nat → Nat) (k : Nat → ClassId) {p : Program} {e : Env} {s : State} {m : MethodId} {below : List Frame} {meth : Method} {c : Code} {b : Nat} {xs : Nat → Int32} (hX : va_X b 7 xs s s.heap) (hbl : b < s.heap.size) (hr : meth.sig.returnType = ret) {H : Heap} {locs : List Loc} {ls : Array Slot} (gx : Nat) (T : Nat) (LA : Nat) (sp : Nat) (dr : Nat) (bl : Nat) (pt : Nat) (fk : Nat) (fh : Nat) (ky : Nat) (ou : Nat) (mo : Nat) (V : Nat → Value) (h9 : V 9 = .int 0) (B : bd p s m #[Value.ref b] meth c cL_law 8 "GalleyforgeLaw" dC dI k (fun q => s.heap.size ≤ q) [(gx, .inr (9, [.ref T, .ref LA, .ref sp, .int 0, .ref dr])), (T, .inr (8, [.ref bl, .ref pt, .ref fk, .ref fh, .int 0, .ref ky, .int 60, .int 12])), (bl, .inr (11, [.int 0, .ref (dI 99 1), .int 0])), (ou, .inl (k 2, 1, .inr (.inl (fun _ => 0)))), (mo, .inr (10, fvM V))] H locs) (hl : lv_has ls 8 [(4, .int 0), (3, .ref ou), (2, .ref mo), (1, .ref gx), (0, .ref b)]) : W p l e room_1 s m #[Value.ref b] below meth c H locs 157 183312 (lw_Z below #[Value.ref b] s) (F0 m 757 ls []) := by
  have hx := B.1.1
  have hb := B.1.2.1
  refine lv_aload_n hx hb dL_law_757 rfl (lv_at hl 3 rfl) ?_
  refine lv_aload_n hx hb dL_law_758 rfl (lv_at hl 4 rfl) ?_
  refine lv_iload hx hb dL_law_759 (lv_at hl 0 rfl) ?_
  refine lv_iconst (v := 1) hx hb dL_law_761 (by decide) ?_
  refine lv_iadd hx hb dL_law_762 ?_
  refine lv_seti (y := 1) (by decide) ?_
  refine va_sld hx hb hX hbl (Nat.not_le.mpr hbl) B.2.2.2.2.2 (vpc (by decide)) dL_law_763 ?_
  refine lv_seti (y := xs 1) rfl ?_
  refine lv_aload_n hx hb dL_law_764 rfl (lv_at hl 4 rfl) ?_
  refine lv_iload hx hb dL_law_765 (lv_at hl 0 rfl) ?_
  refine lv_iconst (v := 2) hx hb dL_law_767 (by decide) ?_
  refine lv_iadd hx hb dL_law_768 ?_
  refine lv_seti (y := 2) (by decide) ?_
  refine va_sld hx hb hX hbl (Nat.not_le.mpr hbl) B.2.2.2.2.2 (vpc (by decide)) dL_law_769 ?_
  refine lv_seti (y := xs 2) rfl ?_
  refine lv_aload_n hx hb dL_law_770 rfl (lv_at hl 4 rfl) ?_
  refine lv_iload hx hb dL_law_771 (lv_at hl 0 rfl) ?_
  refine lv_iconst (v := 3) hx hb dL_law_773 (by decide) ?_
  refine lv_iadd hx hb dL_law_774 ?_
  refine lv_seti (y := 3) (by decide) ?_
  refine va_sld hx hb hX hbl (Nat.not_le.mpr hbl) B.2.2.2.2.2 (vpc (by decide)) dL_law_775 ?_
  refine lv_seti (y := xs 3) rfl ?_
  refine lv_aload_n hx hb dL_law_776 rfl (lv_at hl 1 rfl) ?_
  refine x_callW (rest := []) (wr := [(mo, .inr (10, fvM V))]) (w_style l dC dI k hl0 gx T LA sp dr bl pt fk fh ky (xs 1) (xs 2) (xs 3) ou) B mW_L_style mw_1203 hl [0, 1, 2, 3] [4] rfl rfl ⟨by decide, by decide⟩ (by decide) ⟨Nat.le_of_ble_eq_true rfl, Nat.le_of_ble_eq_true rfl⟩ (Nat.le_of_ble_eq_true rfl) rfl dL_law_777 ⟨Nat.le_of_ble_eq_true rfl, Nat.le_of_ble_eq_true rfl⟩ (fun r w H locs hp B => ?_)
  obtain ⟨rfl, rfl⟩ := hp
  have B := bd_to (ws' := [(mo, .inr (10, fvM V))]) rfl B
  refine lv_istore (lv' := [(5, .int 1), (4, .int 0), (3, .ref ou), (2, .ref mo), (1, .ref gx), (0, .ref b)]) hx hb dL_law_780 hl (by decide) rfl (fun ls hl => ?_)
  refine lv_aload_n hx hb dL_law_782 rfl (lv_at hl 3 rfl) ?_
  refine lv_aload_n hx hb dL_law_783 rfl (lv_at hl 5 rfl) ?_
  refine lv_iload hx hb dL_law_784 (lv_at hl 1 rfl) ?_
  refine lv_iconst (v := 1) hx hb dL_law_786 (by decide) ?_
  refine lv_iadd hx hb dL_law_787 ?_
  refine lv_seti (y := 1) (by decide) ?_
  refine va_sld hx hb hX hbl (Nat.not_le.mpr hbl) B.2.2.2.2.2 (vpc (by decide)) dL_law_788 ?_
  refine lv_seti (y := xs 1) rfl ?_
  refine lv_aload_n hx hb dL_law_789 rfl (lv_at hl 5 rfl) ?_
  refine lv_iload hx hb dL_law_790 (lv_at hl 1 rfl) ?_
  refine lv_iconst (v := 2) hx hb dL_law_792 (by decide) ?_
  refine lv_iadd hx hb dL_law_793 ?_
  refine lv_seti (y := 2) (by decide) ?_
  refine va_sld hx hb hX hbl (Nat.not_le.mpr hbl) B.2.2.2.2.2 (vpc (by decide)) dL_law_794 ?_
  refine lv_seti (y := xs 2) rfl ?_
  refine lv_aload_n hx hb dL_law_795 rfl (lv_at hl 5 rfl) ?_
  refine lv_iload hx hb dL_law_796 (lv_at hl 1 rfl) ?_
  refine lv_iconst (v := 3) hx hb dL_law_798 (by decide) ?_
  refine lv_iadd hx hb dL_law_799 ?_
  refine lv_seti (y := 3) (by decide) ?_
  refine va_sld hx hb hX hbl (Nat.not_le.mpr hbl) B.2.2.2.2.2 (vpc (by decide)) dL_law_800 ?_
  refine lv_seti (y := xs 3) rfl ?_
  refine x_callV (rest := []) (wr := []) (m_style l dC dI k mo V (xs 1) (xs 2) (xs 3) h9) B mV_X12_style mw_2219 hl [0] [] rfl rfl ⟨by decide, by decide⟩ (by decide) (q0 := 0) rfl rfl rfl ⟨Nat.le_of_ble_eq_true rfl, Nat.le_of_ble_eq_true rfl⟩ (Nat.le_of_ble_eq_true rfl) rfl dL_law_801 ⟨Nat.le_of_ble_eq_true rfl, Nat.le_of_ble_eq_true rfl⟩ (fun r w H locs hp B => ?_)
  obtain ⟨V1_1, z_2, rfl, rfl⟩ := hp
  have B := bd_to (ws' := [(mo, .inr (10, fvM V1_1))]) rfl B
  refine lv_istore (lv' := [(6, .int 0), (5, .int 1), (4, .int 0), (3, .ref ou), (2, .ref mo), (1, .ref gx), (0, .ref b)]) hx hb dL_law_804 hl (by decide) rfl (fun ls hl => ?_)
  refine lv_aload_n hx hb dL_law_806 rfl (lv_at hl 4 rfl) ?_
  refine x_callV (rest := []) (wr := []) (m_thrown l dC dI k mo V1_1 1 z_2) B mV_X12_thrown mw_2144 hl [0] [] rfl rfl ⟨by decide, by decide⟩ (by decide) (q0 := 0) rfl rfl rfl ⟨Nat.le_of_ble_eq_true rfl, Nat.le_of_ble_eq_true rfl⟩ (Nat.le_of_ble_eq_true rfl) rfl dL_law_807 ⟨Nat.le_of_ble_eq_true rfl, Nat.le_of_ble_eq_true rfl⟩ (fun r w H locs hp B => ?_)
  obtain ⟨rfl, rfl⟩ := hp
  have B := bd_to (ws' := [(mo, .inr (10, fvM V1_1))]) rfl B
  refine lv_iload hx hb dL_law_810 (lv_at hl 1 rfl) ?_
  refine lv_icmp_eq (tgt := 817) hx hb dL_law_812 (by decide) (fun _ => ?_) (fun c9 => absurd (by decide) c9)
  refine lv_iload hx hb dL_law_817 (lv_at hl 1 rfl) ?_
  refine lv_if_ne (tgt := 834) hx hb dL_law_819 (by decide) (fun _ => ?_) (fun c9 => absurd c9 (by decide))
  refine lv_goto (tgt := 2809) hx hb dL_law_834 (by decide) ?_
  exact law_end hX hbl hr B (lv_sub hl [6, 2] rfl) (Nat.le_of_ble_eq_true rfl) (Nat.le_of_ble_eq_true rfl)

theorem mw_1218 : (Jvm.Cond.methodLink "GalleyforgeLaw" (176 : Nat) ({ cls := "GalleyforgeLaw", name := "cell", desc := "(LGalleyforge;IIIIII[J)I" } : Jvm.MethodName)) ∈ gt := gt_at 1353 (by decide +kernel) (by decide +kernel)
theorem mw_1219 : (Jvm.Cond.static ({ cls := "GalleyforgeLaw", name := "cell", desc := "(LGalleyforge;IIIIII[J)I" } : Jvm.MethodName)) ∈ gt := gt_at 1354 (by decide +kernel) (by decide +kernel)
theorem mw_1220 : (Jvm.Cond.codeWith ({ cls := "GalleyforgeLaw", name := "cell", desc := "(LGalleyforge;IIIIII[J)I" } : Jvm.MethodName) method_12_code (9 : Nat) (Option.some Jvm.ClassFile.FieldType.int) [((0 : Nat), (18 : Nat), (21 : Nat), (13 : Nat)), ((0 : Nat), (18 : Nat), (25 : Nat), (21 : Nat)), ((0 : Nat), (18 : Nat), (29 : Nat), (15 : Nat))]) ∈ gt := gt_at 1355 (by decide +kernel) (by decide +kernel)
theorem mw_2227 : (Jvm.Cond.methodLink "GalleyforgeLaw" (179 : Nat) ({ cls := "GalleyforgeModel", name := "cell", desc := "(IIIIII)I" } : Jvm.MethodName)) ∈ gt := gt_at 2362 (by decide +kernel) (by decide +kernel)
theorem mw_2228 : (Jvm.Cond.instanceMethod ({ cls := "GalleyforgeModel", name := "cell", desc := "(IIIIII)I" } : Jvm.MethodName)) ∈ gt := gt_at 2363 (by decide +kernel) (by decide +kernel)
theorem mw_2229 : (Jvm.Cond.selects "GalleyforgeModel" ({ cls := "GalleyforgeModel", name := "cell", desc := "(IIIIII)I" } : Jvm.MethodName) ({ cls := "GalleyforgeModel", name := "cell", desc := "(IIIIII)I" } : Jvm.MethodName)) ∈ gt := gt_at 2364 (by decide +kernel) (by decide +kernel)
theorem mw_2230 : (Jvm.Cond.code ({ cls := "GalleyforgeModel", name := "cell", desc := "(IIIIII)I" } : Jvm.MethodName) prog_14_method_23_code (10 : Nat) (Option.some Jvm.ClassFile.FieldType.int)) ∈ gt := gt_at 2365 (by decide +kernel) (by decide +kernel)
theorem mV_X12_cell : mV yX12_cell cX12_cell 10 (some .int) 6 := ⟨⟨mw_2230, mw_13, by decide, by decide, by decide +kernel⟩, mw_2228, mw_2229⟩
theorem mW_L_cell : mW yL_cell cL_cell 9 (some .int) [((0 : Nat), (18 : Nat), (21 : Nat), (13 : Nat)), ((0 : Nat), (18 : Nat), (25 : Nat), (21 : Nat)), ((0 : Nat), (18 : Nat), (29 : Nat), (15 : Nat))] 8 := ⟨⟨mw_1220, mw_0, by decide, by decide, by decide +kernel⟩, mw_1219⟩
theorem dL_law_837 : decode cL_law 837 = .ok (.aload_n 1, 1) := by decide +kernel
theorem dL_law_838 : decode cL_law 838 = .ok (.aload_n 0, 1) := by decide +kernel
theorem dL_law_839 : decode cL_law 839 = .ok (.iload 4, 2) := by decide +kernel
theorem dL_law_841 : decode cL_law 841 = .ok (.iconst 1, 1) := by decide +kernel
theorem dL_law_842 : decode cL_law 842 = .ok (.iadd, 1) := by decide +kernel
theorem dL_law_843 : decode cL_law 843 = .ok (.iaload, 1) := by decide +kernel
theorem dL_law_844 : decode cL_law 844 = .ok (.aload_n 0, 1) := by decide +kernel
theorem dL_law_845 : decode cL_law 845 = .ok (.iload 4, 2) := by decide +kernel
theorem dL_law_847 : decode cL_law 847 = .ok (.iconst 2, 1) := by decide +kernel
theorem dL_law_848 : decode cL_law 848 = .ok (.iadd, 1) := by decide +kernel
theorem dL_law_849 : decode cL_law 849 = .ok (.iaload, 1) := by decide +kernel
theorem dL_law_850 : decode cL_law 850 = .ok (.aload_n 0, 1) := by decide +kernel
theorem dL_law_851 : decode cL_law 851 = .ok (.iload 4, 2) := by decide +kernel
theorem dL_law_853 : decode cL_law 853 = .ok (.iconst 3, 1) := by decide +kernel
theorem dL_law_854 : decode cL_law 854 = .ok (.iadd, 1) := by decide +kernel
theorem dL_law_855 : decode cL_law 855 = .ok (.iaload, 1) := by decide +kernel
theorem dL_law_856 : decode cL_law 856 = .ok (.aload_n 0, 1) := by decide +kernel
theorem dL_law_857 : decode cL_law 857 = .ok (.iload 4, 2) := by decide +kernel
theorem dL_law_859 : decode cL_law 859 = .ok (.iconst 4, 1) := by decide +kernel
theorem dL_law_860 : decode cL_law 860 = .ok (.iadd, 1) := by decide +kernel
theorem dL_law_861 : decode cL_law 861 = .ok (.iaload, 1) := by decide +kernel
theorem dL_law_862 : decode cL_law 862 = .ok (.aload_n 0, 1) := by decide +kernel
theorem dL_law_863 : decode cL_law 863 = .ok (.iload 4, 2) := by decide +kernel
theorem dL_law_865 : decode cL_law 865 = .ok (.iconst 5, 1) := by decide +kernel
theorem dL_law_866 : decode cL_law 866 = .ok (.iadd, 1) := by decide +kernel
theorem dL_law_867 : decode cL_law 867 = .ok (.iaload, 1) := by decide +kernel
theorem dL_law_868 : decode cL_law 868 = .ok (.aload_n 0, 1) := by decide +kernel
theorem dL_law_869 : decode cL_law 869 = .ok (.iload 4, 2) := by decide +kernel
theorem dL_law_871 : decode cL_law 871 = .ok (.bipush 6, 2) := by decide +kernel
theorem dL_law_873 : decode cL_law 873 = .ok (.iadd, 1) := by decide +kernel
theorem dL_law_874 : decode cL_law 874 = .ok (.iaload, 1) := by decide +kernel
theorem dL_law_875 : decode cL_law 875 = .ok (.aload_n 3, 1) := by decide +kernel
theorem dL_law_876 : decode cL_law 876 = .ok (.invokestatic 176, 3) := by decide +kernel
theorem dL_law_879 : decode cL_law 879 = .ok (.istore 5, 2) := by decide +kernel
theorem dL_law_881 : decode cL_law 881 = .ok (.aload_n 2, 1) := by decide +kernel
theorem dL_law_882 : decode cL_law 882 = .ok (.aload_n 0, 1) := by decide +kernel
theorem dL_law_883 : decode cL_law 883 = .ok (.iload 4, 2) := by decide +kernel
theorem dL_law_885 : decode cL_law 885 = .ok (.iconst 1, 1) := by decide +kernel
theorem dL_law_886 : decode cL_law 886 = .ok (.iadd, 1) := by decide +kernel
theorem dL_law_887 : decode cL_law 887 = .ok (.iaload, 1) := by decide +kernel
theorem dL_law_888 : decode cL_law 888 = .ok (.aload_n 0, 1) := by decide +kernel
theorem dL_law_889 : decode cL_law 889 = .ok (.iload 4, 2) := by decide +kernel
theorem dL_law_891 : decode cL_law 891 = .ok (.iconst 2, 1) := by decide +kernel
theorem dL_law_892 : decode cL_law 892 = .ok (.iadd, 1) := by decide +kernel
theorem dL_law_893 : decode cL_law 893 = .ok (.iaload, 1) := by decide +kernel
theorem dL_law_894 : decode cL_law 894 = .ok (.aload_n 0, 1) := by decide +kernel
theorem dL_law_895 : decode cL_law 895 = .ok (.iload 4, 2) := by decide +kernel
theorem dL_law_897 : decode cL_law 897 = .ok (.iconst 3, 1) := by decide +kernel
theorem dL_law_898 : decode cL_law 898 = .ok (.iadd, 1) := by decide +kernel
theorem dL_law_899 : decode cL_law 899 = .ok (.iaload, 1) := by decide +kernel
theorem dL_law_900 : decode cL_law 900 = .ok (.aload_n 0, 1) := by decide +kernel
theorem dL_law_901 : decode cL_law 901 = .ok (.iload 4, 2) := by decide +kernel
theorem dL_law_903 : decode cL_law 903 = .ok (.iconst 4, 1) := by decide +kernel
theorem dL_law_904 : decode cL_law 904 = .ok (.iadd, 1) := by decide +kernel
theorem dL_law_905 : decode cL_law 905 = .ok (.iaload, 1) := by decide +kernel
theorem dL_law_906 : decode cL_law 906 = .ok (.aload_n 0, 1) := by decide +kernel
theorem dL_law_907 : decode cL_law 907 = .ok (.iload 4, 2) := by decide +kernel
theorem dL_law_909 : decode cL_law 909 = .ok (.iconst 5, 1) := by decide +kernel
theorem dL_law_910 : decode cL_law 910 = .ok (.iadd, 1) := by decide +kernel
theorem dL_law_911 : decode cL_law 911 = .ok (.iaload, 1) := by decide +kernel
theorem dL_law_912 : decode cL_law 912 = .ok (.aload_n 0, 1) := by decide +kernel
theorem dL_law_913 : decode cL_law 913 = .ok (.iload 4, 2) := by decide +kernel
theorem dL_law_915 : decode cL_law 915 = .ok (.bipush 6, 2) := by decide +kernel
theorem dL_law_917 : decode cL_law 917 = .ok (.iadd, 1) := by decide +kernel
theorem dL_law_918 : decode cL_law 918 = .ok (.iaload, 1) := by decide +kernel
theorem dL_law_919 : decode cL_law 919 = .ok (.invokevirtual 179, 3) := by decide +kernel
theorem dL_law_922 : decode cL_law 922 = .ok (.istore 6, 2) := by decide +kernel
theorem dL_law_924 : decode cL_law 924 = .ok (.aload_n 2, 1) := by decide +kernel
theorem dL_law_925 : decode cL_law 925 = .ok (.invokevirtual 142, 3) := by decide +kernel
theorem dL_law_928 : decode cL_law 928 = .ok (.iload 5, 2) := by decide +kernel
theorem dL_law_930 : decode cL_law 930 = .ok (.if_icmp .eq 5, 3) := by decide +kernel
theorem dL_law_935 : decode cL_law 935 = .ok (.iload 5, 2) := by decide +kernel
theorem dL_law_937 : decode cL_law 937 = .ok (.ifCond .ne 15, 3) := by decide +kernel
theorem dL_law_952 : decode cL_law 952 = .ok (.goto 1857, 3) := by decide +kernel
set_option maxHeartbeats 4000000 in
set_option maxRecDepth 100000 in
theorem law_cell (l : Launch) (hl0 : l.stackTraces = false) (dC : Nat → ClassId) (dI : Nat → Nat → Nat) (k : Nat → ClassId) {p : Program} {e : Env} {s : State} {m : MethodId} {below : List Frame} {meth : Method} {c : Code} {b : Nat} {xs : Nat → Int32} (hX : va_X b 7 xs s s.heap) (hbl : b < s.heap.size) (hr : meth.sig.returnType = ret) {H : Heap} {locs : List Loc} {ls : Array Slot} (gx : Nat) (T : Nat) (LA : Nat) (sp : Nat) (dr : Nat) (bl : Nat) (pt : Nat) (fk : Nat) (fh : Nat) (ky : Nat) (ou : Nat) (mo : Nat) (V : Nat → Value) (h9 : V 9 = .int 0) (B : bd p s m #[Value.ref b] meth c cL_law 8 "GalleyforgeLaw" dC dI k (fun q => s.heap.size ≤ q) [(gx, .inr (9, [.ref T, .ref LA, .ref sp, .int 0, .ref dr])), (T, .inr (8, [.ref bl, .ref pt, .ref fk, .ref fh, .int 0, .ref ky, .int 60, .int 12])), (bl, .inr (11, [.int 0, .ref (dI 99 1), .int 0])), (ou, .inl (k 2, 1, .inr (.inl (fun _ => 0)))), (mo, .inr (10, fvM V))] H locs) (hl : lv_has ls 8 [(4, .int 0), (3, .ref ou), (2, .ref mo), (1, .ref gx), (0, .ref b)]) : W p l e room_1 s m #[Value.ref b] below meth c H locs 157 183312 (lw_Z below #[Value.ref b] s) (F0 m 837 ls []) := by
  have hx := B.1.1
  have hb := B.1.2.1
  refine lv_aload_n hx hb dL_law_837 rfl (lv_at hl 3 rfl) ?_
  refine lv_aload_n hx hb dL_law_838 rfl (lv_at hl 4 rfl) ?_
  refine lv_iload hx hb dL_law_839 (lv_at hl 0 rfl) ?_
  refine lv_iconst (v := 1) hx hb dL_law_841 (by decide) ?_
  refine lv_iadd hx hb dL_law_842 ?_
  refine lv_seti (y := 1) (by decide) ?_
  refine va_sld hx hb hX hbl (Nat.not_le.mpr hbl) B.2.2.2.2.2 (vpc (by decide)) dL_law_843 ?_
  refine lv_seti (y := xs 1) rfl ?_
  refine lv_aload_n hx hb dL_law_844 rfl (lv_at hl 4 rfl) ?_
  refine lv_iload hx hb dL_law_845 (lv_at hl 0 rfl) ?_
  refine lv_iconst (v := 2) hx hb dL_law_847 (by decide) ?_
  refine lv_iadd hx hb dL_law_848 ?_
  refine lv_seti (y := 2) (by decide) ?_
  refine va_sld hx hb hX hbl (Nat.not_le.mpr hbl) B.2.2.2.2.2 (vpc (by decide)) dL_law_849 ?_
  refine lv_seti (y := xs 2) rfl ?_
  refine lv_aload_n hx hb dL_law_850 rfl (lv_at hl 4 rfl) ?_
  refine lv_iload hx hb dL_law_851 (lv_at hl 0 rfl) ?_
  refine lv_iconst (v := 3) hx hb dL_law_853 (by decide) ?_
  refine lv_iadd hx hb dL_law_854 ?_
  refine lv_seti (y := 3) (by decide) ?_
  refine va_sld hx hb hX hbl (Nat.not_le.mpr hbl) B.2.2.2.2.2 (vpc (by decide)) dL_law_855 ?_
  refine lv_seti (y := xs 3) rfl ?_
  refine lv_aload_n hx hb dL_law_856 rfl (lv_at hl 4 rfl) ?_
  refine lv_iload hx hb dL_law_857 (lv_at hl 0 rfl) ?_
  refine lv_iconst (v := 4) hx hb dL_law_859 (by decide) ?_
  refine lv_iadd hx hb dL_law_860 ?_
  refine lv_seti (y := 4) (by decide) ?_
  refine va_sld hx hb hX hbl (Nat.not_le.mpr hbl) B.2.2.2.2.2 (vpc (by decide)) dL_law_861 ?_
  refine lv_seti (y := xs 4) rfl ?_
  refine lv_aload_n hx hb dL_law_862 rfl (lv_at hl 4 rfl) ?_
  refine lv_iload hx hb dL_law_863 (lv_at hl 0 rfl) ?_
  refine lv_iconst (v := 5) hx hb dL_law_865 (by decide) ?_
  refine lv_iadd hx hb dL_law_866 ?_
  refine lv_seti (y := 5) (by decide) ?_
  refine va_sld hx hb hX hbl (Nat.not_le.mpr hbl) B.2.2.2.2.2 (vpc (by decide)) dL_law_867 ?_
  refine lv_seti (y := xs 5) rfl ?_
  refine lv_aload_n hx hb dL_law_868 rfl (lv_at hl 4 rfl) ?_
  refine lv_iload hx hb dL_law_869 (lv_at hl 0 rfl) ?_
  refine lv_bipush (v := 6) hx hb dL_law_871 (by decide) ?_
  refine lv_iadd hx hb dL_law_873 ?_
  refine lv_seti (y := 6) (by decide) ?_
  refine va_sld hx hb hX hbl (Nat.not_le.mpr hbl) B.2.2.2.2.2 (vpc (by decide)) dL_law_874 ?_
  refine lv_seti (y := xs 6) rfl ?_
  refine lv_aload_n hx hb dL_law_875 rfl (lv_at hl 1 rfl) ?_
  refine x_callW (rest := []) (wr := [(mo, .inr (10, fvM V))]) (w_cell l dC dI k hl0 gx T LA sp dr bl pt fk fh ky (xs 1) (xs 2) (xs 3) (xs 4) (xs 5) (xs 6) ou) B mW_L_cell mw_1218 hl [0, 1, 2, 3] [4] rfl rfl ⟨by decide, by decide⟩ (by decide) ⟨Nat.le_of_ble_eq_true rfl, Nat.le_of_ble_eq_true rfl⟩ (Nat.le_of_ble_eq_true rfl) rfl dL_law_876 ⟨Nat.le_of_ble_eq_true rfl, Nat.le_of_ble_eq_true rfl⟩ (fun r w H locs hp B => ?_)
  obtain ⟨rfl, rfl⟩ := hp
  have B := bd_to (ws' := [(mo, .inr (10, fvM V))]) rfl B
  refine lv_istore (lv' := [(5, .int 1), (4, .int 0), (3, .ref ou), (2, .ref mo), (1, .ref gx), (0, .ref b)]) hx hb dL_law_879 hl (by decide) rfl (fun ls hl => ?_)
  refine lv_aload_n hx hb dL_law_881 rfl (lv_at hl 3 rfl) ?_
  refine lv_aload_n hx hb dL_law_882 rfl (lv_at hl 5 rfl) ?_
  refine lv_iload hx hb dL_law_883 (lv_at hl 1 rfl) ?_
  refine lv_iconst (v := 1) hx hb dL_law_885 (by decide) ?_
  refine lv_iadd hx hb dL_law_886 ?_
  refine lv_seti (y := 1) (by decide) ?_
  refine va_sld hx hb hX hbl (Nat.not_le.mpr hbl) B.2.2.2.2.2 (vpc (by decide)) dL_law_887 ?_
  refine lv_seti (y := xs 1) rfl ?_
  refine lv_aload_n hx hb dL_law_888 rfl (lv_at hl 5 rfl) ?_
  refine lv_iload hx hb dL_law_889 (lv_at hl 1 rfl) ?_
  refine lv_iconst (v := 2) hx hb dL_law_891 (by decide) ?_
  refine lv_iadd hx hb dL_law_892 ?_
  refine lv_seti (y := 2) (by decide) ?_
  refine va_sld hx hb hX hbl (Nat.not_le.mpr hbl) B.2.2.2.2.2 (vpc (by decide)) dL_law_893 ?_
  refine lv_seti (y := xs 2) rfl ?_
  refine lv_aload_n hx hb dL_law_894 rfl (lv_at hl 5 rfl) ?_
  refine lv_iload hx hb dL_law_895 (lv_at hl 1 rfl) ?_
  refine lv_iconst (v := 3) hx hb dL_law_897 (by decide) ?_
  refine lv_iadd hx hb dL_law_898 ?_
  refine lv_seti (y := 3) (by decide) ?_
  refine va_sld hx hb hX hbl (Nat.not_le.mpr hbl) B.2.2.2.2.2 (vpc (by decide)) dL_law_899 ?_
  refine lv_seti (y := xs 3) rfl ?_
  refine lv_aload_n hx hb dL_law_900 rfl (lv_at hl 5 rfl) ?_
  refine lv_iload hx hb dL_law_901 (lv_at hl 1 rfl) ?_
  refine lv_iconst (v := 4) hx hb dL_law_903 (by decide) ?_
  refine lv_iadd hx hb dL_law_904 ?_
  refine lv_seti (y := 4) (by decide) ?_
  refine va_sld hx hb hX hbl (Nat.not_le.mpr hbl) B.2.2.2.2.2 (vpc (by decide)) dL_law_905 ?_
  refine lv_seti (y := xs 4) rfl ?_
  refine lv_aload_n hx hb dL_law_906 rfl (lv_at hl 5 rfl) ?_
  refine lv_iload hx hb dL_law_907 (lv_at hl 1 rfl) ?_
  refine lv_iconst (v := 5) hx hb dL_law_909 (by decide) ?_
  refine lv_iadd hx hb dL_law_910 ?_
  refine lv_seti (y := 5) (by decide) ?_
  refine va_sld hx hb hX hbl (Nat.not_le.mpr hbl) B.2.2.2.2.2 (vpc (by decide)) dL_law_911 ?_
  refine lv_seti (y := xs 5) rfl ?_
  refine lv_aload_n hx hb dL_law_912 rfl (lv_at hl 5 rfl) ?_
  refine lv_iload hx hb dL_law_913 (lv_at hl 1 rfl) ?_
  refine lv_bipush (v := 6) hx hb dL_law_915 (by decide) ?_
  refine lv_iadd hx hb dL_law_917 ?_
  refine lv_seti (y := 6) (by decide) ?_
  refine va_sld hx hb hX hbl (Nat.not_le.mpr hbl) B.2.2.2.2.2 (vpc (by decide)) dL_law_918 ?_
  refine lv_seti (y := xs 6) rfl ?_
  refine x_callV (rest := []) (wr := []) (m_cell l dC dI k mo V (xs 1) (xs 2) (xs 3) (xs 4) (xs 5) (xs 6) h9) B mV_X12_cell mw_2227 hl [0] [] rfl rfl ⟨by decide, by decide⟩ (by decide) (q0 := 0) rfl rfl rfl ⟨Nat.le_of_ble_eq_true rfl, Nat.le_of_ble_eq_true rfl⟩ (Nat.le_of_ble_eq_true rfl) rfl dL_law_919 ⟨Nat.le_of_ble_eq_true rfl, Nat.le_of_ble_eq_true rfl⟩ (fun r w H locs hp B => ?_)
  obtain ⟨V1_1, z_2, rfl, rfl⟩ := hp
  have B := bd_to (ws' := [(mo, .inr (10, fvM V1_1))]) rfl B
  refine lv_istore (lv' := [(6, .int 0), (5, .int 1), (4, .int 0), (3, .ref ou), (2, .ref mo), (1, .ref gx), (0, .ref b)]) hx hb dL_law_922 hl (by decide) rfl (fun ls hl => ?_)
  refine lv_aload_n hx hb dL_law_924 rfl (lv_at hl 4 rfl) ?_
  refine x_callV (rest := []) (wr := []) (m_thrown l dC dI k mo V1_1 1 z_2) B mV_X12_thrown mw_2144 hl [0] [] rfl rfl ⟨by decide, by decide⟩ (by decide) (q0 := 0) rfl rfl rfl ⟨Nat.le_of_ble_eq_true rfl, Nat.le_of_ble_eq_true rfl⟩ (Nat.le_of_ble_eq_true rfl) rfl dL_law_925 ⟨Nat.le_of_ble_eq_true rfl, Nat.le_of_ble_eq_true rfl⟩ (fun r w H locs hp B => ?_)
  obtain ⟨rfl, rfl⟩ := hp
  have B := bd_to (ws' := [(mo, .inr (10, fvM V1_1))]) rfl B
  refine lv_iload hx hb dL_law_928 (lv_at hl 1 rfl) ?_
  refine lv_icmp_eq (tgt := 935) hx hb dL_law_930 (by decide) (fun _ => ?_) (fun c9 => absurd (by decide) c9)
  refine lv_iload hx hb dL_law_935 (lv_at hl 1 rfl) ?_
  refine lv_if_ne (tgt := 952) hx hb dL_law_937 (by decide) (fun _ => ?_) (fun c9 => absurd c9 (by decide))
  refine lv_goto (tgt := 2809) hx hb dL_law_952 (by decide) ?_
  exact law_end hX hbl hr B (lv_sub hl [6, 2] rfl) (Nat.le_of_ble_eq_true rfl) (Nat.le_of_ble_eq_true rfl)

theorem mw_1236 : (Jvm.Cond.methodLink "GalleyforgeLaw" (180 : Nat) ({ cls := "GalleyforgeLaw", name := "figure", desc := "(LGalleyforge;II[J)I" } : Jvm.MethodName)) ∈ gt := gt_at 1371 (by decide +kernel) (by decide +kernel)
theorem mw_1237 : (Jvm.Cond.static ({ cls := "GalleyforgeLaw", name := "figure", desc := "(LGalleyforge;II[J)I" } : Jvm.MethodName)) ∈ gt := gt_at 1372 (by decide +kernel) (by decide +kernel)
theorem mw_1238 : (Jvm.Cond.codeWith ({ cls := "GalleyforgeLaw", name := "figure", desc := "(LGalleyforge;II[J)I" } : Jvm.MethodName) method_13_code (5 : Nat) (Option.some Jvm.ClassFile.FieldType.int) [((0 : Nat), (10 : Nat), (13 : Nat), (21 : Nat)), ((0 : Nat), (10 : Nat), (17 : Nat), (15 : Nat))]) ∈ gt := gt_at 1373 (by decide +kernel) (by decide +kernel)
theorem mw_2235 : (Jvm.Cond.methodLink "GalleyforgeLaw" (182 : Nat) ({ cls := "GalleyforgeModel", name := "figure", desc := "(II)I" } : Jvm.MethodName)) ∈ gt := gt_at 2370 (by decide +kernel) (by decide +kernel)
theorem mw_2236 : (Jvm.Cond.instanceMethod ({ cls := "GalleyforgeModel", name := "figure", desc := "(II)I" } : Jvm.MethodName)) ∈ gt := gt_at 2371 (by decide +kernel) (by decide +kernel)
theorem mw_2237 : (Jvm.Cond.selects "GalleyforgeModel" ({ cls := "GalleyforgeModel", name := "figure", desc := "(II)I" } : Jvm.MethodName) ({ cls := "GalleyforgeModel", name := "figure", desc := "(II)I" } : Jvm.MethodName)) ∈ gt := gt_at 2372 (by decide +kernel) (by decide +kernel)
theorem mw_2238 : (Jvm.Cond.code ({ cls := "GalleyforgeModel", name := "figure", desc := "(II)I" } : Jvm.MethodName) prog_14_method_24_code (4 : Nat) (Option.some Jvm.ClassFile.FieldType.int)) ∈ gt := gt_at 2373 (by decide +kernel) (by decide +kernel)
theorem mV_X12_figure : mV yX12_figure cX12_figure 4 (some .int) 2 := ⟨⟨mw_2238, mw_13, by decide, by decide, by decide +kernel⟩, mw_2236, mw_2237⟩
theorem mW_L_figure : mW yL_figure cL_figure 5 (some .int) [((0 : Nat), (10 : Nat), (13 : Nat), (21 : Nat)), ((0 : Nat), (10 : Nat), (17 : Nat), (15 : Nat))] 4 := ⟨⟨mw_1238, mw_0, by decide, by decide, by decide +kernel⟩, mw_1237⟩
theorem dL_law_955 : decode cL_law 955 = .ok (.aload_n 1, 1) := by decide +kernel
theorem dL_law_956 : decode cL_law 956 = .ok (.aload_n 0, 1) := by decide +kernel
theorem dL_law_957 : decode cL_law 957 = .ok (.iload 4, 2) := by decide +kernel
theorem dL_law_959 : decode cL_law 959 = .ok (.iconst 1, 1) := by decide +kernel
theorem dL_law_960 : decode cL_law 960 = .ok (.iadd, 1) := by decide +kernel
theorem dL_law_961 : decode cL_law 961 = .ok (.iaload, 1) := by decide +kernel
theorem dL_law_962 : decode cL_law 962 = .ok (.aload_n 0, 1) := by decide +kernel
theorem dL_law_963 : decode cL_law 963 = .ok (.iload 4, 2) := by decide +kernel
theorem dL_law_965 : decode cL_law 965 = .ok (.iconst 2, 1) := by decide +kernel
theorem dL_law_966 : decode cL_law 966 = .ok (.iadd, 1) := by decide +kernel
theorem dL_law_967 : decode cL_law 967 = .ok (.iaload, 1) := by decide +kernel
theorem dL_law_968 : decode cL_law 968 = .ok (.aload_n 3, 1) := by decide +kernel
theorem dL_law_969 : decode cL_law 969 = .ok (.invokestatic 180, 3) := by decide +kernel
theorem dL_law_972 : decode cL_law 972 = .ok (.istore 5, 2) := by decide +kernel
theorem dL_law_974 : decode cL_law 974 = .ok (.aload_n 2, 1) := by decide +kernel
theorem dL_law_975 : decode cL_law 975 = .ok (.aload_n 0, 1) := by decide +kernel
theorem dL_law_976 : decode cL_law 976 = .ok (.iload 4, 2) := by decide +kernel
theorem dL_law_978 : decode cL_law 978 = .ok (.iconst 1, 1) := by decide +kernel
theorem dL_law_979 : decode cL_law 979 = .ok (.iadd, 1) := by decide +kernel
theorem dL_law_980 : decode cL_law 980 = .ok (.iaload, 1) := by decide +kernel
theorem dL_law_981 : decode cL_law 981 = .ok (.aload_n 0, 1) := by decide +kernel
theorem dL_law_982 : decode cL_law 982 = .ok (.iload 4, 2) := by decide +kernel
theorem dL_law_984 : decode cL_law 984 = .ok (.iconst 2, 1) := by decide +kernel
theorem dL_law_985 : decode cL_law 985 = .ok (.iadd, 1) := by decide +kernel
theorem dL_law_986 : decode cL_law 986 = .ok (.iaload, 1) := by decide +kernel
theorem dL_law_987 : decode cL_law 987 = .ok (.invokevirtual 182, 3) := by decide +kernel
theorem dL_law_990 : decode cL_law 990 = .ok (.istore 6, 2) := by decide +kernel
theorem dL_law_992 : decode cL_law 992 = .ok (.aload_n 2, 1) := by decide +kernel
theorem dL_law_993 : decode cL_law 993 = .ok (.invokevirtual 142, 3) := by decide +kernel
theorem dL_law_996 : decode cL_law 996 = .ok (.iload 5, 2) := by decide +kernel
theorem dL_law_998 : decode cL_law 998 = .ok (.if_icmp .eq 5, 3) := by decide +kernel
theorem dL_law_1001 : decode cL_law 1001 = .ok (.iconst 0, 1) := by decide +kernel
theorem dL_law_1003 : decode cL_law 1003 = .ok (.iload 5, 2) := by decide +kernel
theorem dL_law_1005 : decode cL_law 1005 = .ok (.ifCond .ne 15, 3) := by decide +kernel
theorem dL_law_1008 : decode cL_law 1008 = .ok (.aload_n 3, 1) := by decide +kernel
theorem dL_law_1009 : decode cL_law 1009 = .ok (.iconst 0, 1) := by decide +kernel
theorem dL_law_1010 : decode cL_law 1010 = .ok (.laload, 1) := by decide +kernel
theorem dL_law_1011 : decode cL_law 1011 = .ok (.iload 6, 2) := by decide +kernel
theorem dL_law_1013 : decode cL_law 1013 = .ok (.i2l, 1) := by decide +kernel
theorem dL_law_1014 : decode cL_law 1014 = .ok (.lcmp, 1) := by decide +kernel
theorem dL_law_1015 : decode cL_law 1015 = .ok (.ifCond .eq 5, 3) := by decide +kernel
theorem dL_law_1020 : decode cL_law 1020 = .ok (.goto 1789, 3) := by decide +kernel
set_option maxHeartbeats 4000000 in
set_option maxRecDepth 100000 in
theorem law_figure (l : Launch) (hl0 : l.stackTraces = false) (dC : Nat → ClassId) (dI : Nat → Nat → Nat) (k : Nat → ClassId) {p : Program} {e : Env} {s : State} {m : MethodId} {below : List Frame} {meth : Method} {c : Code} {b : Nat} {xs : Nat → Int32} (hX : va_X b 7 xs s s.heap) (hbl : b < s.heap.size) (hr : meth.sig.returnType = ret) {H : Heap} {locs : List Loc} {ls : Array Slot} (gx : Nat) (T : Nat) (LA : Nat) (sp : Nat) (dr : Nat) (bl : Nat) (pt : Nat) (fk : Nat) (fh : Nat) (ky : Nat) (L0 : Nat) (L1 : Nat) (LN : Nat) (lc0 : Nat) (le0 : Nat) (ll0 : Nat) (ld0 : Nat) (wl0 : Nat) (op0 : Nat) (dg0 : Nat) (lc1 : Nat) (le1 : Nat) (ll1 : Nat) (ld1 : Nat) (wl1 : Nat) (op1 : Nat) (dg1 : Nat) (R0 : Nat) (P0 : Nat) (R1 : Nat) (P1 : Nat) (ou : Nat) (mo : Nat) (V : Nat → Value) (aFk : Nat) (aFh : Nat) (h21 : V 21 = .int 0) (h22 : V 22 = .ref aFk) (h23 : V 23 = .ref aFh) (B : bd p s m #[Value.ref b] meth c cL_law 8 "GalleyforgeLaw" dC dI k (fun q => s.heap.size ≤ q) [(gx, .inr (9, [.ref T, .ref LA, .ref sp, .int 0, .ref dr])), (T, .inr (8, [.ref bl, .ref pt, .ref fk, .ref fh, .int 0, .ref ky, .int 60, .int 12])), (fk, .inl (k 0, 5, .inl (fun _ => 0))), (fh, .inl (k 0, 5, .inl (fun _ => 0))), (LA, .inl (k 3, 2, .inr (.inr (.inr (.inr (va_up (va_up (fun _ => none) 0 (some L0)) 1 (some L1))))))), (L0, .inr (1, [.ref T, .int 0, .ref LN, .ref R0, .ref P0, .int 1, .int 0, .ref lc0, .ref le0, .ref ll0, .ref ld0, .ref wl0, .ref op0, .int 0, .int 0, .int 1365, .ref dg0])), (L1, .inr (1, [.ref T, .int 1, .ref LN, .ref R1, .ref P1, .int 1, .int 0, .ref lc1, .ref le1, .ref ll1, .ref ld1, .ref wl1, .ref op1, .int 0, .int 0, .int 1365, .ref dg1])), (ou, .inl (k 2, 1, .inr (.inl (fun _ => 0)))), (mo, .inr (10, fvM V)), (aFk, .inl (k 0, 5, .inl (fun _ => 0))), (aFh, .inl (k 0, 5, .inl (fun _ => 0)))] H locs) (hl : lv_has ls 8 [(4, .int 0), (3, .ref ou), (2, .ref mo), (1, .ref gx), (0, .ref b)]) : W p l e room_1 s m #[Value.ref b] below meth c H locs 157 183312 (lw_Z below #[Value.ref b] s) (F0 m 955 ls []) := by
  have hx := B.1.1
  have hb := B.1.2.1
  refine lv_aload_n hx hb dL_law_955 rfl (lv_at hl 3 rfl) ?_
  refine lv_aload_n hx hb dL_law_956 rfl (lv_at hl 4 rfl) ?_
  refine lv_iload hx hb dL_law_957 (lv_at hl 0 rfl) ?_
  refine lv_iconst (v := 1) hx hb dL_law_959 (by decide) ?_
  refine lv_iadd hx hb dL_law_960 ?_
  refine lv_seti (y := 1) (by decide) ?_
  refine va_sld hx hb hX hbl (Nat.not_le.mpr hbl) B.2.2.2.2.2 (vpc (by decide)) dL_law_961 ?_
  refine lv_seti (y := xs 1) rfl ?_
  refine lv_aload_n hx hb dL_law_962 rfl (lv_at hl 4 rfl) ?_
  refine lv_iload hx hb dL_law_963 (lv_at hl 0 rfl) ?_
  refine lv_iconst (v := 2) hx hb dL_law_965 (by decide) ?_
  refine lv_iadd hx hb dL_law_966 ?_
  refine lv_seti (y := 2) (by decide) ?_
  refine va_sld hx hb hX hbl (Nat.not_le.mpr hbl) B.2.2.2.2.2 (vpc (by decide)) dL_law_967 ?_
  refine lv_seti (y := xs 2) rfl ?_
  refine lv_aload_n hx hb dL_law_968 rfl (lv_at hl 1 rfl) ?_
  refine x_callW (rest := []) (wr := [(mo, .inr (10, fvM V)), (aFk, .inl (k 0, 5, .inl (fun _ => 0))), (aFh, .inl (k 0, 5, .inl (fun _ => 0)))]) (w_figure l dC dI k hl0 gx T LA sp dr bl pt fk fh ky L0 L1 LN lc0 le0 ll0 ld0 wl0 op0 dg0 lc1 le1 ll1 ld1 wl1 op1 dg1 R0 P0 R1 P1 (xs 1) (xs 2) ou) B mW_L_figure mw_1236 hl [0, 1, 2, 3, 4, 5, 6, 7] [8, 9, 10] rfl rfl ⟨by decide, by decide⟩ (by decide) ⟨Nat.le_of_ble_eq_true rfl, Nat.le_of_ble_eq_true rfl⟩ (Nat.le_of_ble_eq_true rfl) rfl dL_law_969 ⟨Nat.le_of_ble_eq_true rfl, Nat.le_of_ble_eq_true rfl⟩ (fun r w H locs hp B => ?_)
  rcases hp with ⟨z_1, rfl, rfl⟩ | ⟨z_2, rfl, rfl⟩
  · skip
    have B := bd_to (ws' := [(mo, .inr (10, fvM V)), (aFk, .inl (k 0, 5, .inl (fun _ => 0))), (aFh, .inl (k 0, 5, .inl (fun _ => 0))), (ou, .inl (k 2, 1, .inr (.inl (vp_updL (fun _ => 0) 0 0))))]) rfl B
    refine lv_istore (lv' := [(5, .int 0), (4, .int 0), (3, .ref ou), (2, .ref mo), (1, .ref gx), (0, .ref b)]) hx hb dL_law_972 hl (by decide) rfl (fun ls hl => ?_)
    refine lv_aload_n hx hb dL_law_974 rfl (lv_at hl 3 rfl) ?_
    refine lv_aload_n hx hb dL_law_975 rfl (lv_at hl 5 rfl) ?_
    refine lv_iload hx hb dL_law_976 (lv_at hl 1 rfl) ?_
    refine lv_iconst (v := 1) hx hb dL_law_978 (by decide) ?_
    refine lv_iadd hx hb dL_law_979 ?_
    refine lv_seti (y := 1) (by decide) ?_
    refine va_sld hx hb hX hbl (Nat.not_le.mpr hbl) B.2.2.2.2.2 (vpc (by decide)) dL_law_980 ?_
    refine lv_seti (y := xs 1) rfl ?_
    refine lv_aload_n hx hb dL_law_981 rfl (lv_at hl 5 rfl) ?_
    refine lv_iload hx hb dL_law_982 (lv_at hl 1 rfl) ?_
    refine lv_iconst (v := 2) hx hb dL_law_984 (by decide) ?_
    refine lv_iadd hx hb dL_law_985 ?_
    refine lv_seti (y := 2) (by decide) ?_
    refine va_sld hx hb hX hbl (Nat.not_le.mpr hbl) B.2.2.2.2.2 (vpc (by decide)) dL_law_986 ?_
    refine lv_seti (y := xs 2) rfl ?_
    refine x_callV (rest := []) (wr := [(ou, .inl (k 2, 1, .inr (.inl (vp_updL (fun _ => 0) 0 0))))]) (m_figure l dC dI k mo V aFk aFh (xs 1) (xs 2) h21 h22 h23) B mV_X12_figure mw_2235 hl [0, 1, 2] [3] rfl rfl ⟨by decide, by decide⟩ (by decide) (q0 := 0) rfl rfl rfl ⟨Nat.le_of_ble_eq_true rfl, Nat.le_of_ble_eq_true rfl⟩ (Nat.le_of_ble_eq_true rfl) rfl dL_law_987 ⟨Nat.le_of_ble_eq_true rfl, Nat.le_of_ble_eq_true rfl⟩ (fun r w H locs hp B => ?_)
    rcases hp with ⟨V1_3, z_4, z_5, rfl, rfl⟩ | ⟨V1_6, z_7, z_8, rfl, rfl⟩
    · skip
      have B := bd_to (ws' := [(ou, .inl (k 2, 1, .inr (.inl (vp_updL (fun _ => 0) 0 0)))), (mo, .inr (10, fvM V1_3))]) rfl B
      refine lv_istore (lv' := [(6, .int 0), (5, .int 0), (4, .int 0), (3, .ref ou), (2, .ref mo), (1, .ref gx), (0, .ref b)]) hx hb dL_law_990 hl (by decide) rfl (fun ls hl => ?_)
      refine lv_aload_n hx hb dL_law_992 rfl (lv_at hl 4 rfl) ?_
      refine x_callV (rest := []) (wr := [(ou, .inl (k 2, 1, .inr (.inl (vp_updL (fun _ => 0) 0 0))))]) (m_thrown l dC dI k mo V1_3 0 z_5) B mV_X12_thrown mw_2144 hl [1] [0] rfl rfl ⟨by decide, by decide⟩ (by decide) (q0 := 0) rfl rfl rfl ⟨Nat.le_of_ble_eq_true rfl, Nat.le_of_ble_eq_true rfl⟩ (Nat.le_of_ble_eq_true rfl) rfl dL_law_993 ⟨Nat.le_of_ble_eq_true rfl, Nat.le_of_ble_eq_true rfl⟩ (fun r w H locs hp B => ?_)
      obtain ⟨rfl, rfl⟩ := hp
      have B := bd_to (ws' := [(ou, .inl (k 2, 1, .inr (.inl (vp_updL (fun _ => 0) 0 0)))), (mo, .inr (10, fvM V1_3))]) rfl B
      refine lv_iload hx hb dL_law_996 (lv_at hl 1 rfl) ?_
      refine lv_icmp_eq (tgt := 1003) hx hb dL_law_998 (by decide) (fun _ => ?_) (fun c9 => absurd (by decide) c9)
      refine lv_iload hx hb dL_law_1003 (lv_at hl 1 rfl) ?_
      refine lv_if_ne (tgt := 1020) hx hb dL_law_1005 (by decide) (fun c9 => absurd c9 (by decide)) (fun _ => ?_)
      refine lv_aload_n hx hb dL_law_1008 rfl (lv_at hl 3 rfl) ?_
      refine lv_iconst (v := 0) hx hb dL_law_1009 (by decide) ?_
      refine x_lald (v := 0) B 0 rfl (vpc (by decide)) dL_law_1010 (by rfl) ?_
      refine lv_iload hx hb dL_law_1011 (lv_at hl 0 rfl) ?_
      refine lv_i2l (v := 0) hx hb dL_law_1013 (by decide) ?_
      refine x_lcmp (z := 0) B (by decide) dL_law_1014 ?_
      refine lv_if_eq (tgt := 1020) hx hb dL_law_1015 (by decide) (fun _ => ?_) (fun c9 => absurd (by decide) c9)
      refine lv_goto (tgt := 2809) hx hb dL_law_1020 (by decide) ?_
      exact law_end hX hbl hr B (lv_sub hl [6, 2] rfl) (Nat.le_of_ble_eq_true rfl) (Nat.le_of_ble_eq_true rfl)
    · skip
      have B := bd_to (ws' := [(ou, .inl (k 2, 1, .inr (.inl (vp_updL (fun _ => 0) 0 0)))), (mo, .inr (10, fvM V1_6))]) rfl B
      refine lv_istore (lv' := [(6, .int 0), (5, .int 0), (4, .int 0), (3, .ref ou), (2, .ref mo), (1, .ref gx), (0, .ref b)]) hx hb dL_law_990 hl (by decide) rfl (fun ls hl => ?_)
      refine lv_aload_n hx hb dL_law_992 rfl (lv_at hl 4 rfl) ?_
      refine x_callV (rest := []) (wr := [(ou, .inl (k 2, 1, .inr (.inl (vp_updL (fun _ => 0) 0 0))))]) (m_thrown l dC dI k mo V1_6 1 z_8) B mV_X12_thrown mw_2144 hl [1] [0] rfl rfl ⟨by decide, by decide⟩ (by decide) (q0 := 0) rfl rfl rfl ⟨Nat.le_of_ble_eq_true rfl, Nat.le_of_ble_eq_true rfl⟩ (Nat.le_of_ble_eq_true rfl) rfl dL_law_993 ⟨Nat.le_of_ble_eq_true rfl, Nat.le_of_ble_eq_true rfl⟩ (fun r w H locs hp B => ?_)
      obtain ⟨rfl, rfl⟩ := hp
      have B := bd_to (ws' := [(ou, .inl (k 2, 1, .inr (.inl (vp_updL (fun _ => 0) 0 0)))), (mo, .inr (10, fvM V1_6))]) rfl B
      refine lv_iload hx hb dL_law_996 (lv_at hl 1 rfl) ?_
      refine lv_icmp_eq (tgt := 1003) hx hb dL_law_998 (by decide) (fun c9 => absurd c9 (by decide)) (fun _ => ?_)
      refine lv_iconst (v := 0) hx hb dL_law_1001 (by decide) ?_
      exfalso; omega
  · skip
    have B := bd_to (ws' := [(mo, .inr (10, fvM V)), (aFk, .inl (k 0, 5, .inl (fun _ => 0))), (aFh, .inl (k 0, 5, .inl (fun _ => 0)))]) rfl B
    refine lv_istore (lv' := [(5, .int 1), (4, .int 0), (3, .ref ou), (2, .ref mo), (1, .ref gx), (0, .ref b)]) hx hb dL_law_972 hl (by decide) rfl (fun ls hl => ?_)
    refine lv_aload_n hx hb dL_law_974 rfl (lv_at hl 3 rfl) ?_
    refine lv_aload_n hx hb dL_law_975 rfl (lv_at hl 5 rfl) ?_
    refine lv_iload hx hb dL_law_976 (lv_at hl 1 rfl) ?_
    refine lv_iconst (v := 1) hx hb dL_law_978 (by decide) ?_
    refine lv_iadd hx hb dL_law_979 ?_
    refine lv_seti (y := 1) (by decide) ?_
    refine va_sld hx hb hX hbl (Nat.not_le.mpr hbl) B.2.2.2.2.2 (vpc (by decide)) dL_law_980 ?_
    refine lv_seti (y := xs 1) rfl ?_
    refine lv_aload_n hx hb dL_law_981 rfl (lv_at hl 5 rfl) ?_
    refine lv_iload hx hb dL_law_982 (lv_at hl 1 rfl) ?_
    refine lv_iconst (v := 2) hx hb dL_law_984 (by decide) ?_
    refine lv_iadd hx hb dL_law_985 ?_
    refine lv_seti (y := 2) (by decide) ?_
    refine va_sld hx hb hX hbl (Nat.not_le.mpr hbl) B.2.2.2.2.2 (vpc (by decide)) dL_law_986 ?_
    refine lv_seti (y := xs 2) rfl ?_
    refine x_callV (rest := []) (wr := []) (m_figure l dC dI k mo V aFk aFh (xs 1) (xs 2) h21 h22 h23) B mV_X12_figure mw_2235 hl [0, 1, 2] [] rfl rfl ⟨by decide, by decide⟩ (by decide) (q0 := 0) rfl rfl rfl ⟨Nat.le_of_ble_eq_true rfl, Nat.le_of_ble_eq_true rfl⟩ (Nat.le_of_ble_eq_true rfl) rfl dL_law_987 ⟨Nat.le_of_ble_eq_true rfl, Nat.le_of_ble_eq_true rfl⟩ (fun r w H locs hp B => ?_)
    rcases hp with ⟨V1_9, z_10, z_11, rfl, rfl⟩ | ⟨V1_12, z_13, z_14, rfl, rfl⟩
    · skip
      have B := bd_to (ws' := [(mo, .inr (10, fvM V1_9))]) rfl B
      refine lv_istore (lv' := [(6, .int 0), (5, .int 1), (4, .int 0), (3, .ref ou), (2, .ref mo), (1, .ref gx), (0, .ref b)]) hx hb dL_law_990 hl (by decide) rfl (fun ls hl => ?_)
      refine lv_aload_n hx hb dL_law_992 rfl (lv_at hl 4 rfl) ?_
      refine x_callV (rest := []) (wr := []) (m_thrown l dC dI k mo V1_9 0 z_11) B mV_X12_thrown mw_2144 hl [0] [] rfl rfl ⟨by decide, by decide⟩ (by decide) (q0 := 0) rfl rfl rfl ⟨Nat.le_of_ble_eq_true rfl, Nat.le_of_ble_eq_true rfl⟩ (Nat.le_of_ble_eq_true rfl) rfl dL_law_993 ⟨Nat.le_of_ble_eq_true rfl, Nat.le_of_ble_eq_true rfl⟩ (fun r w H locs hp B => ?_)
      obtain ⟨rfl, rfl⟩ := hp
      have B := bd_to (ws' := [(mo, .inr (10, fvM V1_9))]) rfl B
      refine lv_iload hx hb dL_law_996 (lv_at hl 1 rfl) ?_
      refine lv_icmp_eq (tgt := 1003) hx hb dL_law_998 (by decide) (fun c9 => absurd c9 (by decide)) (fun _ => ?_)
      refine lv_iconst (v := 0) hx hb dL_law_1001 (by decide) ?_
      exfalso; omega
    · skip
      have B := bd_to (ws' := [(mo, .inr (10, fvM V1_12))]) rfl B
      refine lv_istore (lv' := [(6, .int 0), (5, .int 1), (4, .int 0), (3, .ref ou), (2, .ref mo), (1, .ref gx), (0, .ref b)]) hx hb dL_law_990 hl (by decide) rfl (fun ls hl => ?_)
      refine lv_aload_n hx hb dL_law_992 rfl (lv_at hl 4 rfl) ?_
      refine x_callV (rest := []) (wr := []) (m_thrown l dC dI k mo V1_12 1 z_14) B mV_X12_thrown mw_2144 hl [0] [] rfl rfl ⟨by decide, by decide⟩ (by decide) (q0 := 0) rfl rfl rfl ⟨Nat.le_of_ble_eq_true rfl, Nat.le_of_ble_eq_true rfl⟩ (Nat.le_of_ble_eq_true rfl) rfl dL_law_993 ⟨Nat.le_of_ble_eq_true rfl, Nat.le_of_ble_eq_true rfl⟩ (fun r w H locs hp B => ?_)
      obtain ⟨rfl, rfl⟩ := hp
      have B := bd_to (ws' := [(mo, .inr (10, fvM V1_12))]) rfl B
      refine lv_iload hx hb dL_law_996 (lv_at hl 1 rfl) ?_
      refine lv_icmp_eq (tgt := 1003) hx hb dL_law_998 (by decide) (fun _ => ?_) (fun c9 => absurd (by decide) c9)
      refine lv_iload hx hb dL_law_1003 (lv_at hl 1 rfl) ?_
      refine lv_if_ne (tgt := 1020) hx hb dL_law_1005 (by decide) (fun _ => ?_) (fun c9 => absurd c9 (by decide))
      refine lv_goto (tgt := 2809) hx hb dL_law_1020 (by decide) ?_
      exact law_end hX hbl hr B (lv_sub hl [6, 2] rfl) (Nat.le_of_ble_eq_true rfl) (Nat.le_of_ble_eq_true rfl)

theorem mw_1245 : (Jvm.Cond.methodLink "GalleyforgeLaw" (183 : Nat) ({ cls := "GalleyforgeLaw", name := "paper", desc := "(LGalleyforge;II[J)I" } : Jvm.MethodName)) ∈ gt := gt_at 1380 (by decide +kernel) (by decide +kernel)
theorem mw_1246 : (Jvm.Cond.static ({ cls := "GalleyforgeLaw", name := "paper", desc := "(LGalleyforge;II[J)I" } : Jvm.MethodName)) ∈ gt := gt_at 1381 (by decide +kernel) (by decide +kernel)
theorem mw_1247 : (Jvm.Cond.codeWith ({ cls := "GalleyforgeLaw", name := "paper", desc := "(LGalleyforge;II[J)I" } : Jvm.MethodName) method_14_code (5 : Nat) (Option.some Jvm.ClassFile.FieldType.int) [((0 : Nat), (10 : Nat), (13 : Nat), (21 : Nat))]) ∈ gt := gt_at 1382 (by decide +kernel) (by decide +kernel)
theorem mw_2239 : (Jvm.Cond.methodLink "GalleyforgeLaw" (185 : Nat) ({ cls := "GalleyforgeModel", name := "paper", desc := "(II)I" } : Jvm.MethodName)) ∈ gt := gt_at 2374 (by decide +kernel) (by decide +kernel)
theorem mw_2240 : (Jvm.Cond.instanceMethod ({ cls := "GalleyforgeModel", name := "paper", desc := "(II)I" } : Jvm.MethodName)) ∈ gt := gt_at 2375 (by decide +kernel) (by decide +kernel)
theorem mw_2241 : (Jvm.Cond.selects "GalleyforgeModel" ({ cls := "GalleyforgeModel", name := "paper", desc := "(II)I" } : Jvm.MethodName) ({ cls := "GalleyforgeModel", name := "paper", desc := "(II)I" } : Jvm.MethodName)) ∈ gt := gt_at 2376 (by decide +kernel) (by decide +kernel)
theorem mw_2242 : (Jvm.Cond.code ({ cls := "GalleyforgeModel", name := "paper", desc := "(II)I" } : Jvm.MethodName) prog_14_method_25_code (4 : Nat) (Option.some Jvm.ClassFile.FieldType.int)) ∈ gt := gt_at 2377 (by decide +kernel) (by decide +kernel)
theorem mV_X12_paper : mV yX12_paper cX12_paper 4 (some .int) 2 := ⟨⟨mw_2242, mw_13, by decide, by decide, by decide +kernel⟩, mw_2240, mw_2241⟩
theorem mW_L_paper : mW yL_paper cL_paper 5 (some .int) [((0 : Nat), (10 : Nat), (13 : Nat), (21 : Nat))] 4 := ⟨⟨mw_1247, mw_0, by decide, by decide, by decide +kernel⟩, mw_1246⟩
theorem dL_law_1023 : decode cL_law 1023 = .ok (.aload_n 1, 1) := by decide +kernel
theorem dL_law_1024 : decode cL_law 1024 = .ok (.aload_n 0, 1) := by decide +kernel
theorem dL_law_1025 : decode cL_law 1025 = .ok (.iload 4, 2) := by decide +kernel
theorem dL_law_1027 : decode cL_law 1027 = .ok (.iconst 1, 1) := by decide +kernel
theorem dL_law_1028 : decode cL_law 1028 = .ok (.iadd, 1) := by decide +kernel
theorem dL_law_1029 : decode cL_law 1029 = .ok (.iaload, 1) := by decide +kernel
theorem dL_law_1030 : decode cL_law 1030 = .ok (.aload_n 0, 1) := by decide +kernel
theorem dL_law_1031 : decode cL_law 1031 = .ok (.iload 4, 2) := by decide +kernel
theorem dL_law_1033 : decode cL_law 1033 = .ok (.iconst 2, 1) := by decide +kernel
theorem dL_law_1034 : decode cL_law 1034 = .ok (.iadd, 1) := by decide +kernel
theorem dL_law_1035 : decode cL_law 1035 = .ok (.iaload, 1) := by decide +kernel
theorem dL_law_1036 : decode cL_law 1036 = .ok (.aload_n 3, 1) := by decide +kernel
theorem dL_law_1037 : decode cL_law 1037 = .ok (.invokestatic 183, 3) := by decide +kernel
theorem dL_law_1040 : decode cL_law 1040 = .ok (.istore 5, 2) := by decide +kernel
theorem dL_law_1042 : decode cL_law 1042 = .ok (.aload_n 2, 1) := by decide +kernel
theorem dL_law_1043 : decode cL_law 1043 = .ok (.aload_n 0, 1) := by decide +kernel
theorem dL_law_1044 : decode cL_law 1044 = .ok (.iload 4, 2) := by decide +kernel
theorem dL_law_1046 : decode cL_law 1046 = .ok (.iconst 1, 1) := by decide +kernel
theorem dL_law_1047 : decode cL_law 1047 = .ok (.iadd, 1) := by decide +kernel
theorem dL_law_1048 : decode cL_law 1048 = .ok (.iaload, 1) := by decide +kernel
theorem dL_law_1049 : decode cL_law 1049 = .ok (.aload_n 0, 1) := by decide +kernel
theorem dL_law_1050 : decode cL_law 1050 = .ok (.iload 4, 2) := by decide +kernel
theorem dL_law_1052 : decode cL_law 1052 = .ok (.iconst 2, 1) := by decide +kernel
theorem dL_law_1053 : decode cL_law 1053 = .ok (.iadd, 1) := by decide +kernel
theorem dL_law_1054 : decode cL_law 1054 = .ok (.iaload, 1) := by decide +kernel
theorem dL_law_1055 : decode cL_law 1055 = .ok (.invokevirtual 185, 3) := by decide +kernel
theorem dL_law_1058 : decode cL_law 1058 = .ok (.istore 6, 2) := by decide +kernel
theorem dL_law_1060 : decode cL_law 1060 = .ok (.aload_n 2, 1) := by decide +kernel
theorem dL_law_1061 : decode cL_law 1061 = .ok (.invokevirtual 142, 3) := by decide +kernel
theorem dL_law_1064 : decode cL_law 1064 = .ok (.iload 5, 2) := by decide +kernel
theorem dL_law_1066 : decode cL_law 1066 = .ok (.if_icmp .eq 5, 3) := by decide +kernel
theorem dL_law_1069 : decode cL_law 1069 = .ok (.iconst 0, 1) := by decide +kernel
theorem dL_law_1071 : decode cL_law 1071 = .ok (.iload 5, 2) := by decide +kernel
theorem dL_law_1073 : decode cL_law 1073 = .ok (.ifCond .ne 15, 3) := by decide +kernel
theorem dL_law_1076 : decode cL_law 1076 = .ok (.aload_n 3, 1) := by decide +kernel
theorem dL_law_1077 : decode cL_law 1077 = .ok (.iconst 0, 1) := by decide +kernel
theorem dL_law_1078 : decode cL_law 1078 = .ok (.laload, 1) := by decide +kernel
theorem dL_law_1079 : decode cL_law 1079 = .ok (.iload 6, 2) := by decide +kernel
theorem dL_law_1081 : decode cL_law 1081 = .ok (.i2l, 1) := by decide +kernel
theorem dL_law_1082 : decode cL_law 1082 = .ok (.lcmp, 1) := by decide +kernel
theorem dL_law_1083 : decode cL_law 1083 = .ok (.ifCond .eq 5, 3) := by decide +kernel
theorem dL_law_1088 : decode cL_law 1088 = .ok (.goto 1721, 3) := by decide +kernel
set_option maxHeartbeats 4000000 in
set_option maxRecDepth 100000 in
theorem law_paper (l : Launch) (hl0 : l.stackTraces = false) (dC : Nat → ClassId) (dI : Nat → Nat → Nat) (k : Nat → ClassId) {p : Program} {e : Env} {s : State} {m : MethodId} {below : List Frame} {meth : Method} {c : Code} {b : Nat} {xs : Nat → Int32} (hX : va_X b 7 xs s s.heap) (hbl : b < s.heap.size) (hr : meth.sig.returnType = ret) {H : Heap} {locs : List Loc} {ls : Array Slot} (gx : Nat) (T : Nat) (LA : Nat) (sp : Nat) (dr : Nat) (bl : Nat) (pt : Nat) (fk : Nat) (fh : Nat) (ky : Nat) (L0 : Nat) (L1 : Nat) (LN : Nat) (lc0 : Nat) (le0 : Nat) (ll0 : Nat) (ld0 : Nat) (wl0 : Nat) (op0 : Nat) (dg0 : Nat) (lc1 : Nat) (le1 : Nat) (ll1 : Nat) (ld1 : Nat) (wl1 : Nat) (op1 : Nat) (dg1 : Nat) (R0 : Nat) (P0 : Nat) (R1 : Nat) (P1 : Nat) (ou : Nat) (mo : Nat) (V : Nat → Value) (h24 : V 24 = .int 60) (B : bd p s m #[Value.ref b] meth c cL_law 8 "GalleyforgeLaw" dC dI k (fun q => s.heap.size ≤ q) [(gx, .inr (9, [.ref T, .ref LA, .ref sp, .int 0, .ref dr])), (T, .inr (8, [.ref bl, .ref pt, .ref fk, .ref fh, .int 0, .ref ky, .int 60, .int 12])), (LA, .inl (k 3, 2, .inr (.inr (.inr (.inr (va_up (va_up (fun _ => none) 0 (some L0)) 1 (some L1))))))), (L0, .inr (1, [.ref T, .int 0, .ref LN, .ref R0, .ref P0, .int 1, .int 0, .ref lc0, .ref le0, .ref ll0, .ref ld0, .ref wl0, .ref op0, .int 0, .int 0, .int 1365, .ref dg0])), (L1, .inr (1, [.ref T, .int 1, .ref LN, .ref R1, .ref P1, .int 1, .int 0, .ref lc1, .ref le1, .ref ll1, .ref ld1, .ref wl1, .ref op1, .int 0, .int 0, .int 1365, .ref dg1])), (ou, .inl (k 2, 1, .inr (.inl (fun _ => 0)))), (mo, .inr (10, fvM V))] H locs) (hl : lv_has ls 8 [(4, .int 0), (3, .ref ou), (2, .ref mo), (1, .ref gx), (0, .ref b)]) : W p l e room_1 s m #[Value.ref b] below meth c H locs 157 183312 (lw_Z below #[Value.ref b] s) (F0 m 1023 ls []) := by
  have hx := B.1.1
  have hb := B.1.2.1
  refine lv_aload_n hx hb dL_law_1023 rfl (lv_at hl 3 rfl) ?_
  refine lv_aload_n hx hb dL_law_1024 rfl (lv_at hl 4 rfl) ?_
  refine lv_iload hx hb dL_law_1025 (lv_at hl 0 rfl) ?_
  refine lv_iconst (v := 1) hx hb dL_law_1027 (by decide) ?_
  refine lv_iadd hx hb dL_law_1028 ?_
  refine lv_seti (y := 1) (by decide) ?_
  refine va_sld hx hb hX hbl (Nat.not_le.mpr hbl) B.2.2.2.2.2 (vpc (by decide)) dL_law_1029 ?_
  refine lv_seti (y := xs 1) rfl ?_
  refine lv_aload_n hx hb dL_law_1030 rfl (lv_at hl 4 rfl) ?_
  refine lv_iload hx hb dL_law_1031 (lv_at hl 0 rfl) ?_
  refine lv_iconst (v := 2) hx hb dL_law_1033 (by decide) ?_
  refine lv_iadd hx hb dL_law_1034 ?_
  refine lv_seti (y := 2) (by decide) ?_
  refine va_sld hx hb hX hbl (Nat.not_le.mpr hbl) B.2.2.2.2.2 (vpc (by decide)) dL_law_1035 ?_
  refine lv_seti (y := xs 2) rfl ?_
  refine lv_aload_n hx hb dL_law_1036 rfl (lv_at hl 1 rfl) ?_
  refine x_callW (rest := []) (wr := [(mo, .inr (10, fvM V))]) (w_paper l dC dI k hl0 gx T LA sp dr bl pt fk fh ky L0 L1 LN lc0 le0 ll0 ld0 wl0 op0 dg0 lc1 le1 ll1 ld1 wl1 op1 dg1 R0 P0 R1 P1 (xs 1) (xs 2) ou) B mW_L_paper mw_1245 hl [0, 1, 2, 3, 4, 5] [6] rfl rfl ⟨by decide, by decide⟩ (by decide) ⟨Nat.le_of_ble_eq_true rfl, Nat.le_of_ble_eq_true rfl⟩ (Nat.le_of_ble_eq_true rfl) rfl dL_law_1037 ⟨Nat.le_of_ble_eq_true rfl, Nat.le_of_ble_eq_true rfl⟩ (fun r w H locs hp B => ?_)
  rcases hp with ⟨z_1, rfl, rfl⟩ | ⟨z_2, rfl, rfl⟩
  · skip
    have B := bd_to (ws' := [(mo, .inr (10, fvM V)), (ou, .inl (k 2, 1, .inr (.inl (vp_updL (fun _ => 0) 0 60))))]) rfl B
    refine lv_istore (lv' := [(5, .int 0), (4, .int 0), (3, .ref ou), (2, .ref mo), (1, .ref gx), (0, .ref b)]) hx hb dL_law_1040 hl (by decide) rfl (fun ls hl => ?_)
    refine lv_aload_n hx hb dL_law_1042 rfl (lv_at hl 3 rfl) ?_
    refine lv_aload_n hx hb dL_law_1043 rfl (lv_at hl 5 rfl) ?_
    refine lv_iload hx hb dL_law_1044 (lv_at hl 1 rfl) ?_
    refine lv_iconst (v := 1) hx hb dL_law_1046 (by decide) ?_
    refine lv_iadd hx hb dL_law_1047 ?_
    refine lv_seti (y := 1) (by decide) ?_
    refine va_sld hx hb hX hbl (Nat.not_le.mpr hbl) B.2.2.2.2.2 (vpc (by decide)) dL_law_1048 ?_
    refine lv_seti (y := xs 1) rfl ?_
    refine lv_aload_n hx hb dL_law_1049 rfl (lv_at hl 5 rfl) ?_
    refine lv_iload hx hb dL_law_1050 (lv_at hl 1 rfl) ?_
    refine lv_iconst (v := 2) hx hb dL_law_1052 (by decide) ?_
    refine lv_iadd hx hb dL_law_1053 ?_
    refine lv_seti (y := 2) (by decide) ?_
    refine va_sld hx hb hX hbl (Nat.not_le.mpr hbl) B.2.2.2.2.2 (vpc (by decide)) dL_law_1054 ?_
    refine lv_seti (y := xs 2) rfl ?_
    refine x_callV (rest := []) (wr := [(ou, .inl (k 2, 1, .inr (.inl (vp_updL (fun _ => 0) 0 60))))]) (m_paper l dC dI k mo V (xs 1) (xs 2) h24) B mV_X12_paper mw_2239 hl [0] [1] rfl rfl ⟨by decide, by decide⟩ (by decide) (q0 := 0) rfl rfl rfl ⟨Nat.le_of_ble_eq_true rfl, Nat.le_of_ble_eq_true rfl⟩ (Nat.le_of_ble_eq_true rfl) rfl dL_law_1055 ⟨Nat.le_of_ble_eq_true rfl, Nat.le_of_ble_eq_true rfl⟩ (fun r w H locs hp B => ?_)
    rcases hp with ⟨V1_3, z_4, z_5, rfl, rfl⟩ | ⟨V1_6, z_7, z_8, rfl, rfl⟩
    · skip
      have B := bd_to (ws' := [(ou, .inl (k 2, 1, .inr (.inl (vp_updL (fun _ => 0) 0 60)))), (mo, .inr (10, fvM V1_3))]) rfl B
      refine lv_istore (lv' := [(6, .int 60), (5, .int 0), (4, .int 0), (3, .ref ou), (2, .ref mo), (1, .ref gx), (0, .ref b)]) hx hb dL_law_1058 hl (by decide) rfl (fun ls hl => ?_)
      refine lv_aload_n hx hb dL_law_1060 rfl (lv_at hl 4 rfl) ?_
      refine x_callV (rest := []) (wr := [(ou, .inl (k 2, 1, .inr (.inl (vp_updL (fun _ => 0) 0 60))))]) (m_thrown l dC dI k mo V1_3 0 z_5) B mV_X12_thrown mw_2144 hl [1] [0] rfl rfl ⟨by decide, by decide⟩ (by decide) (q0 := 0) rfl rfl rfl ⟨Nat.le_of_ble_eq_true rfl, Nat.le_of_ble_eq_true rfl⟩ (Nat.le_of_ble_eq_true rfl) rfl dL_law_1061 ⟨Nat.le_of_ble_eq_true rfl, Nat.le_of_ble_eq_true rfl⟩ (fun r w H locs hp B => ?_)
      obtain ⟨rfl, rfl⟩ := hp
      have B := bd_to (ws' := [(ou, .inl (k 2, 1, .inr (.inl (vp_updL (fun _ => 0) 0 60)))), (mo, .inr (10, fvM V1_3))]) rfl B
      refine lv_iload hx hb dL_law_1064 (lv_at hl 1 rfl) ?_
      refine lv_icmp_eq (tgt := 1071) hx hb dL_law_1066 (by decide) (fun _ => ?_) (fun c9 => absurd (by decide) c9)
      refine lv_iload hx hb dL_law_1071 (lv_at hl 1 rfl) ?_
      refine lv_if_ne (tgt := 1088) hx hb dL_law_1073 (by decide) (fun c9 => absurd c9 (by decide)) (fun _ => ?_)
      refine lv_aload_n hx hb dL_law_1076 rfl (lv_at hl 3 rfl) ?_
      refine lv_iconst (v := 0) hx hb dL_law_1077 (by decide) ?_
      refine x_lald (v := 60) B 0 rfl (vpc (by decide)) dL_law_1078 (by rfl) ?_
      refine lv_iload hx hb dL_law_1079 (lv_at hl 0 rfl) ?_
      refine lv_i2l (v := 60) hx hb dL_law_1081 (by decide) ?_
      refine x_lcmp (z := 0) B (by decide) dL_law_1082 ?_
      refine lv_if_eq (tgt := 1088) hx hb dL_law_1083 (by decide) (fun _ => ?_) (fun c9 => absurd (by decide) c9)
      refine lv_goto (tgt := 2809) hx hb dL_law_1088 (by decide) ?_
      exact law_end hX hbl hr B (lv_sub hl [6, 2] rfl) (Nat.le_of_ble_eq_true rfl) (Nat.le_of_ble_eq_true rfl)
    · skip
      have B := bd_to (ws' := [(ou, .inl (k 2, 1, .inr (.inl (vp_updL (fun _ => 0) 0 60)))), (mo, .inr (10, fvM V1_6))]) rfl B
      refine lv_istore (lv' := [(6, .int 0), (5, .int 0), (4, .int 0), (3, .ref ou), (2, .ref mo), (1, .ref gx), (0, .ref b)]) hx hb dL_law_1058 hl (by decide) rfl (fun ls hl => ?_)
      refine lv_aload_n hx hb dL_law_1060 rfl (lv_at hl 4 rfl) ?_
      refine x_callV (rest := []) (wr := [(ou, .inl (k 2, 1, .inr (.inl (vp_updL (fun _ => 0) 0 60))))]) (m_thrown l dC dI k mo V1_6 1 z_8) B mV_X12_thrown mw_2144 hl [1] [0] rfl rfl ⟨by decide, by decide⟩ (by decide) (q0 := 0) rfl rfl rfl ⟨Nat.le_of_ble_eq_true rfl, Nat.le_of_ble_eq_true rfl⟩ (Nat.le_of_ble_eq_true rfl) rfl dL_law_1061 ⟨Nat.le_of_ble_eq_true rfl, Nat.le_of_ble_eq_true rfl⟩ (fun r w H locs hp B => ?_)
      obtain ⟨rfl, rfl⟩ := hp
      have B := bd_to (ws' := [(ou, .inl (k 2, 1, .inr (.inl (vp_updL (fun _ => 0) 0 60)))), (mo, .inr (10, fvM V1_6))]) rfl B
      refine lv_iload hx hb dL_law_1064 (lv_at hl 1 rfl) ?_
      refine lv_icmp_eq (tgt := 1071) hx hb dL_law_1066 (by decide) (fun c9 => absurd c9 (by decide)) (fun _ => ?_)
      refine lv_iconst (v := 0) hx hb dL_law_1069 (by decide) ?_
      exfalso; omega
  · skip
    have B := bd_to (ws' := [(mo, .inr (10, fvM V))]) rfl B
    refine lv_istore (lv' := [(5, .int 1), (4, .int 0), (3, .ref ou), (2, .ref mo), (1, .ref gx), (0, .ref b)]) hx hb dL_law_1040 hl (by decide) rfl (fun ls hl => ?_)
    refine lv_aload_n hx hb dL_law_1042 rfl (lv_at hl 3 rfl) ?_
    refine lv_aload_n hx hb dL_law_1043 rfl (lv_at hl 5 rfl) ?_
    refine lv_iload hx hb dL_law_1044 (lv_at hl 1 rfl) ?_
    refine lv_iconst (v := 1) hx hb dL_law_1046 (by decide) ?_
    refine lv_iadd hx hb dL_law_1047 ?_
    refine lv_seti (y := 1) (by decide) ?_
    refine va_sld hx hb hX hbl (Nat.not_le.mpr hbl) B.2.2.2.2.2 (vpc (by decide)) dL_law_1048 ?_
    refine lv_seti (y := xs 1) rfl ?_
    refine lv_aload_n hx hb dL_law_1049 rfl (lv_at hl 5 rfl) ?_
    refine lv_iload hx hb dL_law_1050 (lv_at hl 1 rfl) ?_
    refine lv_iconst (v := 2) hx hb dL_law_1052 (by decide) ?_
    refine lv_iadd hx hb dL_law_1053 ?_
    refine lv_seti (y := 2) (by decide) ?_
    refine va_sld hx hb hX hbl (Nat.not_le.mpr hbl) B.2.2.2.2.2 (vpc (by decide)) dL_law_1054 ?_
    refine lv_seti (y := xs 2) rfl ?_
    refine x_callV (rest := []) (wr := []) (m_paper l dC dI k mo V (xs 1) (xs 2) h24) B mV_X12_paper mw_2239 hl [0] [] rfl rfl ⟨by decide, by decide⟩ (by decide) (q0 := 0) rfl rfl rfl ⟨Nat.le_of_ble_eq_true rfl, Nat.le_of_ble_eq_true rfl⟩ (Nat.le_of_ble_eq_true rfl) rfl dL_law_1055 ⟨Nat.le_of_ble_eq_true rfl, Nat.le_of_ble_eq_true rfl⟩ (fun r w H locs hp B => ?_)
    rcases hp with ⟨V1_9, z_10, z_11, rfl, rfl⟩ | ⟨V1_12, z_13, z_14, rfl, rfl⟩
    · skip
      have B := bd_to (ws' := [(mo, .inr (10, fvM V1_9))]) rfl B
      refine lv_istore (lv' := [(6, .int 60), (5, .int 1), (4, .int 0), (3, .ref ou), (2, .ref mo), (1, .ref gx), (0, .ref b)]) hx hb dL_law_1058 hl (by decide) rfl (fun ls hl => ?_)
      refine lv_aload_n hx hb dL_law_1060 rfl (lv_at hl 4 rfl) ?_
      refine x_callV (rest := []) (wr := []) (m_thrown l dC dI k mo V1_9 0 z_11) B mV_X12_thrown mw_2144 hl [0] [] rfl rfl ⟨by decide, by decide⟩ (by decide) (q0 := 0) rfl rfl rfl ⟨Nat.le_of_ble_eq_true rfl, Nat.le_of_ble_eq_true rfl⟩ (Nat.le_of_ble_eq_true rfl) rfl dL_law_1061 ⟨Nat.le_of_ble_eq_true rfl, Nat.le_of_ble_eq_true rfl⟩ (fun r w H locs hp B => ?_)
      obtain ⟨rfl, rfl⟩ := hp
      have B := bd_to (ws' := [(mo, .inr (10, fvM V1_9))]) rfl B
      refine lv_iload hx hb dL_law_1064 (lv_at hl 1 rfl) ?_
      refine lv_icmp_eq (tgt := 1071) hx hb dL_law_1066 (by decide) (fun c9 => absurd c9 (by decide)) (fun _ => ?_)
      refine lv_iconst (v := 0) hx hb dL_law_1069 (by decide) ?_
      exfalso; omega
    · skip
      have B := bd_to (ws' := [(mo, .inr (10, fvM V1_12))]) rfl B
      refine lv_istore (lv' := [(6, .int 0), (5, .int 1), (4, .int 0), (3, .ref ou), (2, .ref mo), (1, .ref gx), (0, .ref b)]) hx hb dL_law_1058 hl (by decide) rfl (fun ls hl => ?_)
      refine lv_aload_n hx hb dL_law_1060 rfl (lv_at hl 4 rfl) ?_
      refine x_callV (rest := []) (wr := []) (m_thrown l dC dI k mo V1_12 1 z_14) B mV_X12_thrown mw_2144 hl [0] [] rfl rfl ⟨by decide, by decide⟩ (by decide) (q0 := 0) rfl rfl rfl ⟨Nat.le_of_ble_eq_true rfl, Nat.le_of_ble_eq_true rfl⟩ (Nat.le_of_ble_eq_true rfl) rfl dL_law_1061 ⟨Nat.le_of_ble_eq_true rfl, Nat.le_of_ble_eq_true rfl⟩ (fun r w H locs hp B => ?_)
      obtain ⟨rfl, rfl⟩ := hp
      have B := bd_to (ws' := [(mo, .inr (10, fvM V1_12))]) rfl B
      refine lv_iload hx hb dL_law_1064 (lv_at hl 1 rfl) ?_
      refine lv_icmp_eq (tgt := 1071) hx hb dL_law_1066 (by decide) (fun _ => ?_) (fun c9 => absurd (by decide) c9)
      refine lv_iload hx hb dL_law_1071 (lv_at hl 1 rfl) ?_
      refine lv_if_ne (tgt := 1088) hx hb dL_law_1073 (by decide) (fun _ => ?_) (fun c9 => absurd c9 (by decide))
      refine lv_goto (tgt := 2809) hx hb dL_law_1088 (by decide) ?_
      exact law_end hX hbl hr B (lv_sub hl [6, 2] rfl) (Nat.le_of_ble_eq_true rfl) (Nat.le_of_ble_eq_true rfl)

theorem mw_1253 : (Jvm.Cond.methodLink "GalleyforgeLaw" (186 : Nat) ({ cls := "GalleyforgeLaw", name := "key", desc := "(LGalleyforge;II[J)I" } : Jvm.MethodName)) ∈ gt := gt_at 1388 (by decide +kernel) (by decide +kernel)
theorem mw_1254 : (Jvm.Cond.static ({ cls := "GalleyforgeLaw", name := "key", desc := "(LGalleyforge;II[J)I" } : Jvm.MethodName)) ∈ gt := gt_at 1389 (by decide +kernel) (by decide +kernel)
theorem mw_1255 : (Jvm.Cond.codeWith ({ cls := "GalleyforgeLaw", name := "key", desc := "(LGalleyforge;II[J)I" } : Jvm.MethodName) method_15_code (5 : Nat) (Option.some Jvm.ClassFile.FieldType.int) [((0 : Nat), (10 : Nat), (13 : Nat), (13 : Nat)), ((0 : Nat), (10 : Nat), (17 : Nat), (21 : Nat))]) ∈ gt := gt_at 1390 (by decide +kernel) (by decide +kernel)
theorem mw_2243 : (Jvm.Cond.methodLink "GalleyforgeLaw" (188 : Nat) ({ cls := "GalleyforgeModel", name := "key", desc := "(II)I" } : Jvm.MethodName)) ∈ gt := gt_at 2378 (by decide +kernel) (by decide +kernel)
theorem mw_2244 : (Jvm.Cond.instanceMethod ({ cls := "GalleyforgeModel", name := "key", desc := "(II)I" } : Jvm.MethodName)) ∈ gt := gt_at 2379 (by decide +kernel) (by decide +kernel)
theorem mw_2245 : (Jvm.Cond.selects "GalleyforgeModel" ({ cls := "GalleyforgeModel", name := "key", desc := "(II)I" } : Jvm.MethodName) ({ cls := "GalleyforgeModel", name := "key", desc := "(II)I" } : Jvm.MethodName)) ∈ gt := gt_at 2380 (by decide +kernel) (by decide +kernel)
theorem mw_2246 : (Jvm.Cond.code ({ cls := "GalleyforgeModel", name := "key", desc := "(II)I" } : Jvm.MethodName) prog_14_method_26_code (4 : Nat) (Option.some Jvm.ClassFile.FieldType.int)) ∈ gt := gt_at 2381 (by decide +kernel) (by decide +kernel)
theorem mV_X12_key : mV yX12_key cX12_key 4 (some .int) 2 := ⟨⟨mw_2246, mw_13, by decide, by decide, by decide +kernel⟩, mw_2244, mw_2245⟩
theorem mW_L_key : mW yL_key cL_key 5 (some .int) [((0 : Nat), (10 : Nat), (13 : Nat), (13 : Nat)), ((0 : Nat), (10 : Nat), (17 : Nat), (21 : Nat))] 4 := ⟨⟨mw_1255, mw_0, by decide, by decide, by decide +kernel⟩, mw_1254⟩
theorem dL_law_1091 : decode cL_law 1091 = .ok (.aload_n 1, 1) := by decide +kernel
theorem dL_law_1092 : decode cL_law 1092 = .ok (.aload_n 0, 1) := by decide +kernel
theorem dL_law_1093 : decode cL_law 1093 = .ok (.iload 4, 2) := by decide +kernel
theorem dL_law_1095 : decode cL_law 1095 = .ok (.iconst 1, 1) := by decide +kernel
theorem dL_law_1096 : decode cL_law 1096 = .ok (.iadd, 1) := by decide +kernel
theorem dL_law_1097 : decode cL_law 1097 = .ok (.iaload, 1) := by decide +kernel
theorem dL_law_1098 : decode cL_law 1098 = .ok (.aload_n 0, 1) := by decide +kernel
theorem dL_law_1099 : decode cL_law 1099 = .ok (.iload 4, 2) := by decide +kernel
theorem dL_law_1101 : decode cL_law 1101 = .ok (.iconst 2, 1) := by decide +kernel
theorem dL_law_1102 : decode cL_law 1102 = .ok (.iadd, 1) := by decide +kernel
theorem dL_law_1103 : decode cL_law 1103 = .ok (.iaload, 1) := by decide +kernel
theorem dL_law_1104 : decode cL_law 1104 = .ok (.aload_n 3, 1) := by decide +kernel
theorem dL_law_1105 : decode cL_law 1105 = .ok (.invokestatic 186, 3) := by decide +kernel
theorem dL_law_1108 : decode cL_law 1108 = .ok (.istore 5, 2) := by decide +kernel
theorem dL_law_1110 : decode cL_law 1110 = .ok (.aload_n 2, 1) := by decide +kernel
theorem dL_law_1111 : decode cL_law 1111 = .ok (.aload_n 0, 1) := by decide +kernel
theorem dL_law_1112 : decode cL_law 1112 = .ok (.iload 4, 2) := by decide +kernel
theorem dL_law_1114 : decode cL_law 1114 = .ok (.iconst 1, 1) := by decide +kernel
theorem dL_law_1115 : decode cL_law 1115 = .ok (.iadd, 1) := by decide +kernel
theorem dL_law_1116 : decode cL_law 1116 = .ok (.iaload, 1) := by decide +kernel
theorem dL_law_1117 : decode cL_law 1117 = .ok (.aload_n 0, 1) := by decide +kernel
theorem dL_law_1118 : decode cL_law 1118 = .ok (.iload 4, 2) := by decide +kernel
theorem dL_law_1120 : decode cL_law 1120 = .ok (.iconst 2, 1) := by decide +kernel
theorem dL_law_1121 : decode cL_law 1121 = .ok (.iadd, 1) := by decide +kernel
theorem dL_law_1122 : decode cL_law 1122 = .ok (.iaload, 1) := by decide +kernel
theorem dL_law_1123 : decode cL_law 1123 = .ok (.invokevirtual 188, 3) := by decide +kernel
theorem dL_law_1126 : decode cL_law 1126 = .ok (.istore 6, 2) := by decide +kernel
theorem dL_law_1128 : decode cL_law 1128 = .ok (.aload_n 2, 1) := by decide +kernel
theorem dL_law_1129 : decode cL_law 1129 = .ok (.invokevirtual 142, 3) := by decide +kernel
theorem dL_law_1132 : decode cL_law 1132 = .ok (.iload 5, 2) := by decide +kernel
theorem dL_law_1134 : decode cL_law 1134 = .ok (.if_icmp .eq 5, 3) := by decide +kernel
theorem dL_law_1137 : decode cL_law 1137 = .ok (.iconst 0, 1) := by decide +kernel
theorem dL_law_1139 : decode cL_law 1139 = .ok (.iload 5, 2) := by decide +kernel
theorem dL_law_1141 : decode cL_law 1141 = .ok (.ifCond .ne 15, 3) := by decide +kernel
theorem dL_law_1144 : decode cL_law 1144 = .ok (.aload_n 3, 1) := by decide +kernel
theorem dL_law_1145 : decode cL_law 1145 = .ok (.iconst 0, 1) := by decide +kernel
theorem dL_law_1146 : decode cL_law 1146 = .ok (.laload, 1) := by decide +kernel
theorem dL_law_1147 : decode cL_law 1147 = .ok (.iload 6, 2) := by decide +kernel
theorem dL_law_1149 : decode cL_law 1149 = .ok (.i2l, 1) := by decide +kernel
theorem dL_law_1150 : decode cL_law 1150 = .ok (.lcmp, 1) := by decide +kernel
theorem dL_law_1151 : decode cL_law 1151 = .ok (.ifCond .eq 5, 3) := by decide +kernel
theorem dL_law_1156 : decode cL_law 1156 = .ok (.goto 1653, 3) := by decide +kernel
set_option maxHeartbeats 4000000 in
set_option maxRecDepth 100000 in
theorem law_key (l : Launch) (hl0 : l.stackTraces = false) (dC : Nat → ClassId) (dI : Nat → Nat → Nat) (k : Nat → ClassId) {p : Program} {e : Env} {s : State} {m : MethodId} {below : List Frame} {meth : Method} {c : Code} {b : Nat} {xs : Nat → Int32} (hX : va_X b 7 xs s s.heap) (hbl : b < s.heap.size) (hr : meth.sig.returnType = ret) {H : Heap} {locs : List Loc} {ls : Array Slot} (gx : Nat) (T : Nat) (LA : Nat) (sp : Nat) (dr : Nat) (bl : Nat) (pt : Nat) (fk : Nat) (fh : Nat) (ky : Nat) (ou : Nat) (mo : Nat) (V : Nat → Value) (aKe : Nat) (h26 : V 26 = .ref aKe) (B : bd p s m #[Value.ref b] meth c cL_law 8 "GalleyforgeLaw" dC dI k (fun q => s.heap.size ≤ q) [(gx, .inr (9, [.ref T, .ref LA, .ref sp, .int 0, .ref dr])), (T, .inr (8, [.ref bl, .ref pt, .ref fk, .ref fh, .int 0, .ref ky, .int 60, .int 12])), (ky, .inl (k 0, 8, .inl (fun _ => 0))), (ou, .inl (k 2, 1, .inr (.inl (fun _ => 0)))), (mo, .inr (10, fvM V)), (aKe, .inl (k 0, 8, .inl (fun _ => 0)))] H locs) (hl : lv_has ls 8 [(4, .int 0), (3, .ref ou), (2, .ref mo), (1, .ref gx), (0, .ref b)]) : W p l e room_1 s m #[Value.ref b] below meth c H locs 157 183312 (lw_Z below #[Value.ref b] s) (F0 m 1091 ls []) := by
  have hx := B.1.1
  have hb := B.1.2.1
  refine lv_aload_n hx hb dL_law_1091 rfl (lv_at hl 3 rfl) ?_
  refine lv_aload_n hx hb dL_law_1092 rfl (lv_at hl 4 rfl) ?_
  refine lv_iload hx hb dL_law_1093 (lv_at hl 0 rfl) ?_
  refine lv_iconst (v := 1) hx hb dL_law_1095 (by decide) ?_
  refine lv_iadd hx hb dL_law_1096 ?_
  refine lv_seti (y := 1) (by decide) ?_
  refine va_sld hx hb hX hbl (Nat.not_le.mpr hbl) B.2.2.2.2.2 (vpc (by decide)) dL_law_1097 ?_
  refine lv_seti (y := xs 1) rfl ?_
  refine lv_aload_n hx hb dL_law_1098 rfl (lv_at hl 4 rfl) ?_
  refine lv_iload hx hb dL_law_1099 (lv_at hl 0 rfl) ?_
  refine lv_iconst (v := 2) hx hb dL_law_1101 (by decide) ?_
  refine lv_iadd hx hb dL_law_1102 ?_
  refine lv_seti (y := 2) (by decide) ?_
  refine va_sld hx hb hX hbl (Nat.not_le.mpr hbl) B.2.2.2.2.2 (vpc (by decide)) dL_law_1103 ?_
  refine lv_seti (y := xs 2) rfl ?_
  refine lv_aload_n hx hb dL_law_1104 rfl (lv_at hl 1 rfl) ?_
  refine x_callW (rest := []) (wr := [(mo, .inr (10, fvM V)), (aKe, .inl (k 0, 8, .inl (fun _ => 0)))]) (w_key l dC dI k hl0 gx T LA sp dr bl pt fk fh ky (xs 1) (xs 2) ou) B mW_L_key mw_1253 hl [0, 1, 2, 3] [4, 5] rfl rfl ⟨by decide, by decide⟩ (by decide) ⟨Nat.le_of_ble_eq_true rfl, Nat.le_of_ble_eq_true rfl⟩ (Nat.le_of_ble_eq_true rfl) rfl dL_law_1105 ⟨Nat.le_of_ble_eq_true rfl, Nat.le_of_ble_eq_true rfl⟩ (fun r w H locs hp B => ?_)
  rcases hp with ⟨z_1, z_2, rfl, rfl⟩ | ⟨z_3, rfl, rfl⟩ | ⟨z_4, z_5, rfl, rfl⟩
  · skip
    have B := bd_to (ws' := [(mo, .inr (10, fvM V)), (aKe, .inl (k 0, 8, .inl (fun _ => 0))), (ou, .inl (k 2, 1, .inr (.inl (vp_updL (fun _ => 0) 0 0))))]) rfl B
    refine lv_istore (lv' := [(5, .int 0), (4, .int 0), (3, .ref ou), (2, .ref mo), (1, .ref gx), (0, .ref b)]) hx hb dL_law_1108 hl (by decide) rfl (fun ls hl => ?_)
    refine lv_aload_n hx hb dL_law_1110 rfl (lv_at hl 3 rfl) ?_
    refine lv_aload_n hx hb dL_law_1111 rfl (lv_at hl 5 rfl) ?_
    refine lv_iload hx hb dL_law_1112 (lv_at hl 1 rfl) ?_
    refine lv_iconst (v := 1) hx hb dL_law_1114 (by decide) ?_
    refine lv_iadd hx hb dL_law_1115 ?_
    refine lv_seti (y := 1) (by decide) ?_
    refine va_sld hx hb hX hbl (Nat.not_le.mpr hbl) B.2.2.2.2.2 (vpc (by decide)) dL_law_1116 ?_
    refine lv_seti (y := xs 1) rfl ?_
    refine lv_aload_n hx hb dL_law_1117 rfl (lv_at hl 5 rfl) ?_
    refine lv_iload hx hb dL_law_1118 (lv_at hl 1 rfl) ?_
    refine lv_iconst (v := 2) hx hb dL_law_1120 (by decide) ?_
    refine lv_iadd hx hb dL_law_1121 ?_
    refine lv_seti (y := 2) (by decide) ?_
    refine va_sld hx hb hX hbl (Nat.not_le.mpr hbl) B.2.2.2.2.2 (vpc (by decide)) dL_law_1122 ?_
    refine lv_seti (y := xs 2) rfl ?_
    refine x_callV (rest := []) (wr := [(ou, .inl (k 2, 1, .inr (.inl (vp_updL (fun _ => 0) 0 0))))]) (m_key l dC dI k mo V aKe (xs 1) (xs 2) h26) B mV_X12_key mw_2243 hl [0, 1] [2] rfl rfl ⟨by decide, by decide⟩ (by decide) (q0 := 0) rfl rfl rfl ⟨Nat.le_of_ble_eq_true rfl, Nat.le_of_ble_eq_true rfl⟩ (Nat.le_of_ble_eq_true rfl) rfl dL_law_1123 ⟨Nat.le_of_ble_eq_true rfl, Nat.le_of_ble_eq_true rfl⟩ (fun r w H locs hp B => ?_)
    rcases hp with ⟨V1_6, z_7, z_8, z_9, rfl, rfl⟩ | ⟨V1_10, z_11, z_12, rfl, rfl⟩ | ⟨V1_13, z_14, z_15, z_16, rfl, rfl⟩
    · skip
      have B := bd_to (ws' := [(ou, .inl (k 2, 1, .inr (.inl (vp_updL (fun _ => 0) 0 0)))), (mo, .inr (10, fvM V1_6))]) rfl B
      refine lv_istore (lv' := [(6, .int 0), (5, .int 0), (4, .int 0), (3, .ref ou), (2, .ref mo), (1, .ref gx), (0, .ref b)]) hx hb dL_law_1126 hl (by decide) rfl (fun ls hl => ?_)
      refine lv_aload_n hx hb dL_law_1128 rfl (lv_at hl 4 rfl) ?_
      refine x_callV (rest := []) (wr := [(ou, .inl (k 2, 1, .inr (.inl (vp_updL (fun _ => 0) 0 0))))]) (m_thrown l dC dI k mo V1_6 0 z_9) B mV_X12_thrown mw_2144 hl [1] [0] rfl rfl ⟨by decide, by decide⟩ (by decide) (q0 := 0) rfl rfl rfl ⟨Nat.le_of_ble_eq_true rfl, Nat.le_of_ble_eq_true rfl⟩ (Nat.le_of_ble_eq_true rfl) rfl dL_law_1129 ⟨Nat.le_of_ble_eq_true rfl, Nat.le_of_ble_eq_true rfl⟩ (fun r w H locs hp B => ?_)
      obtain ⟨rfl, rfl⟩ := hp
      have B := bd_to (ws' := [(ou, .inl (k 2, 1, .inr (.inl (vp_updL (fun _ => 0) 0 0)))), (mo, .inr (10, fvM V1_6))]) rfl B
      refine lv_iload hx hb dL_law_1132 (lv_at hl 1 rfl) ?_
      refine lv_icmp_eq (tgt := 1139) hx hb dL_law_1134 (by decide) (fun _ => ?_) (fun c9 => absurd (by decide) c9)
      refine lv_iload hx hb dL_law_1139 (lv_at hl 1 rfl) ?_
      refine lv_if_ne (tgt := 1156) hx hb dL_law_1141 (by decide) (fun c9 => absurd c9 (by decide)) (fun _ => ?_)
      refine lv_aload_n hx hb dL_law_1144 rfl (lv_at hl 3 rfl) ?_
      refine lv_iconst (v := 0) hx hb dL_law_1145 (by decide) ?_
      refine x_lald (v := 0) B 0 rfl (vpc (by decide)) dL_law_1146 (by rfl) ?_
      refine lv_iload hx hb dL_law_1147 (lv_at hl 0 rfl) ?_
      refine lv_i2l (v := 0) hx hb dL_law_1149 (by decide) ?_
      refine x_lcmp (z := 0) B (by decide) dL_law_1150 ?_
      refine lv_if_eq (tgt := 1156) hx hb dL_law_1151 (by decide) (fun _ => ?_) (fun c9 => absurd (by decide) c9)
      refine lv_goto (tgt := 2809) hx hb dL_law_1156 (by decide) ?_
      exact law_end hX hbl hr B (lv_sub hl [6, 2] rfl) (Nat.le_of_ble_eq_true rfl) (Nat.le_of_ble_eq_true rfl)
    · skip
      exfalso; first | omega | exact absurd z_11 (by decide) | exact absurd z_12 (by decide)
    · skip
      exfalso; first | omega | exact absurd z_14 (by decide) | exact absurd z_15 (by decide) | exact absurd z_16 (by decide)
  · skip
    have B := bd_to (ws' := [(mo, .inr (10, fvM V)), (aKe, .inl (k 0, 8, .inl (fun _ => 0)))]) rfl B
    refine lv_istore (lv' := [(5, .int 1), (4, .int 0), (3, .ref ou), (2, .ref mo), (1, .ref gx), (0, .ref b)]) hx hb dL_law_1108 hl (by decide) rfl (fun ls hl => ?_)
    refine lv_aload_n hx hb dL_law_1110 rfl (lv_at hl 3 rfl) ?_
    refine lv_aload_n hx hb dL_law_1111 rfl (lv_at hl 5 rfl) ?_
    refine lv_iload hx hb dL_law_1112 (lv_at hl 1 rfl) ?_
    refine lv_iconst (v := 1) hx hb dL_law_1114 (by decide) ?_
    refine lv_iadd hx hb dL_law_1115 ?_
    refine lv_seti (y := 1) (by decide) ?_
    refine va_sld hx hb hX hbl (Nat.not_le.mpr hbl) B.2.2.2.2.2 (vpc (by decide)) dL_law_1116 ?_
    refine lv_seti (y := xs 1) rfl ?_
    refine lv_aload_n hx hb dL_law_1117 rfl (lv_at hl 5 rfl) ?_
    refine lv_iload hx hb dL_law_1118 (lv_at hl 1 rfl) ?_
    refine lv_iconst (v := 2) hx hb dL_law_1120 (by decide) ?_
    refine lv_iadd hx hb dL_law_1121 ?_
    refine lv_seti (y := 2) (by decide) ?_
    refine va_sld hx hb hX hbl (Nat.not_le.mpr hbl) B.2.2.2.2.2 (vpc (by decide)) dL_law_1122 ?_
    refine lv_seti (y := xs 2) rfl ?_
    refine x_callV (rest := []) (wr := []) (m_key l dC dI k mo V aKe (xs 1) (xs 2) h26) B mV_X12_key mw_2243 hl [0, 1] [] rfl rfl ⟨by decide, by decide⟩ (by decide) (q0 := 0) rfl rfl rfl ⟨Nat.le_of_ble_eq_true rfl, Nat.le_of_ble_eq_true rfl⟩ (Nat.le_of_ble_eq_true rfl) rfl dL_law_1123 ⟨Nat.le_of_ble_eq_true rfl, Nat.le_of_ble_eq_true rfl⟩ (fun r w H locs hp B => ?_)
    rcases hp with ⟨V1_17, z_18, z_19, z_20, rfl, rfl⟩ | ⟨V1_21, z_22, z_23, rfl, rfl⟩ | ⟨V1_24, z_25, z_26, z_27, rfl, rfl⟩
    · skip
      have B := bd_to (ws' := [(mo, .inr (10, fvM V1_17))]) rfl B
      refine lv_istore (lv' := [(6, .int 0), (5, .int 1), (4, .int 0), (3, .ref ou), (2, .ref mo), (1, .ref gx), (0, .ref b)]) hx hb dL_law_1126 hl (by decide) rfl (fun ls hl => ?_)
      refine lv_aload_n hx hb dL_law_1128 rfl (lv_at hl 4 rfl) ?_
      refine x_callV (rest := []) (wr := []) (m_thrown l dC dI k mo V1_17 0 z_20) B mV_X12_thrown mw_2144 hl [0] [] rfl rfl ⟨by decide, by decide⟩ (by decide) (q0 := 0) rfl rfl rfl ⟨Nat.le_of_ble_eq_true rfl, Nat.le_of_ble_eq_true rfl⟩ (Nat.le_of_ble_eq_true rfl) rfl dL_law_1129 ⟨Nat.le_of_ble_eq_true rfl, Nat.le_of_ble_eq_true rfl⟩ (fun r w H locs hp B => ?_)
      obtain ⟨rfl, rfl⟩ := hp
      have B := bd_to (ws' := [(mo, .inr (10, fvM V1_17))]) rfl B
      refine lv_iload hx hb dL_law_1132 (lv_at hl 1 rfl) ?_
      refine lv_icmp_eq (tgt := 1139) hx hb dL_law_1134 (by decide) (fun c9 => absurd c9 (by decide)) (fun _ => ?_)
      refine lv_iconst (v := 0) hx hb dL_law_1137 (by decide) ?_
      exfalso; omega
    · skip
      have B := bd_to (ws' := [(mo, .inr (10, fvM V1_21))]) rfl B
      refine lv_istore (lv' := [(6, .int 0), (5, .int 1), (4, .int 0), (3, .ref ou), (2, .ref mo), (1, .ref gx), (0, .ref b)]) hx hb dL_law_1126 hl (by decide) rfl (fun ls hl => ?_)
      refine lv_aload_n hx hb dL_law_1128 rfl (lv_at hl 4 rfl) ?_
      refine x_callV (rest := []) (wr := []) (m_thrown l dC dI k mo V1_21 1 z_23) B mV_X12_thrown mw_2144 hl [0] [] rfl rfl ⟨by decide, by decide⟩ (by decide) (q0 := 0) rfl rfl rfl ⟨Nat.le_of_ble_eq_true rfl, Nat.le_of_ble_eq_true rfl⟩ (Nat.le_of_ble_eq_true rfl) rfl dL_law_1129 ⟨Nat.le_of_ble_eq_true rfl, Nat.le_of_ble_eq_true rfl⟩ (fun r w H locs hp B => ?_)
      obtain ⟨rfl, rfl⟩ := hp
      have B := bd_to (ws' := [(mo, .inr (10, fvM V1_21))]) rfl B
      refine lv_iload hx hb dL_law_1132 (lv_at hl 1 rfl) ?_
      refine lv_icmp_eq (tgt := 1139) hx hb dL_law_1134 (by decide) (fun _ => ?_) (fun c9 => absurd (by decide) c9)
      refine lv_iload hx hb dL_law_1139 (lv_at hl 1 rfl) ?_
      refine lv_if_ne (tgt := 1156) hx hb dL_law_1141 (by decide) (fun _ => ?_) (fun c9 => absurd c9 (by decide))
      refine lv_goto (tgt := 2809) hx hb dL_law_1156 (by decide) ?_
      exact law_end hX hbl hr B (lv_sub hl [6, 2] rfl) (Nat.le_of_ble_eq_true rfl) (Nat.le_of_ble_eq_true rfl)
    · skip
      have B := bd_to (ws' := [(mo, .inr (10, fvM V1_24))]) rfl B
      refine lv_istore (lv' := [(6, .int 0), (5, .int 1), (4, .int 0), (3, .ref ou), (2, .ref mo), (1, .ref gx), (0, .ref b)]) hx hb dL_law_1126 hl (by decide) rfl (fun ls hl => ?_)
      refine lv_aload_n hx hb dL_law_1128 rfl (lv_at hl 4 rfl) ?_
      refine x_callV (rest := []) (wr := []) (m_thrown l dC dI k mo V1_24 2 z_27) B mV_X12_thrown mw_2144 hl [0] [] rfl rfl ⟨by decide, by decide⟩ (by decide) (q0 := 0) rfl rfl rfl ⟨Nat.le_of_ble_eq_true rfl, Nat.le_of_ble_eq_true rfl⟩ (Nat.le_of_ble_eq_true rfl) rfl dL_law_1129 ⟨Nat.le_of_ble_eq_true rfl, Nat.le_of_ble_eq_true rfl⟩ (fun r w H locs hp B => ?_)
      obtain ⟨rfl, rfl⟩ := hp
      have B := bd_to (ws' := [(mo, .inr (10, fvM V1_24))]) rfl B
      refine lv_iload hx hb dL_law_1132 (lv_at hl 1 rfl) ?_
      refine lv_icmp_eq (tgt := 1139) hx hb dL_law_1134 (by decide) (fun c9 => absurd c9 (by decide)) (fun _ => ?_)
      refine lv_iconst (v := 0) hx hb dL_law_1137 (by decide) ?_
      exfalso; omega
  · skip
    have B := bd_to (ws' := [(mo, .inr (10, fvM V)), (aKe, .inl (k 0, 8, .inl (fun _ => 0)))]) rfl B
    refine lv_istore (lv' := [(5, .int 2), (4, .int 0), (3, .ref ou), (2, .ref mo), (1, .ref gx), (0, .ref b)]) hx hb dL_law_1108 hl (by decide) rfl (fun ls hl => ?_)
    refine lv_aload_n hx hb dL_law_1110 rfl (lv_at hl 3 rfl) ?_
    refine lv_aload_n hx hb dL_law_1111 rfl (lv_at hl 5 rfl) ?_
    refine lv_iload hx hb dL_law_1112 (lv_at hl 1 rfl) ?_
    refine lv_iconst (v := 1) hx hb dL_law_1114 (by decide) ?_
    refine lv_iadd hx hb dL_law_1115 ?_
    refine lv_seti (y := 1) (by decide) ?_
    refine va_sld hx hb hX hbl (Nat.not_le.mpr hbl) B.2.2.2.2.2 (vpc (by decide)) dL_law_1116 ?_
    refine lv_seti (y := xs 1) rfl ?_
    refine lv_aload_n hx hb dL_law_1117 rfl (lv_at hl 5 rfl) ?_
    refine lv_iload hx hb dL_law_1118 (lv_at hl 1 rfl) ?_
    refine lv_iconst (v := 2) hx hb dL_law_1120 (by decide) ?_
    refine lv_iadd hx hb dL_law_1121 ?_
    refine lv_seti (y := 2) (by decide) ?_
    refine va_sld hx hb hX hbl (Nat.not_le.mpr hbl) B.2.2.2.2.2 (vpc (by decide)) dL_law_1122 ?_
    refine lv_seti (y := xs 2) rfl ?_
    refine x_callV (rest := []) (wr := []) (m_key l dC dI k mo V aKe (xs 1) (xs 2) h26) B mV_X12_key mw_2243 hl [0, 1] [] rfl rfl ⟨by decide, by decide⟩ (by decide) (q0 := 0) rfl rfl rfl ⟨Nat.le_of_ble_eq_true rfl, Nat.le_of_ble_eq_true rfl⟩ (Nat.le_of_ble_eq_true rfl) rfl dL_law_1123 ⟨Nat.le_of_ble_eq_true rfl, Nat.le_of_ble_eq_true rfl⟩ (fun r w H locs hp B => ?_)
    rcases hp with ⟨V1_28, z_29, z_30, z_31, rfl, rfl⟩ | ⟨V1_32, z_33, z_34, rfl, rfl⟩ | ⟨V1_35, z_36, z_37, z_38, rfl, rfl⟩
    · skip
      have B := bd_to (ws' := [(mo, .inr (10, fvM V1_28))]) rfl B
      refine lv_istore (lv' := [(6, .int 0), (5, .int 2), (4, .int 0), (3, .ref ou), (2, .ref mo), (1, .ref gx), (0, .ref b)]) hx hb dL_law_1126 hl (by decide) rfl (fun ls hl => ?_)
      refine lv_aload_n hx hb dL_law_1128 rfl (lv_at hl 4 rfl) ?_
      refine x_callV (rest := []) (wr := []) (m_thrown l dC dI k mo V1_28 0 z_31) B mV_X12_thrown mw_2144 hl [0] [] rfl rfl ⟨by decide, by decide⟩ (by decide) (q0 := 0) rfl rfl rfl ⟨Nat.le_of_ble_eq_true rfl, Nat.le_of_ble_eq_true rfl⟩ (Nat.le_of_ble_eq_true rfl) rfl dL_law_1129 ⟨Nat.le_of_ble_eq_true rfl, Nat.le_of_ble_eq_true rfl⟩ (fun r w H locs hp B => ?_)
      obtain ⟨rfl, rfl⟩ := hp
      have B := bd_to (ws' := [(mo, .inr (10, fvM V1_28))]) rfl B
      refine lv_iload hx hb dL_law_1132 (lv_at hl 1 rfl) ?_
      refine lv_icmp_eq (tgt := 1139) hx hb dL_law_1134 (by decide) (fun c9 => absurd c9 (by decide)) (fun _ => ?_)
      refine lv_iconst (v := 0) hx hb dL_law_1137 (by decide) ?_
      exfalso; omega
    · skip
      exfalso; first | omega | exact absurd z_33 (by decide) | exact absurd z_34 (by decide)
    · skip
      have B := bd_to (ws' := [(mo, .inr (10, fvM V1_35))]) rfl B
      refine lv_istore (lv' := [(6, .int 0), (5, .int 2), (4, .int 0), (3, .ref ou), (2, .ref mo), (1, .ref gx), (0, .ref b)]) hx hb dL_law_1126 hl (by decide) rfl (fun ls hl => ?_)
      refine lv_aload_n hx hb dL_law_1128 rfl (lv_at hl 4 rfl) ?_
      refine x_callV (rest := []) (wr := []) (m_thrown l dC dI k mo V1_35 2 z_38) B mV_X12_thrown mw_2144 hl [0] [] rfl rfl ⟨by decide, by decide⟩ (by decide) (q0 := 0) rfl rfl rfl ⟨Nat.le_of_ble_eq_true rfl, Nat.le_of_ble_eq_true rfl⟩ (Nat.le_of_ble_eq_true rfl) rfl dL_law_1129 ⟨Nat.le_of_ble_eq_true rfl, Nat.le_of_ble_eq_true rfl⟩ (fun r w H locs hp B => ?_)
      obtain ⟨rfl, rfl⟩ := hp
      have B := bd_to (ws' := [(mo, .inr (10, fvM V1_35))]) rfl B
      refine lv_iload hx hb dL_law_1132 (lv_at hl 1 rfl) ?_
      refine lv_icmp_eq (tgt := 1139) hx hb dL_law_1134 (by decide) (fun _ => ?_) (fun c9 => absurd (by decide) c9)
      refine lv_iload hx hb dL_law_1139 (lv_at hl 1 rfl) ?_
      refine lv_if_ne (tgt := 1156) hx hb dL_law_1141 (by decide) (fun _ => ?_) (fun c9 => absurd c9 (by decide))
      refine lv_goto (tgt := 2809) hx hb dL_law_1156 (by decide) ?_
      exact law_end hX hbl hr B (lv_sub hl [6, 2] rfl) (Nat.le_of_ble_eq_true rfl) (Nat.le_of_ble_eq_true rfl)

theorem mw_495 : (Jvm.Cond.methodLink "GalleyforgeLaw" (189 : Nat) ({ cls := "Galleyforge", name := "blocks", desc := "()I" } : Jvm.MethodName)) ∈ gt := gt_at 630 (by decide +kernel) (by decide +kernel)
theorem mw_496 : (Jvm.Cond.instanceMethod ({ cls := "Galleyforge", name := "blocks", desc := "()I" } : Jvm.MethodName)) ∈ gt := gt_at 631 (by decide +kernel) (by decide +kernel)
theorem mw_497 : (Jvm.Cond.selects "Galleyforge" ({ cls := "Galleyforge", name := "blocks", desc := "()I" } : Jvm.MethodName) ({ cls := "Galleyforge", name := "blocks", desc := "()I" } : Jvm.MethodName)) ∈ gt := gt_at 632 (by decide +kernel) (by decide +kernel)
theorem mw_498 : (Jvm.Cond.code ({ cls := "Galleyforge", name := "blocks", desc := "()I" } : Jvm.MethodName) prog_1_method_16_code (1 : Nat) (Option.some Jvm.ClassFile.FieldType.int)) ∈ gt := gt_at 633 (by decide +kernel) (by decide +kernel)
theorem mw_2247 : (Jvm.Cond.methodLink "GalleyforgeLaw" (192 : Nat) ({ cls := "GalleyforgeModel", name := "blocks", desc := "()I" } : Jvm.MethodName)) ∈ gt := gt_at 2382 (by decide +kernel) (by decide +kernel)
theorem mw_2248 : (Jvm.Cond.instanceMethod ({ cls := "GalleyforgeModel", name := "blocks", desc := "()I" } : Jvm.MethodName)) ∈ gt := gt_at 2383 (by decide +kernel) (by decide +kernel)
theorem mw_2249 : (Jvm.Cond.selects "GalleyforgeModel" ({ cls := "GalleyforgeModel", name := "blocks", desc := "()I" } : Jvm.MethodName) ({ cls := "GalleyforgeModel", name := "blocks", desc := "()I" } : Jvm.MethodName)) ∈ gt := gt_at 2384 (by decide +kernel) (by decide +kernel)
theorem mw_2250 : (Jvm.Cond.code ({ cls := "GalleyforgeModel", name := "blocks", desc := "()I" } : Jvm.MethodName) prog_14_method_27_code (1 : Nat) (Option.some Jvm.ClassFile.FieldType.int)) ∈ gt := gt_at 2385 (by decide +kernel) (by decide +kernel)
theorem mV_X11_blocks : mV yX11_blocks cX11_blocks 1 (some .int) 0 := ⟨⟨mw_498, mw_1, by decide, by decide, by decide +kernel⟩, mw_496, mw_497⟩
theorem mV_X12_blocks : mV yX12_blocks cX12_blocks 1 (some .int) 0 := ⟨⟨mw_2250, mw_13, by decide, by decide, by decide +kernel⟩, mw_2248, mw_2249⟩
theorem dL_law_1159 : decode cL_law 1159 = .ok (.aload_n 1, 1) := by decide +kernel
theorem dL_law_1160 : decode cL_law 1160 = .ok (.invokevirtual 189, 3) := by decide +kernel
theorem dL_law_1163 : decode cL_law 1163 = .ok (.aload_n 2, 1) := by decide +kernel
theorem dL_law_1164 : decode cL_law 1164 = .ok (.invokevirtual 192, 3) := by decide +kernel
theorem dL_law_1167 : decode cL_law 1167 = .ok (.if_icmp .eq 1642, 3) := by decide +kernel
set_option maxHeartbeats 4000000 in
set_option maxRecDepth 100000 in
theorem law_blocks (l : Launch) (hl0 : l.stackTraces = false) (dC : Nat → ClassId) (dI : Nat → Nat → Nat) (k : Nat → ClassId) {p : Program} {e : Env} {s : State} {m : MethodId} {below : List Frame} {meth : Method} {c : Code} {b : Nat} {xs : Nat → Int32} (hX : va_X b 7 xs s s.heap) (hbl : b < s.heap.size) (hr : meth.sig.returnType = ret) {H : Heap} {locs : List Loc} {ls : Array Slot} (gx : Nat) (T : Nat) (LA : Nat) (sp : Nat) (dr : Nat) (bl : Nat) (pt : Nat) (fk : Nat) (fh : Nat) (ky : Nat) (mo : Nat) (V : Nat → Value) (ou : Nat) (h9 : V 9 = .int 0) (B : bd p s m #[Value.ref b] meth c cL_law 8 "GalleyforgeLaw" dC dI k (fun q => s.heap.size ≤ q) [(gx, .inr (9, [.ref T, .ref LA, .ref sp, .int 0, .ref dr])), (T, .inr (8, [.ref bl, .ref pt, .ref fk, .ref fh, .int 0, .ref ky, .int 60, .int 12])), (bl, .inr (11, [.int 0, .ref (dI 99 1), .int 0])), (ou, .inl (k 2, 1, .inr (.inl (fun _ => 0)))), (mo, .inr (10, fvM V))] H locs) (hl : lv_has ls 8 [(4, .int 0), (3, .ref ou), (2, .ref mo), (1, .ref gx), (0, .ref b)]) : W p l e room_1 s m #[Value.ref b] below meth c H locs 157 183312 (lw_Z below #[Value.ref b] s) (F0 m 1159 ls []) := by
  have hx := B.1.1
  have hb := B.1.2.1
  refine lv_aload_n hx hb dL_law_1159 rfl (lv_at hl 3 rfl) ?_
  refine x_callV (rest := []) (wr := [(ou, .inl (k 2, 1, .inr (.inl (fun _ => 0)))), (mo, .inr (10, fvM V))]) (c_blocks l dC dI k gx T LA sp dr bl pt fk fh ky) B mV_X11_blocks mw_495 hl [0, 1, 2] [3, 4] rfl rfl ⟨by decide, by decide⟩ (by decide) (q0 := 0) rfl rfl rfl ⟨Nat.le_of_ble_eq_true rfl, Nat.le_of_ble_eq_true rfl⟩ (Nat.le_of_ble_eq_true rfl) rfl dL_law_1160 ⟨Nat.le_of_ble_eq_true rfl, Nat.le_of_ble_eq_true rfl⟩ (fun r w H locs hp B => ?_)
  obtain ⟨rfl, rfl⟩ := hp
  have B := bd_to (ws' := [(ou, .inl (k 2, 1, .inr (.inl (fun _ => 0)))), (mo, .inr (10, fvM V))]) rfl B
  refine lv_aload_n hx hb dL_law_1163 rfl (lv_at hl 2 rfl) ?_
  refine x_callV (rest := [.int 0]) (wr := [(ou, .inl (k 2, 1, .inr (.inl (fun _ => 0))))]) (m_blocks l dC dI k mo V h9) B mV_X12_blocks mw_2247 hl [1] [0] rfl rfl ⟨by decide, by decide⟩ (by decide) (q0 := 0) rfl rfl rfl ⟨Nat.le_of_ble_eq_true rfl, Nat.le_of_ble_eq_true rfl⟩ (Nat.le_of_ble_eq_true rfl) rfl dL_law_1164 ⟨Nat.le_of_ble_eq_true rfl, Nat.le_of_ble_eq_true rfl⟩ (fun r w H locs hp B => ?_)
  obtain ⟨V1_1, rfl, rfl⟩ := hp
  have B := bd_to (ws' := [(ou, .inl (k 2, 1, .inr (.inl (fun _ => 0)))), (mo, .inr (10, fvM V1_1))]) rfl B
  refine lv_icmp_eq (tgt := 2809) hx hb dL_law_1167 (by decide) (fun _ => ?_) (fun c9 => absurd (by decide) c9)
  exact law_end hX hbl hr B (lv_sub hl [4, 0] rfl) (Nat.le_of_ble_eq_true rfl) (Nat.le_of_ble_eq_true rfl)

theorem mw_1265 : (Jvm.Cond.methodLink "GalleyforgeLaw" (193 : Nat) ({ cls := "GalleyforgeLaw", name := "words", desc := "(LGalleyforge;I[J)I" } : Jvm.MethodName)) ∈ gt := gt_at 1400 (by decide +kernel) (by decide +kernel)
theorem mw_1266 : (Jvm.Cond.static ({ cls := "GalleyforgeLaw", name := "words", desc := "(LGalleyforge;I[J)I" } : Jvm.MethodName)) ∈ gt := gt_at 1401 (by decide +kernel) (by decide +kernel)
theorem mw_1267 : (Jvm.Cond.codeWith ({ cls := "GalleyforgeLaw", name := "words", desc := "(LGalleyforge;I[J)I" } : Jvm.MethodName) method_16_code (4 : Nat) (Option.some Jvm.ClassFile.FieldType.int) [((0 : Nat), (9 : Nat), (12 : Nat), (13 : Nat))]) ∈ gt := gt_at 1402 (by decide +kernel) (by decide +kernel)
theorem mw_2251 : (Jvm.Cond.methodLink "GalleyforgeLaw" (195 : Nat) ({ cls := "GalleyforgeModel", name := "words", desc := "(I)I" } : Jvm.MethodName)) ∈ gt := gt_at 2386 (by decide +kernel) (by decide +kernel)
theorem mw_2252 : (Jvm.Cond.instanceMethod ({ cls := "GalleyforgeModel", name := "words", desc := "(I)I" } : Jvm.MethodName)) ∈ gt := gt_at 2387 (by decide +kernel) (by decide +kernel)
theorem mw_2253 : (Jvm.Cond.selects "GalleyforgeModel" ({ cls := "GalleyforgeModel", name := "words", desc := "(I)I" } : Jvm.MethodName) ({ cls := "GalleyforgeModel", name := "words", desc := "(I)I" } : Jvm.MethodName)) ∈ gt := gt_at 2388 (by decide +kernel) (by decide +kernel)
theorem mw_2254 : (Jvm.Cond.code ({ cls := "GalleyforgeModel", name := "words", desc := "(I)I" } : Jvm.MethodName) prog_14_method_28_code (2 : Nat) (Option.some Jvm.ClassFile.FieldType.int)) ∈ gt := gt_at 2389 (by decide +kernel) (by decide +kernel)
theorem mV_X12_words : mV yX12_words cX12_words 2 (some .int) 1 := ⟨⟨mw_2254, mw_13, by decide, by decide, by decide +kernel⟩, mw_2252, mw_2253⟩
theorem mW_L_words : mW yL_words cL_words 4 (some .int) [((0 : Nat), (9 : Nat), (12 : Nat), (13 : Nat))] 3 := ⟨⟨mw_1267, mw_0, by decide, by decide, by decide +kernel⟩, mw_1266⟩
theorem dL_law_1172 : decode cL_law 1172 = .ok (.aload_n 1, 1) := by decide +kernel
theorem dL_law_1173 : decode cL_law 1173 = .ok (.aload_n 0, 1) := by decide +kernel
theorem dL_law_1174 : decode cL_law 1174 = .ok (.iload 4, 2) := by decide +kernel
theorem dL_law_1176 : decode cL_law 1176 = .ok (.iconst 1, 1) := by decide +kernel
theorem dL_law_1177 : decode cL_law 1177 = .ok (.iadd, 1) := by decide +kernel
theorem dL_law_1178 : decode cL_law 1178 = .ok (.iaload, 1) := by decide +kernel
theorem dL_law_1179 : decode cL_law 1179 = .ok (.aload_n 3, 1) := by decide +kernel
theorem dL_law_1180 : decode cL_law 1180 = .ok (.invokestatic 193, 3) := by decide +kernel
theorem dL_law_1183 : decode cL_law 1183 = .ok (.istore 5, 2) := by decide +kernel
theorem dL_law_1185 : decode cL_law 1185 = .ok (.aload_n 2, 1) := by decide +kernel
theorem dL_law_1186 : decode cL_law 1186 = .ok (.aload_n 0, 1) := by decide +kernel
theorem dL_law_1187 : decode cL_law 1187 = .ok (.iload 4, 2) := by decide +kernel
theorem dL_law_1189 : decode cL_law 1189 = .ok (.iconst 1, 1) := by decide +kernel
theorem dL_law_1190 : decode cL_law 1190 = .ok (.iadd, 1) := by decide +kernel
theorem dL_law_1191 : decode cL_law 1191 = .ok (.iaload, 1) := by decide +kernel
theorem dL_law_1192 : decode cL_law 1192 = .ok (.invokevirtual 195, 3) := by decide +kernel
theorem dL_law_1195 : decode cL_law 1195 = .ok (.istore 6, 2) := by decide +kernel
theorem dL_law_1197 : decode cL_law 1197 = .ok (.aload_n 2, 1) := by decide +kernel
theorem dL_law_1198 : decode cL_law 1198 = .ok (.invokevirtual 142, 3) := by decide +kernel
theorem dL_law_1201 : decode cL_law 1201 = .ok (.iload 5, 2) := by decide +kernel
theorem dL_law_1203 : decode cL_law 1203 = .ok (.if_icmp .eq 5, 3) := by decide +kernel
theorem dL_law_1208 : decode cL_law 1208 = .ok (.iload 5, 2) := by decide +kernel
theorem dL_law_1210 : decode cL_law 1210 = .ok (.ifCond .ne 15, 3) := by decide +kernel
theorem dL_law_1225 : decode cL_law 1225 = .ok (.goto 1584, 3) := by decide +kernel
set_option maxHeartbeats 4000000 in
set_option maxRecDepth 100000 in
theorem law_words (l : Launch) (hl0 : l.stackTraces = false) (dC : Nat → ClassId) (dI : Nat → Nat → Nat) (k : Nat → ClassId) {p : Program} {e : Env} {s : State} {m : MethodId} {below : List Frame} {meth : Method} {c : Code} {b : Nat} {xs : Nat → Int32} (hX : va_X b 7 xs s s.heap) (hbl : b < s.heap.size) (hr : meth.sig.returnType = ret) {H : Heap} {locs : List Loc} {ls : Array Slot} (gx : Nat) (T : Nat) (LA : Nat) (sp : Nat) (dr : Nat) (bl : Nat) (pt : Nat) (fk : Nat) (fh : Nat) (ky : Nat) (ou : Nat) (mo : Nat) (V : Nat → Value) (h9 : V 9 = .int 0) (B : bd p s m #[Value.ref b] meth c cL_law 8 "GalleyforgeLaw" dC dI k (fun q => s.heap.size ≤ q) [(gx, .inr (9, [.ref T, .ref LA, .ref sp, .int 0, .ref dr])), (T, .inr (8, [.ref bl, .ref pt, .ref fk, .ref fh, .int 0, .ref ky, .int 60, .int 12])), (bl, .inr (11, [.int 0, .ref (dI 99 1), .int 0])), (ou, .inl (k 2, 1, .inr (.inl (fun _ => 0)))), (mo, .inr (10, fvM V))] H locs) (hl : lv_has ls 8 [(4, .int 0), (3, .ref ou), (2, .ref mo), (1, .ref gx), (0, .ref b)]) : W p l e room_1 s m #[Value.ref b] below meth c H locs 157 183312 (lw_Z below #[Value.ref b] s) (F0 m 1172 ls []) := by
  have hx := B.1.1
  have hb := B.1.2.1
  refine lv_aload_n hx hb dL_law_1172 rfl (lv_at hl 3 rfl) ?_
  refine lv_aload_n hx hb dL_law_1173 rfl (lv_at hl 4 rfl) ?_
  refine lv_iload hx hb dL_law_1174 (lv_at hl 0 rfl) ?_
  refine lv_iconst (v := 1) hx hb dL_law_1176 (by decide) ?_
  refine lv_iadd hx hb dL_law_1177 ?_
  refine lv_seti (y := 1) (by decide) ?_
  refine va_sld hx hb hX hbl (Nat.not_le.mpr hbl) B.2.2.2.2.2 (vpc (by decide)) dL_law_1178 ?_
  refine lv_seti (y := xs 1) rfl ?_
  refine lv_aload_n hx hb dL_law_1179 rfl (lv_at hl 1 rfl) ?_
  refine x_callW (rest := []) (wr := [(mo, .inr (10, fvM V))]) (w_words l dC dI k hl0 gx T LA sp dr bl pt fk fh ky (xs 1) ou) B mW_L_words mw_1265 hl [0, 1, 2, 3] [4] rfl rfl ⟨by decide, by decide⟩ (by decide) ⟨Nat.le_of_ble_eq_true rfl, Nat.le_of_ble_eq_true rfl⟩ (Nat.le_of_ble_eq_true rfl) rfl dL_law_1180 ⟨Nat.le_of_ble_eq_true rfl, Nat.le_of_ble_eq_true rfl⟩ (fun r w H locs hp B => ?_)
  obtain ⟨rfl, rfl⟩ := hp
  have B := bd_to (ws' := [(mo, .inr (10, fvM V))]) rfl B
  refine lv_istore (lv' := [(5, .int 1), (4, .int 0), (3, .ref ou), (2, .ref mo), (1, .ref gx), (0, .ref b)]) hx hb dL_law_1183 hl (by decide) rfl (fun ls hl => ?_)
  refine lv_aload_n hx hb dL_law_1185 rfl (lv_at hl 3 rfl) ?_
  refine lv_aload_n hx hb dL_law_1186 rfl (lv_at hl 5 rfl) ?_
  refine lv_iload hx hb dL_law_1187 (lv_at hl 1 rfl) ?_
  refine lv_iconst (v := 1) hx hb dL_law_1189 (by decide) ?_
  refine lv_iadd hx hb dL_law_1190 ?_
  refine lv_seti (y := 1) (by decide) ?_
  refine va_sld hx hb hX hbl (Nat.not_le.mpr hbl) B.2.2.2.2.2 (vpc (by decide)) dL_law_1191 ?_
  refine lv_seti (y := xs 1) rfl ?_
  refine x_callV (rest := []) (wr := []) (m_words l dC dI k mo V (xs 1) h9) B mV_X12_words mw_2251 hl [0] [] rfl rfl ⟨by decide, by decide⟩ (by decide) (q0 := 0) rfl rfl rfl ⟨Nat.le_of_ble_eq_true rfl, Nat.le_of_ble_eq_true rfl⟩ (Nat.le_of_ble_eq_true rfl) rfl dL_law_1192 ⟨Nat.le_of_ble_eq_true rfl, Nat.le_of_ble_eq_true rfl⟩ (fun r w H locs hp B => ?_)
  obtain ⟨V1_1, z_2, rfl, rfl⟩ := hp
  have B := bd_to (ws' := [(mo, .inr (10, fvM V1_1))]) rfl B
  refine lv_istore (lv' := [(6, .int 0), (5, .int 1), (4, .int 0), (3, .ref ou), (2, .ref mo), (1, .ref gx), (0, .ref b)]) hx hb dL_law_1195 hl (by decide) rfl (fun ls hl => ?_)
  refine lv_aload_n hx hb dL_law_1197 rfl (lv_at hl 4 rfl) ?_
  refine x_callV (rest := []) (wr := []) (m_thrown l dC dI k mo V1_1 1 z_2) B mV_X12_thrown mw_2144 hl [0] [] rfl rfl ⟨by decide, by decide⟩ (by decide) (q0 := 0) rfl rfl rfl ⟨Nat.le_of_ble_eq_true rfl, Nat.le_of_ble_eq_true rfl⟩ (Nat.le_of_ble_eq_true rfl) rfl dL_law_1198 ⟨Nat.le_of_ble_eq_true rfl, Nat.le_of_ble_eq_true rfl⟩ (fun r w H locs hp B => ?_)
  obtain ⟨rfl, rfl⟩ := hp
  have B := bd_to (ws' := [(mo, .inr (10, fvM V1_1))]) rfl B
  refine lv_iload hx hb dL_law_1201 (lv_at hl 1 rfl) ?_
  refine lv_icmp_eq (tgt := 1208) hx hb dL_law_1203 (by decide) (fun _ => ?_) (fun c9 => absurd (by decide) c9)
  refine lv_iload hx hb dL_law_1208 (lv_at hl 1 rfl) ?_
  refine lv_if_ne (tgt := 1225) hx hb dL_law_1210 (by decide) (fun _ => ?_) (fun c9 => absurd c9 (by decide))
  refine lv_goto (tgt := 2809) hx hb dL_law_1225 (by decide) ?_
  exact law_end hX hbl hr B (lv_sub hl [6, 2] rfl) (Nat.le_of_ble_eq_true rfl) (Nat.le_of_ble_eq_true rfl)

end
