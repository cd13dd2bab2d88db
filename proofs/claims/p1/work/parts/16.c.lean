section
theorem mw_1946 : (Jvm.Cond.fieldLink "GalleyforgeModel" (495 : Nat) "GalleyforgeModel" "isSettled" "Z") ∈ gt := gt_at 2081 (by decide +kernel) (by decide +kernel)
theorem mw_1956 : (Jvm.Cond.fieldLink "GalleyforgeModel" (210 : Nat) "GalleyforgeModel" "history" "[I") ∈ gt := gt_at 2091 (by decide +kernel) (by decide +kernel)
theorem mw_2333 : (Jvm.Cond.methodLink "GalleyforgeModel" (499 : Nat) ({ cls := "GalleyforgeModel", name := "setDigits", desc := "(I)V" } : Jvm.MethodName)) ∈ gt := gt_at 2468 (by decide +kernel) (by decide +kernel)
theorem mw_2335 : (Jvm.Cond.instanceMethod ({ cls := "GalleyforgeModel", name := "setDigits", desc := "(I)V" } : Jvm.MethodName)) ∈ gt := gt_at 2470 (by decide +kernel) (by decide +kernel)
theorem mw_2336 : (Jvm.Cond.code ({ cls := "GalleyforgeModel", name := "setDigits", desc := "(I)V" } : Jvm.MethodName) prog_14_method_86_code (3 : Nat) (Option.none : Option Jvm.ClassFile.FieldType)) ∈ gt := gt_at 2471 (by decide +kernel) (by decide +kernel)
theorem mw_2340 : (Jvm.Cond.methodLink "GalleyforgeModel" (502 : Nat) ({ cls := "GalleyforgeModel", name := "makeRound", desc := "(I)V" } : Jvm.MethodName)) ∈ gt := gt_at 2475 (by decide +kernel) (by decide +kernel)
theorem mw_2342 : (Jvm.Cond.instanceMethod ({ cls := "GalleyforgeModel", name := "makeRound", desc := "(I)V" } : Jvm.MethodName)) ∈ gt := gt_at 2477 (by decide +kernel) (by decide +kernel)
theorem mw_2343 : (Jvm.Cond.code ({ cls := "GalleyforgeModel", name := "makeRound", desc := "(I)V" } : Jvm.MethodName) prog_14_method_83_code (3 : Nat) (Option.none : Option Jvm.ClassFile.FieldType)) ∈ gt := gt_at 2478 (by decide +kernel) (by decide +kernel)
theorem mw_2488 : (Jvm.Cond.methodLink "GalleyforgeModel" (505 : Nat) ({ cls := "GalleyforgeModel", name := "given", desc := "(I)I" } : Jvm.MethodName)) ∈ gt := gt_at 2623 (by decide +kernel) (by decide +kernel)
theorem mw_2490 : (Jvm.Cond.instanceMethod ({ cls := "GalleyforgeModel", name := "given", desc := "(I)I" } : Jvm.MethodName)) ∈ gt := gt_at 2625 (by decide +kernel) (by decide +kernel)
theorem mw_2491 : (Jvm.Cond.code ({ cls := "GalleyforgeModel", name := "given", desc := "(I)I" } : Jvm.MethodName) prog_14_method_84_code (6 : Nat) (Option.some Jvm.ClassFile.FieldType.int)) ∈ gt := gt_at 2626 (by decide +kernel) (by decide +kernel)
theorem ms_129 : Cond.selects "GalleyforgeModel" (⟨"GalleyforgeModel", "given", "(I)I"⟩ : MethodName) (⟨"GalleyforgeModel", "given", "(I)I"⟩ : MethodName) ∈ gt := gt_at 129 (by decide +kernel) (by decide +kernel)
theorem mV_X12_given : mV yX12_given cX12_given 6 (some .int) 1 := ⟨⟨mw_2491, mw_13, by decide, by decide, by decide +kernel⟩, mw_2490, ms_129⟩
theorem ms_94 : Cond.selects "GalleyforgeModel" (⟨"GalleyforgeModel", "makeRound", "(I)V"⟩ : MethodName) (⟨"GalleyforgeModel", "makeRound", "(I)V"⟩ : MethodName) ∈ gt := gt_at 94 (by decide +kernel) (by decide +kernel)
theorem mV_X12_makeRound : mV yX12_makeRound cX12_makeRound 3 none 1 := ⟨⟨mw_2343, mw_13, by decide, by decide, by decide +kernel⟩, mw_2342, ms_94⟩
theorem ms_93 : Cond.selects "GalleyforgeModel" (⟨"GalleyforgeModel", "setDigits", "(I)V"⟩ : MethodName) (⟨"GalleyforgeModel", "setDigits", "(I)V"⟩ : MethodName) ∈ gt := gt_at 93 (by decide +kernel) (by decide +kernel)
theorem mV_X12_setDigits : mV yX12_setDigits cX12_setDigits 3 none 1 := ⟨⟨mw_2336, mw_13, by decide, by decide, by decide +kernel⟩, mw_2335, ms_93⟩
theorem dX12_lay_0 : decode cX12_lay 0 = .ok (.aload_n 0, 1) := by decide +kernel
theorem dX12_lay_1 : decode cX12_lay 1 = .ok (.getfield 220, 3) := by decide +kernel
theorem dX12_lay_4 : decode cX12_lay 4 = .ok (.iload_n 1, 1) := by decide +kernel
theorem dX12_lay_5 : decode cX12_lay 5 = .ok (.if_icmp .ne 4, 3) := by decide +kernel
theorem dX12_lay_9 : decode cX12_lay 9 = .ok (.aload_n 0, 1) := by decide +kernel
theorem dX12_lay_10 : decode cX12_lay 10 = .ok (.iload_n 1, 1) := by decide +kernel
theorem dX12_lay_11 : decode cX12_lay 11 = .ok (.putfield 220, 3) := by decide +kernel
theorem dX12_lay_14 : decode cX12_lay 14 = .ok (.aload_n 0, 1) := by decide +kernel
theorem dX12_lay_15 : decode cX12_lay 15 = .ok (.iconst 0, 1) := by decide +kernel
theorem dX12_lay_16 : decode cX12_lay 16 = .ok (.putfield 486, 3) := by decide +kernel
theorem dX12_lay_19 : decode cX12_lay 19 = .ok (.aload_n 0, 1) := by decide +kernel
theorem dX12_lay_20 : decode cX12_lay 20 = .ok (.iconst 0, 1) := by decide +kernel
theorem dX12_lay_21 : decode cX12_lay 21 = .ok (.putfield 495, 3) := by decide +kernel
theorem dX12_lay_24 : decode cX12_lay 24 = .ok (.sipush 3906, 3) := by decide +kernel
theorem dX12_lay_27 : decode cX12_lay 27 = .ok (.istore_n 2, 1) := by decide +kernel
theorem dX12_lay_28 : decode cX12_lay 28 = .ok (.iconst 1, 1) := by decide +kernel
theorem dX12_lay_29 : decode cX12_lay 29 = .ok (.istore_n 3, 1) := by decide +kernel
theorem dX12_lay_30 : decode cX12_lay 30 = .ok (.iload_n 3, 1) := by decide +kernel
theorem dX12_lay_31 : decode cX12_lay 31 = .ok (.ifCond .eq 209, 3) := by decide +kernel
theorem dX12_lay_34 : decode cX12_lay 34 = .ok (.aload_n 0, 1) := by decide +kernel
theorem dX12_lay_35 : decode cX12_lay 35 = .ok (.getfield 210, 3) := by decide +kernel
theorem dX12_lay_38 : decode cX12_lay 38 = .ok (.aload_n 0, 1) := by decide +kernel
theorem dX12_lay_39 : decode cX12_lay 39 = .ok (.getfield 486, 3) := by decide +kernel
theorem dX12_lay_42 : decode cX12_lay 42 = .ok (.iload_n 2, 1) := by decide +kernel
theorem dX12_lay_43 : decode cX12_lay 43 = .ok (.iastore, 1) := by decide +kernel
theorem dX12_lay_44 : decode cX12_lay 44 = .ok (.aload_n 0, 1) := by decide +kernel
theorem dX12_lay_45 : decode cX12_lay 45 = .ok (.iload_n 2, 1) := by decide +kernel
theorem dX12_lay_46 : decode cX12_lay 46 = .ok (.invokevirtual 499, 3) := by decide +kernel
theorem dX12_lay_49 : decode cX12_lay 49 = .ok (.aload_n 0, 1) := by decide +kernel
theorem dX12_lay_50 : decode cX12_lay 50 = .ok (.iload_n 1, 1) := by decide +kernel
theorem dX12_lay_51 : decode cX12_lay 51 = .ok (.invokevirtual 502, 3) := by decide +kernel
theorem dX12_lay_54 : decode cX12_lay 54 = .ok (.aload_n 0, 1) := by decide +kernel
theorem dX12_lay_55 : decode cX12_lay 55 = .ok (.iload_n 1, 1) := by decide +kernel
theorem dX12_lay_56 : decode cX12_lay 56 = .ok (.invokevirtual 505, 3) := by decide +kernel
theorem dX12_lay_59 : decode cX12_lay 59 = .ok (.istore 4, 2) := by decide +kernel
theorem dX12_lay_61 : decode cX12_lay 61 = .ok (.iconst (-1), 1) := by decide +kernel
theorem dX12_lay_62 : decode cX12_lay 62 = .ok (.istore 5, 2) := by decide +kernel
theorem dX12_lay_64 : decode cX12_lay 64 = .ok (.iconst 0, 1) := by decide +kernel
theorem dX12_lay_65 : decode cX12_lay 65 = .ok (.istore 6, 2) := by decide +kernel
theorem dX12_lay_67 : decode cX12_lay 67 = .ok (.iload 6, 2) := by decide +kernel
theorem dX12_lay_69 : decode cX12_lay 69 = .ok (.aload_n 0, 1) := by decide +kernel
theorem dX12_lay_70 : decode cX12_lay 70 = .ok (.getfield 486, 3) := by decide +kernel
theorem dX12_lay_73 : decode cX12_lay 73 = .ok (.iconst 1, 1) := by decide +kernel
theorem dX12_lay_74 : decode cX12_lay 74 = .ok (.isub, 1) := by decide +kernel
theorem dX12_lay_75 : decode cX12_lay 75 = .ok (.if_icmp .ge 30, 3) := by decide +kernel
theorem dX12_lay_105 : decode cX12_lay 105 = .ok (.aload_n 0, 1) := by decide +kernel
theorem dX12_lay_106 : decode cX12_lay 106 = .ok (.iload 4, 2) := by decide +kernel
theorem dX12_lay_108 : decode cX12_lay 108 = .ok (.iload_n 2, 1) := by decide +kernel
theorem dX12_lay_109 : decode cX12_lay 109 = .ok (.if_icmp .ne 7, 3) := by decide +kernel
theorem dX12_lay_112 : decode cX12_lay 112 = .ok (.iconst 1, 1) := by decide +kernel
theorem dX12_lay_113 : decode cX12_lay 113 = .ok (.goto 4, 3) := by decide +kernel
theorem dX12_lay_117 : decode cX12_lay 117 = .ok (.putfield 495, 3) := by decide +kernel
theorem dX12_lay_120 : decode cX12_lay 120 = .ok (.aload_n 0, 1) := by decide +kernel
theorem dX12_lay_121 : decode cX12_lay 121 = .ok (.getfield 495, 3) := by decide +kernel
theorem dX12_lay_124 : decode cX12_lay 124 = .ok (.ifCond .ne 13, 3) := by decide +kernel
theorem dX12_lay_137 : decode cX12_lay 137 = .ok (.iconst 0, 1) := by decide +kernel
theorem dX12_lay_138 : decode cX12_lay 138 = .ok (.istore_n 3, 1) := by decide +kernel
theorem dX12_lay_139 : decode cX12_lay 139 = .ok (.aload_n 0, 1) := by decide +kernel
theorem dX12_lay_140 : decode cX12_lay 140 = .ok (.getfield 495, 3) := by decide +kernel
theorem dX12_lay_143 : decode cX12_lay 143 = .ok (.ifCond .ne 91, 3) := by decide +kernel
theorem dX12_lay_234 : decode cX12_lay 234 = .ok (.iload 4, 2) := by decide +kernel
theorem dX12_lay_236 : decode cX12_lay 236 = .ok (.istore_n 2, 1) := by decide +kernel
theorem dX12_lay_237 : decode cX12_lay 237 = .ok (.goto (-207), 3) := by decide +kernel
theorem dX12_lay_240 : decode cX12_lay 240 = .ok (.return_, 1) := by decide +kernel
set_option maxHeartbeats 4000000 in
set_option maxRecDepth 100000 in
theorem m_lay (l : Launch) (dC : Nat → ClassId) (dI : Nat → Nat → Nat) (k : Nat → ClassId) (mo : Nat) (V : Nat → Value) (aDg : Nat) (aRn : Nat) (aSo : Nat) (aHi : Nat) (aNr : Nat) (aNw : Nat) (aNl : Nat) (aNc : Nat) (aNp : Nat) (aNq : Nat) (aNs : Nat) (aNn : Nat) (v : Int32) (h9 : V 9 = .int 0) (h21 : V 21 = .int 0) (h47 : V 47 = .ref aDg) (h77 : V 77 = .ref aRn) (h80 : V 80 = .int (-1)) (h90 : V 90 = .ref aSo) (h92 : V 92 = .ref aHi) (h69 : V 69 = .ref aNr) (h70 : V 70 = .ref aNw) (h71 : V 71 = .ref aNl) (h72 : V 72 = .ref aNc) (h73 : V 73 = .ref aNp) (h74 : V 74 = .ref aNq) (h75 : V 75 = .ref aNs) (h76 : V 76 = .ref aNn) (hv : 0 ≤ v.toInt ∧ v.toInt ≤ 1) : Ct l dC dI k yX12_lay (.code yX12_lay cX12_lay 10 none) ({ frames := 4, cells := 0, slots := 0, locals := 96 } : Room) [.ref mo, .int v] [(mo, .inr (10, fvM V)), (aNr, .inl (k 0, 16000, .inl (fun _ => 0))), (aNw, .inl (k 0, 16000, .inl (fun _ => 0))), (aNl, .inl (k 0, 16000, .inl (fun _ => 0))), (aNc, .inl (k 0, 16000, .inl (fun _ => 0))), (aNp, .inl (k 0, 16000, .inl (fun _ => 0))), (aNq, .inl (k 0, 16000, .inl (fun _ => 0))), (aNs, .inl (k 0, 16000, .inl (fun _ => 0))), (aNn, .inl (k 0, 16000, .inl (fun _ => 0))), (aRn, .inl (k 0, 769, .inl (fun _ => 0))), (aSo, .inl (k 0, 5, .inl (fun _ => 0))), (aDg, .inl (k 0, 6, .inl (fun _ => 0))), (aHi, .inl (k 0, 800, .inl (fun _ => 0)))] (fun r w => (∃ (V1 : Nat → Value), (∀ i, i ∉ ([48, 57, 68, 80, 81, 82, 83, 84] : List Nat) → V1 i = V i) ∧ V1 81 = .int 1 ∧ V1 82 = .int 1 ∧ V1 83 = .int 0 ∧ V1 84 = .int 0 ∧ r = none ∧ w = [(mo, .inr (10, fvM V1))])) := by
  refine ct_of (by decide) (Nat.le_of_ble_eq_true rfl) ?_
  intro p e s m args below meth c H locs B hr hnm ls hl
  have hx := B.1.1
  have hb := B.1.2.1
  have hl : lv_has ls 10 [(0, .ref mo), (1, .int v)] := hl
  refine lv_aload_n hx hb dX12_lay_0 rfl (lv_at hl 0 rfl) ?_
  refine x_get (ci := 10) (C := RX12) (T := TX12) (N := 93) (v := .int (-1)) B 0 rfl rfl in_X12 80 (by decide) mw_1944 (fun _ h9 => h9) (fvM_get (by decide) h80) dX12_lay_1 ?_
  refine lv_iload_n hx hb dX12_lay_4 rfl (lv_at hl 1 rfl) ?_
  refine lv_icmp_ne (tgt := 9) hx hb dX12_lay_5 (by decide) (fun c_1 => ?_) (fun c9 => by have z9 : (-1) = v.toInt := znne c9; omega)
  refine lv_aload_n hx hb dX12_lay_9 rfl (lv_at hl 0 rfl) ?_
  refine lv_iload_n hx hb dX12_lay_10 rfl (lv_at hl 1 rfl) ?_
  refine x_put (ci := 10) (C := RX12) (T := TX12) (N := 93) (ty := .int) (v := .int v) B tyX12_ok nmX12 0 rfl rfl in_X12 80 (by decide) mw_1944 (fun _ h9 => h9) rfl (by decide +kernel) rfl rfl (fvM_lt (by decide)) dX12_lay_11 (fun H locs B => ?_)
  obtain ⟨V_2, hV_2, gV_2, eV_2⟩ := fvM_put V 80 (.int v) (by decide)
  rw [eV_2] at B
  have B := bd_to (ws' := [(mo, .inr (10, fvM V_2)), (aNr, .inl (k 0, 16000, .inl (fun _ => 0))), (aNw, .inl (k 0, 16000, .inl (fun _ => 0))), (aNl, .inl (k 0, 16000, .inl (fun _ => 0))), (aNc, .inl (k 0, 16000, .inl (fun _ => 0))), (aNp, .inl (k 0, 16000, .inl (fun _ => 0))), (aNq, .inl (k 0, 16000, .inl (fun _ => 0))), (aNs, .inl (k 0, 16000, .inl (fun _ => 0))), (aNn, .inl (k 0, 16000, .inl (fun _ => 0))), (aRn, .inl (k 0, 769, .inl (fun _ => 0))), (aSo, .inl (k 0, 5, .inl (fun _ => 0))), (aDg, .inl (k 0, 6, .inl (fun _ => 0))), (aHi, .inl (k 0, 800, .inl (fun _ => 0)))]) rfl B
  refine lv_aload_n hx hb dX12_lay_14 rfl (lv_at hl 0 rfl) ?_
  refine lv_iconst (v := 0) hx hb dX12_lay_15 (by decide) ?_
  refine x_put (ci := 10) (C := RX12) (T := TX12) (N := 93) (ty := .int) (v := .int 0) B tyX12_ok nmX12 0 rfl rfl in_X12 81 (by decide) mw_1945 (fun _ h9 => h9) rfl (by decide +kernel) rfl rfl (fvM_lt (by decide)) dX12_lay_16 (fun H locs B => ?_)
  obtain ⟨V_3, hV_3, gV_3, eV_3⟩ := fvM_put V_2 81 (.int 0) (by decide)
  rw [eV_3] at B
  have B := bd_to (ws' := [(mo, .inr (10, fvM V_3)), (aNr, .inl (k 0, 16000, .inl (fun _ => 0))), (aNw, .inl (k 0, 16000, .inl (fun _ => 0))), (aNl, .inl (k 0, 16000, .inl (fun _ => 0))), (aNc, .inl (k 0, 16000, .inl (fun _ => 0))), (aNp, .inl (k 0, 16000, .inl (fun _ => 0))), (aNq, .inl (k 0, 16000, .inl (fun _ => 0))), (aNs, .inl (k 0, 16000, .inl (fun _ => 0))), (aNn, .inl (k 0, 16000, .inl (fun _ => 0))), (aRn, .inl (k 0, 769, .inl (fun _ => 0))), (aSo, .inl (k 0, 5, .inl (fun _ => 0))), (aDg, .inl (k 0, 6, .inl (fun _ => 0))), (aHi, .inl (k 0, 800, .inl (fun _ => 0)))]) rfl B
  refine lv_aload_n hx hb dX12_lay_19 rfl (lv_at hl 0 rfl) ?_
  refine lv_iconst (v := 0) hx hb dX12_lay_20 (by decide) ?_
  refine x_put (ci := 10) (C := RX12) (T := TX12) (N := 93) (ty := .boolean) (v := .int 0) B tyX12_ok nmX12 0 rfl rfl in_X12 82 (by decide) mw_1946 (fun _ h9 => h9) rfl (by decide +kernel) (by decide) rfl (fvM_lt (by decide)) dX12_lay_21 (fun H locs B => ?_)
  obtain ⟨V_4, hV_4, gV_4, eV_4⟩ := fvM_put V_3 82 (.int 0) (by decide)
  rw [eV_4] at B
  have B := bd_to (ws' := [(mo, .inr (10, fvM V_4)), (aNr, .inl (k 0, 16000, .inl (fun _ => 0))), (aNw, .inl (k 0, 16000, .inl (fun _ => 0))), (aNl, .inl (k 0, 16000, .inl (fun _ => 0))), (aNc, .inl (k 0, 16000, .inl (fun _ => 0))), (aNp, .inl (k 0, 16000, .inl (fun _ => 0))), (aNq, .inl (k 0, 16000, .inl (fun _ => 0))), (aNs, .inl (k 0, 16000, .inl (fun _ => 0))), (aNn, .inl (k 0, 16000, .inl (fun _ => 0))), (aRn, .inl (k 0, 769, .inl (fun _ => 0))), (aSo, .inl (k 0, 5, .inl (fun _ => 0))), (aDg, .inl (k 0, 6, .inl (fun _ => 0))), (aHi, .inl (k 0, 800, .inl (fun _ => 0)))]) rfl B
  refine lv_sipush (v := 3906) hx hb dX12_lay_24 (by decide) ?_
  refine lv_istore_n (lv' := [(2, .int 3906), (0, .ref mo), (1, .int v)]) hx hb dX12_lay_27 rfl hl (by decide) rfl (fun ls hl => ?_)
  refine lv_iconst (v := 1) hx hb dX12_lay_28 (by decide) ?_
  refine lv_istore_n (lv' := [(3, .int 1), (2, .int 3906), (0, .ref mo), (1, .int v)]) hx hb dX12_lay_29 rfl hl (by decide) rfl (fun ls hl => ?_)
  refine lv_iload_n hx hb dX12_lay_30 rfl (lv_at hl 0 rfl) ?_
  refine lv_if_eq (tgt := 240) hx hb dX12_lay_31 (by decide) (fun c9 => absurd c9 (by decide)) (fun _ => ?_)
  refine lv_aload_n hx hb dX12_lay_34 rfl (lv_at hl 2 rfl) ?_
  refine x_get (ci := 10) (C := RX12) (T := TX12) (N := 93) (v := .ref aHi) B 0 rfl rfl in_X12 92 (by decide) mw_1956 (fun _ h9 => h9) (fvM_get (by decide) ((hV_4 92 (by decide)).trans ((hV_3 92 (by decide)).trans ((hV_2 92 (by decide)).trans h92)))) dX12_lay_35 ?_
  refine lv_aload_n hx hb dX12_lay_38 rfl (lv_at hl 2 rfl) ?_
  refine x_get (ci := 10) (C := RX12) (T := TX12) (N := 93) (v := .int 0) B 0 rfl rfl in_X12 81 (by decide) mw_1945 (fun _ h9 => h9) (fvM_get (by decide) ((hV_4 81 (by decide)).trans gV_3)) dX12_lay_39 ?_
  refine lv_iload_n hx hb dX12_lay_42 rfl (lv_at hl 1 rfl) ?_
  refine x_iast B 12 rfl (vpc (by decide)) dX12_lay_43 (j := 0) (by decide) (fun H locs B => ?_)
  have B := bd_to (ws' := [(mo, .inr (10, fvM V_4)), (aNr, .inl (k 0, 16000, .inl (fun _ => 0))), (aNw, .inl (k 0, 16000, .inl (fun _ => 0))), (aNl, .inl (k 0, 16000, .inl (fun _ => 0))), (aNc, .inl (k 0, 16000, .inl (fun _ => 0))), (aNp, .inl (k 0, 16000, .inl (fun _ => 0))), (aNq, .inl (k 0, 16000, .inl (fun _ => 0))), (aNs, .inl (k 0, 16000, .inl (fun _ => 0))), (aNn, .inl (k 0, 16000, .inl (fun _ => 0))), (aRn, .inl (k 0, 769, .inl (fun _ => 0))), (aSo, .inl (k 0, 5, .inl (fun _ => 0))), (aDg, .inl (k 0, 6, .inl (fun _ => 0))), (aHi, .inl (k 0, 800, .inl (upd (fun _ => 0) 0 3906)))]) rfl B
  refine lv_aload_n hx hb dX12_lay_44 rfl (lv_at hl 2 rfl) ?_
  refine lv_iload_n hx hb dX12_lay_45 rfl (lv_at hl 1 rfl) ?_
  refine x_callV (rest := []) (wr := [(aNr, .inl (k 0, 16000, .inl (fun _ => 0))), (aNw, .inl (k 0, 16000, .inl (fun _ => 0))), (aNl, .inl (k 0, 16000, .inl (fun _ => 0))), (aNc, .inl (k 0, 16000, .inl (fun _ => 0))), (aNp, .inl (k 0, 16000, .inl (fun _ => 0))), (aNq, .inl (k 0, 16000, .inl (fun _ => 0))), (aNs, .inl (k 0, 16000, .inl (fun _ => 0))), (aNn, .inl (k 0, 16000, .inl (fun _ => 0))), (aRn, .inl (k 0, 769, .inl (fun _ => 0))), (aSo, .inl (k 0, 5, .inl (fun _ => 0))), (aHi, .inl (k 0, 800, .inl (upd (fun _ => 0) 0 3906)))]) (m_setDigits l dC dI k mo V_4 aDg ((hV_4 47 (by decide)).trans ((hV_3 47 (by decide)).trans ((hV_2 47 (by decide)).trans h47)))) B mV_X12_setDigits mw_2333 hl [0, 11] [1, 2, 3, 4, 5, 6, 7, 8, 9, 10, 12] rfl rfl ⟨by decide, by decide⟩ (by decide) (q0 := 0) rfl rfl rfl ⟨Nat.le_of_ble_eq_true rfl, Nat.le_of_ble_eq_true rfl⟩ (Nat.le_of_ble_eq_true rfl) rfl dX12_lay_46 ⟨Nat.le_of_ble_eq_true rfl, Nat.le_of_ble_eq_true rfl⟩ (fun r w H locs hp B => ?_)
  obtain ⟨rfl, rfl⟩ := hp
  have B := bd_to (ws' := [(aNr, .inl (k 0, 16000, .inl (fun _ => 0))), (aNw, .inl (k 0, 16000, .inl (fun _ => 0))), (aNl, .inl (k 0, 16000, .inl (fun _ => 0))), (aNc, .inl (k 0, 16000, .inl (fun _ => 0))), (aNp, .inl (k 0, 16000, .inl (fun _ => 0))), (aNq, .inl (k 0, 16000, .inl (fun _ => 0))), (aNs, .inl (k 0, 16000, .inl (fun _ => 0))), (aNn, .inl (k 0, 16000, .inl (fun _ => 0))), (aRn, .inl (k 0, 769, .inl (fun _ => 0))), (aSo, .inl (k 0, 5, .inl (fun _ => 0))), (aHi, .inl (k 0, 800, .inl (upd (fun _ => 0) 0 3906))), (mo, .inr (10, fvM V_4))]) rfl B
  refine lv_aload_n hx hb dX12_lay_49 rfl (lv_at hl 2 rfl) ?_
  refine lv_iload_n hx hb dX12_lay_50 rfl (lv_at hl 3 rfl) ?_
  refine x_callV (rest := []) (wr := [(aHi, .inl (k 0, 800, .inl (upd (fun _ => 0) 0 3906)))]) (m_makeRound l dC dI k mo V_4 aRn aSo aNr aNw aNl aNc aNp aNq aNs aNn v ((hV_4 9 (by decide)).trans ((hV_3 9 (by decide)).trans ((hV_2 9 (by decide)).trans h9))) ((hV_4 21 (by decide)).trans ((hV_3 21 (by decide)).trans ((hV_2 21 (by decide)).trans h21))) ((hV_4 77 (by decide)).trans ((hV_3 77 (by decide)).trans ((hV_2 77 (by decide)).trans h77))) ((hV_4 81 (by decide)).trans gV_3) ((hV_4 90 (by decide)).trans ((hV_3 90 (by decide)).trans ((hV_2 90 (by decide)).trans h90))) ((hV_4 69 (by decide)).trans ((hV_3 69 (by decide)).trans ((hV_2 69 (by decide)).trans h69))) ((hV_4 70 (by decide)).trans ((hV_3 70 (by decide)).trans ((hV_2 70 (by decide)).trans h70))) ((hV_4 71 (by decide)).trans ((hV_3 71 (by decide)).trans ((hV_2 71 (by decide)).trans h71))) ((hV_4 72 (by decide)).trans ((hV_3 72 (by decide)).trans ((hV_2 72 (by decide)).trans h72))) ((hV_4 73 (by decide)).trans ((hV_3 73 (by decide)).trans ((hV_2 73 (by decide)).trans h73))) ((hV_4 74 (by decide)).trans ((hV_3 74 (by decide)).trans ((hV_2 74 (by decide)).trans h74))) ((hV_4 75 (by decide)).trans ((hV_3 75 (by decide)).trans ((hV_2 75 (by decide)).trans h75))) ((hV_4 76 (by decide)).trans ((hV_3 76 (by decide)).trans ((hV_2 76 (by decide)).trans h76)))) B mV_X12_makeRound mw_2340 hl [11, 0, 1, 2, 3, 4, 5, 6, 7, 8, 9] [10] rfl rfl ⟨by decide, by decide⟩ (by decide) (q0 := 0) rfl rfl rfl ⟨Nat.le_of_ble_eq_true rfl, Nat.le_of_ble_eq_true rfl⟩ (Nat.le_of_ble_eq_true rfl) rfl dX12_lay_51 ⟨Nat.le_of_ble_eq_true rfl, Nat.le_of_ble_eq_true rfl⟩ (fun r w H locs hp B => ?_)
  obtain ⟨V1_5, z_6, z_7, z_8, z_9, rfl, rfl⟩ := hp
  have B := bd_to (ws' := [(aHi, .inl (k 0, 800, .inl (upd (fun _ => 0) 0 3906))), (mo, .inr (10, fvM V1_5))]) rfl B
  refine lv_aload_n hx hb dX12_lay_54 rfl (lv_at hl 2 rfl) ?_
  refine lv_iload_n hx hb dX12_lay_55 rfl (lv_at hl 3 rfl) ?_
  refine x_callV (rest := []) (wr := [(aHi, .inl (k 0, 800, .inl (upd (fun _ => 0) 0 3906)))]) (m_given l dC dI k mo V1_5 v ((z_6 9 (by decide)).trans ((hV_4 9 (by decide)).trans ((hV_3 9 (by decide)).trans ((hV_2 9 (by decide)).trans h9))))) B mV_X12_given mw_2488 hl [1] [0] rfl rfl ⟨by decide, by decide⟩ (by decide) (q0 := 0) rfl rfl rfl ⟨Nat.le_of_ble_eq_true rfl, Nat.le_of_ble_eq_true rfl⟩ (Nat.le_of_ble_eq_true rfl) rfl dX12_lay_56 ⟨Nat.le_of_ble_eq_true rfl, Nat.le_of_ble_eq_true rfl⟩ (fun r w H locs hp B => ?_)
  obtain ⟨rfl, rfl⟩ := hp
  have B := bd_to (ws' := [(aHi, .inl (k 0, 800, .inl (upd (fun _ => 0) 0 3906))), (mo, .inr (10, fvM V1_5))]) rfl B
  refine lv_istore (lv' := [(4, .int 3906), (3, .int 1), (2, .int 3906), (0, .ref mo), (1, .int v)]) hx hb dX12_lay_59 hl (by decide) rfl (fun ls hl => ?_)
  refine lv_iconst (v := (-1)) hx hb dX12_lay_61 (by decide) ?_
  refine lv_istore (lv' := [(5, .int (-1)), (4, .int 3906), (3, .int 1), (2, .int 3906), (0, .ref mo), (1, .int v)]) hx hb dX12_lay_62 hl (by decide) rfl (fun ls hl => ?_)
  refine lv_iconst (v := 0) hx hb dX12_lay_64 (by decide) ?_
  refine lv_istore (lv' := [(6, .int 0), (5, .int (-1)), (4, .int 3906), (3, .int 1), (2, .int 3906), (0, .ref mo), (1, .int v)]) hx hb dX12_lay_65 hl (by decide) rfl (fun ls hl => ?_)
  refine lv_iload hx hb dX12_lay_67 (lv_at hl 0 rfl) ?_
  refine lv_aload_n hx hb dX12_lay_69 rfl (lv_at hl 5 rfl) ?_
  refine x_get (ci := 10) (C := RX12) (T := TX12) (N := 93) (v := .int 1) B 1 rfl rfl in_X12 81 (by decide) mw_1945 (fun _ h9 => h9) (fvM_get (by decide) z_7) dX12_lay_70 ?_
  refine lv_iconst (v := 1) hx hb dX12_lay_73 (by decide) ?_
  refine lv_isub hx hb dX12_lay_74 ?_
  refine lv_seti (y := 0) (by decide) ?_
  refine lv_icmp_ge (tgt := 105) hx hb dX12_lay_75 (by decide) (fun _ => ?_) (fun c9 => absurd (by decide) c9)
  refine lv_aload_n hx hb dX12_lay_105 rfl (lv_at hl 5 rfl) ?_
  refine lv_iload hx hb dX12_lay_106 (lv_at hl 2 rfl) ?_
  refine lv_iload_n hx hb dX12_lay_108 rfl (lv_at hl 4 rfl) ?_
  refine lv_icmp_ne (tgt := 116) hx hb dX12_lay_109 (by decide) (fun c9 => absurd c9 (by decide)) (fun _ => ?_)
  refine lv_iconst (v := 1) hx hb dX12_lay_112 (by decide) ?_
  refine lv_goto (tgt := 117) hx hb dX12_lay_113 (by decide) ?_
  refine x_put (ci := 10) (C := RX12) (T := TX12) (N := 93) (ty := .boolean) (v := .int 1) B tyX12_ok nmX12 1 rfl rfl in_X12 82 (by decide) mw_1946 (fun _ h9 => h9) rfl (by decide +kernel) (by decide) rfl (fvM_lt (by decide)) dX12_lay_117 (fun H locs B => ?_)
  obtain ⟨V_10, hV_10, gV_10, eV_10⟩ := fvM_put V1_5 82 (.int 1) (by decide)
  rw [eV_10] at B
  have B := bd_to (ws' := [(aHi, .inl (k 0, 800, .inl (upd (fun _ => 0) 0 3906))), (mo, .inr (10, fvM V_10))]) rfl B
  refine lv_aload_n hx hb dX12_lay_120 rfl (lv_at hl 5 rfl) ?_
  refine x_get (ci := 10) (C := RX12) (T := TX12) (N := 93) (v := .int 1) B 1 rfl rfl in_X12 82 (by decide) mw_1946 (fun _ h9 => h9) (fvM_get (by decide) gV_10) dX12_lay_121 ?_
  refine lv_if_ne (tgt := 137) hx hb dX12_lay_124 (by decide) (fun _ => ?_) (fun c9 => absurd c9 (by decide))
  refine lv_iconst (v := 0) hx hb dX12_lay_137 (by decide) ?_
  refine lv_istore_n (lv' := [(3, .int 0), (6, .int 0), (5, .int (-1)), (4, .int 3906), (2, .int 3906), (0, .ref mo), (1, .int v)]) hx hb dX12_lay_138 rfl hl (by decide) rfl (fun ls hl => ?_)
  refine lv_aload_n hx hb dX12_lay_139 rfl (lv_at hl 5 rfl) ?_
  refine x_get (ci := 10) (C := RX12) (T := TX12) (N := 93) (v := .int 1) B 1 rfl rfl in_X12 82 (by decide) mw_1946 (fun _ h9 => h9) (fvM_get (by decide) gV_10) dX12_lay_140 ?_
  refine lv_if_ne (tgt := 234) hx hb dX12_lay_143 (by decide) (fun _ => ?_) (fun c9 => absurd c9 (by decide))
  refine lv_iload hx hb dX12_lay_234 (lv_at hl 3 rfl) ?_
  refine lv_istore_n (lv' := [(2, .int 3906), (3, .int 0), (6, .int 0), (5, .int (-1)), (4, .int 3906), (0, .ref mo), (1, .int v)]) hx hb dX12_lay_236 rfl hl (by decide) rfl (fun ls hl => ?_)
  refine lv_goto (tgt := 30) hx hb dX12_lay_237 (by decide) ?_
  refine lv_iload_n hx hb dX12_lay_30 rfl (lv_at hl 1 rfl) ?_
  refine lv_if_eq (tgt := 240) hx hb dX12_lay_31 (by decide) (fun _ => ?_) (fun c9 => absurd (by decide) c9)
  have B := bd_sub (ws' := [(mo, .inr (10, fvM V_10))]) [1] (by decide) rfl B
  exact x_vret B hr (⟨V_10, (fun i9 h9 => ((hV_10 i9 (fun q9 => h9 (by rw [q9]; decide))).trans ((z_6 i9 (fun q9 => h9 ((by decide : ∀ x ∈ ([48, 57, 68, 81, 83, 84] : List Nat), x ∈ ([48, 57, 68, 80, 81, 82, 83, 84] : List Nat)) i9 q9))).trans ((hV_4 i9 (fun q9 => h9 (by rw [q9]; decide))).trans ((hV_3 i9 (fun q9 => h9 (by rw [q9]; decide))).trans (hV_2 i9 (fun q9 => h9 (by rw [q9]; decide)))))))), ((hV_10 81 (by decide)).trans z_7), gV_10, ((hV_10 83 (by decide)).trans z_8), ((hV_10 84 (by decide)).trans z_9), rfl, rfl⟩) (Nat.le_of_ble_eq_true rfl) (Nat.le_of_ble_eq_true rfl) dX12_lay_240

theorem mw_2271 : (Jvm.Cond.methodLink "GalleyforgeModel" (292 : Nat) ({ cls := "GalleyforgeModel", name := "isVariant", desc := "(I)Z" } : Jvm.MethodName)) ∈ gt := gt_at 2406 (by decide +kernel) (by decide +kernel)
theorem mw_2272 : (Jvm.Cond.static ({ cls := "GalleyforgeModel", name := "isVariant", desc := "(I)Z" } : Jvm.MethodName)) ∈ gt := gt_at 2407 (by decide +kernel) (by decide +kernel)
theorem mw_2273 : (Jvm.Cond.code ({ cls := "GalleyforgeModel", name := "isVariant", desc := "(I)Z" } : Jvm.MethodName) prog_14_method_34_code (1 : Nat) (Option.some Jvm.ClassFile.FieldType.boolean)) ∈ gt := gt_at 2408 (by decide +kernel) (by decide +kernel)
theorem mS_X12_isVariant : mS yX12_isVariant cX12_isVariant 1 (some .boolean) 1 := ⟨⟨mw_2273, mw_13, by decide, by decide, by decide +kernel⟩, mw_2272⟩
theorem dX12_noBlock_0 : decode cX12_noBlock 0 = .ok (.aload_n 0, 1) := by decide +kernel
theorem dX12_noBlock_1 : decode cX12_noBlock 1 = .ok (.iload_n 1, 1) := by decide +kernel
theorem dX12_noBlock_2 : decode cX12_noBlock 2 = .ok (.invokestatic 292, 3) := by decide +kernel
theorem dX12_noBlock_5 : decode cX12_noBlock 5 = .ok (.ifCond .eq 15, 3) := by decide +kernel
theorem dX12_noBlock_8 : decode cX12_noBlock 8 = .ok (.aload_n 0, 1) := by decide +kernel
theorem dX12_noBlock_9 : decode cX12_noBlock 9 = .ok (.iload_n 2, 1) := by decide +kernel
theorem dX12_noBlock_10 : decode cX12_noBlock 10 = .ok (.invokevirtual 233, 3) := by decide +kernel
theorem dX12_noBlock_13 : decode cX12_noBlock 13 = .ok (.ifCond .eq 7, 3) := by decide +kernel
theorem dX12_noBlock_20 : decode cX12_noBlock 20 = .ok (.iconst 1, 1) := by decide +kernel
theorem dX12_noBlock_21 : decode cX12_noBlock 21 = .ok (.invokevirtual 240, 3) := by decide +kernel
theorem dX12_noBlock_24 : decode cX12_noBlock 24 = .ok (.ifCond .eq 5, 3) := by decide +kernel
theorem dX12_noBlock_27 : decode cX12_noBlock 27 = .ok (.iconst 1, 1) := by decide +kernel
theorem dX12_noBlock_28 : decode cX12_noBlock 28 = .ok (.ireturn, 1) := by decide +kernel
set_option maxHeartbeats 4000000 in
set_option maxRecDepth 100000 in
theorem m_noBlock (l : Launch) (dC : Nat → ClassId) (dI : Nat → Nat → Nat) (k : Nat → ClassId) (mo : Nat) (V : Nat → Value) (v : Int32) (x1 : Int32) (h9 : V 9 = .int 0) : Ct l dC dI k yX12_noBlock (.code yX12_noBlock cX12_noBlock 3 (some .boolean)) ({ frames := 2, cells := 0, slots := 0, locals := 43 } : Room) [.ref mo, .int v, .int x1] [(mo, .inr (10, fvM V))] (fun r w => (∃ (V1 : Nat → Value), V1 0 = .int 1 ∧ r = some (.int 1) ∧ w = [(mo, .inr (10, fvM V1))])) := by
  refine ct_of (by decide) (Nat.le_of_ble_eq_true rfl) ?_
  intro p e s m args below meth c H locs B hr hnm ls hl
  have hx := B.1.1
  have hb := B.1.2.1
  have hl : lv_has ls 3 [(0, .ref mo), (1, .int v), (2, .int x1)] := hl
  refine lv_aload_n hx hb dX12_noBlock_0 rfl (lv_at hl 0 rfl) ?_
  refine lv_iload_n hx hb dX12_noBlock_1 rfl (lv_at hl 1 rfl) ?_
  refine x_callS (rest := [.ref mo]) (wr := [(mo, .inr (10, fvM V))]) (m_isVariant l dC dI k v) B mS_X12_isVariant mw_2271 hl [] [0] rfl rfl ⟨by decide, by decide⟩ (by decide) ⟨Nat.le_of_ble_eq_true rfl, Nat.le_of_ble_eq_true rfl⟩ (Nat.le_of_ble_eq_true rfl) rfl dX12_noBlock_2 ⟨Nat.le_of_ble_eq_true rfl, Nat.le_of_ble_eq_true rfl⟩ (fun r w H locs hp B => ?_)
  rcases hp with ⟨z_1, rfl, rfl⟩ | ⟨z_2, rfl, rfl⟩
  · skip
    have B := bd_to (ws' := [(mo, .inr (10, fvM V))]) rfl B
    refine lv_if_eq (tgt := 20) hx hb dX12_noBlock_5 (by decide) (fun c9 => absurd c9 (by decide)) (fun _ => ?_)
    refine lv_aload_n hx hb dX12_noBlock_8 rfl (lv_at hl 0 rfl) ?_
    refine lv_iload_n hx hb dX12_noBlock_9 rfl (lv_at hl 2 rfl) ?_
    refine x_callV (rest := [.ref mo]) (wr := []) (m_isBlock l dC dI k mo V x1 h9) B mV_X12_isBlock mw_2183 hl [0] [] rfl rfl ⟨by decide, by decide⟩ (by decide) (q0 := 0) rfl rfl rfl ⟨Nat.le_of_ble_eq_true rfl, Nat.le_of_ble_eq_true rfl⟩ (Nat.le_of_ble_eq_true rfl) rfl dX12_noBlock_10 ⟨Nat.le_of_ble_eq_true rfl, Nat.le_of_ble_eq_true rfl⟩ (fun r w H locs hp B => ?_)
    obtain ⟨rfl, rfl⟩ := hp
    have B := bd_to (ws' := [(mo, .inr (10, fvM V))]) rfl B
    refine lv_if_eq (tgt := 20) hx hb dX12_noBlock_13 (by decide) (fun _ => ?_) (fun c9 => absurd (by decide) c9)
    refine lv_iconst (v := 1) hx hb dX12_noBlock_20 (by decide) ?_
    refine x_callV (rest := []) (wr := []) (m_refused1 l dC dI k mo V) B mV_X12_refused mw_2155 hl [0] [] rfl rfl ⟨by decide, by decide⟩ (by decide) (q0 := 0) rfl rfl rfl ⟨Nat.le_of_ble_eq_true rfl, Nat.le_of_ble_eq_true rfl⟩ (Nat.le_of_ble_eq_true rfl) rfl dX12_noBlock_21 ⟨Nat.le_of_ble_eq_true rfl, Nat.le_of_ble_eq_true rfl⟩ (fun r w H locs hp B => ?_)
    obtain ⟨V1_3, z_4, z_5, rfl, rfl⟩ := hp
    have B := bd_to (ws' := [(mo, .inr (10, fvM V1_3))]) rfl B
    refine lv_if_eq (tgt := 29) hx hb dX12_noBlock_24 (by decide) (fun c9 => absurd c9 (by decide)) (fun _ => ?_)
    refine lv_iconst (v := 1) hx hb dX12_noBlock_27 (by decide) ?_
    have B := bd_sub (ws' := [(mo, .inr (10, fvM V1_3))]) [0] (by decide) rfl B
    exact x_zret B hr (by decide) (⟨V1_3, z_5, rfl, rfl⟩) (Nat.le_of_ble_eq_true rfl) (Nat.le_of_ble_eq_true rfl) dX12_noBlock_28
  · skip
    have B := bd_to (ws' := [(mo, .inr (10, fvM V))]) rfl B
    refine lv_if_eq (tgt := 20) hx hb dX12_noBlock_5 (by decide) (fun _ => ?_) (fun c9 => absurd (by decide) c9)
    refine lv_iconst (v := 1) hx hb dX12_noBlock_20 (by decide) ?_
    refine x_callV (rest := []) (wr := []) (m_refused1 l dC dI k mo V) B mV_X12_refused mw_2155 hl [0] [] rfl rfl ⟨by decide, by decide⟩ (by decide) (q0 := 0) rfl rfl rfl ⟨Nat.le_of_ble_eq_true rfl, Nat.le_of_ble_eq_true rfl⟩ (Nat.le_of_ble_eq_true rfl) rfl dX12_noBlock_21 ⟨Nat.le_of_ble_eq_true rfl, Nat.le_of_ble_eq_true rfl⟩ (fun r w H locs hp B => ?_)
    obtain ⟨V1_6, z_7, z_8, rfl, rfl⟩ := hp
    have B := bd_to (ws' := [(mo, .inr (10, fvM V1_6))]) rfl B
    refine lv_if_eq (tgt := 29) hx hb dX12_noBlock_24 (by decide) (fun c9 => absurd c9 (by decide)) (fun _ => ?_)
    refine lv_iconst (v := 1) hx hb dX12_noBlock_27 (by decide) ?_
    have B := bd_sub (ws' := [(mo, .inr (10, fvM V1_6))]) [0] (by decide) rfl B
    exact x_zret B hr (by decide) (⟨V1_6, z_8, rfl, rfl⟩) (Nat.le_of_ble_eq_true rfl) (Nat.le_of_ble_eq_true rfl) dX12_noBlock_28

theorem mw_2325 : (Jvm.Cond.methodLink "GalleyforgeModel" (511 : Nat) ({ cls := "GalleyforgeModel", name := "noBlock", desc := "(II)Z" } : Jvm.MethodName)) ∈ gt := gt_at 2460 (by decide +kernel) (by decide +kernel)
theorem mw_2327 : (Jvm.Cond.instanceMethod ({ cls := "GalleyforgeModel", name := "noBlock", desc := "(II)Z" } : Jvm.MethodName)) ∈ gt := gt_at 2462 (by decide +kernel) (by decide +kernel)
theorem mw_2328 : (Jvm.Cond.code ({ cls := "GalleyforgeModel", name := "noBlock", desc := "(II)Z" } : Jvm.MethodName) prog_14_method_88_code (3 : Nat) (Option.some Jvm.ClassFile.FieldType.boolean)) ∈ gt := gt_at 2463 (by decide +kernel) (by decide +kernel)
theorem ms_91 : Cond.selects "GalleyforgeModel" (⟨"GalleyforgeModel", "noBlock", "(II)Z"⟩ : MethodName) (⟨"GalleyforgeModel", "noBlock", "(II)Z"⟩ : MethodName) ∈ gt := gt_at 91 (by decide +kernel) (by decide +kernel)
theorem mV_X12_noBlock : mV yX12_noBlock cX12_noBlock 3 (some .boolean) 2 := ⟨⟨mw_2328, mw_13, by decide, by decide, by decide +kernel⟩, mw_2327, ms_91⟩
theorem dX12_noLine_0 : decode cX12_noLine 0 = .ok (.aload_n 0, 1) := by decide +kernel
theorem dX12_noLine_1 : decode cX12_noLine 1 = .ok (.iload_n 1, 1) := by decide +kernel
theorem dX12_noLine_2 : decode cX12_noLine 2 = .ok (.iload_n 2, 1) := by decide +kernel
theorem dX12_noLine_3 : decode cX12_noLine 3 = .ok (.invokevirtual 511, 3) := by decide +kernel
theorem dX12_noLine_6 : decode cX12_noLine 6 = .ok (.ifCond .ne 31, 3) := by decide +kernel
theorem dX12_noLine_37 : decode cX12_noLine 37 = .ok (.iconst 1, 1) := by decide +kernel
theorem dX12_noLine_38 : decode cX12_noLine 38 = .ok (.goto 4, 3) := by decide +kernel
theorem dX12_noLine_42 : decode cX12_noLine 42 = .ok (.ireturn, 1) := by decide +kernel
set_option maxHeartbeats 4000000 in
set_option maxRecDepth 100000 in
theorem m_noLine (l : Launch) (dC : Nat → ClassId) (dI : Nat → Nat → Nat) (k : Nat → ClassId) (mo : Nat) (V : Nat → Value) (v : Int32) (x1 : Int32) (x2 : Int32) (h9 : V 9 = .int 0) : Ct l dC dI k yX12_noLine (.code yX12_noLine cX12_noLine 4 (some .boolean)) ({ frames := 3, cells := 0, slots := 0, locals := 65 } : Room) [.ref mo, .int v, .int x1, .int x2] [(mo, .inr (10, fvM V))] (fun r w => (∃ (V1 : Nat → Value), V1 0 = .int 1 ∧ r = some (.int 1) ∧ w = [(mo, .inr (10, fvM V1))])) := by
  refine ct_of (by decide) (Nat.le_of_ble_eq_true rfl) ?_
  intro p e s m args below meth c H locs B hr hnm ls hl
  have hx := B.1.1
  have hb := B.1.2.1
  have hl : lv_has ls 4 [(0, .ref mo), (1, .int v), (2, .int x1), (3, .int x2)] := hl
  refine lv_aload_n hx hb dX12_noLine_0 rfl (lv_at hl 0 rfl) ?_
  refine lv_iload_n hx hb dX12_noLine_1 rfl (lv_at hl 1 rfl) ?_
  refine lv_iload_n hx hb dX12_noLine_2 rfl (lv_at hl 2 rfl) ?_
  refine x_callV (rest := []) (wr := []) (m_noBlock l dC dI k mo V v x1 h9) B mV_X12_noBlock mw_2325 hl [0] [] rfl rfl ⟨by decide, by decide⟩ (by decide) (q0 := 0) rfl rfl rfl ⟨Nat.le_of_ble_eq_true rfl, Nat.le_of_ble_eq_true rfl⟩ (Nat.le_of_ble_eq_true rfl) rfl dX12_noLine_3 ⟨Nat.le_of_ble_eq_true rfl, Nat.le_of_ble_eq_true rfl⟩ (fun r w H locs hp B => ?_)
  obtain ⟨V1_1, z_2, rfl, rfl⟩ := hp
  have B := bd_to (ws' := [(mo, .inr (10, fvM V1_1))]) rfl B
  refine lv_if_ne (tgt := 37) hx hb dX12_noLine_6 (by decide) (fun _ => ?_) (fun c9 => absurd c9 (by decide))
  refine lv_iconst (v := 1) hx hb dX12_noLine_37 (by decide) ?_
  refine lv_goto (tgt := 42) hx hb dX12_noLine_38 (by decide) ?_
  have B := bd_sub (ws' := [(mo, .inr (10, fvM V1_1))]) [0] (by decide) rfl B
  exact x_zret B hr (by decide) (⟨V1_1, z_2, rfl, rfl⟩) (Nat.le_of_ble_eq_true rfl) (Nat.le_of_ble_eq_true rfl) dX12_noLine_42

theorem mw_2329 : (Jvm.Cond.methodLink "GalleyforgeModel" (508 : Nat) ({ cls := "GalleyforgeModel", name := "lay", desc := "(I)V" } : Jvm.MethodName)) ∈ gt := gt_at 2464 (by decide +kernel) (by decide +kernel)
theorem mw_2331 : (Jvm.Cond.instanceMethod ({ cls := "GalleyforgeModel", name := "lay", desc := "(I)V" } : Jvm.MethodName)) ∈ gt := gt_at 2466 (by decide +kernel) (by decide +kernel)
theorem mw_2332 : (Jvm.Cond.code ({ cls := "GalleyforgeModel", name := "lay", desc := "(I)V" } : Jvm.MethodName) prog_14_method_87_code (10 : Nat) (Option.none : Option Jvm.ClassFile.FieldType)) ∈ gt := gt_at 2467 (by decide +kernel) (by decide +kernel)
theorem ms_92 : Cond.selects "GalleyforgeModel" (⟨"GalleyforgeModel", "lay", "(I)V"⟩ : MethodName) (⟨"GalleyforgeModel", "lay", "(I)V"⟩ : MethodName) ∈ gt := gt_at 92 (by decide +kernel) (by decide +kernel)
theorem mV_X12_lay : mV yX12_lay cX12_lay 10 none 1 := ⟨⟨mw_2332, mw_13, by decide, by decide, by decide +kernel⟩, mw_2331, ms_92⟩
theorem dX12_noVariant_0 : decode cX12_noVariant 0 = .ok (.aload_n 0, 1) := by decide +kernel
theorem dX12_noVariant_1 : decode cX12_noVariant 1 = .ok (.iload_n 1, 1) := by decide +kernel
theorem dX12_noVariant_2 : decode cX12_noVariant 2 = .ok (.invokestatic 292, 3) := by decide +kernel
theorem dX12_noVariant_5 : decode cX12_noVariant 5 = .ok (.ifCond .eq 7, 3) := by decide +kernel
theorem dX12_noVariant_8 : decode cX12_noVariant 8 = .ok (.iconst 0, 1) := by decide +kernel
theorem dX12_noVariant_9 : decode cX12_noVariant 9 = .ok (.goto 4, 3) := by decide +kernel
theorem dX12_noVariant_12 : decode cX12_noVariant 12 = .ok (.iconst 1, 1) := by decide +kernel
theorem dX12_noVariant_13 : decode cX12_noVariant 13 = .ok (.invokevirtual 240, 3) := by decide +kernel
theorem dX12_noVariant_16 : decode cX12_noVariant 16 = .ok (.ifCond .eq 5, 3) := by decide +kernel
theorem dX12_noVariant_19 : decode cX12_noVariant 19 = .ok (.iconst 1, 1) := by decide +kernel
theorem dX12_noVariant_20 : decode cX12_noVariant 20 = .ok (.ireturn, 1) := by decide +kernel
theorem dX12_noVariant_21 : decode cX12_noVariant 21 = .ok (.aload_n 0, 1) := by decide +kernel
theorem dX12_noVariant_22 : decode cX12_noVariant 22 = .ok (.iload_n 1, 1) := by decide +kernel
theorem dX12_noVariant_23 : decode cX12_noVariant 23 = .ok (.invokevirtual 508, 3) := by decide +kernel
theorem dX12_noVariant_26 : decode cX12_noVariant 26 = .ok (.iconst 0, 1) := by decide +kernel
theorem dX12_noVariant_27 : decode cX12_noVariant 27 = .ok (.ireturn, 1) := by decide +kernel
set_option maxHeartbeats 4000000 in
set_option maxRecDepth 100000 in
theorem m_noVariant (l : Launch) (dC : Nat → ClassId) (dI : Nat → Nat → Nat) (k : Nat → ClassId) (mo : Nat) (V : Nat → Value) (aDg : Nat) (aRn : Nat) (aSo : Nat) (aHi : Nat) (aNr : Nat) (aNw : Nat) (aNl : Nat) (aNc : Nat) (aNp : Nat) (aNq : Nat) (aNs : Nat) (aNn : Nat) (v : Int32) (h9 : V 9 = .int 0) (h21 : V 21 = .int 0) (h47 : V 47 = .ref aDg) (h77 : V 77 = .ref aRn) (h80 : V 80 = .int (-1)) (h90 : V 90 = .ref aSo) (h92 : V 92 = .ref aHi) (h69 : V 69 = .ref aNr) (h70 : V 70 = .ref aNw) (h71 : V 71 = .ref aNl) (h72 : V 72 = .ref aNc) (h73 : V 73 = .ref aNp) (h74 : V 74 = .ref aNq) (h75 : V 75 = .ref aNs) (h76 : V 76 = .ref aNn) : Ct l dC dI k yX12_noVariant (.code yX12_noVariant cX12_noVariant 2 (some .boolean)) ({ frames := 5, cells := 0, slots := 0, locals := 125 } : Room) [.ref mo, .int v] [(mo, .inr (10, fvM V)), (aNr, .inl (k 0, 16000, .inl (fun _ => 0))), (aNw, .inl (k 0, 16000, .inl (fun _ => 0))), (aNl, .inl (k 0, 16000, .inl (fun _ => 0))), (aNc, .inl (k 0, 16000, .inl (fun _ => 0))), (aNp, .inl (k 0, 16000, .inl (fun _ => 0))), (aNq, .inl (k 0, 16000, .inl (fun _ => 0))), (aNs, .inl (k 0, 16000, .inl (fun _ => 0))), (aNn, .inl (k 0, 16000, .inl (fun _ => 0))), (aRn, .inl (k 0, 769, .inl (fun _ => 0))), (aSo, .inl (k 0, 5, .inl (fun _ => 0))), (aDg, .inl (k 0, 6, .inl (fun _ => 0))), (aHi, .inl (k 0, 800, .inl (fun _ => 0)))] (fun r w => (∃ (V1 : Nat → Value), (0 ≤ v.toInt ∧ v.toInt ≤ 1) ∧ (∀ i, i ∉ ([0, 48, 57, 68, 80, 81, 82, 83, 84] : List Nat) → V1 i = V i) ∧ V1 0 = .int 0 ∧ V1 81 = .int 1 ∧ V1 82 = .int 1 ∧ V1 83 = .int 0 ∧ V1 84 = .int 0 ∧ r = some (.int 0) ∧ w = [(mo, .inr (10, fvM V1))]) ∨ (∃ (V1 : Nat → Value), ¬ (0 ≤ v.toInt ∧ v.toInt ≤ 1) ∧ V1 0 = .int 1 ∧ r = some (.int 1) ∧ w = [(mo, .inr (10, fvM V1))])) := by
  refine ct_of (by decide) (Nat.le_of_ble_eq_true rfl) ?_
  intro p e s m args below meth c H locs B hr hnm ls hl
  have hx := B.1.1
  have hb := B.1.2.1
  have hl : lv_has ls 2 [(0, .ref mo), (1, .int v)] := hl
  refine lv_aload_n hx hb dX12_noVariant_0 rfl (lv_at hl 0 rfl) ?_
  refine lv_iload_n hx hb dX12_noVariant_1 rfl (lv_at hl 1 rfl) ?_
  refine x_callS (rest := [.ref mo]) (wr := [(mo, .inr (10, fvM V)), (aNr, .inl (k 0, 16000, .inl (fun _ => 0))), (aNw, .inl (k 0, 16000, .inl (fun _ => 0))), (aNl, .inl (k 0, 16000, .inl (fun _ => 0))), (aNc, .inl (k 0, 16000, .inl (fun _ => 0))), (aNp, .inl (k 0, 16000, .inl (fun _ => 0))), (aNq, .inl (k 0, 16000, .inl (fun _ => 0))), (aNs, .inl (k 0, 16000, .inl (fun _ => 0))), (aNn, .inl (k 0, 16000, .inl (fun _ => 0))), (aRn, .inl (k 0, 769, .inl (fun _ => 0))), (aSo, .inl (k 0, 5, .inl (fun _ => 0))), (aDg, .inl (k 0, 6, .inl (fun _ => 0))), (aHi, .inl (k 0, 800, .inl (fun _ => 0)))]) (m_isVariant l dC dI k v) B mS_X12_isVariant mw_2271 hl [] [0, 1, 2, 3, 4, 5, 6, 7, 8, 9, 10, 11, 12] rfl rfl ⟨by decide, by decide⟩ (by decide) ⟨Nat.le_of_ble_eq_true rfl, Nat.le_of_ble_eq_true rfl⟩ (Nat.le_of_ble_eq_true rfl) rfl dX12_noVariant_2 ⟨Nat.le_of_ble_eq_true rfl, Nat.le_of_ble_eq_true rfl⟩ (fun r w H locs hp B => ?_)
  rcases hp with ⟨z_1, rfl, rfl⟩ | ⟨z_2, rfl, rfl⟩
  · skip
    have B := bd_to (ws' := [(mo, .inr (10, fvM V)), (aNr, .inl (k 0, 16000, .inl (fun _ => 0))), (aNw, .inl (k 0, 16000, .inl (fun _ => 0))), (aNl, .inl (k 0, 16000, .inl (fun _ => 0))), (aNc, .inl (k 0, 16000, .inl (fun _ => 0))), (aNp, .inl (k 0, 16000, .inl (fun _ => 0))), (aNq, .inl (k 0, 16000, .inl (fun _ => 0))), (aNs, .inl (k 0, 16000, .inl (fun _ => 0))), (aNn, .inl (k 0, 16000, .inl (fun _ => 0))), (aRn, .inl (k 0, 769, .inl (fun _ => 0))), (aSo, .inl (k 0, 5, .inl (fun _ => 0))), (aDg, .inl (k 0, 6, .inl (fun _ => 0))), (aHi, .inl (k 0, 800, .inl (fun _ => 0)))]) rfl B
    refine lv_if_eq (tgt := 12) hx hb dX12_noVariant_5 (by decide) (fun c9 => absurd c9 (by decide)) (fun _ => ?_)
    refine lv_iconst (v := 0) hx hb dX12_noVariant_8 (by decide) ?_
    refine lv_goto (tgt := 13) hx hb dX12_noVariant_9 (by decide) ?_
    refine x_callV (rest := []) (wr := [(aNr, .inl (k 0, 16000, .inl (fun _ => 0))), (aNw, .inl (k 0, 16000, .inl (fun _ => 0))), (aNl, .inl (k 0, 16000, .inl (fun _ => 0))), (aNc, .inl (k 0, 16000, .inl (fun _ => 0))), (aNp, .inl (k 0, 16000, .inl (fun _ => 0))), (aNq, .inl (k 0, 16000, .inl (fun _ => 0))), (aNs, .inl (k 0, 16000, .inl (fun _ => 0))), (aNn, .inl (k 0, 16000, .inl (fun _ => 0))), (aRn, .inl (k 0, 769, .inl (fun _ => 0))), (aSo, .inl (k 0, 5, .inl (fun _ => 0))), (aDg, .inl (k 0, 6, .inl (fun _ => 0))), (aHi, .inl (k 0, 800, .inl (fun _ => 0)))]) (m_refused0 l dC dI k mo V) B mV_X12_refused mw_2155 hl [0] [1, 2, 3, 4, 5, 6, 7, 8, 9, 10, 11, 12] rfl rfl ⟨by decide, by decide⟩ (by decide) (q0 := 0) rfl rfl rfl ⟨Nat.le_of_ble_eq_true rfl, Nat.le_of_ble_eq_true rfl⟩ (Nat.le_of_ble_eq_true rfl) rfl dX12_noVariant_13 ⟨Nat.le_of_ble_eq_true rfl, Nat.le_of_ble_eq_true rfl⟩ (fun r w H locs hp B => ?_)
    obtain ⟨V1_3, z_4, z_5, rfl, rfl⟩ := hp
    have B := bd_to (ws' := [(aNr, .inl (k 0, 16000, .inl (fun _ => 0))), (aNw, .inl (k 0, 16000, .inl (fun _ => 0))), (aNl, .inl (k 0, 16000, .inl (fun _ => 0))), (aNc, .inl (k 0, 16000, .inl (fun _ => 0))), (aNp, .inl (k 0, 16000, .inl (fun _ => 0))), (aNq, .inl (k 0, 16000, .inl (fun _ => 0))), (aNs, .inl (k 0, 16000, .inl (fun _ => 0))), (aNn, .inl (k 0, 16000, .inl (fun _ => 0))), (aRn, .inl (k 0, 769, .inl (fun _ => 0))), (aSo, .inl (k 0, 5, .inl (fun _ => 0))), (aDg, .inl (k 0, 6, .inl (fun _ => 0))), (aHi, .inl (k 0, 800, .inl (fun _ => 0))), (mo, .inr (10, fvM V1_3))]) rfl B
    refine lv_if_eq (tgt := 21) hx hb dX12_noVariant_16 (by decide) (fun _ => ?_) (fun c9 => absurd (by decide) c9)
    refine lv_aload_n hx hb dX12_noVariant_21 rfl (lv_at hl 0 rfl) ?_
    refine lv_iload_n hx hb dX12_noVariant_22 rfl (lv_at hl 1 rfl) ?_
    refine x_callV (rest := []) (wr := []) (m_lay l dC dI k mo V1_3 aDg aRn aSo aHi aNr aNw aNl aNc aNp aNq aNs aNn v ((z_4 9 (by decide)).trans h9) ((z_4 21 (by decide)).trans h21) ((z_4 47 (by decide)).trans h47) ((z_4 77 (by decide)).trans h77) ((z_4 80 (by decide)).trans h80) ((z_4 90 (by decide)).trans h90) ((z_4 92 (by decide)).trans h92) ((z_4 69 (by decide)).trans h69) ((z_4 70 (by decide)).trans h70) ((z_4 71 (by decide)).trans h71) ((z_4 72 (by decide)).trans h72) ((z_4 73 (by decide)).trans h73) ((z_4 74 (by decide)).trans h74) ((z_4 75 (by decide)).trans h75) ((z_4 76 (by decide)).trans h76) (by first | omega | decide)) B mV_X12_lay mw_2329 hl [12, 0, 1, 2, 3, 4, 5, 6, 7, 8, 9, 10, 11] [] rfl rfl ⟨by decide, by decide⟩ (by decide) (q0 := 0) rfl rfl rfl ⟨Nat.le_of_ble_eq_true rfl, Nat.le_of_ble_eq_true rfl⟩ (Nat.le_of_ble_eq_true rfl) rfl dX12_noVariant_23 ⟨Nat.le_of_ble_eq_true rfl, Nat.le_of_ble_eq_true rfl⟩ (fun r w H locs hp B => ?_)
    obtain ⟨V1_6, z_7, z_8, z_9, z_10, z_11, rfl, rfl⟩ := hp
    have B := bd_to (ws' := [(mo, .inr (10, fvM V1_6))]) rfl B
    refine lv_iconst (v := 0) hx hb dX12_noVariant_26 (by decide) ?_
    have B := bd_sub (ws' := [(mo, .inr (10, fvM V1_6))]) [0] (by decide) rfl B
    exact x_zret B hr (by decide) (Or.inl (⟨V1_6, by omega, (fun i9 h9 => ((z_7 i9 (fun q9 => h9 ((by decide : ∀ x ∈ ([48, 57, 68, 80, 81, 82, 83, 84] : List Nat), x ∈ ([0, 48, 57, 68, 80, 81, 82, 83, 84] : List Nat)) i9 q9))).trans (z_4 i9 (fun q9 => h9 ((by decide : ∀ x ∈ ([0] : List Nat), x ∈ ([0, 48, 57, 68, 80, 81, 82, 83, 84] : List Nat)) i9 q9))))), ((z_7 0 (by decide)).trans z_5), z_8, z_9, z_10, z_11, rfl, rfl⟩)) (Nat.le_of_ble_eq_true rfl) (Nat.le_of_ble_eq_true rfl) dX12_noVariant_27
  · skip
    have B := bd_to (ws' := [(mo, .inr (10, fvM V)), (aNr, .inl (k 0, 16000, .inl (fun _ => 0))), (aNw, .inl (k 0, 16000, .inl (fun _ => 0))), (aNl, .inl (k 0, 16000, .inl (fun _ => 0))), (aNc, .inl (k 0, 16000, .inl (fun _ => 0))), (aNp, .inl (k 0, 16000, .inl (fun _ => 0))), (aNq, .inl (k 0, 16000, .inl (fun _ => 0))), (aNs, .inl (k 0, 16000, .inl (fun _ => 0))), (aNn, .inl (k 0, 16000, .inl (fun _ => 0))), (aRn, .inl (k 0, 769, .inl (fun _ => 0))), (aSo, .inl (k 0, 5, .inl (fun _ => 0))), (aDg, .inl (k 0, 6, .inl (fun _ => 0))), (aHi, .inl (k 0, 800, .inl (fun _ => 0)))]) rfl B
    refine lv_if_eq (tgt := 12) hx hb dX12_noVariant_5 (by decide) (fun _ => ?_) (fun c9 => absurd (by decide) c9)
    refine lv_iconst (v := 1) hx hb dX12_noVariant_12 (by decide) ?_
    refine x_callV (rest := []) (wr := [(aNr, .inl (k 0, 16000, .inl (fun _ => 0))), (aNw, .inl (k 0, 16000, .inl (fun _ => 0))), (aNl, .inl (k 0, 16000, .inl (fun _ => 0))), (aNc, .inl (k 0, 16000, .inl (fun _ => 0))), (aNp, .inl (k 0, 16000, .inl (fun _ => 0))), (aNq, .inl (k 0, 16000, .inl (fun _ => 0))), (aNs, .inl (k 0, 16000, .inl (fun _ => 0))), (aNn, .inl (k 0, 16000, .inl (fun _ => 0))), (aRn, .inl (k 0, 769, .inl (fun _ => 0))), (aSo, .inl (k 0, 5, .inl (fun _ => 0))), (aDg, .inl (k 0, 6, .inl (fun _ => 0))), (aHi, .inl (k 0, 800, .inl (fun _ => 0)))]) (m_refused1 l dC dI k mo V) B mV_X12_refused mw_2155 hl [0] [1, 2, 3, 4, 5, 6, 7, 8, 9, 10, 11, 12] rfl rfl ⟨by decide, by decide⟩ (by decide) (q0 := 0) rfl rfl rfl ⟨Nat.le_of_ble_eq_true rfl, Nat.le_of_ble_eq_true rfl⟩ (Nat.le_of_ble_eq_true rfl) rfl dX12_noVariant_13 ⟨Nat.le_of_ble_eq_true rfl, Nat.le_of_ble_eq_true rfl⟩ (fun r w H locs hp B => ?_)
    obtain ⟨V1_12, z_13, z_14, rfl, rfl⟩ := hp
    have B := bd_to (ws' := [(aNr, .inl (k 0, 16000, .inl (fun _ => 0))), (aNw, .inl (k 0, 16000, .inl (fun _ => 0))), (aNl, .inl (k 0, 16000, .inl (fun _ => 0))), (aNc, .inl (k 0, 16000, .inl (fun _ => 0))), (aNp, .inl (k 0, 16000, .inl (fun _ => 0))), (aNq, .inl (k 0, 16000, .inl (fun _ => 0))), (aNs, .inl (k 0, 16000, .inl (fun _ => 0))), (aNn, .inl (k 0, 16000, .inl (fun _ => 0))), (aRn, .inl (k 0, 769, .inl (fun _ => 0))), (aSo, .inl (k 0, 5, .inl (fun _ => 0))), (aDg, .inl (k 0, 6, .inl (fun _ => 0))), (aHi, .inl (k 0, 800, .inl (fun _ => 0))), (mo, .inr (10, fvM V1_12))]) rfl B
    refine lv_if_eq (tgt := 21) hx hb dX12_noVariant_16 (by decide) (fun c9 => absurd c9 (by decide)) (fun _ => ?_)
    refine lv_iconst (v := 1) hx hb dX12_noVariant_19 (by decide) ?_
    have B := bd_sub (ws' := [(mo, .inr (10, fvM V1_12))]) [12] (by decide) rfl B
    exact x_zret B hr (by decide) (Or.inr (⟨V1_12, by omega, z_14, rfl, rfl⟩)) (Nat.le_of_ble_eq_true rfl) (Nat.le_of_ble_eq_true rfl) dX12_noVariant_20

theorem mw_2521 : (Jvm.Cond.methodLink "GalleyforgeModel" (519 : Nat) ({ cls := "GalleyforgeModel", name := "noVariant", desc := "(I)Z" } : Jvm.MethodName)) ∈ gt := gt_at 2656 (by decide +kernel) (by decide +kernel)
theorem mw_2523 : (Jvm.Cond.instanceMethod ({ cls := "GalleyforgeModel", name := "noVariant", desc := "(I)Z" } : Jvm.MethodName)) ∈ gt := gt_at 2658 (by decide +kernel) (by decide +kernel)
theorem mw_2524 : (Jvm.Cond.code ({ cls := "GalleyforgeModel", name := "noVariant", desc := "(I)Z" } : Jvm.MethodName) prog_14_method_95_code (2 : Nat) (Option.some Jvm.ClassFile.FieldType.boolean)) ∈ gt := gt_at 2659 (by decide +kernel) (by decide +kernel)
theorem ms_132 : Cond.selects "GalleyforgeModel" (⟨"GalleyforgeModel", "noVariant", "(I)Z"⟩ : MethodName) (⟨"GalleyforgeModel", "noVariant", "(I)Z"⟩ : MethodName) ∈ gt := gt_at 132 (by decide +kernel) (by decide +kernel)
theorem mV_X12_noVariant : mV yX12_noVariant cX12_noVariant 2 (some .boolean) 1 := ⟨⟨mw_2524, mw_13, by decide, by decide, by decide +kernel⟩, mw_2523, ms_132⟩
set_option maxHeartbeats 4000000 in
set_option maxRecDepth 100000 in
theorem m_in_1_0 (l : Launch) (dC : Nat → ClassId) (dI : Nat → Nat → Nat) (k : Nat → ClassId) (x1 : Int32) : Ct l dC dI k yX12_in (.code yX12_in cX12_in 3 (some .boolean)) ({ frames := 0, cells := 0, slots := 0, locals := 0 } : Room) [.int x1, .int 1, .int 0] [] (fun r w => ((1 ≤ x1.toInt ∧ x1.toInt ≤ 0) ∧ r = some (.int 1) ∧ w = []) ∨ (¬ (1 ≤ x1.toInt ∧ x1.toInt ≤ 0) ∧ r = some (.int 0) ∧ w = [])) := by
  refine ct_of (by decide) (Nat.le_of_ble_eq_true rfl) ?_
  intro p e s m args below meth c H locs B hr hnm ls hl
  have hx := B.1.1
  have hb := B.1.2.1
  have hl : lv_has ls 3 [(0, .int x1), (1, .int 1), (2, .int 0)] := hl
  refine lv_iload_n hx hb dX12_in_0 rfl (lv_at hl 0 rfl) ?_
  refine lv_iload_n hx hb dX12_in_1 rfl (lv_at hl 1 rfl) ?_
  refine lv_icmp_lt (tgt := 14) hx hb dX12_in_2 (by decide) (fun c_1 => ?_) (fun c_1 => ?_)
  · have zc_1 : x1.toInt < 1 := zlt c_1
    refine lv_iconst (v := 0) hx hb dX12_in_14 (by decide) ?_
    have B := bd_sub (ws' := []) [] (by decide) rfl B
    exact x_zret B hr (by decide) (Or.inr (⟨by omega, rfl, rfl⟩)) (Nat.le_of_ble_eq_true rfl) (Nat.le_of_ble_eq_true rfl) dX12_in_15
  · have zc_1 : 1 ≤ x1.toInt := znlt c_1
    refine lv_iload_n hx hb dX12_in_5 rfl (lv_at hl 0 rfl) ?_
    refine lv_iload_n hx hb dX12_in_6 rfl (lv_at hl 2 rfl) ?_
    refine lv_icmp_gt (tgt := 14) hx hb dX12_in_7 (by decide) (fun c_2 => ?_) (fun c9 => by have z9 : x1.toInt ≤ 0 := zngt c9; omega)
    refine lv_iconst (v := 0) hx hb dX12_in_14 (by decide) ?_
    have B := bd_sub (ws' := []) [] (by decide) rfl B
    exact x_zret B hr (by decide) (Or.inr (⟨by omega, rfl, rfl⟩)) (Nat.le_of_ble_eq_true rfl) (Nat.le_of_ble_eq_true rfl) dX12_in_15

theorem dX12_noPage_0 : decode cX12_noPage 0 = .ok (.aload_n 0, 1) := by decide +kernel
theorem dX12_noPage_1 : decode cX12_noPage 1 = .ok (.iload_n 1, 1) := by decide +kernel
theorem dX12_noPage_2 : decode cX12_noPage 2 = .ok (.invokevirtual 519, 3) := by decide +kernel
theorem dX12_noPage_5 : decode cX12_noPage 5 = .ok (.ifCond .ne 27, 3) := by decide +kernel
theorem dX12_noPage_8 : decode cX12_noPage 8 = .ok (.aload_n 0, 1) := by decide +kernel
theorem dX12_noPage_9 : decode cX12_noPage 9 = .ok (.iload_n 2, 1) := by decide +kernel
theorem dX12_noPage_10 : decode cX12_noPage 10 = .ok (.iconst 1, 1) := by decide +kernel
theorem dX12_noPage_11 : decode cX12_noPage 11 = .ok (.aload_n 0, 1) := by decide +kernel
theorem dX12_noPage_12 : decode cX12_noPage 12 = .ok (.getfield 457, 3) := by decide +kernel
theorem dX12_noPage_15 : decode cX12_noPage 15 = .ok (.invokestatic 229, 3) := by decide +kernel
theorem dX12_noPage_18 : decode cX12_noPage 18 = .ok (.ifCond .eq 7, 3) := by decide +kernel
theorem dX12_noPage_25 : decode cX12_noPage 25 = .ok (.iconst 1, 1) := by decide +kernel
theorem dX12_noPage_26 : decode cX12_noPage 26 = .ok (.invokevirtual 240, 3) := by decide +kernel
theorem dX12_noPage_29 : decode cX12_noPage 29 = .ok (.ifCond .eq 7, 3) := by decide +kernel
theorem dX12_noPage_32 : decode cX12_noPage 32 = .ok (.iconst 1, 1) := by decide +kernel
theorem dX12_noPage_33 : decode cX12_noPage 33 = .ok (.goto 4, 3) := by decide +kernel
theorem dX12_noPage_37 : decode cX12_noPage 37 = .ok (.ireturn, 1) := by decide +kernel
set_option maxHeartbeats 4000000 in
set_option maxRecDepth 100000 in
theorem m_noPage (l : Launch) (dC : Nat → ClassId) (dI : Nat → Nat → Nat) (k : Nat → ClassId) (mo : Nat) (V : Nat → Value) (aDg : Nat) (aRn : Nat) (aSo : Nat) (aHi : Nat) (aNr : Nat) (aNw : Nat) (aNl : Nat) (aNc : Nat) (aNp : Nat) (aNq : Nat) (aNs : Nat) (aNn : Nat) (v : Int32) (x1 : Int32) (h9 : V 9 = .int 0) (h21 : V 21 = .int 0) (h47 : V 47 = .ref aDg) (h77 : V 77 = .ref aRn) (h80 : V 80 = .int (-1)) (h90 : V 90 = .ref aSo) (h92 : V 92 = .ref aHi) (h69 : V 69 = .ref aNr) (h70 : V 70 = .ref aNw) (h71 : V 71 = .ref aNl) (h72 : V 72 = .ref aNc) (h73 : V 73 = .ref aNp) (h74 : V 74 = .ref aNq) (h75 : V 75 = .ref aNs) (h76 : V 76 = .ref aNn) : Ct l dC dI k yX12_noPage (.code yX12_noPage cX12_noPage 3 (some .boolean)) ({ frames := 6, cells := 0, slots := 0, locals := 146 } : Room) [.ref mo, .int v, .int x1] [(mo, .inr (10, fvM V)), (aNr, .inl (k 0, 16000, .inl (fun _ => 0))), (aNw, .inl (k 0, 16000, .inl (fun _ => 0))), (aNl, .inl (k 0, 16000, .inl (fun _ => 0))), (aNc, .inl (k 0, 16000, .inl (fun _ => 0))), (aNp, .inl (k 0, 16000, .inl (fun _ => 0))), (aNq, .inl (k 0, 16000, .inl (fun _ => 0))), (aNs, .inl (k 0, 16000, .inl (fun _ => 0))), (aNn, .inl (k 0, 16000, .inl (fun _ => 0))), (aRn, .inl (k 0, 769, .inl (fun _ => 0))), (aSo, .inl (k 0, 5, .inl (fun _ => 0))), (aDg, .inl (k 0, 6, .inl (fun _ => 0))), (aHi, .inl (k 0, 800, .inl (fun _ => 0)))] (fun r w => (∃ (V1 : Nat → Value), V1 0 = .int 1 ∧ r = some (.int 1) ∧ w = [(mo, .inr (10, fvM V1))])) := by
  refine ct_of (by decide) (Nat.le_of_ble_eq_true rfl) ?_
  intro p e s m args below meth c H locs B hr hnm ls hl
  have hx := B.1.1
  have hb := B.1.2.1
  have hl : lv_has ls 3 [(0, .ref mo), (1, .int v), (2, .int x1)] := hl
  refine lv_aload_n hx hb dX12_noPage_0 rfl (lv_at hl 0 rfl) ?_
  refine lv_iload_n hx hb dX12_noPage_1 rfl (lv_at hl 1 rfl) ?_
  refine x_callV (rest := []) (wr := []) (m_noVariant l dC dI k mo V aDg aRn aSo aHi aNr aNw aNl aNc aNp aNq aNs aNn v h9 h21 h47 h77 h80 h90 h92 h69 h70 h71 h72 h73 h74 h75 h76) B mV_X12_noVariant mw_2521 hl [0, 1, 2, 3, 4, 5, 6, 7, 8, 9, 10, 11, 12] [] rfl rfl ⟨by decide, by decide⟩ (by decide) (q0 := 0) rfl rfl rfl ⟨Nat.le_of_ble_eq_true rfl, Nat.le_of_ble_eq_true rfl⟩ (Nat.le_of_ble_eq_true rfl) rfl dX12_noPage_2 ⟨Nat.le_of_ble_eq_true rfl, Nat.le_of_ble_eq_true rfl⟩ (fun r w H locs hp B => ?_)
  rcases hp with ⟨V1_1, z_2, z_3, z_4, z_5, z_6, z_7, z_8, rfl, rfl⟩ | ⟨V1_9, z_10, z_11, rfl, rfl⟩
  · skip
    have B := bd_to (ws' := [(mo, .inr (10, fvM V1_1))]) rfl B
    refine lv_if_ne (tgt := 32) hx hb dX12_noPage_5 (by decide) (fun c9 => absurd c9 (by decide)) (fun _ => ?_)
    refine lv_aload_n hx hb dX12_noPage_8 rfl (lv_at hl 0 rfl) ?_
    refine lv_iload_n hx hb dX12_noPage_9 rfl (lv_at hl 2 rfl) ?_
    refine lv_iconst (v := 1) hx hb dX12_noPage_10 (by decide) ?_
    refine lv_aload_n hx hb dX12_noPage_11 rfl (lv_at hl 0 rfl) ?_
    refine x_get (ci := 10) (C := RX12) (T := TX12) (N := 93) (v := .int 0) B 0 rfl rfl in_X12 83 (by decide) mw_1947 (fun _ h9 => h9) (fvM_get (by decide) z_7) dX12_noPage_12 ?_
    refine x_callS (rest := [.ref mo]) (wr := [(mo, .inr (10, fvM V1_1))]) (m_in_1_0 l dC dI k x1) B mS_X12_in mw_2152 hl [] [0] rfl rfl ⟨by decide, by decide⟩ (by decide) ⟨Nat.le_of_ble_eq_true rfl, Nat.le_of_ble_eq_true rfl⟩ (Nat.le_of_ble_eq_true rfl) rfl dX12_noPage_15 ⟨Nat.le_of_ble_eq_true rfl, Nat.le_of_ble_eq_true rfl⟩ (fun r w H locs hp B => ?_)
    rcases hp with ⟨z_12, rfl, rfl⟩ | ⟨z_13, rfl, rfl⟩
    · skip
      exfalso; first | omega | exact absurd z_12 (by decide)
    · skip
      have B := bd_to (ws' := [(mo, .inr (10, fvM V1_1))]) rfl B
      refine lv_if_eq (tgt := 25) hx hb dX12_noPage_18 (by decide) (fun _ => ?_) (fun c9 => absurd (by decide) c9)
      refine lv_iconst (v := 1) hx hb dX12_noPage_25 (by decide) ?_
      refine x_callV (rest := []) (wr := []) (m_refused1 l dC dI k mo V1_1) B mV_X12_refused mw_2155 hl [0] [] rfl rfl ⟨by decide, by decide⟩ (by decide) (q0 := 0) rfl rfl rfl ⟨Nat.le_of_ble_eq_true rfl, Nat.le_of_ble_eq_true rfl⟩ (Nat.le_of_ble_eq_true rfl) rfl dX12_noPage_26 ⟨Nat.le_of_ble_eq_true rfl, Nat.le_of_ble_eq_true rfl⟩ (fun r w H locs hp B => ?_)
      obtain ⟨V1_14, z_15, z_16, rfl, rfl⟩ := hp
      have B := bd_to (ws' := [(mo, .inr (10, fvM V1_14))]) rfl B
      refine lv_if_eq (tgt := 36) hx hb dX12_noPage_29 (by decide) (fun c9 => absurd c9 (by decide)) (fun _ => ?_)
      refine lv_iconst (v := 1) hx hb dX12_noPage_32 (by decide) ?_
      refine lv_goto (tgt := 37) hx hb dX12_noPage_33 (by decide) ?_
      have B := bd_sub (ws' := [(mo, .inr (10, fvM V1_14))]) [0] (by decide) rfl B
      exact x_zret B hr (by decide) (⟨V1_14, z_16, rfl, rfl⟩) (Nat.le_of_ble_eq_true rfl) (Nat.le_of_ble_eq_true rfl) dX12_noPage_37
  · skip
    have B := bd_to (ws' := [(mo, .inr (10, fvM V1_9))]) rfl B
    refine lv_if_ne (tgt := 32) hx hb dX12_noPage_5 (by decide) (fun _ => ?_) (fun c9 => absurd c9 (by decide))
    refine lv_iconst (v := 1) hx hb dX12_noPage_32 (by decide) ?_
    refine lv_goto (tgt := 37) hx hb dX12_noPage_33 (by decide) ?_
    have B := bd_sub (ws' := [(mo, .inr (10, fvM V1_9))]) [0] (by decide) rfl B
    exact x_zret B hr (by decide) (⟨V1_9, z_11, rfl, rfl⟩) (Nat.le_of_ble_eq_true rfl) (Nat.le_of_ble_eq_true rfl) dX12_noPage_37

end
