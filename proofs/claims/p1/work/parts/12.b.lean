section
theorem mw_49 : (Jvm.Cond.methodLink "Galleyforge$Text" (3 : Nat) ({ cls := "java/lang/Object", name := "<init>", desc := "()V" } : Jvm.MethodName)) ∈ gt := gt_at 184 (by decide +kernel) (by decide +kernel)
theorem mw_50 : (Jvm.Cond.classLink "Galleyforge$Text" (9 : Nat) "java/util/ArrayList") ∈ gt := gt_at 185 (by decide +kernel) (by decide +kernel)
theorem mw_51 : (Jvm.Cond.instantiable "java/util/ArrayList" (3 : Nat)) ∈ gt := gt_at 186 (by decide +kernel) (by decide +kernel)
theorem mw_52 : (Jvm.Cond.methodLink "Galleyforge$Text" (11 : Nat) ({ cls := "java/util/ArrayList", name := "<init>", desc := "()V" } : Jvm.MethodName)) ∈ gt := gt_at 187 (by decide +kernel) (by decide +kernel)
theorem mw_53 : (Jvm.Cond.instanceMethod ({ cls := "java/util/ArrayList", name := "<init>", desc := "()V" } : Jvm.MethodName)) ∈ gt := gt_at 188 (by decide +kernel) (by decide +kernel)
theorem mw_54 : (Jvm.Cond.code ({ cls := "java/util/ArrayList", name := "<init>", desc := "()V" } : Jvm.MethodName) prog_40_method_2_code (1 : Nat) (Option.none : Option Jvm.ClassFile.FieldType)) ∈ gt := gt_at 189 (by decide +kernel) (by decide +kernel)
theorem mw_76 : (Jvm.Cond.fieldLink "Galleyforge$Text" (12 : Nat) "Galleyforge$Text" "blocks" "Ljava/util/ArrayList;") ∈ gt := gt_at 211 (by decide +kernel) (by decide +kernel)
theorem mw_81 : (Jvm.Cond.fieldLink "Galleyforge$Text" (18 : Nat) "Galleyforge$Text" "patterns" "Ljava/util/ArrayList;") ∈ gt := gt_at 216 (by decide +kernel) (by decide +kernel)
theorem mw_83 : (Jvm.Cond.fieldLink "Galleyforge$Text" (21 : Nat) "Galleyforge$Text" "figureKinds" "[I") ∈ gt := gt_at 218 (by decide +kernel) (by decide +kernel)
theorem mw_86 : (Jvm.Cond.fieldLink "Galleyforge$Text" (25 : Nat) "Galleyforge$Text" "figureHeights" "[I") ∈ gt := gt_at 221 (by decide +kernel) (by decide +kernel)
theorem mw_92 : (Jvm.Cond.fieldLink "Galleyforge$Text" (28 : Nat) "Galleyforge$Text" "keys" "[I") ∈ gt := gt_at 227 (by decide +kernel) (by decide +kernel)
theorem mw_95 : (Jvm.Cond.fieldLink "Galleyforge$Text" (31 : Nat) "Galleyforge$Text" "width" "I") ∈ gt := gt_at 230 (by decide +kernel) (by decide +kernel)
theorem mw_99 : (Jvm.Cond.fieldLink "Galleyforge$Text" (35 : Nat) "Galleyforge$Text" "height" "I") ∈ gt := gt_at 234 (by decide +kernel) (by decide +kernel)
theorem mw_120 : (Jvm.Cond.arrayClass Jvm.ClassFile.FieldType.int) ∈ gt := gt_at 255 (by decide +kernel) (by decide +kernel)
theorem mI_Jx4a65c_init_da8c8 : mI yJx4a65c_init_da8c8 cJx4a65c_init_da8c8 1 0 := ⟨⟨mw_54, mw_5, by decide, by decide, by decide +kernel⟩, mw_53, rfl⟩
theorem in_X9 : ∀ w ∈ u_ws RX9 TX9 8, w ∈ gt := in_of _ [238, 240, 242, 244, 246, 248, 250, 252] (by decide +kernel) (by decide +kernel)
theorem dX9_init_0 : decode cX9_init 0 = .ok (.aload_n 0, 1) := by decide +kernel
theorem dX9_init_1 : decode cX9_init 1 = .ok (.invokespecial 3, 3) := by decide +kernel
theorem dX9_init_4 : decode cX9_init 4 = .ok (.aload_n 0, 1) := by decide +kernel
theorem dX9_init_5 : decode cX9_init 5 = .ok (.new 9, 3) := by decide +kernel
theorem dX9_init_8 : decode cX9_init 8 = .ok (.dup, 1) := by decide +kernel
theorem dX9_init_9 : decode cX9_init 9 = .ok (.invokespecial 11, 3) := by decide +kernel
theorem dX9_init_12 : decode cX9_init 12 = .ok (.putfield 12, 3) := by decide +kernel
theorem dX9_init_15 : decode cX9_init 15 = .ok (.aload_n 0, 1) := by decide +kernel
theorem dX9_init_16 : decode cX9_init 16 = .ok (.new 9, 3) := by decide +kernel
theorem dX9_init_19 : decode cX9_init 19 = .ok (.dup, 1) := by decide +kernel
theorem dX9_init_20 : decode cX9_init 20 = .ok (.invokespecial 11, 3) := by decide +kernel
theorem dX9_init_23 : decode cX9_init 23 = .ok (.putfield 18, 3) := by decide +kernel
theorem dX9_init_26 : decode cX9_init 26 = .ok (.aload_n 0, 1) := by decide +kernel
theorem dX9_init_27 : decode cX9_init 27 = .ok (.iconst 5, 1) := by decide +kernel
theorem dX9_init_28 : decode cX9_init 28 = .ok (.newarray .int, 2) := by decide +kernel
theorem dX9_init_30 : decode cX9_init 30 = .ok (.putfield 21, 3) := by decide +kernel
theorem dX9_init_33 : decode cX9_init 33 = .ok (.aload_n 0, 1) := by decide +kernel
theorem dX9_init_34 : decode cX9_init 34 = .ok (.iconst 5, 1) := by decide +kernel
theorem dX9_init_35 : decode cX9_init 35 = .ok (.newarray .int, 2) := by decide +kernel
theorem dX9_init_37 : decode cX9_init 37 = .ok (.putfield 25, 3) := by decide +kernel
theorem dX9_init_40 : decode cX9_init 40 = .ok (.aload_n 0, 1) := by decide +kernel
theorem dX9_init_41 : decode cX9_init 41 = .ok (.bipush 8, 2) := by decide +kernel
theorem dX9_init_43 : decode cX9_init 43 = .ok (.newarray .int, 2) := by decide +kernel
theorem dX9_init_45 : decode cX9_init 45 = .ok (.putfield 28, 3) := by decide +kernel
theorem dX9_init_48 : decode cX9_init 48 = .ok (.aload_n 0, 1) := by decide +kernel
theorem dX9_init_49 : decode cX9_init 49 = .ok (.bipush 60, 2) := by decide +kernel
theorem dX9_init_51 : decode cX9_init 51 = .ok (.putfield 31, 3) := by decide +kernel
theorem dX9_init_54 : decode cX9_init 54 = .ok (.aload_n 0, 1) := by decide +kernel
theorem dX9_init_55 : decode cX9_init 55 = .ok (.bipush 12, 2) := by decide +kernel
theorem dX9_init_57 : decode cX9_init 57 = .ok (.putfield 35, 3) := by decide +kernel
theorem dX9_init_60 : decode cX9_init 60 = .ok (.return_, 1) := by decide +kernel
set_option maxHeartbeats 4000000 in
set_option maxRecDepth 100000 in
theorem c_Text_init (l : Launch) (dC : Nat → ClassId) (dI : Nat → Nat → Nat) (k : Nat → ClassId) (a : Nat) : Ct l dC dI k yX9_init (.code yX9_init cX9_init 1 none) ({ frames := 4, cells := 5, slots := 24, locals := 72 } : Room) [.ref a] [(a, .inr (8, [.null, .null, .null, .null, .int 0, .null, .int 0, .int 0]))] (fun r w => (∃ (bl : Nat) (pt : Nat) (fk : Nat) (fh : Nat) (ky : Nat), r = none ∧ w = [(a, .inr (8, [.ref bl, .ref pt, .ref fk, .ref fh, .int 0, .ref ky, .int 60, .int 12])), (bl, .inr (11, [.int 0, .ref (dI 99 1), .int 0])), (fk, .inl (k 0, 5, .inl (fun _ => 0))), (fh, .inl (k 0, 5, .inl (fun _ => 0))), (ky, .inl (k 0, 8, .inl (fun _ => 0)))])) := by
  refine ct_of (by decide) (Nat.le_of_ble_eq_true rfl) ?_
  intro p e s m args below meth c H locs B hr hnm ls hl
  have hx := B.1.1
  have hb := B.1.2.1
  have hl : lv_has ls 1 [(0, .ref a)] := hl
  refine lv_aload_n hx hb dX9_init_0 rfl (lv_at hl 0 rfl) ?_
  refine x_obj B mw_49 mw_42 mw_obj hl dX9_init_1 (Nat.le_of_ble_eq_true rfl) (Nat.le_of_ble_eq_true rfl) ?_
  refine lv_aload_n hx hb dX9_init_4 rfl (lv_at hl 0 rfl) ?_
  refine x_new (ci := 11) (fs := [.int 0, .null, .int 0]) (C := RJx4a65c) (T := TJx4a65c) (N := 3) B tyJx4a65c_ok in_Jx4a65c mw_50 mw_51 mw_5 rfl (by decide +kernel) (Nat.le_of_ble_eq_true rfl) (Nat.le_of_ble_eq_true rfl) dX9_init_5 (fun q_1 H B => ?_)
  have B := bd_to (ws' := [(a, .inr (8, [.null, .null, .null, .null, .int 0, .null, .int 0, .int 0])), (q_1, .inr (11, [.int 0, .null, .int 0]))]) rfl B
  refine lv_dup hx hb dX9_init_8 rfl ?_
  refine x_callI (rest := [.ref q_1, .ref a]) (wr := [(a, .inr (8, [.null, .null, .null, .null, .int 0, .null, .int 0, .int 0]))]) (c_List_init l dC dI k q_1) B mI_Jx4a65c_init_da8c8 mw_52 hl [1] [0] rfl rfl ⟨by decide, by decide⟩ (by decide) ⟨Nat.le_of_ble_eq_true rfl, Nat.le_of_ble_eq_true rfl⟩ (Nat.le_of_ble_eq_true rfl) rfl dX9_init_9 ⟨Nat.le_of_ble_eq_true rfl, Nat.le_of_ble_eq_true rfl⟩ (fun r w H locs hp B => ?_)
  obtain ⟨rfl, rfl⟩ := hp
  have B := bd_to (ws' := [(a, .inr (8, [.null, .null, .null, .null, .int 0, .null, .int 0, .int 0])), (q_1, .inr (11, [.int 0, .ref (dI 99 1), .int 0]))]) rfl B
  refine x_putF (ci := 8) (C := RX9) (T := TX9) (N := 8) (ty := .object "java/util/ArrayList") (v := .ref q_1) B tyX9_ok nmX9 0 rfl rfl in_X9 0 (by decide) mw_76 (fun _ h9 => h9) rfl hnm rfl (by decide +kernel) rfl rfl (Nat.le_of_ble_eq_true rfl) dX9_init_12 (fun H locs B => ?_)
  have B := bd_to (ws' := [(a, .inr (8, [.ref q_1, .null, .null, .null, .int 0, .null, .int 0, .int 0])), (q_1, .inr (11, [.int 0, .ref (dI 99 1), .int 0]))]) rfl B
  refine lv_aload_n hx hb dX9_init_15 rfl (lv_at hl 0 rfl) ?_
  refine x_new (ci := 11) (fs := [.int 0, .null, .int 0]) (C := RJx4a65c) (T := TJx4a65c) (N := 3) B tyJx4a65c_ok in_Jx4a65c mw_50 mw_51 mw_5 rfl (by decide +kernel) (Nat.le_of_ble_eq_true rfl) (Nat.le_of_ble_eq_true rfl) dX9_init_16 (fun q_2 H B => ?_)
  have B := bd_to (ws' := [(a, .inr (8, [.ref q_1, .null, .null, .null, .int 0, .null, .int 0, .int 0])), (q_1, .inr (11, [.int 0, .ref (dI 99 1), .int 0])), (q_2, .inr (11, [.int 0, .null, .int 0]))]) rfl B
  refine lv_dup hx hb dX9_init_19 rfl ?_
  refine x_callI (rest := [.ref q_2, .ref a]) (wr := [(a, .inr (8, [.ref q_1, .null, .null, .null, .int 0, .null, .int 0, .int 0])), (q_1, .inr (11, [.int 0, .ref (dI 99 1), .int 0]))]) (c_List_init l dC dI k q_2) B mI_Jx4a65c_init_da8c8 mw_52 hl [2] [0, 1] rfl rfl ⟨by decide, by decide⟩ (by decide) ⟨Nat.le_of_ble_eq_true rfl, Nat.le_of_ble_eq_true rfl⟩ (Nat.le_of_ble_eq_true rfl) rfl dX9_init_20 ⟨Nat.le_of_ble_eq_true rfl, Nat.le_of_ble_eq_true rfl⟩ (fun r w H locs hp B => ?_)
  obtain ⟨rfl, rfl⟩ := hp
  have B := bd_to (ws' := [(a, .inr (8, [.ref q_1, .null, .null, .null, .int 0, .null, .int 0, .int 0])), (q_1, .inr (11, [.int 0, .ref (dI 99 1), .int 0])), (q_2, .inr (11, [.int 0, .ref (dI 99 1), .int 0]))]) rfl B
  refine x_putF (ci := 8) (C := RX9) (T := TX9) (N := 8) (ty := .object "java/util/ArrayList") (v := .ref q_2) B tyX9_ok nmX9 0 rfl rfl in_X9 1 (by decide) mw_81 (fun _ h9 => h9) rfl hnm rfl (by decide +kernel) rfl rfl (Nat.le_of_ble_eq_true rfl) dX9_init_23 (fun H locs B => ?_)
  have B := bd_to (ws' := [(a, .inr (8, [.ref q_1, .ref q_2, .null, .null, .int 0, .null, .int 0, .int 0])), (q_1, .inr (11, [.int 0, .ref (dI 99 1), .int 0])), (q_2, .inr (11, [.int 0, .ref (dI 99 1), .int 0]))]) rfl B
  refine lv_aload_n hx hb dX9_init_26 rfl (lv_at hl 0 rfl) ?_
  refine lv_iconst (v := 5) hx hb dX9_init_27 (by decide) ?_
  refine x_newa (atype := .int) (ty := .int) (N' := 5) (a0 := (5, .inl (fun _ => 0))) B mw_120 rfl 0 rfl pr_int (fun _ => rfl) (by decide) (by decide) (Nat.le_of_ble_eq_true rfl) (Nat.le_of_ble_eq_true rfl) (Nat.le_of_ble_eq_true rfl) dX9_init_28 (fun q_3 H B => ?_)
  have B := bd_to (ws' := [(a, .inr (8, [.ref q_1, .ref q_2, .null, .null, .int 0, .null, .int 0, .int 0])), (q_1, .inr (11, [.int 0, .ref (dI 99 1), .int 0])), (q_2, .inr (11, [.int 0, .ref (dI 99 1), .int 0])), (q_3, .inl (k 0, 5, .inl (fun _ => 0)))]) rfl B
  refine x_putF (ci := 8) (C := RX9) (T := TX9) (N := 8) (ty := .array .int) (v := .ref q_3) B tyX9_ok nmX9 0 rfl rfl in_X9 2 (by decide) mw_83 (fun _ h9 => h9) rfl hnm rfl (by decide +kernel) rfl rfl (Nat.le_of_ble_eq_true rfl) dX9_init_30 (fun H locs B => ?_)
  have B := bd_to (ws' := [(a, .inr (8, [.ref q_1, .ref q_2, .ref q_3, .null, .int 0, .null, .int 0, .int 0])), (q_1, .inr (11, [.int 0, .ref (dI 99 1), .int 0])), (q_2, .inr (11, [.int 0, .ref (dI 99 1), .int 0])), (q_3, .inl (k 0, 5, .inl (fun _ => 0)))]) rfl B
  refine lv_aload_n hx hb dX9_init_33 rfl (lv_at hl 0 rfl) ?_
  refine lv_iconst (v := 5) hx hb dX9_init_34 (by decide) ?_
  refine x_newa (atype := .int) (ty := .int) (N' := 5) (a0 := (5, .inl (fun _ => 0))) B mw_120 rfl 0 rfl pr_int (fun _ => rfl) (by decide) (by decide) (Nat.le_of_ble_eq_true rfl) (Nat.le_of_ble_eq_true rfl) (Nat.le_of_ble_eq_true rfl) dX9_init_35 (fun q_4 H B => ?_)
  have B := bd_to (ws' := [(a, .inr (8, [.ref q_1, .ref q_2, .ref q_3, .null, .int 0, .null, .int 0, .int 0])), (q_1, .inr (11, [.int 0, .ref (dI 99 1), .int 0])), (q_2, .inr (11, [.int 0, .ref (dI 99 1), .int 0])), (q_3, .inl (k 0, 5, .inl (fun _ => 0))), (q_4, .inl (k 0, 5, .inl (fun _ => 0)))]) rfl B
  refine x_putF (ci := 8) (C := RX9) (T := TX9) (N := 8) (ty := .array .int) (v := .ref q_4) B tyX9_ok nmX9 0 rfl rfl in_X9 3 (by decide) mw_86 (fun _ h9 => h9) rfl hnm rfl (by decide +kernel) rfl rfl (Nat.le_of_ble_eq_true rfl) dX9_init_37 (fun H locs B => ?_)
  have B := bd_to (ws' := [(a, .inr (8, [.ref q_1, .ref q_2, .ref q_3, .ref q_4, .int 0, .null, .int 0, .int 0])), (q_1, .inr (11, [.int 0, .ref (dI 99 1), .int 0])), (q_2, .inr (11, [.int 0, .ref (dI 99 1), .int 0])), (q_3, .inl (k 0, 5, .inl (fun _ => 0))), (q_4, .inl (k 0, 5, .inl (fun _ => 0)))]) rfl B
  refine lv_aload_n hx hb dX9_init_40 rfl (lv_at hl 0 rfl) ?_
  refine lv_bipush (v := 8) hx hb dX9_init_41 (by decide) ?_
  refine x_newa (atype := .int) (ty := .int) (N' := 8) (a0 := (8, .inl (fun _ => 0))) B mw_120 rfl 0 rfl pr_int (fun _ => rfl) (by decide) (by decide) (Nat.le_of_ble_eq_true rfl) (Nat.le_of_ble_eq_true rfl) (Nat.le_of_ble_eq_true rfl) dX9_init_43 (fun q_5 H B => ?_)
  have B := bd_to (ws' := [(a, .inr (8, [.ref q_1, .ref q_2, .ref q_3, .ref q_4, .int 0, .null, .int 0, .int 0])), (q_1, .inr (11, [.int 0, .ref (dI 99 1), .int 0])), (q_2, .inr (11, [.int 0, .ref (dI 99 1), .int 0])), (q_3, .inl (k 0, 5, .inl (fun _ => 0))), (q_4, .inl (k 0, 5, .inl (fun _ => 0))), (q_5, .inl (k 0, 8, .inl (fun _ => 0)))]) rfl B
  refine x_putF (ci := 8) (C := RX9) (T := TX9) (N := 8) (ty := .array .int) (v := .ref q_5) B tyX9_ok nmX9 0 rfl rfl in_X9 5 (by decide) mw_92 (fun _ h9 => h9) rfl hnm rfl (by decide +kernel) rfl rfl (Nat.le_of_ble_eq_true rfl) dX9_init_45 (fun H locs B => ?_)
  have B := bd_to (ws' := [(a, .inr (8, [.ref q_1, .ref q_2, .ref q_3, .ref q_4, .int 0, .ref q_5, .int 0, .int 0])), (q_1, .inr (11, [.int 0, .ref (dI 99 1), .int 0])), (q_2, .inr (11, [.int 0, .ref (dI 99 1), .int 0])), (q_3, .inl (k 0, 5, .inl (fun _ => 0))), (q_4, .inl (k 0, 5, .inl (fun _ => 0))), (q_5, .inl (k 0, 8, .inl (fun _ => 0)))]) rfl B
  refine lv_aload_n hx hb dX9_init_48 rfl (lv_at hl 0 rfl) ?_
  refine lv_bipush (v := 60) hx hb dX9_init_49 (by decide) ?_
  refine x_put (ci := 8) (C := RX9) (T := TX9) (N := 8) (ty := .int) (v := .int 60) B tyX9_ok nmX9 0 rfl rfl in_X9 6 (by decide) mw_95 (fun _ h9 => h9) rfl (by decide +kernel) rfl rfl (Nat.le_of_ble_eq_true rfl) dX9_init_51 (fun H locs B => ?_)
  have B := bd_to (ws' := [(a, .inr (8, [.ref q_1, .ref q_2, .ref q_3, .ref q_4, .int 0, .ref q_5, .int 60, .int 0])), (q_1, .inr (11, [.int 0, .ref (dI 99 1), .int 0])), (q_2, .inr (11, [.int 0, .ref (dI 99 1), .int 0])), (q_3, .inl (k 0, 5, .inl (fun _ => 0))), (q_4, .inl (k 0, 5, .inl (fun _ => 0))), (q_5, .inl (k 0, 8, .inl (fun _ => 0)))]) rfl B
  refine lv_aload_n hx hb dX9_init_54 rfl (lv_at hl 0 rfl) ?_
  refine lv_bipush (v := 12) hx hb dX9_init_55 (by decide) ?_
  refine x_put (ci := 8) (C := RX9) (T := TX9) (N := 8) (ty := .int) (v := .int 12) B tyX9_ok nmX9 0 rfl rfl in_X9 7 (by decide) mw_99 (fun _ h9 => h9) rfl (by decide +kernel) rfl rfl (Nat.le_of_ble_eq_true rfl) dX9_init_57 (fun H locs B => ?_)
  have B := bd_to (ws' := [(a, .inr (8, [.ref q_1, .ref q_2, .ref q_3, .ref q_4, .int 0, .ref q_5, .int 60, .int 12])), (q_1, .inr (11, [.int 0, .ref (dI 99 1), .int 0])), (q_2, .inr (11, [.int 0, .ref (dI 99 1), .int 0])), (q_3, .inl (k 0, 5, .inl (fun _ => 0))), (q_4, .inl (k 0, 5, .inl (fun _ => 0))), (q_5, .inl (k 0, 8, .inl (fun _ => 0)))]) rfl B
  have B := bd_sub (ws' := [(a, .inr (8, [.ref q_1, .ref q_2, .ref q_3, .ref q_4, .int 0, .ref q_5, .int 60, .int 12])), (q_1, .inr (11, [.int 0, .ref (dI 99 1), .int 0])), (q_3, .inl (k 0, 5, .inl (fun _ => 0))), (q_4, .inl (k 0, 5, .inl (fun _ => 0))), (q_5, .inl (k 0, 8, .inl (fun _ => 0)))]) [0, 1, 3, 4, 5] (by decide) rfl B
  exact x_vret B hr (⟨q_1, q_2, q_3, q_4, q_5, rfl, rfl⟩) (Nat.le_of_ble_eq_true rfl) (Nat.le_of_ble_eq_true rfl) dX9_init_60

theorem mw_126 : (Jvm.Cond.methodLink "Galleyforge$Lines" (3 : Nat) ({ cls := "java/lang/Object", name := "<init>", desc := "()V" } : Jvm.MethodName)) ∈ gt := gt_at 261 (by decide +kernel) (by decide +kernel)
theorem mw_129 : (Jvm.Cond.fieldLink "Galleyforge$Lines" (9 : Nat) "Galleyforge$Lines" "wordAt" "[I") ∈ gt := gt_at 264 (by decide +kernel) (by decide +kernel)
theorem mw_131 : (Jvm.Cond.fieldLink "Galleyforge$Lines" (15 : Nat) "Galleyforge$Lines" "gapAt" "[I") ∈ gt := gt_at 266 (by decide +kernel) (by decide +kernel)
theorem mw_133 : (Jvm.Cond.fieldLink "Galleyforge$Lines" (18 : Nat) "Galleyforge$Lines" "widthTo" "[I") ∈ gt := gt_at 268 (by decide +kernel) (by decide +kernel)
theorem mw_134 : (Jvm.Cond.fieldLink "Galleyforge$Lines" (21 : Nat) "Galleyforge$Lines" "wordsTo" "[I") ∈ gt := gt_at 269 (by decide +kernel) (by decide +kernel)
theorem mw_141 : (Jvm.Cond.fieldLink "Galleyforge$Lines" (24 : Nat) "Galleyforge$Lines" "bestDemerits" "[J") ∈ gt := gt_at 276 (by decide +kernel) (by decide +kernel)
theorem mw_142 : (Jvm.Cond.fieldLink "Galleyforge$Lines" (28 : Nat) "Galleyforge$Lines" "bestLines" "[I") ∈ gt := gt_at 277 (by decide +kernel) (by decide +kernel)
theorem mw_143 : (Jvm.Cond.fieldLink "Galleyforge$Lines" (31 : Nat) "Galleyforge$Lines" "bestEnds" "[I") ∈ gt := gt_at 278 (by decide +kernel) (by decide +kernel)
theorem mw_171 : (Jvm.Cond.arrayClass Jvm.ClassFile.FieldType.long) ∈ gt := gt_at 306 (by decide +kernel) (by decide +kernel)
theorem in_X2 : ∀ w ∈ u_ws RX2 TX2 13, w ∈ gt := in_of _ [279, 281, 283, 285, 287, 289, 291, 293, 295, 297, 299, 301, 303] (by decide +kernel) (by decide +kernel)
theorem dX2_init_0 : decode cX2_init 0 = .ok (.aload_n 0, 1) := by decide +kernel
theorem dX2_init_1 : decode cX2_init 1 = .ok (.invokespecial 3, 3) := by decide +kernel
theorem dX2_init_4 : decode cX2_init 4 = .ok (.aload_n 0, 1) := by decide +kernel
theorem dX2_init_5 : decode cX2_init 5 = .ok (.bipush 49, 2) := by decide +kernel
theorem dX2_init_7 : decode cX2_init 7 = .ok (.newarray .int, 2) := by decide +kernel
theorem dX2_init_9 : decode cX2_init 9 = .ok (.putfield 9, 3) := by decide +kernel
theorem dX2_init_12 : decode cX2_init 12 = .ok (.aload_n 0, 1) := by decide +kernel
theorem dX2_init_13 : decode cX2_init 13 = .ok (.bipush 49, 2) := by decide +kernel
theorem dX2_init_15 : decode cX2_init 15 = .ok (.newarray .int, 2) := by decide +kernel
theorem dX2_init_17 : decode cX2_init 17 = .ok (.putfield 15, 3) := by decide +kernel
theorem dX2_init_20 : decode cX2_init 20 = .ok (.aload_n 0, 1) := by decide +kernel
theorem dX2_init_21 : decode cX2_init 21 = .ok (.bipush 49, 2) := by decide +kernel
theorem dX2_init_23 : decode cX2_init 23 = .ok (.newarray .int, 2) := by decide +kernel
theorem dX2_init_25 : decode cX2_init 25 = .ok (.putfield 18, 3) := by decide +kernel
theorem dX2_init_28 : decode cX2_init 28 = .ok (.aload_n 0, 1) := by decide +kernel
theorem dX2_init_29 : decode cX2_init 29 = .ok (.bipush 49, 2) := by decide +kernel
theorem dX2_init_31 : decode cX2_init 31 = .ok (.newarray .int, 2) := by decide +kernel
theorem dX2_init_33 : decode cX2_init 33 = .ok (.putfield 21, 3) := by decide +kernel
theorem dX2_init_36 : decode cX2_init 36 = .ok (.aload_n 0, 1) := by decide +kernel
theorem dX2_init_37 : decode cX2_init 37 = .ok (.sipush 980, 3) := by decide +kernel
theorem dX2_init_40 : decode cX2_init 40 = .ok (.newarray .long, 2) := by decide +kernel
theorem dX2_init_42 : decode cX2_init 42 = .ok (.putfield 24, 3) := by decide +kernel
theorem dX2_init_45 : decode cX2_init 45 = .ok (.aload_n 0, 1) := by decide +kernel
theorem dX2_init_46 : decode cX2_init 46 = .ok (.sipush 980, 3) := by decide +kernel
theorem dX2_init_49 : decode cX2_init 49 = .ok (.newarray .int, 2) := by decide +kernel
theorem dX2_init_51 : decode cX2_init 51 = .ok (.putfield 28, 3) := by decide +kernel
theorem dX2_init_54 : decode cX2_init 54 = .ok (.aload_n 0, 1) := by decide +kernel
theorem dX2_init_55 : decode cX2_init 55 = .ok (.sipush 980, 3) := by decide +kernel
theorem dX2_init_58 : decode cX2_init 58 = .ok (.newarray .int, 2) := by decide +kernel
theorem dX2_init_60 : decode cX2_init 60 = .ok (.putfield 31, 3) := by decide +kernel
theorem dX2_init_63 : decode cX2_init 63 = .ok (.return_, 1) := by decide +kernel
set_option maxHeartbeats 4000000 in
set_option maxRecDepth 100000 in
theorem c_Lines_init (l : Launch) (dC : Nat → ClassId) (dI : Nat → Nat → Nat) (k : Nat → ClassId) (a : Nat) : Ct l dC dI k yX2_init (.code yX2_init cX2_init 1 none) ({ frames := 1, cells := 7, slots := 3136, locals := 12 } : Room) [.ref a] [(a, .inr (2, [.int 0, .null, .null, .null, .null, .int 0, .int 0, .int 0, .int 0, .int 0, .null, .null, .null]))] (fun r w => (r = none ∧ w = [])) := by
  refine ct_of (by decide) (Nat.le_of_ble_eq_true rfl) ?_
  intro p e s m args below meth c H locs B hr hnm ls hl
  have hx := B.1.1
  have hb := B.1.2.1
  have hl : lv_has ls 1 [(0, .ref a)] := hl
  refine lv_aload_n hx hb dX2_init_0 rfl (lv_at hl 0 rfl) ?_
  refine x_obj B mw_126 mw_42 mw_obj hl dX2_init_1 (Nat.le_of_ble_eq_true rfl) (Nat.le_of_ble_eq_true rfl) ?_
  refine lv_aload_n hx hb dX2_init_4 rfl (lv_at hl 0 rfl) ?_
  refine lv_bipush (v := 49) hx hb dX2_init_5 (by decide) ?_
  refine x_newa (atype := .int) (ty := .int) (N' := 49) (a0 := (49, .inl (fun _ => 0))) B mw_120 rfl 0 rfl pr_int (fun _ => rfl) (by decide) (by decide) (Nat.le_of_ble_eq_true rfl) (Nat.le_of_ble_eq_true rfl) (Nat.le_of_ble_eq_true rfl) dX2_init_7 (fun q_1 H B => ?_)
  have B := bd_to (ws' := [(a, .inr (2, [.int 0, .null, .null, .null, .null, .int 0, .int 0, .int 0, .int 0, .int 0, .null, .null, .null])), (q_1, .inl (k 0, 49, .inl (fun _ => 0)))]) rfl B
  refine x_putF (ci := 2) (C := RX2) (T := TX2) (N := 13) (ty := .array .int) (v := .ref q_1) B tyX2_ok nmX2 0 rfl rfl in_X2 1 (by decide) mw_129 (fun _ h9 => h9) rfl hnm rfl (by decide +kernel) rfl rfl (Nat.le_of_ble_eq_true rfl) dX2_init_9 (fun H locs B => ?_)
  have B := bd_to (ws' := [(a, .inr (2, [.int 0, .ref q_1, .null, .null, .null, .int 0, .int 0, .int 0, .int 0, .int 0, .null, .null, .null])), (q_1, .inl (k 0, 49, .inl (fun _ => 0)))]) rfl B
  refine lv_aload_n hx hb dX2_init_12 rfl (lv_at hl 0 rfl) ?_
  refine lv_bipush (v := 49) hx hb dX2_init_13 (by decide) ?_
  refine x_newa (atype := .int) (ty := .int) (N' := 49) (a0 := (49, .inl (fun _ => 0))) B mw_120 rfl 0 rfl pr_int (fun _ => rfl) (by decide) (by decide) (Nat.le_of_ble_eq_true rfl) (Nat.le_of_ble_eq_true rfl) (Nat.le_of_ble_eq_true rfl) dX2_init_15 (fun q_2 H B => ?_)
  have B := bd_to (ws' := [(a, .inr (2, [.int 0, .ref q_1, .null, .null, .null, .int 0, .int 0, .int 0, .int 0, .int 0, .null, .null, .null])), (q_1, .inl (k 0, 49, .inl (fun _ => 0))), (q_2, .inl (k 0, 49, .inl (fun _ => 0)))]) rfl B
  refine x_putF (ci := 2) (C := RX2) (T := TX2) (N := 13) (ty := .array .int) (v := .ref q_2) B tyX2_ok nmX2 0 rfl rfl in_X2 2 (by decide) mw_131 (fun _ h9 => h9) rfl hnm rfl (by decide +kernel) rfl rfl (Nat.le_of_ble_eq_true rfl) dX2_init_17 (fun H locs B => ?_)
  have B := bd_to (ws' := [(a, .inr (2, [.int 0, .ref q_1, .ref q_2, .null, .null, .int 0, .int 0, .int 0, .int 0, .int 0, .null, .null, .null])), (q_1, .inl (k 0, 49, .inl (fun _ => 0))), (q_2, .inl (k 0, 49, .inl (fun _ => 0)))]) rfl B
  refine lv_aload_n hx hb dX2_init_20 rfl (lv_at hl 0 rfl) ?_
  refine lv_bipush (v := 49) hx hb dX2_init_21 (by decide) ?_
  refine x_newa (atype := .int) (ty := .int) (N' := 49) (a0 := (49, .inl (fun _ => 0))) B mw_120 rfl 0 rfl pr_int (fun _ => rfl) (by decide) (by decide) (Nat.le_of_ble_eq_true rfl) (Nat.le_of_ble_eq_true rfl) (Nat.le_of_ble_eq_true rfl) dX2_init_23 (fun q_3 H B => ?_)
  have B := bd_to (ws' := [(a, .inr (2, [.int 0, .ref q_1, .ref q_2, .null, .null, .int 0, .int 0, .int 0, .int 0, .int 0, .null, .null, .null])), (q_1, .inl (k 0, 49, .inl (fun _ => 0))), (q_2, .inl (k 0, 49, .inl (fun _ => 0))), (q_3, .inl (k 0, 49, .inl (fun _ => 0)))]) rfl B
  refine x_putF (ci := 2) (C := RX2) (T := TX2) (N := 13) (ty := .array .int) (v := .ref q_3) B tyX2_ok nmX2 0 rfl rfl in_X2 3 (by decide) mw_133 (fun _ h9 => h9) rfl hnm rfl (by decide +kernel) rfl rfl (Nat.le_of_ble_eq_true rfl) dX2_init_25 (fun H locs B => ?_)
  have B := bd_to (ws' := [(a, .inr (2, [.int 0, .ref q_1, .ref q_2, .ref q_3, .null, .int 0, .int 0, .int 0, .int 0, .int 0, .null, .null, .null])), (q_1, .inl (k 0, 49, .inl (fun _ => 0))), (q_2, .inl (k 0, 49, .inl (fun _ => 0))), (q_3, .inl (k 0, 49, .inl (fun _ => 0)))]) rfl B
  refine lv_aload_n hx hb dX2_init_28 rfl (lv_at hl 0 rfl) ?_
  refine lv_bipush (v := 49) hx hb dX2_init_29 (by decide) ?_
  refine x_newa (atype := .int) (ty := .int) (N' := 49) (a0 := (49, .inl (fun _ => 0))) B mw_120 rfl 0 rfl pr_int (fun _ => rfl) (by decide) (by decide) (Nat.le_of_ble_eq_true rfl) (Nat.le_of_ble_eq_true rfl) (Nat.le_of_ble_eq_true rfl) dX2_init_31 (fun q_4 H B => ?_)
  have B := bd_to (ws' := [(a, .inr (2, [.int 0, .ref q_1, .ref q_2, .ref q_3, .null, .int 0, .int 0, .int 0, .int 0, .int 0, .null, .null, .null])), (q_1, .inl (k 0, 49, .inl (fun _ => 0))), (q_2, .inl (k 0, 49, .inl (fun _ => 0))), (q_3, .inl (k 0, 49, .inl (fun _ => 0))), (q_4, .inl (k 0, 49, .inl (fun _ => 0)))]) rfl B
  refine x_putF (ci := 2) (C := RX2) (T := TX2) (N := 13) (ty := .array .int) (v := .ref q_4) B tyX2_ok nmX2 0 rfl rfl in_X2 4 (by decide) mw_134 (fun _ h9 => h9) rfl hnm rfl (by decide +kernel) rfl rfl (Nat.le_of_ble_eq_true rfl) dX2_init_33 (fun H locs B => ?_)
  have B := bd_to (ws' := [(a, .inr (2, [.int 0, .ref q_1, .ref q_2, .ref q_3, .ref q_4, .int 0, .int 0, .int 0, .int 0, .int 0, .null, .null, .null])), (q_1, .inl (k 0, 49, .inl (fun _ => 0))), (q_2, .inl (k 0, 49, .inl (fun _ => 0))), (q_3, .inl (k 0, 49, .inl (fun _ => 0))), (q_4, .inl (k 0, 49, .inl (fun _ => 0)))]) rfl B
  refine lv_aload_n hx hb dX2_init_36 rfl (lv_at hl 0 rfl) ?_
  refine lv_sipush (v := 980) hx hb dX2_init_37 (by decide) ?_
  refine x_newa (atype := .long) (ty := .long) (N' := 980) (a0 := (980, .inr (.inl (fun _ => 0)))) B mw_171 rfl 2 rfl pr_long (fun _ => rfl) (by decide) (by decide) (Nat.le_of_ble_eq_true rfl) (Nat.le_of_ble_eq_true rfl) (Nat.le_of_ble_eq_true rfl) dX2_init_40 (fun q_5 H B => ?_)
  have B := bd_to (ws' := [(a, .inr (2, [.int 0, .ref q_1, .ref q_2, .ref q_3, .ref q_4, .int 0, .int 0, .int 0, .int 0, .int 0, .null, .null, .null])), (q_1, .inl (k 0, 49, .inl (fun _ => 0))), (q_2, .inl (k 0, 49, .inl (fun _ => 0))), (q_3, .inl (k 0, 49, .inl (fun _ => 0))), (q_4, .inl (k 0, 49, .inl (fun _ => 0))), (q_5, .inl (k 2, 980, .inr (.inl (fun _ => 0))))]) rfl B
  refine x_putF (ci := 2) (C := RX2) (T := TX2) (N := 13) (ty := .array .long) (v := .ref q_5) B tyX2_ok nmX2 0 rfl rfl in_X2 10 (by decide) mw_141 (fun _ h9 => h9) rfl hnm rfl (by decide +kernel) rfl rfl (Nat.le_of_ble_eq_true rfl) dX2_init_42 (fun H locs B => ?_)
  have B := bd_to (ws' := [(a, .inr (2, [.int 0, .ref q_1, .ref q_2, .ref q_3, .ref q_4, .int 0, .int 0, .int 0, .int 0, .int 0, .ref q_5, .null, .null])), (q_1, .inl (k 0, 49, .inl (fun _ => 0))), (q_2, .inl (k 0, 49, .inl (fun _ => 0))), (q_3, .inl (k 0, 49, .inl (fun _ => 0))), (q_4, .inl (k 0, 49, .inl (fun _ => 0))), (q_5, .inl (k 2, 980, .inr (.inl (fun _ => 0))))]) rfl B
  refine lv_aload_n hx hb dX2_init_45 rfl (lv_at hl 0 rfl) ?_
  refine lv_sipush (v := 980) hx hb dX2_init_46 (by decide) ?_
  refine x_newa (atype := .int) (ty := .int) (N' := 980) (a0 := (980, .inl (fun _ => 0))) B mw_120 rfl 0 rfl pr_int (fun _ => rfl) (by decide) (by decide) (Nat.le_of_ble_eq_true rfl) (Nat.le_of_ble_eq_true rfl) (Nat.le_of_ble_eq_true rfl) dX2_init_49 (fun q_6 H B => ?_)
  have B := bd_to (ws' := [(a, .inr (2, [.int 0, .ref q_1, .ref q_2, .ref q_3, .ref q_4, .int 0, .int 0, .int 0, .int 0, .int 0, .ref q_5, .null, .null])), (q_1, .inl (k 0, 49, .inl (fun _ => 0))), (q_2, .inl (k 0, 49, .inl (fun _ => 0))), (q_3, .inl (k 0, 49, .inl (fun _ => 0))), (q_4, .inl (k 0, 49, .inl (fun _ => 0))), (q_5, .inl (k 2, 980, .inr (.inl (fun _ => 0)))), (q_6, .inl (k 0, 980, .inl (fun _ => 0)))]) rfl B
  refine x_putF (ci := 2) (C := RX2) (T := TX2) (N := 13) (ty := .array .int) (v := .ref q_6) B tyX2_ok nmX2 0 rfl rfl in_X2 11 (by decide) mw_142 (fun _ h9 => h9) rfl hnm rfl (by decide +kernel) rfl rfl (Nat.le_of_ble_eq_true rfl) dX2_init_51 (fun H locs B => ?_)
  have B := bd_to (ws' := [(a, .inr (2, [.int 0, .ref q_1, .ref q_2, .ref q_3, .ref q_4, .int 0, .int 0, .int 0, .int 0, .int 0, .ref q_5, .ref q_6, .null])), (q_1, .inl (k 0, 49, .inl (fun _ => 0))), (q_2, .inl (k 0, 49, .inl (fun _ => 0))), (q_3, .inl (k 0, 49, .inl (fun _ => 0))), (q_4, .inl (k 0, 49, .inl (fun _ => 0))), (q_5, .inl (k 2, 980, .inr (.inl (fun _ => 0)))), (q_6, .inl (k 0, 980, .inl (fun _ => 0)))]) rfl B
  refine lv_aload_n hx hb dX2_init_54 rfl (lv_at hl 0 rfl) ?_
  refine lv_sipush (v := 980) hx hb dX2_init_55 (by decide) ?_
  refine x_newa (atype := .int) (ty := .int) (N' := 980) (a0 := (980, .inl (fun _ => 0))) B mw_120 rfl 0 rfl pr_int (fun _ => rfl) (by decide) (by decide) (Nat.le_of_ble_eq_true rfl) (Nat.le_of_ble_eq_true rfl) (Nat.le_of_ble_eq_true rfl) dX2_init_58 (fun q_7 H B => ?_)
  have B := bd_to (ws' := [(a, .inr (2, [.int 0, .ref q_1, .ref q_2, .ref q_3, .ref q_4, .int 0, .int 0, .int 0, .int 0, .int 0, .ref q_5, .ref q_6, .null])), (q_1, .inl (k 0, 49, .inl (fun _ => 0))), (q_2, .inl (k 0, 49, .inl (fun _ => 0))), (q_3, .inl (k 0, 49, .inl (fun _ => 0))), (q_4, .inl (k 0, 49, .inl (fun _ => 0))), (q_5, .inl (k 2, 980, .inr (.inl (fun _ => 0)))), (q_6, .inl (k 0, 980, .inl (fun _ => 0))), (q_7, .inl (k 0, 980, .inl (fun _ => 0)))]) rfl B
  refine x_putF (ci := 2) (C := RX2) (T := TX2) (N := 13) (ty := .array .int) (v := .ref q_7) B tyX2_ok nmX2 0 rfl rfl in_X2 12 (by decide) mw_143 (fun _ h9 => h9) rfl hnm rfl (by decide +kernel) rfl rfl (Nat.le_of_ble_eq_true rfl) dX2_init_60 (fun H locs B => ?_)
  have B := bd_to (ws' := [(a, .inr (2, [.int 0, .ref q_1, .ref q_2, .ref q_3, .ref q_4, .int 0, .int 0, .int 0, .int 0, .int 0, .ref q_5, .ref q_6, .ref q_7])), (q_1, .inl (k 0, 49, .inl (fun _ => 0))), (q_2, .inl (k 0, 49, .inl (fun _ => 0))), (q_3, .inl (k 0, 49, .inl (fun _ => 0))), (q_4, .inl (k 0, 49, .inl (fun _ => 0))), (q_5, .inl (k 2, 980, .inr (.inl (fun _ => 0)))), (q_6, .inl (k 0, 980, .inl (fun _ => 0))), (q_7, .inl (k 0, 980, .inl (fun _ => 0)))]) rfl B
  have B := bd_sub (ws' := []) [] (by decide) rfl B
  exact x_vret B hr (⟨rfl, rfl⟩) (Nat.le_of_ble_eq_true rfl) (Nat.le_of_ble_eq_true rfl) dX2_init_63

theorem mw_177 : (Jvm.Cond.methodLink "Galleyforge$States" (3 : Nat) ({ cls := "java/lang/Object", name := "<init>", desc := "()V" } : Jvm.MethodName)) ∈ gt := gt_at 312 (by decide +kernel) (by decide +kernel)
theorem mw_178 : (Jvm.Cond.fieldLink "Galleyforge$States" (9 : Nat) "Galleyforge$States" "firsts" "[I") ∈ gt := gt_at 313 (by decide +kernel) (by decide +kernel)
theorem mw_180 : (Jvm.Cond.fieldLink "Galleyforge$States" (15 : Nat) "Galleyforge$States" "nexts" "[I") ∈ gt := gt_at 315 (by decide +kernel) (by decide +kernel)
theorem mw_182 : (Jvm.Cond.fieldLink "Galleyforge$States" (18 : Nat) "Galleyforge$States" "waits" "[I") ∈ gt := gt_at 317 (by decide +kernel) (by decide +kernel)
theorem mw_184 : (Jvm.Cond.fieldLink "Galleyforge$States" (21 : Nat) "Galleyforge$States" "lefts" "[I") ∈ gt := gt_at 319 (by decide +kernel) (by decide +kernel)
theorem mw_186 : (Jvm.Cond.fieldLink "Galleyforge$States" (24 : Nat) "Galleyforge$States" "costs" "[I") ∈ gt := gt_at 321 (by decide +kernel) (by decide +kernel)
theorem mw_188 : (Jvm.Cond.fieldLink "Galleyforge$States" (27 : Nat) "Galleyforge$States" "pages" "[I") ∈ gt := gt_at 323 (by decide +kernel) (by decide +kernel)
theorem mw_190 : (Jvm.Cond.fieldLink "Galleyforge$States" (30 : Nat) "Galleyforge$States" "rows" "[I") ∈ gt := gt_at 325 (by decide +kernel) (by decide +kernel)
theorem in_X7 : ∀ w ∈ u_ws RX7 TX7 8, w ∈ gt := in_of _ [329, 331, 333, 335, 337, 339, 341, 343] (by decide +kernel) (by decide +kernel)
theorem dX7_init_0 : decode cX7_init 0 = .ok (.aload_n 0, 1) := by decide +kernel
theorem dX7_init_1 : decode cX7_init 1 = .ok (.invokespecial 3, 3) := by decide +kernel
theorem dX7_init_4 : decode cX7_init 4 = .ok (.aload_n 0, 1) := by decide +kernel
theorem dX7_init_5 : decode cX7_init 5 = .ok (.sipush 768, 3) := by decide +kernel
theorem dX7_init_8 : decode cX7_init 8 = .ok (.newarray .int, 2) := by decide +kernel
theorem dX7_init_10 : decode cX7_init 10 = .ok (.putfield 9, 3) := by decide +kernel
theorem dX7_init_13 : decode cX7_init 13 = .ok (.aload_n 0, 1) := by decide +kernel
theorem dX7_init_14 : decode cX7_init 14 = .ok (.sipush 512, 3) := by decide +kernel
theorem dX7_init_17 : decode cX7_init 17 = .ok (.newarray .int, 2) := by decide +kernel
theorem dX7_init_19 : decode cX7_init 19 = .ok (.putfield 15, 3) := by decide +kernel
theorem dX7_init_22 : decode cX7_init 22 = .ok (.aload_n 0, 1) := by decide +kernel
theorem dX7_init_23 : decode cX7_init 23 = .ok (.sipush 512, 3) := by decide +kernel
theorem dX7_init_26 : decode cX7_init 26 = .ok (.newarray .int, 2) := by decide +kernel
theorem dX7_init_28 : decode cX7_init 28 = .ok (.putfield 18, 3) := by decide +kernel
theorem dX7_init_31 : decode cX7_init 31 = .ok (.aload_n 0, 1) := by decide +kernel
theorem dX7_init_32 : decode cX7_init 32 = .ok (.sipush 512, 3) := by decide +kernel
theorem dX7_init_35 : decode cX7_init 35 = .ok (.newarray .int, 2) := by decide +kernel
theorem dX7_init_37 : decode cX7_init 37 = .ok (.putfield 21, 3) := by decide +kernel
theorem dX7_init_40 : decode cX7_init 40 = .ok (.aload_n 0, 1) := by decide +kernel
theorem dX7_init_41 : decode cX7_init 41 = .ok (.sipush 512, 3) := by decide +kernel
theorem dX7_init_44 : decode cX7_init 44 = .ok (.newarray .int, 2) := by decide +kernel
theorem dX7_init_46 : decode cX7_init 46 = .ok (.putfield 24, 3) := by decide +kernel
theorem dX7_init_49 : decode cX7_init 49 = .ok (.aload_n 0, 1) := by decide +kernel
theorem dX7_init_50 : decode cX7_init 50 = .ok (.sipush 512, 3) := by decide +kernel
theorem dX7_init_53 : decode cX7_init 53 = .ok (.newarray .int, 2) := by decide +kernel
theorem dX7_init_55 : decode cX7_init 55 = .ok (.putfield 27, 3) := by decide +kernel
theorem dX7_init_58 : decode cX7_init 58 = .ok (.aload_n 0, 1) := by decide +kernel
theorem dX7_init_59 : decode cX7_init 59 = .ok (.sipush 512, 3) := by decide +kernel
theorem dX7_init_62 : decode cX7_init 62 = .ok (.newarray .int, 2) := by decide +kernel
theorem dX7_init_64 : decode cX7_init 64 = .ok (.putfield 30, 3) := by decide +kernel
theorem dX7_init_67 : decode cX7_init 67 = .ok (.return_, 1) := by decide +kernel
set_option maxHeartbeats 4000000 in
set_option maxRecDepth 100000 in
theorem c_States_init (l : Launch) (dC : Nat → ClassId) (dI : Nat → Nat → Nat) (k : Nat → ClassId) (a : Nat) : Ct l dC dI k yX7_init (.code yX7_init cX7_init 1 none) ({ frames := 1, cells := 7, slots := 3840, locals := 12 } : Room) [.ref a] [(a, .inr (6, [.null, .null, .null, .null, .null, .null, .null, .int 0]))] (fun r w => (r = none ∧ w = [])) := by
  refine ct_of (by decide) (Nat.le_of_ble_eq_true rfl) ?_
  intro p e s m args below meth c H locs B hr hnm ls hl
  have hx := B.1.1
  have hb := B.1.2.1
  have hl : lv_has ls 1 [(0, .ref a)] := hl
  refine lv_aload_n hx hb dX7_init_0 rfl (lv_at hl 0 rfl) ?_
  refine x_obj B mw_177 mw_42 mw_obj hl dX7_init_1 (Nat.le_of_ble_eq_true rfl) (Nat.le_of_ble_eq_true rfl) ?_
  refine lv_aload_n hx hb dX7_init_4 rfl (lv_at hl 0 rfl) ?_
  refine lv_sipush (v := 768) hx hb dX7_init_5 (by decide) ?_
  refine x_newa (atype := .int) (ty := .int) (N' := 768) (a0 := (768, .inl (fun _ => 0))) B mw_120 rfl 0 rfl pr_int (fun _ => rfl) (by decide) (by decide) (Nat.le_of_ble_eq_true rfl) (Nat.le_of_ble_eq_true rfl) (Nat.le_of_ble_eq_true rfl) dX7_init_8 (fun q_1 H B => ?_)
  have B := bd_to (ws' := [(a, .inr (6, [.null, .null, .null, .null, .null, .null, .null, .int 0])), (q_1, .inl (k 0, 768, .inl (fun _ => 0)))]) rfl B
  refine x_putF (ci := 6) (C := RX7) (T := TX7) (N := 8) (ty := .array .int) (v := .ref q_1) B tyX7_ok nmX7 0 rfl rfl in_X7 0 (by decide) mw_178 (fun _ h9 => h9) rfl hnm rfl (by decide +kernel) rfl rfl (Nat.le_of_ble_eq_true rfl) dX7_init_10 (fun H locs B => ?_)
  have B := bd_to (ws' := [(a, .inr (6, [.ref q_1, .null, .null, .null, .null, .null, .null, .int 0])), (q_1, .inl (k 0, 768, .inl (fun _ => 0)))]) rfl B
  refine lv_aload_n hx hb dX7_init_13 rfl (lv_at hl 0 rfl) ?_
  refine lv_sipush (v := 512) hx hb dX7_init_14 (by decide) ?_
  refine x_newa (atype := .int) (ty := .int) (N' := 512) (a0 := (512, .inl (fun _ => 0))) B mw_120 rfl 0 rfl pr_int (fun _ => rfl) (by decide) (by decide) (Nat.le_of_ble_eq_true rfl) (Nat.le_of_ble_eq_true rfl) (Nat.le_of_ble_eq_true rfl) dX7_init_17 (fun q_2 H B => ?_)
  have B := bd_to (ws' := [(a, .inr (6, [.ref q_1, .null, .null, .null, .null, .null, .null, .int 0])), (q_1, .inl (k 0, 768, .inl (fun _ => 0))), (q_2, .inl (k 0, 512, .inl (fun _ => 0)))]) rfl B
  refine x_put (ci := 6) (C := RX7) (T := TX7) (N := 8) (ty := .array .int) (v := .ref q_2) B tyX7_ok nmX7 0 rfl rfl in_X7 1 (by decide) mw_180 (fun _ h9 => h9) rfl (by decide +kernel) rfl rfl (Nat.le_of_ble_eq_true rfl) dX7_init_19 (fun H locs B => ?_)
  have B := bd_to (ws' := [(a, .inr (6, [.ref q_1, .ref q_2, .null, .null, .null, .null, .null, .int 0])), (q_1, .inl (k 0, 768, .inl (fun _ => 0))), (q_2, .inl (k 0, 512, .inl (fun _ => 0)))]) rfl B
  refine lv_aload_n hx hb dX7_init_22 rfl (lv_at hl 0 rfl) ?_
  refine lv_sipush (v := 512) hx hb dX7_init_23 (by decide) ?_
  refine x_newa (atype := .int) (ty := .int) (N' := 512) (a0 := (512, .inl (fun _ => 0))) B mw_120 rfl 0 rfl pr_int (fun _ => rfl) (by decide) (by decide) (Nat.le_of_ble_eq_true rfl) (Nat.le_of_ble_eq_true rfl) (Nat.le_of_ble_eq_true rfl) dX7_init_26 (fun q_3 H B => ?_)
  have B := bd_to (ws' := [(a, .inr (6, [.ref q_1, .ref q_2, .null, .null, .null, .null, .null, .int 0])), (q_1, .inl (k 0, 768, .inl (fun _ => 0))), (q_2, .inl (k 0, 512, .inl (fun _ => 0))), (q_3, .inl (k 0, 512, .inl (fun _ => 0)))]) rfl B
  refine x_put (ci := 6) (C := RX7) (T := TX7) (N := 8) (ty := .array .int) (v := .ref q_3) B tyX7_ok nmX7 0 rfl rfl in_X7 2 (by decide) mw_182 (fun _ h9 => h9) rfl (by decide +kernel) rfl rfl (Nat.le_of_ble_eq_true rfl) dX7_init_28 (fun H locs B => ?_)
  have B := bd_to (ws' := [(a, .inr (6, [.ref q_1, .ref q_2, .ref q_3, .null, .null, .null, .null, .int 0])), (q_1, .inl (k 0, 768, .inl (fun _ => 0))), (q_2, .inl (k 0, 512, .inl (fun _ => 0))), (q_3, .inl (k 0, 512, .inl (fun _ => 0)))]) rfl B
  refine lv_aload_n hx hb dX7_init_31 rfl (lv_at hl 0 rfl) ?_
  refine lv_sipush (v := 512) hx hb dX7_init_32 (by decide) ?_
  refine x_newa (atype := .int) (ty := .int) (N' := 512) (a0 := (512, .inl (fun _ => 0))) B mw_120 rfl 0 rfl pr_int (fun _ => rfl) (by decide) (by decide) (Nat.le_of_ble_eq_true rfl) (Nat.le_of_ble_eq_true rfl) (Nat.le_of_ble_eq_true rfl) dX7_init_35 (fun q_4 H B => ?_)
  have B := bd_to (ws' := [(a, .inr (6, [.ref q_1, .ref q_2, .ref q_3, .null, .null, .null, .null, .int 0])), (q_1, .inl (k 0, 768, .inl (fun _ => 0))), (q_2, .inl (k 0, 512, .inl (fun _ => 0))), (q_3, .inl (k 0, 512, .inl (fun _ => 0))), (q_4, .inl (k 0, 512, .inl (fun _ => 0)))]) rfl B
  refine x_put (ci := 6) (C := RX7) (T := TX7) (N := 8) (ty := .array .int) (v := .ref q_4) B tyX7_ok nmX7 0 rfl rfl in_X7 3 (by decide) mw_184 (fun _ h9 => h9) rfl (by decide +kernel) rfl rfl (Nat.le_of_ble_eq_true rfl) dX7_init_37 (fun H locs B => ?_)
  have B := bd_to (ws' := [(a, .inr (6, [.ref q_1, .ref q_2, .ref q_3, .ref q_4, .null, .null, .null, .int 0])), (q_1, .inl (k 0, 768, .inl (fun _ => 0))), (q_2, .inl (k 0, 512, .inl (fun _ => 0))), (q_3, .inl (k 0, 512, .inl (fun _ => 0))), (q_4, .inl (k 0, 512, .inl (fun _ => 0)))]) rfl B
  refine lv_aload_n hx hb dX7_init_40 rfl (lv_at hl 0 rfl) ?_
  refine lv_sipush (v := 512) hx hb dX7_init_41 (by decide) ?_
  refine x_newa (atype := .int) (ty := .int) (N' := 512) (a0 := (512, .inl (fun _ => 0))) B mw_120 rfl 0 rfl pr_int (fun _ => rfl) (by decide) (by decide) (Nat.le_of_ble_eq_true rfl) (Nat.le_of_ble_eq_true rfl) (Nat.le_of_ble_eq_true rfl) dX7_init_44 (fun q_5 H B => ?_)
  have B := bd_to (ws' := [(a, .inr (6, [.ref q_1, .ref q_2, .ref q_3, .ref q_4, .null, .null, .null, .int 0])), (q_1, .inl (k 0, 768, .inl (fun _ => 0))), (q_2, .inl (k 0, 512, .inl (fun _ => 0))), (q_3, .inl (k 0, 512, .inl (fun _ => 0))), (q_4, .inl (k 0, 512, .inl (fun _ => 0))), (q_5, .inl (k 0, 512, .inl (fun _ => 0)))]) rfl B
  refine x_put (ci := 6) (C := RX7) (T := TX7) (N := 8) (ty := .array .int) (v := .ref q_5) B tyX7_ok nmX7 0 rfl rfl in_X7 4 (by decide) mw_186 (fun _ h9 => h9) rfl (by decide +kernel) rfl rfl (Nat.le_of_ble_eq_true rfl) dX7_init_46 (fun H locs B => ?_)
  have B := bd_to (ws' := [(a, .inr (6, [.ref q_1, .ref q_2, .ref q_3, .ref q_4, .ref q_5, .null, .null, .int 0])), (q_1, .inl (k 0, 768, .inl (fun _ => 0))), (q_2, .inl (k 0, 512, .inl (fun _ => 0))), (q_3, .inl (k 0, 512, .inl (fun _ => 0))), (q_4, .inl (k 0, 512, .inl (fun _ => 0))), (q_5, .inl (k 0, 512, .inl (fun _ => 0)))]) rfl B
  refine lv_aload_n hx hb dX7_init_49 rfl (lv_at hl 0 rfl) ?_
  refine lv_sipush (v := 512) hx hb dX7_init_50 (by decide) ?_
  refine x_newa (atype := .int) (ty := .int) (N' := 512) (a0 := (512, .inl (fun _ => 0))) B mw_120 rfl 0 rfl pr_int (fun _ => rfl) (by decide) (by decide) (Nat.le_of_ble_eq_true rfl) (Nat.le_of_ble_eq_true rfl) (Nat.le_of_ble_eq_true rfl) dX7_init_53 (fun q_6 H B => ?_)
  have B := bd_to (ws' := [(a, .inr (6, [.ref q_1, .ref q_2, .ref q_3, .ref q_4, .ref q_5, .null, .null, .int 0])), (q_1, .inl (k 0, 768, .inl (fun _ => 0))), (q_2, .inl (k 0, 512, .inl (fun _ => 0))), (q_3, .inl (k 0, 512, .inl (fun _ => 0))), (q_4, .inl (k 0, 512, .inl (fun _ => 0))), (q_5, .inl (k 0, 512, .inl (fun _ => 0))), (q_6, .inl (k 0, 512, .inl (fun _ => 0)))]) rfl B
  refine x_put (ci := 6) (C := RX7) (T := TX7) (N := 8) (ty := .array .int) (v := .ref q_6) B tyX7_ok nmX7 0 rfl rfl in_X7 5 (by decide) mw_188 (fun _ h9 => h9) rfl (by decide +kernel) rfl rfl (Nat.le_of_ble_eq_true rfl) dX7_init_55 (fun H locs B => ?_)
  have B := bd_to (ws' := [(a, .inr (6, [.ref q_1, .ref q_2, .ref q_3, .ref q_4, .ref q_5, .ref q_6, .null, .int 0])), (q_1, .inl (k 0, 768, .inl (fun _ => 0))), (q_2, .inl (k 0, 512, .inl (fun _ => 0))), (q_3, .inl (k 0, 512, .inl (fun _ => 0))), (q_4, .inl (k 0, 512, .inl (fun _ => 0))), (q_5, .inl (k 0, 512, .inl (fun _ => 0))), (q_6, .inl (k 0, 512, .inl (fun _ => 0)))]) rfl B
  refine lv_aload_n hx hb dX7_init_58 rfl (lv_at hl 0 rfl) ?_
  refine lv_sipush (v := 512) hx hb dX7_init_59 (by decide) ?_
  refine x_newa (atype := .int) (ty := .int) (N' := 512) (a0 := (512, .inl (fun _ => 0))) B mw_120 rfl 0 rfl pr_int (fun _ => rfl) (by decide) (by decide) (Nat.le_of_ble_eq_true rfl) (Nat.le_of_ble_eq_true rfl) (Nat.le_of_ble_eq_true rfl) dX7_init_62 (fun q_7 H B => ?_)
  have B := bd_to (ws' := [(a, .inr (6, [.ref q_1, .ref q_2, .ref q_3, .ref q_4, .ref q_5, .ref q_6, .null, .int 0])), (q_1, .inl (k 0, 768, .inl (fun _ => 0))), (q_2, .inl (k 0, 512, .inl (fun _ => 0))), (q_3, .inl (k 0, 512, .inl (fun _ => 0))), (q_4, .inl (k 0, 512, .inl (fun _ => 0))), (q_5, .inl (k 0, 512, .inl (fun _ => 0))), (q_6, .inl (k 0, 512, .inl (fun _ => 0))), (q_7, .inl (k 0, 512, .inl (fun _ => 0)))]) rfl B
  refine x_put (ci := 6) (C := RX7) (T := TX7) (N := 8) (ty := .array .int) (v := .ref q_7) B tyX7_ok nmX7 0 rfl rfl in_X7 6 (by decide) mw_190 (fun _ h9 => h9) rfl (by decide +kernel) rfl rfl (Nat.le_of_ble_eq_true rfl) dX7_init_64 (fun H locs B => ?_)
  have B := bd_to (ws' := [(a, .inr (6, [.ref q_1, .ref q_2, .ref q_3, .ref q_4, .ref q_5, .ref q_6, .ref q_7, .int 0])), (q_1, .inl (k 0, 768, .inl (fun _ => 0))), (q_2, .inl (k 0, 512, .inl (fun _ => 0))), (q_3, .inl (k 0, 512, .inl (fun _ => 0))), (q_4, .inl (k 0, 512, .inl (fun _ => 0))), (q_5, .inl (k 0, 512, .inl (fun _ => 0))), (q_6, .inl (k 0, 512, .inl (fun _ => 0))), (q_7, .inl (k 0, 512, .inl (fun _ => 0)))]) rfl B
  have B := bd_sub (ws' := []) [] (by decide) rfl B
  exact x_vret B hr (⟨rfl, rfl⟩) (Nat.le_of_ble_eq_true rfl) (Nat.le_of_ble_eq_true rfl) dX7_init_67

theorem mw_223 : (Jvm.Cond.methodLink "Galleyforge$Rows" (3 : Nat) ({ cls := "java/lang/Object", name := "<init>", desc := "()V" } : Jvm.MethodName)) ∈ gt := gt_at 358 (by decide +kernel) (by decide +kernel)
theorem mw_227 : (Jvm.Cond.fieldLink "Galleyforge$Rows" (9 : Nat) "Galleyforge$Rows" "heights" "[I") ∈ gt := gt_at 362 (by decide +kernel) (by decide +kernel)
theorem mw_229 : (Jvm.Cond.fieldLink "Galleyforge$Rows" (15 : Nat) "Galleyforge$Rows" "blocks" "[I") ∈ gt := gt_at 364 (by decide +kernel) (by decide +kernel)
theorem mw_232 : (Jvm.Cond.fieldLink "Galleyforge$Rows" (18 : Nat) "Galleyforge$Rows" "indexes" "[I") ∈ gt := gt_at 367 (by decide +kernel) (by decide +kernel)
theorem mw_235 : (Jvm.Cond.fieldLink "Galleyforge$Rows" (21 : Nat) "Galleyforge$Rows" "noteLines" "[I") ∈ gt := gt_at 370 (by decide +kernel) (by decide +kernel)
theorem mw_237 : (Jvm.Cond.fieldLink "Galleyforge$Rows" (24 : Nat) "Galleyforge$Rows" "lastNotes" "[I") ∈ gt := gt_at 372 (by decide +kernel) (by decide +kernel)
theorem mw_239 : (Jvm.Cond.fieldLink "Galleyforge$Rows" (27 : Nat) "Galleyforge$Rows" "breakBehind" "[Z") ∈ gt := gt_at 374 (by decide +kernel) (by decide +kernel)
theorem mw_241 : (Jvm.Cond.fieldLink "Galleyforge$Rows" (31 : Nat) "Galleyforge$Rows" "firstRows" "[I") ∈ gt := gt_at 376 (by decide +kernel) (by decide +kernel)
theorem mw_244 : (Jvm.Cond.fieldLink "Galleyforge$Rows" (34 : Nat) "Galleyforge$Rows" "rowCounts" "[I") ∈ gt := gt_at 379 (by decide +kernel) (by decide +kernel)
theorem mw_246 : (Jvm.Cond.fieldLink "Galleyforge$Rows" (37 : Nat) "Galleyforge$Rows" "wordRows" "[I") ∈ gt := gt_at 381 (by decide +kernel) (by decide +kernel)
theorem mw_249 : (Jvm.Cond.fieldLink "Galleyforge$Rows" (40 : Nat) "Galleyforge$Rows" "labelRows" "[I") ∈ gt := gt_at 384 (by decide +kernel) (by decide +kernel)
theorem mw_251 : (Jvm.Cond.fieldLink "Galleyforge$Rows" (43 : Nat) "Galleyforge$Rows" "termThere" "[Z") ∈ gt := gt_at 386 (by decide +kernel) (by decide +kernel)
theorem mw_255 : (Jvm.Cond.fieldLink "Galleyforge$Rows" (46 : Nat) "Galleyforge$Rows" "figureRows" "[I") ∈ gt := gt_at 390 (by decide +kernel) (by decide +kernel)
theorem mw_257 : (Jvm.Cond.fieldLink "Galleyforge$Rows" (49 : Nat) "Galleyforge$Rows" "figureWords" "[I") ∈ gt := gt_at 392 (by decide +kernel) (by decide +kernel)
theorem mw_258 : (Jvm.Cond.fieldLink "Galleyforge$Rows" (52 : Nat) "Galleyforge$Rows" "figuresInOrder" "[I") ∈ gt := gt_at 393 (by decide +kernel) (by decide +kernel)
theorem mw_301 : (Jvm.Cond.arrayClass Jvm.ClassFile.FieldType.boolean) ∈ gt := gt_at 436 (by decide +kernel) (by decide +kernel)
theorem in_X6 : ∀ w ∈ u_ws RX6 TX6 18, w ∈ gt := in_of _ [399, 401, 403, 405, 407, 409, 411, 413, 415, 417, 419, 421, 423, 425, 427, 429, 431, 433] (by decide +kernel) (by decide +kernel)
theorem dX6_init_0 : decode cX6_init 0 = .ok (.aload_n 0, 1) := by decide +kernel
theorem dX6_init_1 : decode cX6_init 1 = .ok (.invokespecial 3, 3) := by decide +kernel
theorem dX6_init_4 : decode cX6_init 4 = .ok (.aload_n 0, 1) := by decide +kernel
theorem dX6_init_5 : decode cX6_init 5 = .ok (.sipush 768, 3) := by decide +kernel
theorem dX6_init_8 : decode cX6_init 8 = .ok (.newarray .int, 2) := by decide +kernel
theorem dX6_init_10 : decode cX6_init 10 = .ok (.putfield 9, 3) := by decide +kernel
theorem dX6_init_13 : decode cX6_init 13 = .ok (.aload_n 0, 1) := by decide +kernel
theorem dX6_init_14 : decode cX6_init 14 = .ok (.sipush 768, 3) := by decide +kernel
theorem dX6_init_17 : decode cX6_init 17 = .ok (.newarray .int, 2) := by decide +kernel
theorem dX6_init_19 : decode cX6_init 19 = .ok (.putfield 15, 3) := by decide +kernel
theorem dX6_init_22 : decode cX6_init 22 = .ok (.aload_n 0, 1) := by decide +kernel
theorem dX6_init_23 : decode cX6_init 23 = .ok (.sipush 768, 3) := by decide +kernel
theorem dX6_init_26 : decode cX6_init 26 = .ok (.newarray .int, 2) := by decide +kernel
theorem dX6_init_28 : decode cX6_init 28 = .ok (.putfield 18, 3) := by decide +kernel
theorem dX6_init_31 : decode cX6_init 31 = .ok (.aload_n 0, 1) := by decide +kernel
theorem dX6_init_32 : decode cX6_init 32 = .ok (.sipush 768, 3) := by decide +kernel
theorem dX6_init_35 : decode cX6_init 35 = .ok (.newarray .int, 2) := by decide +kernel
theorem dX6_init_37 : decode cX6_init 37 = .ok (.putfield 21, 3) := by decide +kernel
theorem dX6_init_40 : decode cX6_init 40 = .ok (.aload_n 0, 1) := by decide +kernel
theorem dX6_init_41 : decode cX6_init 41 = .ok (.sipush 768, 3) := by decide +kernel
theorem dX6_init_44 : decode cX6_init 44 = .ok (.newarray .int, 2) := by decide +kernel
theorem dX6_init_46 : decode cX6_init 46 = .ok (.putfield 24, 3) := by decide +kernel
theorem dX6_init_49 : decode cX6_init 49 = .ok (.aload_n 0, 1) := by decide +kernel
theorem dX6_init_50 : decode cX6_init 50 = .ok (.sipush 768, 3) := by decide +kernel
theorem dX6_init_53 : decode cX6_init 53 = .ok (.newarray .boolean, 2) := by decide +kernel
theorem dX6_init_55 : decode cX6_init 55 = .ok (.putfield 27, 3) := by decide +kernel
theorem dX6_init_58 : decode cX6_init 58 = .ok (.aload_n 0, 1) := by decide +kernel
theorem dX6_init_59 : decode cX6_init 59 = .ok (.bipush 16, 2) := by decide +kernel
theorem dX6_init_61 : decode cX6_init 61 = .ok (.newarray .int, 2) := by decide +kernel
theorem dX6_init_63 : decode cX6_init 63 = .ok (.putfield 31, 3) := by decide +kernel
theorem dX6_init_66 : decode cX6_init 66 = .ok (.aload_n 0, 1) := by decide +kernel
theorem dX6_init_67 : decode cX6_init 67 = .ok (.bipush 16, 2) := by decide +kernel
theorem dX6_init_69 : decode cX6_init 69 = .ok (.newarray .int, 2) := by decide +kernel
theorem dX6_init_71 : decode cX6_init 71 = .ok (.putfield 34, 3) := by decide +kernel
theorem dX6_init_74 : decode cX6_init 74 = .ok (.aload_n 0, 1) := by decide +kernel
theorem dX6_init_75 : decode cX6_init 75 = .ok (.sipush 192, 3) := by decide +kernel
theorem dX6_init_78 : decode cX6_init 78 = .ok (.newarray .int, 2) := by decide +kernel
theorem dX6_init_80 : decode cX6_init 80 = .ok (.putfield 37, 3) := by decide +kernel
theorem dX6_init_83 : decode cX6_init 83 = .ok (.aload_n 0, 1) := by decide +kernel
theorem dX6_init_84 : decode cX6_init 84 = .ok (.bipush 6, 2) := by decide +kernel
theorem dX6_init_86 : decode cX6_init 86 = .ok (.newarray .int, 2) := by decide +kernel
theorem dX6_init_88 : decode cX6_init 88 = .ok (.putfield 40, 3) := by decide +kernel
theorem dX6_init_91 : decode cX6_init 91 = .ok (.aload_n 0, 1) := by decide +kernel
theorem dX6_init_92 : decode cX6_init 92 = .ok (.bipush 8, 2) := by decide +kernel
theorem dX6_init_94 : decode cX6_init 94 = .ok (.newarray .boolean, 2) := by decide +kernel
theorem dX6_init_96 : decode cX6_init 96 = .ok (.putfield 43, 3) := by decide +kernel
theorem dX6_init_99 : decode cX6_init 99 = .ok (.aload_n 0, 1) := by decide +kernel
theorem dX6_init_100 : decode cX6_init 100 = .ok (.iconst 5, 1) := by decide +kernel
theorem dX6_init_101 : decode cX6_init 101 = .ok (.newarray .int, 2) := by decide +kernel
theorem dX6_init_103 : decode cX6_init 103 = .ok (.putfield 46, 3) := by decide +kernel
theorem dX6_init_106 : decode cX6_init 106 = .ok (.aload_n 0, 1) := by decide +kernel
theorem dX6_init_107 : decode cX6_init 107 = .ok (.iconst 5, 1) := by decide +kernel
theorem dX6_init_108 : decode cX6_init 108 = .ok (.newarray .int, 2) := by decide +kernel
theorem dX6_init_110 : decode cX6_init 110 = .ok (.putfield 49, 3) := by decide +kernel
theorem dX6_init_113 : decode cX6_init 113 = .ok (.aload_n 0, 1) := by decide +kernel
theorem dX6_init_114 : decode cX6_init 114 = .ok (.iconst 5, 1) := by decide +kernel
theorem dX6_init_115 : decode cX6_init 115 = .ok (.newarray .int, 2) := by decide +kernel
theorem dX6_init_117 : decode cX6_init 117 = .ok (.putfield 52, 3) := by decide +kernel
theorem dX6_init_120 : decode cX6_init 120 = .ok (.return_, 1) := by decide +kernel
set_option maxHeartbeats 4000000 in
set_option maxRecDepth 100000 in
theorem c_Rows_init (l : Launch) (dC : Nat → ClassId) (dI : Nat → Nat → Nat) (k : Nat → ClassId) (a : Nat) : Ct l dC dI k yX6_init (.code yX6_init cX6_init 1 none) ({ frames := 1, cells := 14, slots := 4861, locals := 12 } : Room) [.ref a] [(a, .inr (5, [.int 0, .null, .null, .null, .null, .null, .null, .null, .null, .null, .null, .null, .int 0, .int 0, .null, .null, .null, .int 0]))] (fun r w => (∃ (r0 : Nat) (r1 : Nat) (r2 : Nat) (r3 : Nat) (r4 : Nat) (r5 : Nat) (r6 : Nat) (r7 : Nat) (wr_ : Nat) (lr_ : Nat) (tt_ : Nat) (fr_ : Nat) (r8 : Nat) (r9 : Nat), r = none ∧ w = [(a, .inr (5, [.int 0, .ref r0, .ref r1, .ref r2, .ref r3, .ref r4, .ref r5, .ref r6, .ref r7, .ref wr_, .ref lr_, .ref tt_, .int 0, .int 0, .ref fr_, .ref r8, .ref r9, .int 0])), (wr_, .inl (k 0, 192, .inl (fun _ => 0))), (lr_, .inl (k 0, 6, .inl (fun _ => 0))), (tt_, .inl (k 1, 8, .inl (fun _ => 0))), (fr_, .inl (k 0, 5, .inl (fun _ => 0)))])) := by
  refine ct_of (by decide) (Nat.le_of_ble_eq_true rfl) ?_
  intro p e s m args below meth c H locs B hr hnm ls hl
  have hx := B.1.1
  have hb := B.1.2.1
  have hl : lv_has ls 1 [(0, .ref a)] := hl
  refine lv_aload_n hx hb dX6_init_0 rfl (lv_at hl 0 rfl) ?_
  refine x_obj B mw_223 mw_42 mw_obj hl dX6_init_1 (Nat.le_of_ble_eq_true rfl) (Nat.le_of_ble_eq_true rfl) ?_
  refine lv_aload_n hx hb dX6_init_4 rfl (lv_at hl 0 rfl) ?_
  refine lv_sipush (v := 768) hx hb dX6_init_5 (by decide) ?_
  refine x_newa (atype := .int) (ty := .int) (N' := 768) (a0 := (768, .inl (fun _ => 0))) B mw_120 rfl 0 rfl pr_int (fun _ => rfl) (by decide) (by decide) (Nat.le_of_ble_eq_true rfl) (Nat.le_of_ble_eq_true rfl) (Nat.le_of_ble_eq_true rfl) dX6_init_8 (fun q_1 H B => ?_)
  have B := bd_to (ws' := [(a, .inr (5, [.int 0, .null, .null, .null, .null, .null, .null, .null, .null, .null, .null, .null, .int 0, .int 0, .null, .null, .null, .int 0])), (q_1, .inl (k 0, 768, .inl (fun _ => 0)))]) rfl B
  refine x_putF (ci := 5) (C := RX6) (T := TX6) (N := 18) (ty := .array .int) (v := .ref q_1) B tyX6_ok nmX6 0 rfl rfl in_X6 1 (by decide) mw_227 (fun _ h9 => h9) rfl hnm rfl (by decide +kernel) rfl rfl (Nat.le_of_ble_eq_true rfl) dX6_init_10 (fun H locs B => ?_)
  have B := bd_to (ws' := [(a, .inr (5, [.int 0, .ref q_1, .null, .null, .null, .null, .null, .null, .null, .null, .null, .null, .int 0, .int 0, .null, .null, .null, .int 0])), (q_1, .inl (k 0, 768, .inl (fun _ => 0)))]) rfl B
  refine lv_aload_n hx hb dX6_init_13 rfl (lv_at hl 0 rfl) ?_
  refine lv_sipush (v := 768) hx hb dX6_init_14 (by decide) ?_
  refine x_newa (atype := .int) (ty := .int) (N' := 768) (a0 := (768, .inl (fun _ => 0))) B mw_120 rfl 0 rfl pr_int (fun _ => rfl) (by decide) (by decide) (Nat.le_of_ble_eq_true rfl) (Nat.le_of_ble_eq_true rfl) (Nat.le_of_ble_eq_true rfl) dX6_init_17 (fun q_2 H B => ?_)
  have B := bd_to (ws' := [(a, .inr (5, [.int 0, .ref q_1, .null, .null, .null, .null, .null, .null, .null, .null, .null, .null, .int 0, .int 0, .null, .null, .null, .int 0])), (q_1, .inl (k 0, 768, .inl (fun _ => 0))), (q_2, .inl (k 0, 768, .inl (fun _ => 0)))]) rfl B
  refine x_putF (ci := 5) (C := RX6) (T := TX6) (N := 18) (ty := .array .int) (v := .ref q_2) B tyX6_ok nmX6 0 rfl rfl in_X6 2 (by decide) mw_229 (fun _ h9 => h9) rfl hnm rfl (by decide +kernel) rfl rfl (Nat.le_of_ble_eq_true rfl) dX6_init_19 (fun H locs B => ?_)
  have B := bd_to (ws' := [(a, .inr (5, [.int 0, .ref q_1, .ref q_2, .null, .null, .null, .null, .null, .null, .null, .null, .null, .int 0, .int 0, .null, .null, .null, .int 0])), (q_1, .inl (k 0, 768, .inl (fun _ => 0))), (q_2, .inl (k 0, 768, .inl (fun _ => 0)))]) rfl B
  refine lv_aload_n hx hb dX6_init_22 rfl (lv_at hl 0 rfl) ?_
  refine lv_sipush (v := 768) hx hb dX6_init_23 (by decide) ?_
  refine x_newa (atype := .int) (ty := .int) (N' := 768) (a0 := (768, .inl (fun _ => 0))) B mw_120 rfl 0 rfl pr_int (fun _ => rfl) (by decide) (by decide) (Nat.le_of_ble_eq_true rfl) (Nat.le_of_ble_eq_true rfl) (Nat.le_of_ble_eq_true rfl) dX6_init_26 (fun q_3 H B => ?_)
  have B := bd_to (ws' := [(a, .inr (5, [.int 0, .ref q_1, .ref q_2, .null, .null, .null, .null, .null, .null, .null, .null, .null, .int 0, .int 0, .null, .null, .null, .int 0])), (q_1, .inl (k 0, 768, .inl (fun _ => 0))), (q_2, .inl (k 0, 768, .inl (fun _ => 0))), (q_3, .inl (k 0, 768, .inl (fun _ => 0)))]) rfl B
  refine x_putF (ci := 5) (C := RX6) (T := TX6) (N := 18) (ty := .array .int) (v := .ref q_3) B tyX6_ok nmX6 0 rfl rfl in_X6 3 (by decide) mw_232 (fun _ h9 => h9) rfl hnm rfl (by decide +kernel) rfl rfl (Nat.le_of_ble_eq_true rfl) dX6_init_28 (fun H locs B => ?_)
  have B := bd_to (ws' := [(a, .inr (5, [.int 0, .ref q_1, .ref q_2, .ref q_3, .null, .null, .null, .null, .null, .null, .null, .null, .int 0, .int 0, .null, .null, .null, .int 0])), (q_1, .inl (k 0, 768, .inl (fun _ => 0))), (q_2, .inl (k 0, 768, .inl (fun _ => 0))), (q_3, .inl (k 0, 768, .inl (fun _ => 0)))]) rfl B
  refine lv_aload_n hx hb dX6_init_31 rfl (lv_at hl 0 rfl) ?_
  refine lv_sipush (v := 768) hx hb dX6_init_32 (by decide) ?_
  refine x_newa (atype := .int) (ty := .int) (N' := 768) (a0 := (768, .inl (fun _ => 0))) B mw_120 rfl 0 rfl pr_int (fun _ => rfl) (by decide) (by decide) (Nat.le_of_ble_eq_true rfl) (Nat.le_of_ble_eq_true rfl) (Nat.le_of_ble_eq_true rfl) dX6_init_35 (fun q_4 H B => ?_)
  have B := bd_to (ws' := [(a, .inr (5, [.int 0, .ref q_1, .ref q_2, .ref q_3, .null, .null, .null, .null, .null, .null, .null, .null, .int 0, .int 0, .null, .null, .null, .int 0])), (q_1, .inl (k 0, 768, .inl (fun _ => 0))), (q_2, .inl (k 0, 768, .inl (fun _ => 0))), (q_3, .inl (k 0, 768, .inl (fun _ => 0))), (q_4, .inl (k 0, 768, .inl (fun _ => 0)))]) rfl B
  refine x_putF (ci := 5) (C := RX6) (T := TX6) (N := 18) (ty := .array .int) (v := .ref q_4) B tyX6_ok nmX6 0 rfl rfl in_X6 4 (by decide) mw_235 (fun _ h9 => h9) rfl hnm rfl (by decide +kernel) rfl rfl (Nat.le_of_ble_eq_true rfl) dX6_init_37 (fun H locs B => ?_)
  have B := bd_to (ws' := [(a, .inr (5, [.int 0, .ref q_1, .ref q_2, .ref q_3, .ref q_4, .null, .null, .null, .null, .null, .null, .null, .int 0, .int 0, .null, .null, .null, .int 0])), (q_1, .inl (k 0, 768, .inl (fun _ => 0))), (q_2, .inl (k 0, 768, .inl (fun _ => 0))), (q_3, .inl (k 0, 768, .inl (fun _ => 0))), (q_4, .inl (k 0, 768, .inl (fun _ => 0)))]) rfl B
  refine lv_aload_n hx hb dX6_init_40 rfl (lv_at hl 0 rfl) ?_
  refine lv_sipush (v := 768) hx hb dX6_init_41 (by decide) ?_
  refine x_newa (atype := .int) (ty := .int) (N' := 768) (a0 := (768, .inl (fun _ => 0))) B mw_120 rfl 0 rfl pr_int (fun _ => rfl) (by decide) (by decide) (Nat.le_of_ble_eq_true rfl) (Nat.le_of_ble_eq_true rfl) (Nat.le_of_ble_eq_true rfl) dX6_init_44 (fun q_5 H B => ?_)
  have B := bd_to (ws' := [(a, .inr (5, [.int 0, .ref q_1, .ref q_2, .ref q_3, .ref q_4, .null, .null, .null, .null, .null, .null, .null, .int 0, .int 0, .null, .null, .null, .int 0])), (q_1, .inl (k 0, 768, .inl (fun _ => 0))), (q_2, .inl (k 0, 768, .inl (fun _ => 0))), (q_3, .inl (k 0, 768, .inl (fun _ => 0))), (q_4, .inl (k 0, 768, .inl (fun _ => 0))), (q_5, .inl (k 0, 768, .inl (fun _ => 0)))]) rfl B
  refine x_putF (ci := 5) (C := RX6) (T := TX6) (N := 18) (ty := .array .int) (v := .ref q_5) B tyX6_ok nmX6 0 rfl rfl in_X6 5 (by decide) mw_237 (fun _ h9 => h9) rfl hnm rfl (by decide +kernel) rfl rfl (Nat.le_of_ble_eq_true rfl) dX6_init_46 (fun H locs B => ?_)
  have B := bd_to (ws' := [(a, .inr (5, [.int 0, .ref q_1, .ref q_2, .ref q_3, .ref q_4, .ref q_5, .null, .null, .null, .null, .null, .null, .int 0, .int 0, .null, .null, .null, .int 0])), (q_1, .inl (k 0, 768, .inl (fun _ => 0))), (q_2, .inl (k 0, 768, .inl (fun _ => 0))), (q_3, .inl (k 0, 768, .inl (fun _ => 0))), (q_4, .inl (k 0, 768, .inl (fun _ => 0))), (q_5, .inl (k 0, 768, .inl (fun _ => 0)))]) rfl B
  refine lv_aload_n hx hb dX6_init_49 rfl (lv_at hl 0 rfl) ?_
  refine lv_sipush (v := 768) hx hb dX6_init_50 (by decide) ?_
  refine x_newa (atype := .boolean) (ty := .boolean) (N' := 768) (a0 := (768, .inl (fun _ => 0))) B mw_301 rfl 1 rfl pr_bool (fun _ => rfl) (by decide) (by decide) (Nat.le_of_ble_eq_true rfl) (Nat.le_of_ble_eq_true rfl) (Nat.le_of_ble_eq_true rfl) dX6_init_53 (fun q_6 H B => ?_)
  have B := bd_to (ws' := [(a, .inr (5, [.int 0, .ref q_1, .ref q_2, .ref q_3, .ref q_4, .ref q_5, .null, .null, .null, .null, .null, .null, .int 0, .int 0, .null, .null, .null, .int 0])), (q_1, .inl (k 0, 768, .inl (fun _ => 0))), (q_2, .inl (k 0, 768, .inl (fun _ => 0))), (q_3, .inl (k 0, 768, .inl (fun _ => 0))), (q_4, .inl (k 0, 768, .inl (fun _ => 0))), (q_5, .inl (k 0, 768, .inl (fun _ => 0))), (q_6, .inl (k 1, 768, .inl (fun _ => 0)))]) rfl B
  refine x_putF (ci := 5) (C := RX6) (T := TX6) (N := 18) (ty := .array .boolean) (v := .ref q_6) B tyX6_ok nmX6 0 rfl rfl in_X6 6 (by decide) mw_239 (fun _ h9 => h9) rfl hnm rfl (by decide +kernel) rfl rfl (Nat.le_of_ble_eq_true rfl) dX6_init_55 (fun H locs B => ?_)
  have B := bd_to (ws' := [(a, .inr (5, [.int 0, .ref q_1, .ref q_2, .ref q_3, .ref q_4, .ref q_5, .ref q_6, .null, .null, .null, .null, .null, .int 0, .int 0, .null, .null, .null, .int 0])), (q_1, .inl (k 0, 768, .inl (fun _ => 0))), (q_2, .inl (k 0, 768, .inl (fun _ => 0))), (q_3, .inl (k 0, 768, .inl (fun _ => 0))), (q_4, .inl (k 0, 768, .inl (fun _ => 0))), (q_5, .inl (k 0, 768, .inl (fun _ => 0))), (q_6, .inl (k 1, 768, .inl (fun _ => 0)))]) rfl B
  refine lv_aload_n hx hb dX6_init_58 rfl (lv_at hl 0 rfl) ?_
  refine lv_bipush (v := 16) hx hb dX6_init_59 (by decide) ?_
  refine x_newa (atype := .int) (ty := .int) (N' := 16) (a0 := (16, .inl (fun _ => 0))) B mw_120 rfl 0 rfl pr_int (fun _ => rfl) (by decide) (by decide) (Nat.le_of_ble_eq_true rfl) (Nat.le_of_ble_eq_true rfl) (Nat.le_of_ble_eq_true rfl) dX6_init_61 (fun q_7 H B => ?_)
  have B := bd_to (ws' := [(a, .inr (5, [.int 0, .ref q_1, .ref q_2, .ref q_3, .ref q_4, .ref q_5, .ref q_6, .null, .null, .null, .null, .null, .int 0, .int 0, .null, .null, .null, .int 0])), (q_1, .inl (k 0, 768, .inl (fun _ => 0))), (q_2, .inl (k 0, 768, .inl (fun _ => 0))), (q_3, .inl (k 0, 768, .inl (fun _ => 0))), (q_4, .inl (k 0, 768, .inl (fun _ => 0))), (q_5, .inl (k 0, 768, .inl (fun _ => 0))), (q_6, .inl (k 1, 768, .inl (fun _ => 0))), (q_7, .inl (k 0, 16, .inl (fun _ => 0)))]) rfl B
  refine x_putF (ci := 5) (C := RX6) (T := TX6) (N := 18) (ty := .array .int) (v := .ref q_7) B tyX6_ok nmX6 0 rfl rfl in_X6 7 (by decide) mw_241 (fun _ h9 => h9) rfl hnm rfl (by decide +kernel) rfl rfl (Nat.le_of_ble_eq_true rfl) dX6_init_63 (fun H locs B => ?_)
  have B := bd_to (ws' := [(a, .inr (5, [.int 0, .ref q_1, .ref q_2, .ref q_3, .ref q_4, .ref q_5, .ref q_6, .ref q_7, .null, .null, .null, .null, .int 0, .int 0, .null, .null, .null, .int 0])), (q_1, .inl (k 0, 768, .inl (fun _ => 0))), (q_2, .inl (k 0, 768, .inl (fun _ => 0))), (q_3, .inl (k 0, 768, .inl (fun _ => 0))), (q_4, .inl (k 0, 768, .inl (fun _ => 0))), (q_5, .inl (k 0, 768, .inl (fun _ => 0))), (q_6, .inl (k 1, 768, .inl (fun _ => 0))), (q_7, .inl (k 0, 16, .inl (fun _ => 0)))]) rfl B
  refine lv_aload_n hx hb dX6_init_66 rfl (lv_at hl 0 rfl) ?_
  refine lv_bipush (v := 16) hx hb dX6_init_67 (by decide) ?_
  refine x_newa (atype := .int) (ty := .int) (N' := 16) (a0 := (16, .inl (fun _ => 0))) B mw_120 rfl 0 rfl pr_int (fun _ => rfl) (by decide) (by decide) (Nat.le_of_ble_eq_true rfl) (Nat.le_of_ble_eq_true rfl) (Nat.le_of_ble_eq_true rfl) dX6_init_69 (fun q_8 H B => ?_)
  have B := bd_to (ws' := [(a, .inr (5, [.int 0, .ref q_1, .ref q_2, .ref q_3, .ref q_4, .ref q_5, .ref q_6, .ref q_7, .null, .null, .null, .null, .int 0, .int 0, .null, .null, .null, .int 0])), (q_1, .inl (k 0, 768, .inl (fun _ => 0))), (q_2, .inl (k 0, 768, .inl (fun _ => 0))), (q_3, .inl (k 0, 768, .inl (fun _ => 0))), (q_4, .inl (k 0, 768, .inl (fun _ => 0))), (q_5, .inl (k 0, 768, .inl (fun _ => 0))), (q_6, .inl (k 1, 768, .inl (fun _ => 0))), (q_7, .inl (k 0, 16, .inl (fun _ => 0))), (q_8, .inl (k 0, 16, .inl (fun _ => 0)))]) rfl B
  refine x_putF (ci := 5) (C := RX6) (T := TX6) (N := 18) (ty := .array .int) (v := .ref q_8) B tyX6_ok nmX6 0 rfl rfl in_X6 8 (by decide) mw_244 (fun _ h9 => h9) rfl hnm rfl (by decide +kernel) rfl rfl (Nat.le_of_ble_eq_true rfl) dX6_init_71 (fun H locs B => ?_)
  have B := bd_to (ws' := [(a, .inr (5, [.int 0, .ref q_1, .ref q_2, .ref q_3, .ref q_4, .ref q_5, .ref q_6, .ref q_7, .ref q_8, .null, .null, .null, .int 0, .int 0, .null, .null, .null, .int 0])), (q_1, .inl (k 0, 768, .inl (fun _ => 0))), (q_2, .inl (k 0, 768, .inl (fun _ => 0))), (q_3, .inl (k 0, 768, .inl (fun _ => 0))), (q_4, .inl (k 0, 768, .inl (fun _ => 0))), (q_5, .inl (k 0, 768, .inl (fun _ => 0))), (q_6, .inl (k 1, 768, .inl (fun _ => 0))), (q_7, .inl (k 0, 16, .inl (fun _ => 0))), (q_8, .inl (k 0, 16, .inl (fun _ => 0)))]) rfl B
  refine lv_aload_n hx hb dX6_init_74 rfl (lv_at hl 0 rfl) ?_
  refine lv_sipush (v := 192) hx hb dX6_init_75 (by decide) ?_
  refine x_newa (atype := .int) (ty := .int) (N' := 192) (a0 := (192, .inl (fun _ => 0))) B mw_120 rfl 0 rfl pr_int (fun _ => rfl) (by decide) (by decide) (Nat.le_of_ble_eq_true rfl) (Nat.le_of_ble_eq_true rfl) (Nat.le_of_ble_eq_true rfl) dX6_init_78 (fun q_9 H B => ?_)
  have B := bd_to (ws' := [(a, .inr (5, [.int 0, .ref q_1, .ref q_2, .ref q_3, .ref q_4, .ref q_5, .ref q_6, .ref q_7, .ref q_8, .null, .null, .null, .int 0, .int 0, .null, .null, .null, .int 0])), (q_1, .inl (k 0, 768, .inl (fun _ => 0))), (q_2, .inl (k 0, 768, .inl (fun _ => 0))), (q_3, .inl (k 0, 768, .inl (fun _ => 0))), (q_4, .inl (k 0, 768, .inl (fun _ => 0))), (q_5, .inl (k 0, 768, .inl (fun _ => 0))), (q_6, .inl (k 1, 768, .inl (fun _ => 0))), (q_7, .inl (k 0, 16, .inl (fun _ => 0))), (q_8, .inl (k 0, 16, .inl (fun _ => 0))), (q_9, .inl (k 0, 192, .inl (fun _ => 0)))]) rfl B
  refine x_putF (ci := 5) (C := RX6) (T := TX6) (N := 18) (ty := .array .int) (v := .ref q_9) B tyX6_ok nmX6 0 rfl rfl in_X6 9 (by decide) mw_246 (fun _ h9 => h9) rfl hnm rfl (by decide +kernel) rfl rfl (Nat.le_of_ble_eq_true rfl) dX6_init_80 (fun H locs B => ?_)
  have B := bd_to (ws' := [(a, .inr (5, [.int 0, .ref q_1, .ref q_2, .ref q_3, .ref q_4, .ref q_5, .ref q_6, .ref q_7, .ref q_8, .ref q_9, .null, .null, .int 0, .int 0, .null, .null, .null, .int 0])), (q_1, .inl (k 0, 768, .inl (fun _ => 0))), (q_2, .inl (k 0, 768, .inl (fun _ => 0))), (q_3, .inl (k 0, 768, .inl (fun _ => 0))), (q_4, .inl (k 0, 768, .inl (fun _ => 0))), (q_5, .inl (k 0, 768, .inl (fun _ => 0))), (q_6, .inl (k 1, 768, .inl (fun _ => 0))), (q_7, .inl (k 0, 16, .inl (fun _ => 0))), (q_8, .inl (k 0, 16, .inl (fun _ => 0))), (q_9, .inl (k 0, 192, .inl (fun _ => 0)))]) rfl B
  refine lv_aload_n hx hb dX6_init_83 rfl (lv_at hl 0 rfl) ?_
  refine lv_bipush (v := 6) hx hb dX6_init_84 (by decide) ?_
  refine x_newa (atype := .int) (ty := .int) (N' := 6) (a0 := (6, .inl (fun _ => 0))) B mw_120 rfl 0 rfl pr_int (fun _ => rfl) (by decide) (by decide) (Nat.le_of_ble_eq_true rfl) (Nat.le_of_ble_eq_true rfl) (Nat.le_of_ble_eq_true rfl) dX6_init_86 (fun q_10 H B => ?_)
  have B := bd_to (ws' := [(a, .inr (5, [.int 0, .ref q_1, .ref q_2, .ref q_3, .ref q_4, .ref q_5, .ref q_6, .ref q_7, .ref q_8, .ref q_9, .null, .null, .int 0, .int 0, .null, .null, .null, .int 0])), (q_1, .inl (k 0, 768, .inl (fun _ => 0))), (q_2, .inl (k 0, 768, .inl (fun _ => 0))), (q_3, .inl (k 0, 768, .inl (fun _ => 0))), (q_4, .inl (k 0, 768, .inl (fun _ => 0))), (q_5, .inl (k 0, 768, .inl (fun _ => 0))), (q_6, .inl (k 1, 768, .inl (fun _ => 0))), (q_7, .inl (k 0, 16, .inl (fun _ => 0))), (q_8, .inl (k 0, 16, .inl (fun _ => 0))), (q_9, .inl (k 0, 192, .inl (fun _ => 0))), (q_10, .inl (k 0, 6, .inl (fun _ => 0)))]) rfl B
  refine x_putF (ci := 5) (C := RX6) (T := TX6) (N := 18) (ty := .array .int) (v := .ref q_10) B tyX6_ok nmX6 0 rfl rfl in_X6 10 (by decide) mw_249 (fun _ h9 => h9) rfl hnm rfl (by decide +kernel) rfl rfl (Nat.le_of_ble_eq_true rfl) dX6_init_88 (fun H locs B => ?_)
  have B := bd_to (ws' := [(a, .inr (5, [.int 0, .ref q_1, .ref q_2, .ref q_3, .ref q_4, .ref q_5, .ref q_6, .ref q_7, .ref q_8, .ref q_9, .ref q_10, .null, .int 0, .int 0, .null, .null, .null, .int 0])), (q_1, .inl (k 0, 768, .inl (fun _ => 0))), (q_2, .inl (k 0, 768, .inl (fun _ => 0))), (q_3, .inl (k 0, 768, .inl (fun _ => 0))), (q_4, .inl (k 0, 768, .inl (fun _ => 0))), (q_5, .inl (k 0, 768, .inl (fun _ => 0))), (q_6, .inl (k 1, 768, .inl (fun _ => 0))), (q_7, .inl (k 0, 16, .inl (fun _ => 0))), (q_8, .inl (k 0, 16, .inl (fun _ => 0))), (q_9, .inl (k 0, 192, .inl (fun _ => 0))), (q_10, .inl (k 0, 6, .inl (fun _ => 0)))]) rfl B
  refine lv_aload_n hx hb dX6_init_91 rfl (lv_at hl 0 rfl) ?_
  refine lv_bipush (v := 8) hx hb dX6_init_92 (by decide) ?_
  refine x_newa (atype := .boolean) (ty := .boolean) (N' := 8) (a0 := (8, .inl (fun _ => 0))) B mw_301 rfl 1 rfl pr_bool (fun _ => rfl) (by decide) (by decide) (Nat.le_of_ble_eq_true rfl) (Nat.le_of_ble_eq_true rfl) (Nat.le_of_ble_eq_true rfl) dX6_init_94 (fun q_11 H B => ?_)
  have B := bd_to (ws' := [(a, .inr (5, [.int 0, .ref q_1, .ref q_2, .ref q_3, .ref q_4, .ref q_5, .ref q_6, .ref q_7, .ref q_8, .ref q_9, .ref q_10, .null, .int 0, .int 0, .null, .null, .null, .int 0])), (q_1, .inl (k 0, 768, .inl (fun _ => 0))), (q_2, .inl (k 0, 768, .inl (fun _ => 0))), (q_3, .inl (k 0, 768, .inl (fun _ => 0))), (q_4, .inl (k 0, 768, .inl (fun _ => 0))), (q_5, .inl (k 0, 768, .inl (fun _ => 0))), (q_6, .inl (k 1, 768, .inl (fun _ => 0))), (q_7, .inl (k 0, 16, .inl (fun _ => 0))), (q_8, .inl (k 0, 16, .inl (fun _ => 0))), (q_9, .inl (k 0, 192, .inl (fun _ => 0))), (q_10, .inl (k 0, 6, .inl (fun _ => 0))), (q_11, .inl (k 1, 8, .inl (fun _ => 0)))]) rfl B
  refine x_putF (ci := 5) (C := RX6) (T := TX6) (N := 18) (ty := .array .boolean) (v := .ref q_11) B tyX6_ok nmX6 0 rfl rfl in_X6 11 (by decide) mw_251 (fun _ h9 => h9) rfl hnm rfl (by decide +kernel) rfl rfl (Nat.le_of_ble_eq_true rfl) dX6_init_96 (fun H locs B => ?_)
  have B := bd_to (ws' := [(a, .inr (5, [.int 0, .ref q_1, .ref q_2, .ref q_3, .ref q_4, .ref q_5, .ref q_6, .ref q_7, .ref q_8, .ref q_9, .ref q_10, .ref q_11, .int 0, .int 0, .null, .null, .null, .int 0])), (q_1, .inl (k 0, 768, .inl (fun _ => 0))), (q_2, .inl (k 0, 768, .inl (fun _ => 0))), (q_3, .inl (k 0, 768, .inl (fun _ => 0))), (q_4, .inl (k 0, 768, .inl (fun _ => 0))), (q_5, .inl (k 0, 768, .inl (fun _ => 0))), (q_6, .inl (k 1, 768, .inl (fun _ => 0))), (q_7, .inl (k 0, 16, .inl (fun _ => 0))), (q_8, .inl (k 0, 16, .inl (fun _ => 0))), (q_9, .inl (k 0, 192, .inl (fun _ => 0))), (q_10, .inl (k 0, 6, .inl (fun _ => 0))), (q_11, .inl (k 1, 8, .inl (fun _ => 0)))]) rfl B
  refine lv_aload_n hx hb dX6_init_99 rfl (lv_at hl 0 rfl) ?_
  refine lv_iconst (v := 5) hx hb dX6_init_100 (by decide) ?_
  refine x_newa (atype := .int) (ty := .int) (N' := 5) (a0 := (5, .inl (fun _ => 0))) B mw_120 rfl 0 rfl pr_int (fun _ => rfl) (by decide) (by decide) (Nat.le_of_ble_eq_true rfl) (Nat.le_of_ble_eq_true rfl) (Nat.le_of_ble_eq_true rfl) dX6_init_101 (fun q_12 H B => ?_)
  have B := bd_to (ws' := [(a, .inr (5, [.int 0, .ref q_1, .ref q_2, .ref q_3, .ref q_4, .ref q_5, .ref q_6, .ref q_7, .ref q_8, .ref q_9, .ref q_10, .ref q_11, .int 0, .int 0, .null, .null, .null, .int 0])), (q_1, .inl (k 0, 768, .inl (fun _ => 0))), (q_2, .inl (k 0, 768, .inl (fun _ => 0))), (q_3, .inl (k 0, 768, .inl (fun _ => 0))), (q_4, .inl (k 0, 768, .inl (fun _ => 0))), (q_5, .inl (k 0, 768, .inl (fun _ => 0))), (q_6, .inl (k 1, 768, .inl (fun _ => 0))), (q_7, .inl (k 0, 16, .inl (fun _ => 0))), (q_8, .inl (k 0, 16, .inl (fun _ => 0))), (q_9, .inl (k 0, 192, .inl (fun _ => 0))), (q_10, .inl (k 0, 6, .inl (fun _ => 0))), (q_11, .inl (k 1, 8, .inl (fun _ => 0))), (q_12, .inl (k 0, 5, .inl (fun _ => 0)))]) rfl B
  refine x_putF (ci := 5) (C := RX6) (T := TX6) (N := 18) (ty := .array .int) (v := .ref q_12) B tyX6_ok nmX6 0 rfl rfl in_X6 14 (by decide) mw_255 (fun _ h9 => h9) rfl hnm rfl (by decide +kernel) rfl rfl (Nat.le_of_ble_eq_true rfl) dX6_init_103 (fun H locs B => ?_)
  have B := bd_to (ws' := [(a, .inr (5, [.int 0, .ref q_1, .ref q_2, .ref q_3, .ref q_4, .ref q_5, .ref q_6, .ref q_7, .ref q_8, .ref q_9, .ref q_10, .ref q_11, .int 0, .int 0, .ref q_12, .null, .null, .int 0])), (q_1, .inl (k 0, 768, .inl (fun _ => 0))), (q_2, .inl (k 0, 768, .inl (fun _ => 0))), (q_3, .inl (k 0, 768, .inl (fun _ => 0))), (q_4, .inl (k 0, 768, .inl (fun _ => 0))), (q_5, .inl (k 0, 768, .inl (fun _ => 0))), (q_6, .inl (k 1, 768, .inl (fun _ => 0))), (q_7, .inl (k 0, 16, .inl (fun _ => 0))), (q_8, .inl (k 0, 16, .inl (fun _ => 0))), (q_9, .inl (k 0, 192, .inl (fun _ => 0))), (q_10, .inl (k 0, 6, .inl (fun _ => 0))), (q_11, .inl (k 1, 8, .inl (fun _ => 0))), (q_12, .inl (k 0, 5, .inl (fun _ => 0)))]) rfl B
  refine lv_aload_n hx hb dX6_init_106 rfl (lv_at hl 0 rfl) ?_
  refine lv_iconst (v := 5) hx hb dX6_init_107 (by decide) ?_
  refine x_newa (atype := .int) (ty := .int) (N' := 5) (a0 := (5, .inl (fun _ => 0))) B mw_120 rfl 0 rfl pr_int (fun _ => rfl) (by decide) (by decide) (Nat.le_of_ble_eq_true rfl) (Nat.le_of_ble_eq_true rfl) (Nat.le_of_ble_eq_true rfl) dX6_init_108 (fun q_13 H B => ?_)
  have B := bd_to (ws' := [(a, .inr (5, [.int 0, .ref q_1, .ref q_2, .ref q_3, .ref q_4, .ref q_5, .ref q_6, .ref q_7, .ref q_8, .ref q_9, .ref q_10, .ref q_11, .int 0, .int 0, .ref q_12, .null, .null, .int 0])), (q_1, .inl (k 0, 768, .inl (fun _ => 0))), (q_2, .inl (k 0, 768, .inl (fun _ => 0))), (q_3, .inl (k 0, 768, .inl (fun _ => 0))), (q_4, .inl (k 0, 768, .inl (fun _ => 0))), (q_5, .inl (k 0, 768, .inl (fun _ => 0))), (q_6, .inl (k 1, 768, .inl (fun _ => 0))), (q_7, .inl (k 0, 16, .inl (fun _ => 0))), (q_8, .inl (k 0, 16, .inl (fun _ => 0))), (q_9, .inl (k 0, 192, .inl (fun _ => 0))), (q_10, .inl (k 0, 6, .inl (fun _ => 0))), (q_11, .inl (k 1, 8, .inl (fun _ => 0))), (q_12, .inl (k 0, 5, .inl (fun _ => 0))), (q_13, .inl (k 0, 5, .inl (fun _ => 0)))]) rfl B
  refine x_putF (ci := 5) (C := RX6) (T := TX6) (N := 18) (ty := .array .int) (v := .ref q_13) B tyX6_ok nmX6 0 rfl rfl in_X6 15 (by decide) mw_257 (fun _ h9 => h9) rfl hnm rfl (by decide +kernel) rfl rfl (Nat.le_of_ble_eq_true rfl) dX6_init_110 (fun H locs B => ?_)
  have B := bd_to (ws' := [(a, .inr (5, [.int 0, .ref q_1, .ref q_2, .ref q_3, .ref q_4, .ref q_5, .ref q_6, .ref q_7, .ref q_8, .ref q_9, .ref q_10, .ref q_11, .int 0, .int 0, .ref q_12, .ref q_13, .null, .int 0])), (q_1, .inl (k 0, 768, .inl (fun _ => 0))), (q_2, .inl (k 0, 768, .inl (fun _ => 0))), (q_3, .inl (k 0, 768, .inl (fun _ => 0))), (q_4, .inl (k 0, 768, .inl (fun _ => 0))), (q_5, .inl (k 0, 768, .inl (fun _ => 0))), (q_6, .inl (k 1, 768, .inl (fun _ => 0))), (q_7, .inl (k 0, 16, .inl (fun _ => 0))), (q_8, .inl (k 0, 16, .inl (fun _ => 0))), (q_9, .inl (k 0, 192, .inl (fun _ => 0))), (q_10, .inl (k 0, 6, .inl (fun _ => 0))), (q_11, .inl (k 1, 8, .inl (fun _ => 0))), (q_12, .inl (k 0, 5, .inl (fun _ => 0))), (q_13, .inl (k 0, 5, .inl (fun _ => 0)))]) rfl B
  refine lv_aload_n hx hb dX6_init_113 rfl (lv_at hl 0 rfl) ?_
  refine lv_iconst (v := 5) hx hb dX6_init_114 (by decide) ?_
  refine x_newa (atype := .int) (ty := .int) (N' := 5) (a0 := (5, .inl (fun _ => 0))) B mw_120 rfl 0 rfl pr_int (fun _ => rfl) (by decide) (by decide) (Nat.le_of_ble_eq_true rfl) (Nat.le_of_ble_eq_true rfl) (Nat.le_of_ble_eq_true rfl) dX6_init_115 (fun q_14 H B => ?_)
  have B := bd_to (ws' := [(a, .inr (5, [.int 0, .ref q_1, .ref q_2, .ref q_3, .ref q_4, .ref q_5, .ref q_6, .ref q_7, .ref q_8, .ref q_9, .ref q_10, .ref q_11, .int 0, .int 0, .ref q_12, .ref q_13, .null, .int 0])), (q_1, .inl (k 0, 768, .inl (fun _ => 0))), (q_2, .inl (k 0, 768, .inl (fun _ => 0))), (q_3, .inl (k 0, 768, .inl (fun _ => 0))), (q_4, .inl (k 0, 768, .inl (fun _ => 0))), (q_5, .inl (k 0, 768, .inl (fun _ => 0))), (q_6, .inl (k 1, 768, .inl (fun _ => 0))), (q_7, .inl (k 0, 16, .inl (fun _ => 0))), (q_8, .inl (k 0, 16, .inl (fun _ => 0))), (q_9, .inl (k 0, 192, .inl (fun _ => 0))), (q_10, .inl (k 0, 6, .inl (fun _ => 0))), (q_11, .inl (k 1, 8, .inl (fun _ => 0))), (q_12, .inl (k 0, 5, .inl (fun _ => 0))), (q_13, .inl (k 0, 5, .inl (fun _ => 0))), (q_14, .inl (k 0, 5, .inl (fun _ => 0)))]) rfl B
  refine x_putF (ci := 5) (C := RX6) (T := TX6) (N := 18) (ty := .array .int) (v := .ref q_14) B tyX6_ok nmX6 0 rfl rfl in_X6 16 (by decide) mw_258 (fun _ h9 => h9) rfl hnm rfl (by decide +kernel) rfl rfl (Nat.le_of_ble_eq_true rfl) dX6_init_117 (fun H locs B => ?_)
  have B := bd_to (ws' := [(a, .inr (5, [.int 0, .ref q_1, .ref q_2, .ref q_3, .ref q_4, .ref q_5, .ref q_6, .ref q_7, .ref q_8, .ref q_9, .ref q_10, .ref q_11, .int 0, .int 0, .ref q_12, .ref q_13, .ref q_14, .int 0])), (q_1, .inl (k 0, 768, .inl (fun _ => 0))), (q_2, .inl (k 0, 768, .inl (fun _ => 0))), (q_3, .inl (k 0, 768, .inl (fun _ => 0))), (q_4, .inl (k 0, 768, .inl (fun _ => 0))), (q_5, .inl (k 0, 768, .inl (fun _ => 0))), (q_6, .inl (k 1, 768, .inl (fun _ => 0))), (q_7, .inl (k 0, 16, .inl (fun _ => 0))), (q_8, .inl (k 0, 16, .inl (fun _ => 0))), (q_9, .inl (k 0, 192, .inl (fun _ => 0))), (q_10, .inl (k 0, 6, .inl (fun _ => 0))), (q_11, .inl (k 1, 8, .inl (fun _ => 0))), (q_12, .inl (k 0, 5, .inl (fun _ => 0))), (q_13, .inl (k 0, 5, .inl (fun _ => 0))), (q_14, .inl (k 0, 5, .inl (fun _ => 0)))]) rfl B
  have B := bd_sub (ws' := [(a, .inr (5, [.int 0, .ref q_1, .ref q_2, .ref q_3, .ref q_4, .ref q_5, .ref q_6, .ref q_7, .ref q_8, .ref q_9, .ref q_10, .ref q_11, .int 0, .int 0, .ref q_12, .ref q_13, .ref q_14, .int 0])), (q_9, .inl (k 0, 192, .inl (fun _ => 0))), (q_10, .inl (k 0, 6, .inl (fun _ => 0))), (q_11, .inl (k 1, 8, .inl (fun _ => 0))), (q_12, .inl (k 0, 5, .inl (fun _ => 0)))]) [0, 9, 10, 11, 12] (by decide) rfl B
  exact x_vret B hr (⟨q_1, q_2, q_3, q_4, q_5, q_6, q_7, q_8, q_9, q_10, q_11, q_12, q_13, q_14, rfl, rfl⟩) (Nat.le_of_ble_eq_true rfl) (Nat.le_of_ble_eq_true rfl) dX6_init_120

theorem mw_313 : (Jvm.Cond.methodLink "Galleyforge$Page" (3 : Nat) ({ cls := "java/lang/Object", name := "<init>", desc := "()V" } : Jvm.MethodName)) ∈ gt := gt_at 448 (by decide +kernel) (by decide +kernel)
theorem mw_314 : (Jvm.Cond.fieldLink "Galleyforge$Page" (9 : Nat) "Galleyforge$Page" "text" "LGalleyforge$Text;") ∈ gt := gt_at 449 (by decide +kernel) (by decide +kernel)
theorem mw_315 : (Jvm.Cond.fieldLink "Galleyforge$Page" (15 : Nat) "Galleyforge$Page" "rows" "LGalleyforge$Rows;") ∈ gt := gt_at 450 (by decide +kernel) (by decide +kernel)
theorem in_X3 : ∀ w ∈ u_ws RX3 TX3 15, w ∈ gt := in_of _ [470, 472, 474, 476, 478, 480, 482, 484, 486, 488, 490, 492, 494, 496, 498] (by decide +kernel) (by decide +kernel)
theorem dX3_init_0 : decode cX3_init 0 = .ok (.aload_n 0, 1) := by decide +kernel
theorem dX3_init_1 : decode cX3_init 1 = .ok (.invokespecial 3, 3) := by decide +kernel
theorem dX3_init_4 : decode cX3_init 4 = .ok (.aload_n 0, 1) := by decide +kernel
theorem dX3_init_5 : decode cX3_init 5 = .ok (.aload_n 1, 1) := by decide +kernel
theorem dX3_init_6 : decode cX3_init 6 = .ok (.putfield 9, 3) := by decide +kernel
theorem dX3_init_9 : decode cX3_init 9 = .ok (.aload_n 0, 1) := by decide +kernel
theorem dX3_init_10 : decode cX3_init 10 = .ok (.aload_n 2, 1) := by decide +kernel
theorem dX3_init_11 : decode cX3_init 11 = .ok (.putfield 15, 3) := by decide +kernel
theorem dX3_init_14 : decode cX3_init 14 = .ok (.return_, 1) := by decide +kernel
set_option maxHeartbeats 4000000 in
set_option maxRecDepth 100000 in
theorem c_Page_init (l : Launch) (dC : Nat → ClassId) (dI : Nat → Nat → Nat) (k : Nat → ClassId) (a : Nat) (t : Nat) (rr : Nat) : Ct l dC dI k yX3_init (.code yX3_init cX3_init 3 none) ({ frames := 1, cells := 0, slots := 0, locals := 12 } : Room) [.ref a, .ref t, .ref rr] [(a, .inr (3, [.null, .null, .int 0, .int 0, .int 0, .int 0, .int 0, .int 0, .int 0, .int 0, .int 0, .int 0, .int 0, .int 0, .int 0]))] (fun r w => (r = none ∧ w = [])) := by
  refine ct_of (by decide) (Nat.le_of_ble_eq_true rfl) ?_
  intro p e s m args below meth c H locs B hr hnm ls hl
  have hx := B.1.1
  have hb := B.1.2.1
  have hl : lv_has ls 3 [(0, .ref a), (1, .ref t), (2, .ref rr)] := hl
  refine lv_aload_n hx hb dX3_init_0 rfl (lv_at hl 0 rfl) ?_
  refine x_obj B mw_313 mw_42 mw_obj hl dX3_init_1 (Nat.le_of_ble_eq_true rfl) (Nat.le_of_ble_eq_true rfl) ?_
  refine lv_aload_n hx hb dX3_init_4 rfl (lv_at hl 0 rfl) ?_
  refine lv_aload_n hx hb dX3_init_5 rfl (lv_at hl 1 rfl) ?_
  refine x_putF (ci := 3) (C := RX3) (T := TX3) (N := 15) (ty := .object "Galleyforge$Text") (v := .ref t) B tyX3_ok nmX3 0 rfl rfl in_X3 0 (by decide) mw_314 (fun _ h9 => h9) rfl hnm rfl (by decide +kernel) rfl rfl (Nat.le_of_ble_eq_true rfl) dX3_init_6 (fun H locs B => ?_)
  have B := bd_to (ws' := [(a, .inr (3, [.ref t, .null, .int 0, .int 0, .int 0, .int 0, .int 0, .int 0, .int 0, .int 0, .int 0, .int 0, .int 0, .int 0, .int 0]))]) rfl B
  refine lv_aload_n hx hb dX3_init_9 rfl (lv_at hl 0 rfl) ?_
  refine lv_aload_n hx hb dX3_init_10 rfl (lv_at hl 2 rfl) ?_
  refine x_putF (ci := 3) (C := RX3) (T := TX3) (N := 15) (ty := .object "Galleyforge$Rows") (v := .ref rr) B tyX3_ok nmX3 0 rfl rfl in_X3 1 (by decide) mw_315 (fun _ h9 => h9) rfl hnm rfl (by decide +kernel) rfl rfl (Nat.le_of_ble_eq_true rfl) dX3_init_11 (fun H locs B => ?_)
  have B := bd_to (ws' := [(a, .inr (3, [.ref t, .ref rr, .int 0, .int 0, .int 0, .int 0, .int 0, .int 0, .int 0, .int 0, .int 0, .int 0, .int 0, .int 0, .int 0]))]) rfl B
  have B := bd_sub (ws' := []) [] (by decide) rfl B
  exact x_vret B hr (⟨rfl, rfl⟩) (Nat.le_of_ble_eq_true rfl) (Nat.le_of_ble_eq_true rfl) dX3_init_14

theorem mw_11 : (Jvm.Cond.initialized "Galleyforge$Page") ∈ gt := gt_at 146 (by decide +kernel) (by decide +kernel)
theorem mw_307 : (Jvm.Cond.methodLink "Galleyforge$Pages" (3 : Nat) ({ cls := "java/lang/Object", name := "<init>", desc := "()V" } : Jvm.MethodName)) ∈ gt := gt_at 442 (by decide +kernel) (by decide +kernel)
theorem mw_308 : (Jvm.Cond.classLink "Galleyforge$Pages" (42 : Nat) "Galleyforge$Page") ∈ gt := gt_at 443 (by decide +kernel) (by decide +kernel)
theorem mw_309 : (Jvm.Cond.instantiable "Galleyforge$Page" (15 : Nat)) ∈ gt := gt_at 444 (by decide +kernel) (by decide +kernel)
theorem mw_310 : (Jvm.Cond.methodLink "Galleyforge$Pages" (44 : Nat) ({ cls := "Galleyforge$Page", name := "<init>", desc := "(LGalleyforge$Text;LGalleyforge$Rows;)V" } : Jvm.MethodName)) ∈ gt := gt_at 445 (by decide +kernel) (by decide +kernel)
theorem mw_311 : (Jvm.Cond.instanceMethod ({ cls := "Galleyforge$Page", name := "<init>", desc := "(LGalleyforge$Text;LGalleyforge$Rows;)V" } : Jvm.MethodName)) ∈ gt := gt_at 446 (by decide +kernel) (by decide +kernel)
theorem mw_312 : (Jvm.Cond.code ({ cls := "Galleyforge$Page", name := "<init>", desc := "(LGalleyforge$Text;LGalleyforge$Rows;)V" } : Jvm.MethodName) prog_5_method_1_code (3 : Nat) (Option.none : Option Jvm.ClassFile.FieldType)) ∈ gt := gt_at 447 (by decide +kernel) (by decide +kernel)
theorem mw_366 : (Jvm.Cond.fieldLink "Galleyforge$Pages" (30 : Nat) "Galleyforge$Pages" "text" "LGalleyforge$Text;") ∈ gt := gt_at 501 (by decide +kernel) (by decide +kernel)
theorem mw_367 : (Jvm.Cond.fieldLink "Galleyforge$Pages" (34 : Nat) "Galleyforge$Pages" "rows" "LGalleyforge$Rows;") ∈ gt := gt_at 502 (by decide +kernel) (by decide +kernel)
theorem mw_368 : (Jvm.Cond.fieldLink "Galleyforge$Pages" (47 : Nat) "Galleyforge$Pages" "page" "LGalleyforge$Page;") ∈ gt := gt_at 503 (by decide +kernel) (by decide +kernel)
theorem mw_369 : (Jvm.Cond.fieldLink "Galleyforge$Pages" (38 : Nat) "Galleyforge$Pages" "states" "LGalleyforge$States;") ∈ gt := gt_at 504 (by decide +kernel) (by decide +kernel)
theorem mw_375 : (Jvm.Cond.fieldLink "Galleyforge$Pages" (9 : Nat) "Galleyforge$Pages" "firstRows" "[I") ∈ gt := gt_at 510 (by decide +kernel) (by decide +kernel)
theorem mw_377 : (Jvm.Cond.fieldLink "Galleyforge$Pages" (15 : Nat) "Galleyforge$Pages" "rowCounts" "[I") ∈ gt := gt_at 512 (by decide +kernel) (by decide +kernel)
theorem mw_379 : (Jvm.Cond.fieldLink "Galleyforge$Pages" (18 : Nat) "Galleyforge$Pages" "noteLines" "[I") ∈ gt := gt_at 514 (by decide +kernel) (by decide +kernel)
theorem mw_381 : (Jvm.Cond.fieldLink "Galleyforge$Pages" (21 : Nat) "Galleyforge$Pages" "used" "[I") ∈ gt := gt_at 516 (by decide +kernel) (by decide +kernel)
theorem mw_383 : (Jvm.Cond.fieldLink "Galleyforge$Pages" (24 : Nat) "Galleyforge$Pages" "pagesOfRows" "[I") ∈ gt := gt_at 518 (by decide +kernel) (by decide +kernel)
theorem mw_384 : (Jvm.Cond.fieldLink "Galleyforge$Pages" (27 : Nat) "Galleyforge$Pages" "figuresAt" "[I") ∈ gt := gt_at 519 (by decide +kernel) (by decide +kernel)
theorem mI_X3_init : mI yX3_init cX3_init 3 2 := ⟨⟨mw_312, mw_11, by decide, by decide, by decide +kernel⟩, mw_311, rfl⟩
theorem in_X4 : ∀ w ∈ u_ws RX4 TX4 12, w ∈ gt := in_of _ [521, 523, 525, 527, 529, 531, 533, 535, 537, 539, 541, 543] (by decide +kernel) (by decide +kernel)
theorem dX4_init_0 : decode cX4_init 0 = .ok (.aload_n 0, 1) := by decide +kernel
theorem dX4_init_1 : decode cX4_init 1 = .ok (.invokespecial 3, 3) := by decide +kernel
theorem dX4_init_4 : decode cX4_init 4 = .ok (.aload_n 0, 1) := by decide +kernel
theorem dX4_init_5 : decode cX4_init 5 = .ok (.sipush 965, 3) := by decide +kernel
theorem dX4_init_8 : decode cX4_init 8 = .ok (.newarray .int, 2) := by decide +kernel
theorem dX4_init_10 : decode cX4_init 10 = .ok (.putfield 9, 3) := by decide +kernel
theorem dX4_init_13 : decode cX4_init 13 = .ok (.aload_n 0, 1) := by decide +kernel
theorem dX4_init_14 : decode cX4_init 14 = .ok (.sipush 965, 3) := by decide +kernel
theorem dX4_init_17 : decode cX4_init 17 = .ok (.newarray .int, 2) := by decide +kernel
theorem dX4_init_19 : decode cX4_init 19 = .ok (.putfield 15, 3) := by decide +kernel
theorem dX4_init_22 : decode cX4_init 22 = .ok (.aload_n 0, 1) := by decide +kernel
theorem dX4_init_23 : decode cX4_init 23 = .ok (.sipush 965, 3) := by decide +kernel
theorem dX4_init_26 : decode cX4_init 26 = .ok (.newarray .int, 2) := by decide +kernel
theorem dX4_init_28 : decode cX4_init 28 = .ok (.putfield 18, 3) := by decide +kernel
theorem dX4_init_31 : decode cX4_init 31 = .ok (.aload_n 0, 1) := by decide +kernel
theorem dX4_init_32 : decode cX4_init 32 = .ok (.sipush 965, 3) := by decide +kernel
theorem dX4_init_35 : decode cX4_init 35 = .ok (.newarray .int, 2) := by decide +kernel
theorem dX4_init_37 : decode cX4_init 37 = .ok (.putfield 21, 3) := by decide +kernel
theorem dX4_init_40 : decode cX4_init 40 = .ok (.aload_n 0, 1) := by decide +kernel
theorem dX4_init_41 : decode cX4_init 41 = .ok (.sipush 768, 3) := by decide +kernel
theorem dX4_init_44 : decode cX4_init 44 = .ok (.newarray .int, 2) := by decide +kernel
theorem dX4_init_46 : decode cX4_init 46 = .ok (.putfield 24, 3) := by decide +kernel
theorem dX4_init_49 : decode cX4_init 49 = .ok (.aload_n 0, 1) := by decide +kernel
theorem dX4_init_50 : decode cX4_init 50 = .ok (.iconst 5, 1) := by decide +kernel
theorem dX4_init_51 : decode cX4_init 51 = .ok (.newarray .int, 2) := by decide +kernel
theorem dX4_init_53 : decode cX4_init 53 = .ok (.putfield 27, 3) := by decide +kernel
theorem dX4_init_56 : decode cX4_init 56 = .ok (.aload_n 0, 1) := by decide +kernel
theorem dX4_init_57 : decode cX4_init 57 = .ok (.aload_n 1, 1) := by decide +kernel
theorem dX4_init_58 : decode cX4_init 58 = .ok (.putfield 30, 3) := by decide +kernel
theorem dX4_init_61 : decode cX4_init 61 = .ok (.aload_n 0, 1) := by decide +kernel
theorem dX4_init_62 : decode cX4_init 62 = .ok (.aload_n 2, 1) := by decide +kernel
theorem dX4_init_63 : decode cX4_init 63 = .ok (.putfield 34, 3) := by decide +kernel
theorem dX4_init_66 : decode cX4_init 66 = .ok (.aload_n 0, 1) := by decide +kernel
theorem dX4_init_67 : decode cX4_init 67 = .ok (.aload_n 3, 1) := by decide +kernel
theorem dX4_init_68 : decode cX4_init 68 = .ok (.putfield 38, 3) := by decide +kernel
theorem dX4_init_71 : decode cX4_init 71 = .ok (.aload_n 0, 1) := by decide +kernel
theorem dX4_init_72 : decode cX4_init 72 = .ok (.new 42, 3) := by decide +kernel
theorem dX4_init_75 : decode cX4_init 75 = .ok (.dup, 1) := by decide +kernel
theorem dX4_init_76 : decode cX4_init 76 = .ok (.aload_n 1, 1) := by decide +kernel
theorem dX4_init_77 : decode cX4_init 77 = .ok (.aload_n 2, 1) := by decide +kernel
theorem dX4_init_78 : decode cX4_init 78 = .ok (.invokespecial 44, 3) := by decide +kernel
theorem dX4_init_81 : decode cX4_init 81 = .ok (.putfield 47, 3) := by decide +kernel
theorem dX4_init_84 : decode cX4_init 84 = .ok (.return_, 1) := by decide +kernel
set_option maxHeartbeats 4000000 in
set_option maxRecDepth 100000 in
theorem c_Pages_init (l : Launch) (dC : Nat → ClassId) (dI : Nat → Nat → Nat) (k : Nat → ClassId) (a : Nat) (t : Nat) (rr : Nat) (s_ : Nat) : Ct l dC dI k yX4_init (.code yX4_init cX4_init 4 none) ({ frames := 2, cells := 7, slots := 4648, locals := 34 } : Room) [.ref a, .ref t, .ref rr, .ref s_] [(a, .inr (4, [.null, .null, .null, .null, .int 0, .int 0, .null, .null, .null, .null, .null, .null]))] (fun r w => (∃ (pg : Nat) (p0 : Nat) (p1 : Nat) (p2 : Nat) (p3 : Nat) (p4 : Nat) (p5 : Nat), r = none ∧ w = [(a, .inr (4, [.ref t, .ref rr, .ref pg, .ref s_, .int 0, .int 0, .ref p0, .ref p1, .ref p2, .ref p3, .ref p4, .ref p5])), (p5, .inl (k 0, 5, .inl (fun _ => 0)))])) := by
  refine ct_of (by decide) (Nat.le_of_ble_eq_true rfl) ?_
  intro p e s m args below meth c H locs B hr hnm ls hl
  have hx := B.1.1
  have hb := B.1.2.1
  have hl : lv_has ls 4 [(0, .ref a), (1, .ref t), (2, .ref rr), (3, .ref s_)] := hl
  refine lv_aload_n hx hb dX4_init_0 rfl (lv_at hl 0 rfl) ?_
  refine x_obj B mw_307 mw_42 mw_obj hl dX4_init_1 (Nat.le_of_ble_eq_true rfl) (Nat.le_of_ble_eq_true rfl) ?_
  refine lv_aload_n hx hb dX4_init_4 rfl (lv_at hl 0 rfl) ?_
  refine lv_sipush (v := 965) hx hb dX4_init_5 (by decide) ?_
  refine x_newa (atype := .int) (ty := .int) (N' := 965) (a0 := (965, .inl (fun _ => 0))) B mw_120 rfl 0 rfl pr_int (fun _ => rfl) (by decide) (by decide) (Nat.le_of_ble_eq_true rfl) (Nat.le_of_ble_eq_true rfl) (Nat.le_of_ble_eq_true rfl) dX4_init_8 (fun q_1 H B => ?_)
  have B := bd_to (ws' := [(a, .inr (4, [.null, .null, .null, .null, .int 0, .int 0, .null, .null, .null, .null, .null, .null])), (q_1, .inl (k 0, 965, .inl (fun _ => 0)))]) rfl B
  refine x_putF (ci := 4) (C := RX4) (T := TX4) (N := 12) (ty := .array .int) (v := .ref q_1) B tyX4_ok nmX4 0 rfl rfl in_X4 6 (by decide) mw_375 (fun _ h9 => h9) rfl hnm rfl (by decide +kernel) rfl rfl (Nat.le_of_ble_eq_true rfl) dX4_init_10 (fun H locs B => ?_)
  have B := bd_to (ws' := [(a, .inr (4, [.null, .null, .null, .null, .int 0, .int 0, .ref q_1, .null, .null, .null, .null, .null])), (q_1, .inl (k 0, 965, .inl (fun _ => 0)))]) rfl B
  refine lv_aload_n hx hb dX4_init_13 rfl (lv_at hl 0 rfl) ?_
  refine lv_sipush (v := 965) hx hb dX4_init_14 (by decide) ?_
  refine x_newa (atype := .int) (ty := .int) (N' := 965) (a0 := (965, .inl (fun _ => 0))) B mw_120 rfl 0 rfl pr_int (fun _ => rfl) (by decide) (by decide) (Nat.le_of_ble_eq_true rfl) (Nat.le_of_ble_eq_true rfl) (Nat.le_of_ble_eq_true rfl) dX4_init_17 (fun q_2 H B => ?_)
  have B := bd_to (ws' := [(a, .inr (4, [.null, .null, .null, .null, .int 0, .int 0, .ref q_1, .null, .null, .null, .null, .null])), (q_1, .inl (k 0, 965, .inl (fun _ => 0))), (q_2, .inl (k 0, 965, .inl (fun _ => 0)))]) rfl B
  refine x_putF (ci := 4) (C := RX4) (T := TX4) (N := 12) (ty := .array .int) (v := .ref q_2) B tyX4_ok nmX4 0 rfl rfl in_X4 7 (by decide) mw_377 (fun _ h9 => h9) rfl hnm rfl (by decide +kernel) rfl rfl (Nat.le_of_ble_eq_true rfl) dX4_init_19 (fun H locs B => ?_)
  have B := bd_to (ws' := [(a, .inr (4, [.null, .null, .null, .null, .int 0, .int 0, .ref q_1, .ref q_2, .null, .null, .null, .null])), (q_1, .inl (k 0, 965, .inl (fun _ => 0))), (q_2, .inl (k 0, 965, .inl (fun _ => 0)))]) rfl B
  refine lv_aload_n hx hb dX4_init_22 rfl (lv_at hl 0 rfl) ?_
  refine lv_sipush (v := 965) hx hb dX4_init_23 (by decide) ?_
  refine x_newa (atype := .int) (ty := .int) (N' := 965) (a0 := (965, .inl (fun _ => 0))) B mw_120 rfl 0 rfl pr_int (fun _ => rfl) (by decide) (by decide) (Nat.le_of_ble_eq_true rfl) (Nat.le_of_ble_eq_true rfl) (Nat.le_of_ble_eq_true rfl) dX4_init_26 (fun q_3 H B => ?_)
  have B := bd_to (ws' := [(a, .inr (4, [.null, .null, .null, .null, .int 0, .int 0, .ref q_1, .ref q_2, .null, .null, .null, .null])), (q_1, .inl (k 0, 965, .inl (fun _ => 0))), (q_2, .inl (k 0, 965, .inl (fun _ => 0))), (q_3, .inl (k 0, 965, .inl (fun _ => 0)))]) rfl B
  refine x_putF (ci := 4) (C := RX4) (T := TX4) (N := 12) (ty := .array .int) (v := .ref q_3) B tyX4_ok nmX4 0 rfl rfl in_X4 8 (by decide) mw_379 (fun _ h9 => h9) rfl hnm rfl (by decide +kernel) rfl rfl (Nat.le_of_ble_eq_true rfl) dX4_init_28 (fun H locs B => ?_)
  have B := bd_to (ws' := [(a, .inr (4, [.null, .null, .null, .null, .int 0, .int 0, .ref q_1, .ref q_2, .ref q_3, .null, .null, .null])), (q_1, .inl (k 0, 965, .inl (fun _ => 0))), (q_2, .inl (k 0, 965, .inl (fun _ => 0))), (q_3, .inl (k 0, 965, .inl (fun _ => 0)))]) rfl B
  refine lv_aload_n hx hb dX4_init_31 rfl (lv_at hl 0 rfl) ?_
  refine lv_sipush (v := 965) hx hb dX4_init_32 (by decide) ?_
  refine x_newa (atype := .int) (ty := .int) (N' := 965) (a0 := (965, .inl (fun _ => 0))) B mw_120 rfl 0 rfl pr_int (fun _ => rfl) (by decide) (by decide) (Nat.le_of_ble_eq_true rfl) (Nat.le_of_ble_eq_true rfl) (Nat.le_of_ble_eq_true rfl) dX4_init_35 (fun q_4 H B => ?_)
  have B := bd_to (ws' := [(a, .inr (4, [.null, .null, .null, .null, .int 0, .int 0, .ref q_1, .ref q_2, .ref q_3, .null, .null, .null])), (q_1, .inl (k 0, 965, .inl (fun _ => 0))), (q_2, .inl (k 0, 965, .inl (fun _ => 0))), (q_3, .inl (k 0, 965, .inl (fun _ => 0))), (q_4, .inl (k 0, 965, .inl (fun _ => 0)))]) rfl B
  refine x_putF (ci := 4) (C := RX4) (T := TX4) (N := 12) (ty := .array .int) (v := .ref q_4) B tyX4_ok nmX4 0 rfl rfl in_X4 9 (by decide) mw_381 (fun _ h9 => h9) rfl hnm rfl (by decide +kernel) rfl rfl (Nat.le_of_ble_eq_true rfl) dX4_init_37 (fun H locs B => ?_)
  have B := bd_to (ws' := [(a, .inr (4, [.null, .null, .null, .null, .int 0, .int 0, .ref q_1, .ref q_2, .ref q_3, .ref q_4, .null, .null])), (q_1, .inl (k 0, 965, .inl (fun _ => 0))), (q_2, .inl (k 0, 965, .inl (fun _ => 0))), (q_3, .inl (k 0, 965, .inl (fun _ => 0))), (q_4, .inl (k 0, 965, .inl (fun _ => 0)))]) rfl B
  refine lv_aload_n hx hb dX4_init_40 rfl (lv_at hl 0 rfl) ?_
  refine lv_sipush (v := 768) hx hb dX4_init_41 (by decide) ?_
  refine x_newa (atype := .int) (ty := .int) (N' := 768) (a0 := (768, .inl (fun _ => 0))) B mw_120 rfl 0 rfl pr_int (fun _ => rfl) (by decide) (by decide) (Nat.le_of_ble_eq_true rfl) (Nat.le_of_ble_eq_true rfl) (Nat.le_of_ble_eq_true rfl) dX4_init_44 (fun q_5 H B => ?_)
  have B := bd_to (ws' := [(a, .inr (4, [.null, .null, .null, .null, .int 0, .int 0, .ref q_1, .ref q_2, .ref q_3, .ref q_4, .null, .null])), (q_1, .inl (k 0, 965, .inl (fun _ => 0))), (q_2, .inl (k 0, 965, .inl (fun _ => 0))), (q_3, .inl (k 0, 965, .inl (fun _ => 0))), (q_4, .inl (k 0, 965, .inl (fun _ => 0))), (q_5, .inl (k 0, 768, .inl (fun _ => 0)))]) rfl B
  refine x_putF (ci := 4) (C := RX4) (T := TX4) (N := 12) (ty := .array .int) (v := .ref q_5) B tyX4_ok nmX4 0 rfl rfl in_X4 10 (by decide) mw_383 (fun _ h9 => h9) rfl hnm rfl (by decide +kernel) rfl rfl (Nat.le_of_ble_eq_true rfl) dX4_init_46 (fun H locs B => ?_)
  have B := bd_to (ws' := [(a, .inr (4, [.null, .null, .null, .null, .int 0, .int 0, .ref q_1, .ref q_2, .ref q_3, .ref q_4, .ref q_5, .null])), (q_1, .inl (k 0, 965, .inl (fun _ => 0))), (q_2, .inl (k 0, 965, .inl (fun _ => 0))), (q_3, .inl (k 0, 965, .inl (fun _ => 0))), (q_4, .inl (k 0, 965, .inl (fun _ => 0))), (q_5, .inl (k 0, 768, .inl (fun _ => 0)))]) rfl B
  refine lv_aload_n hx hb dX4_init_49 rfl (lv_at hl 0 rfl) ?_
  refine lv_iconst (v := 5) hx hb dX4_init_50 (by decide) ?_
  refine x_newa (atype := .int) (ty := .int) (N' := 5) (a0 := (5, .inl (fun _ => 0))) B mw_120 rfl 0 rfl pr_int (fun _ => rfl) (by decide) (by decide) (Nat.le_of_ble_eq_true rfl) (Nat.le_of_ble_eq_true rfl) (Nat.le_of_ble_eq_true rfl) dX4_init_51 (fun q_6 H B => ?_)
  have B := bd_to (ws' := [(a, .inr (4, [.null, .null, .null, .null, .int 0, .int 0, .ref q_1, .ref q_2, .ref q_3, .ref q_4, .ref q_5, .null])), (q_1, .inl (k 0, 965, .inl (fun _ => 0))), (q_2, .inl (k 0, 965, .inl (fun _ => 0))), (q_3, .inl (k 0, 965, .inl (fun _ => 0))), (q_4, .inl (k 0, 965, .inl (fun _ => 0))), (q_5, .inl (k 0, 768, .inl (fun _ => 0))), (q_6, .inl (k 0, 5, .inl (fun _ => 0)))]) rfl B
  refine x_putF (ci := 4) (C := RX4) (T := TX4) (N := 12) (ty := .array .int) (v := .ref q_6) B tyX4_ok nmX4 0 rfl rfl in_X4 11 (by decide) mw_384 (fun _ h9 => h9) rfl hnm rfl (by decide +kernel) rfl rfl (Nat.le_of_ble_eq_true rfl) dX4_init_53 (fun H locs B => ?_)
  have B := bd_to (ws' := [(a, .inr (4, [.null, .null, .null, .null, .int 0, .int 0, .ref q_1, .ref q_2, .ref q_3, .ref q_4, .ref q_5, .ref q_6])), (q_1, .inl (k 0, 965, .inl (fun _ => 0))), (q_2, .inl (k 0, 965, .inl (fun _ => 0))), (q_3, .inl (k 0, 965, .inl (fun _ => 0))), (q_4, .inl (k 0, 965, .inl (fun _ => 0))), (q_5, .inl (k 0, 768, .inl (fun _ => 0))), (q_6, .inl (k 0, 5, .inl (fun _ => 0)))]) rfl B
  refine lv_aload_n hx hb dX4_init_56 rfl (lv_at hl 0 rfl) ?_
  refine lv_aload_n hx hb dX4_init_57 rfl (lv_at hl 1 rfl) ?_
  refine x_putF (ci := 4) (C := RX4) (T := TX4) (N := 12) (ty := .object "Galleyforge$Text") (v := .ref t) B tyX4_ok nmX4 0 rfl rfl in_X4 0 (by decide) mw_366 (fun _ h9 => h9) rfl hnm rfl (by decide +kernel) rfl rfl (Nat.le_of_ble_eq_true rfl) dX4_init_58 (fun H locs B => ?_)
  have B := bd_to (ws' := [(a, .inr (4, [.ref t, .null, .null, .null, .int 0, .int 0, .ref q_1, .ref q_2, .ref q_3, .ref q_4, .ref q_5, .ref q_6])), (q_1, .inl (k 0, 965, .inl (fun _ => 0))), (q_2, .inl (k 0, 965, .inl (fun _ => 0))), (q_3, .inl (k 0, 965, .inl (fun _ => 0))), (q_4, .inl (k 0, 965, .inl (fun _ => 0))), (q_5, .inl (k 0, 768, .inl (fun _ => 0))), (q_6, .inl (k 0, 5, .inl (fun _ => 0)))]) rfl B
  refine lv_aload_n hx hb dX4_init_61 rfl (lv_at hl 0 rfl) ?_
  refine lv_aload_n hx hb dX4_init_62 rfl (lv_at hl 2 rfl) ?_
  refine x_putF (ci := 4) (C := RX4) (T := TX4) (N := 12) (ty := .object "Galleyforge$Rows") (v := .ref rr) B tyX4_ok nmX4 0 rfl rfl in_X4 1 (by decide) mw_367 (fun _ h9 => h9) rfl hnm rfl (by decide +kernel) rfl rfl (Nat.le_of_ble_eq_true rfl) dX4_init_63 (fun H locs B => ?_)
  have B := bd_to (ws' := [(a, .inr (4, [.ref t, .ref rr, .null, .null, .int 0, .int 0, .ref q_1, .ref q_2, .ref q_3, .ref q_4, .ref q_5, .ref q_6])), (q_1, .inl (k 0, 965, .inl (fun _ => 0))), (q_2, .inl (k 0, 965, .inl (fun _ => 0))), (q_3, .inl (k 0, 965, .inl (fun _ => 0))), (q_4, .inl (k 0, 965, .inl (fun _ => 0))), (q_5, .inl (k 0, 768, .inl (fun _ => 0))), (q_6, .inl (k 0, 5, .inl (fun _ => 0)))]) rfl B
  refine lv_aload_n hx hb dX4_init_66 rfl (lv_at hl 0 rfl) ?_
  refine lv_aload_n hx hb dX4_init_67 rfl (lv_at hl 3 rfl) ?_
  refine x_putF (ci := 4) (C := RX4) (T := TX4) (N := 12) (ty := .object "Galleyforge$States") (v := .ref s_) B tyX4_ok nmX4 0 rfl rfl in_X4 3 (by decide) mw_369 (fun _ h9 => h9) rfl hnm rfl (by decide +kernel) rfl rfl (Nat.le_of_ble_eq_true rfl) dX4_init_68 (fun H locs B => ?_)
  have B := bd_to (ws' := [(a, .inr (4, [.ref t, .ref rr, .null, .ref s_, .int 0, .int 0, .ref q_1, .ref q_2, .ref q_3, .ref q_4, .ref q_5, .ref q_6])), (q_1, .inl (k 0, 965, .inl (fun _ => 0))), (q_2, .inl (k 0, 965, .inl (fun _ => 0))), (q_3, .inl (k 0, 965, .inl (fun _ => 0))), (q_4, .inl (k 0, 965, .inl (fun _ => 0))), (q_5, .inl (k 0, 768, .inl (fun _ => 0))), (q_6, .inl (k 0, 5, .inl (fun _ => 0)))]) rfl B
  refine lv_aload_n hx hb dX4_init_71 rfl (lv_at hl 0 rfl) ?_
  refine x_new (ci := 3) (fs := [.null, .null, .int 0, .int 0, .int 0, .int 0, .int 0, .int 0, .int 0, .int 0, .int 0, .int 0, .int 0, .int 0, .int 0]) (C := RX3) (T := TX3) (N := 15) B tyX3_ok in_X3 mw_308 mw_309 mw_11 rfl (by decide +kernel) (Nat.le_of_ble_eq_true rfl) (Nat.le_of_ble_eq_true rfl) dX4_init_72 (fun q_7 H B => ?_)
  have B := bd_to (ws' := [(a, .inr (4, [.ref t, .ref rr, .null, .ref s_, .int 0, .int 0, .ref q_1, .ref q_2, .ref q_3, .ref q_4, .ref q_5, .ref q_6])), (q_1, .inl (k 0, 965, .inl (fun _ => 0))), (q_2, .inl (k 0, 965, .inl (fun _ => 0))), (q_3, .inl (k 0, 965, .inl (fun _ => 0))), (q_4, .inl (k 0, 965, .inl (fun _ => 0))), (q_5, .inl (k 0, 768, .inl (fun _ => 0))), (q_6, .inl (k 0, 5, .inl (fun _ => 0))), (q_7, .inr (3, [.null, .null, .int 0, .int 0, .int 0, .int 0, .int 0, .int 0, .int 0, .int 0, .int 0, .int 0, .int 0, .int 0, .int 0]))]) rfl B
  refine lv_dup hx hb dX4_init_75 rfl ?_
  refine lv_aload_n hx hb dX4_init_76 rfl (lv_at hl 1 rfl) ?_
  refine lv_aload_n hx hb dX4_init_77 rfl (lv_at hl 2 rfl) ?_
  refine x_callI (rest := [.ref q_7, .ref a]) (wr := [(a, .inr (4, [.ref t, .ref rr, .null, .ref s_, .int 0, .int 0, .ref q_1, .ref q_2, .ref q_3, .ref q_4, .ref q_5, .ref q_6])), (q_1, .inl (k 0, 965, .inl (fun _ => 0))), (q_2, .inl (k 0, 965, .inl (fun _ => 0))), (q_3, .inl (k 0, 965, .inl (fun _ => 0))), (q_4, .inl (k 0, 965, .inl (fun _ => 0))), (q_5, .inl (k 0, 768, .inl (fun _ => 0))), (q_6, .inl (k 0, 5, .inl (fun _ => 0)))]) (c_Page_init l dC dI k q_7 t rr) B mI_X3_init mw_310 hl [7] [0, 1, 2, 3, 4, 5, 6] rfl rfl ⟨by decide, by decide⟩ (by decide) ⟨Nat.le_of_ble_eq_true rfl, Nat.le_of_ble_eq_true rfl⟩ (Nat.le_of_ble_eq_true rfl) rfl dX4_init_78 ⟨Nat.le_of_ble_eq_true rfl, Nat.le_of_ble_eq_true rfl⟩ (fun r w H locs hp B => ?_)
  obtain ⟨rfl, rfl⟩ := hp
  have B := bd_to (ws' := [(a, .inr (4, [.ref t, .ref rr, .null, .ref s_, .int 0, .int 0, .ref q_1, .ref q_2, .ref q_3, .ref q_4, .ref q_5, .ref q_6])), (q_1, .inl (k 0, 965, .inl (fun _ => 0))), (q_2, .inl (k 0, 965, .inl (fun _ => 0))), (q_3, .inl (k 0, 965, .inl (fun _ => 0))), (q_4, .inl (k 0, 965, .inl (fun _ => 0))), (q_5, .inl (k 0, 768, .inl (fun _ => 0))), (q_6, .inl (k 0, 5, .inl (fun _ => 0)))]) rfl B
  refine x_putF (ci := 4) (C := RX4) (T := TX4) (N := 12) (ty := .object "Galleyforge$Page") (v := .ref q_7) B tyX4_ok nmX4 0 rfl rfl in_X4 2 (by decide) mw_368 (fun _ h9 => h9) rfl hnm rfl (by decide +kernel) rfl rfl (Nat.le_of_ble_eq_true rfl) dX4_init_81 (fun H locs B => ?_)
  have B := bd_to (ws' := [(a, .inr (4, [.ref t, .ref rr, .ref q_7, .ref s_, .int 0, .int 0, .ref q_1, .ref q_2, .ref q_3, .ref q_4, .ref q_5, .ref q_6])), (q_1, .inl (k 0, 965, .inl (fun _ => 0))), (q_2, .inl (k 0, 965, .inl (fun _ => 0))), (q_3, .inl (k 0, 965, .inl (fun _ => 0))), (q_4, .inl (k 0, 965, .inl (fun _ => 0))), (q_5, .inl (k 0, 768, .inl (fun _ => 0))), (q_6, .inl (k 0, 5, .inl (fun _ => 0)))]) rfl B
  have B := bd_sub (ws' := [(a, .inr (4, [.ref t, .ref rr, .ref q_7, .ref s_, .int 0, .int 0, .ref q_1, .ref q_2, .ref q_3, .ref q_4, .ref q_5, .ref q_6])), (q_6, .inl (k 0, 5, .inl (fun _ => 0)))]) [0, 6] (by decide) rfl B
  exact x_vret B hr (⟨q_7, q_1, q_2, q_3, q_4, q_5, q_6, rfl, rfl⟩) (Nat.le_of_ble_eq_true rfl) (Nat.le_of_ble_eq_true rfl) dX4_init_84

end
