section
theorem mw_60 : (Jvm.Cond.methodLink "java/util/AbstractCollection" (1 : Nat) ({ cls := "java/lang/Object", name := "<init>", desc := "()V" } : Jvm.MethodName)) ∈ gt := gt_at 130 (by decide +kernel) (by decide +kernel)
theorem dJxa1e45_init_da8c8_0 : decode cJxa1e45_init_da8c8 0 = .ok (.aload_n 0, 1) := by decide +kernel
theorem dJxa1e45_init_da8c8_1 : decode cJxa1e45_init_da8c8 1 = .ok (.invokespecial 1, 3) := by decide +kernel
theorem dJxa1e45_init_da8c8_4 : decode cJxa1e45_init_da8c8 4 = .ok (.return_, 1) := by decide +kernel
set_option maxHeartbeats 4000000 in
set_option maxRecDepth 100000 in
theorem k_acInit (l : Launch) (dC : Nat → ClassId) (dI : Nat → Nat → Nat) (k : Nat → ClassId) (al : Nat) : Kn l dC dI k yJxa1e45_init_da8c8 (.code yJxa1e45_init_da8c8 cJxa1e45_init_da8c8 1 none) ({ frames := 1, cells := 0, slots := 0, locals := 12 } : Room) [.ref al] [(al, .inr (12, [.int (iI 0), .null, .int (iI 0)]))] (fun r w gc gs => (r = none ∧ w = [(al, .inr (12, [.int (iI 0), .null, .int (iI 0)]))] ∧ gc = 0 ∧ gs = 0)) := by
  refine kn_of (by decide) (Nat.le_of_ble_eq_true rfl) ?_
  intro p e s m args below meth c H locs B hr hnm ls hl
  have hx := B.1.1
  have hb := B.1.2.1
  have hl : lv_has ls 1 [(0, .ref al)] := hl
  refine lv_aload_n hx hb dJxa1e45_init_da8c8_0 rfl (lv_at hl 0 rfl) ?_
  refine x_obj B mw_60 mw_41 mw_obj hl dJxa1e45_init_da8c8_1 (Nat.le_of_ble_eq_true rfl) (Nat.le_of_ble_eq_true rfl) ?_
  exact k_vret B hr (⟨rfl, rfl, rfl, rfl⟩) ⟨Nat.le_of_ble_eq_true rfl, Nat.le_of_ble_eq_true rfl⟩ ⟨Nat.le_of_ble_eq_true rfl, Nat.le_of_ble_eq_true rfl⟩ dJxa1e45_init_da8c8_4

theorem mw_3 : (Jvm.Cond.initialized "java/util/AbstractCollection") ∈ gt := gt_at 73 (by decide +kernel) (by decide +kernel)
theorem mw_57 : (Jvm.Cond.methodLink "java/util/AbstractList" (1 : Nat) ({ cls := "java/util/AbstractCollection", name := "<init>", desc := "()V" } : Jvm.MethodName)) ∈ gt := gt_at 127 (by decide +kernel) (by decide +kernel)
theorem mw_58 : (Jvm.Cond.instanceMethod ({ cls := "java/util/AbstractCollection", name := "<init>", desc := "()V" } : Jvm.MethodName)) ∈ gt := gt_at 128 (by decide +kernel) (by decide +kernel)
theorem mw_59 : (Jvm.Cond.code ({ cls := "java/util/AbstractCollection", name := "<init>", desc := "()V" } : Jvm.MethodName) prog_38_method_1_code (1 : Nat) (Option.none : Option Jvm.ClassFile.FieldType)) ∈ gt := gt_at 129 (by decide +kernel) (by decide +kernel)
theorem mw_65 : (Jvm.Cond.fieldLink "java/util/AbstractList" (7 : Nat) "java/util/AbstractList" "modCount" "I") ∈ gt := gt_at 135 (by decide +kernel) (by decide +kernel)
theorem mI_Jxa1e45_init_da8c8 : mI yJxa1e45_init_da8c8 cJxa1e45_init_da8c8 1 0 := ⟨⟨mw_59, mw_3, by decide, by decide, by decide +kernel⟩, mw_58, rfl⟩
theorem dJxc12de_init_da8c8_0 : decode cJxc12de_init_da8c8 0 = .ok (.aload_n 0, 1) := by decide +kernel
theorem dJxc12de_init_da8c8_1 : decode cJxc12de_init_da8c8 1 = .ok (.invokespecial 1, 3) := by decide +kernel
theorem dJxc12de_init_da8c8_4 : decode cJxc12de_init_da8c8 4 = .ok (.aload_n 0, 1) := by decide +kernel
theorem dJxc12de_init_da8c8_5 : decode cJxc12de_init_da8c8 5 = .ok (.iconst 0, 1) := by decide +kernel
theorem dJxc12de_init_da8c8_6 : decode cJxc12de_init_da8c8 6 = .ok (.putfield 7, 3) := by decide +kernel
theorem dJxc12de_init_da8c8_9 : decode cJxc12de_init_da8c8 9 = .ok (.return_, 1) := by decide +kernel
set_option maxHeartbeats 4000000 in
set_option maxRecDepth 100000 in
theorem k_atInit (l : Launch) (dC : Nat → ClassId) (dI : Nat → Nat → Nat) (k : Nat → ClassId) (al : Nat) : Kn l dC dI k yJxc12de_init_da8c8 (.code yJxc12de_init_da8c8 cJxc12de_init_da8c8 1 none) ({ frames := 2, cells := 0, slots := 0, locals := 32 } : Room) [.ref al] [(al, .inr (12, [.int (iI 0), .null, .int (iI 0)]))] (fun r w gc gs => (r = none ∧ w = [(al, .inr (12, [.int (iI 0), .null, .int (iI 0)]))] ∧ gc = 0 ∧ gs = 0)) := by
  refine kn_of (by decide) (Nat.le_of_ble_eq_true rfl) ?_
  intro p e s m args below meth c H locs B hr hnm ls hl
  have hx := B.1.1
  have hb := B.1.2.1
  have hl : lv_has ls 1 [(0, .ref al)] := hl
  refine lv_aload_n hx hb dJxc12de_init_da8c8_0 rfl (lv_at hl 0 rfl) ?_
  have B := bd_to (ws' := [(al, .inr (12, [.int (iI 0), .null, .int (iI 0)]))] ++ []) rfl B
  refine k_I (rest := []) (wc := [(al, .inr (12, [.int (iI 0), .null, .int (iI 0)]))]) (wr := []) (k_acInit l dC dI k al) B mI_Jxa1e45_init_da8c8 mw_57 hl ⟨Nat.le_of_ble_eq_true rfl, Nat.le_of_ble_eq_true rfl⟩ (Nat.le_of_ble_eq_true rfl) rfl dJxc12de_init_da8c8_1 ⟨Nat.le_of_ble_eq_true rfl, Nat.le_of_ble_eq_true rfl⟩ (fun r w gc gs H locs hp B => ?_)
  obtain ⟨rfl, hw9, rfl, rfl⟩ := hp
  rw [hw9] at B; clear hw9
  have B := bd_to (ws' := [(al, .inr (12, [.int (iI 0), .null, .int (iI 0)]))]) rfl B
  refine lv_aload_n hx hb dJxc12de_init_da8c8_4 rfl (lv_at hl 0 rfl) ?_
  refine lv_iconst (v := iI 0) hx hb dJxc12de_init_da8c8_5 (by decide) ?_
  refine x_put (ci := 12) (C := RJx4a65c) (T := TJx4a65c) (N := 3) (ty := .int) (v := .int (iI 0)) B tyJx4a65c_ok nmJx4a65c 0 rfl rfl in_Jx4a65c 0 (by decide) mw_65 (fun _ h9 => h9) rfl (by decide +kernel) rfl rfl (Nat.le_of_ble_eq_true rfl) dJxc12de_init_da8c8_6 (fun H locs B => ?_)
  have B := bd_to (ws' := [(al, .inr (12, [.int (iI 0), .null, .int (iI 0)]))]) rfl B
  exact k_vret B hr (⟨rfl, rfl, rfl, rfl⟩) ⟨Nat.le_of_ble_eq_true rfl, Nat.le_of_ble_eq_true rfl⟩ ⟨Nat.le_of_ble_eq_true rfl, Nat.le_of_ble_eq_true rfl⟩ dJxc12de_init_da8c8_9

theorem mw_4 : (Jvm.Cond.initialized "java/util/AbstractList") ∈ gt := gt_at 74 (by decide +kernel) (by decide +kernel)
theorem mw_54 : (Jvm.Cond.methodLink "java/util/ArrayList" (1 : Nat) ({ cls := "java/util/AbstractList", name := "<init>", desc := "()V" } : Jvm.MethodName)) ∈ gt := gt_at 124 (by decide +kernel) (by decide +kernel)
theorem mw_55 : (Jvm.Cond.instanceMethod ({ cls := "java/util/AbstractList", name := "<init>", desc := "()V" } : Jvm.MethodName)) ∈ gt := gt_at 125 (by decide +kernel) (by decide +kernel)
theorem mw_56 : (Jvm.Cond.code ({ cls := "java/util/AbstractList", name := "<init>", desc := "()V" } : Jvm.MethodName) prog_39_method_1_code (1 : Nat) (Option.none : Option Jvm.ClassFile.FieldType)) ∈ gt := gt_at 126 (by decide +kernel) (by decide +kernel)
theorem mI_Jxc12de_init_da8c8 : mI yJxc12de_init_da8c8 cJxc12de_init_da8c8 1 0 := ⟨⟨mw_56, mw_4, by decide, by decide, by decide +kernel⟩, mw_55, rfl⟩
theorem dJx4a65c_init_da8c8_0 : decode cJx4a65c_init_da8c8 0 = .ok (.aload_n 0, 1) := by decide +kernel
theorem dJx4a65c_init_da8c8_1 : decode cJx4a65c_init_da8c8 1 = .ok (.invokespecial 1, 3) := by decide +kernel
theorem dJx4a65c_init_da8c8_4 : decode cJx4a65c_init_da8c8 4 = .ok (.aload_n 0, 1) := by decide +kernel
theorem dJx4a65c_init_da8c8_5 : decode cJx4a65c_init_da8c8 5 = .ok (.getstatic 39, 3) := by decide +kernel
theorem dJx4a65c_init_da8c8_8 : decode cJx4a65c_init_da8c8 8 = .ok (.putfield 9, 3) := by decide +kernel
theorem dJx4a65c_init_da8c8_11 : decode cJx4a65c_init_da8c8 11 = .ok (.return_, 1) := by decide +kernel
set_option maxHeartbeats 4000000 in
set_option maxRecDepth 100000 in
theorem k_alInit (l : Launch) (dC : Nat → ClassId) (dI : Nat → Nat → Nat) (k : Nat → ClassId) (al : Nat) : Kn l dC dI k yJx4a65c_init_da8c8 (.code yJx4a65c_init_da8c8 cJx4a65c_init_da8c8 1 none) ({ frames := 3, cells := 0, slots := 0, locals := 52 } : Room) [.ref al] [(al, .inr (12, [.int (iI 0), .null, .int (iI 0)]))] (fun r w gc gs => (r = none ∧ w = [(al, .inr (12, [.int (iI 0), .ref (dI 99 1), .int (iI 0)]))] ∧ gc = 0 ∧ gs = 0)) := by
  refine kn_of (by decide) (Nat.le_of_ble_eq_true rfl) ?_
  intro p e s m args below meth c H locs B hr hnm ls hl
  have hx := B.1.1
  have hb := B.1.2.1
  have hl : lv_has ls 1 [(0, .ref al)] := hl
  refine lv_aload_n hx hb dJx4a65c_init_da8c8_0 rfl (lv_at hl 0 rfl) ?_
  have B := bd_to (ws' := [(al, .inr (12, [.int (iI 0), .null, .int (iI 0)]))] ++ []) rfl B
  refine k_I (rest := []) (wc := [(al, .inr (12, [.int (iI 0), .null, .int (iI 0)]))]) (wr := []) (k_atInit l dC dI k al) B mI_Jxc12de_init_da8c8 mw_54 hl ⟨Nat.le_of_ble_eq_true rfl, Nat.le_of_ble_eq_true rfl⟩ (Nat.le_of_ble_eq_true rfl) rfl dJx4a65c_init_da8c8_1 ⟨Nat.le_of_ble_eq_true rfl, Nat.le_of_ble_eq_true rfl⟩ (fun r w gc gs H locs hp B => ?_)
  obtain ⟨rfl, hw9, rfl, rfl⟩ := hp
  rw [hw9] at B; clear hw9
  have B := bd_to (ws' := [(al, .inr (12, [.int (iI 0), .null, .int (iI 0)]))]) rfl B
  refine lv_aload_n hx hb dJx4a65c_init_da8c8_4 rfl (lv_at hl 0 rfl) ?_
  refine va_gets hx hb B.2.1.2.2.2.2.2.1.1 B.2.2.2.2.2 B.1.2.2.2.1 (B.1.2.2.2.2.1 _ mw_61) (fun _ h9 => h9) dJx4a65c_init_da8c8_5 ?_
  refine x_put (ci := 12) (C := RJx4a65c) (T := TJx4a65c) (N := 3) (ty := .array (.object "java/lang/Object")) (v := .ref (dI 99 1)) B tyJx4a65c_ok nmJx4a65c 0 rfl rfl in_Jx4a65c 1 (by decide) mw_63 (fun _ h9 => h9) rfl (by decide +kernel) rfl rfl (Nat.le_of_ble_eq_true rfl) dJx4a65c_init_da8c8_8 (fun H locs B => ?_)
  have B := bd_to (ws' := [(al, .inr (12, [.int (iI 0), .ref (dI 99 1), .int (iI 0)]))]) rfl B
  exact k_vret B hr (⟨rfl, rfl, rfl, rfl⟩) ⟨Nat.le_of_ble_eq_true rfl, Nat.le_of_ble_eq_true rfl⟩ ⟨Nat.le_of_ble_eq_true rfl, Nat.le_of_ble_eq_true rfl⟩ dJx4a65c_init_da8c8_11

theorem mw_1142 : (Jvm.Cond.methodLink "Galleyforge$Table" (3 : Nat) ({ cls := "java/lang/Object", name := "<init>", desc := "()V" } : Jvm.MethodName)) ∈ gt := gt_at 1212 (by decide +kernel) (by decide +kernel)
theorem dX8_init_0 : decode cX8_init 0 = .ok (.aload_n 0, 1) := by decide +kernel
theorem dX8_init_1 : decode cX8_init 1 = .ok (.invokespecial 3, 3) := by decide +kernel
theorem dX8_init_4 : decode cX8_init 4 = .ok (.aload_n 0, 1) := by decide +kernel
theorem dX8_init_5 : decode cX8_init 5 = .ok (.bipush 12, 2) := by decide +kernel
theorem dX8_init_7 : decode cX8_init 7 = .ok (.newarray .int, 2) := by decide +kernel
theorem dX8_init_9 : decode cX8_init 9 = .ok (.putfield 9, 3) := by decide +kernel
theorem dX8_init_12 : decode cX8_init 12 = .ok (.aload_n 0, 1) := by decide +kernel
theorem dX8_init_13 : decode cX8_init 13 = .ok (.bipush 12, 2) := by decide +kernel
theorem dX8_init_15 : decode cX8_init 15 = .ok (.newarray .int, 2) := by decide +kernel
theorem dX8_init_17 : decode cX8_init 17 = .ok (.putfield 15, 3) := by decide +kernel
theorem dX8_init_20 : decode cX8_init 20 = .ok (.aload_n 0, 1) := by decide +kernel
theorem dX8_init_21 : decode cX8_init 21 = .ok (.bipush 12, 2) := by decide +kernel
theorem dX8_init_23 : decode cX8_init 23 = .ok (.newarray .int, 2) := by decide +kernel
theorem dX8_init_25 : decode cX8_init 25 = .ok (.putfield 18, 3) := by decide +kernel
theorem dX8_init_28 : decode cX8_init 28 = .ok (.aload_n 0, 1) := by decide +kernel
theorem dX8_init_29 : decode cX8_init 29 = .ok (.iconst 3, 1) := by decide +kernel
theorem dX8_init_30 : decode cX8_init 30 = .ok (.newarray .int, 2) := by decide +kernel
theorem dX8_init_32 : decode cX8_init 32 = .ok (.putfield 21, 3) := by decide +kernel
theorem dX8_init_35 : decode cX8_init 35 = .ok (.aload_n 0, 1) := by decide +kernel
theorem dX8_init_36 : decode cX8_init 36 = .ok (.iconst 3, 1) := by decide +kernel
theorem dX8_init_37 : decode cX8_init 37 = .ok (.newarray .int, 2) := by decide +kernel
theorem dX8_init_39 : decode cX8_init 39 = .ok (.putfield 24, 3) := by decide +kernel
theorem dX8_init_42 : decode cX8_init 42 = .ok (.aload_n 0, 1) := by decide +kernel
theorem dX8_init_43 : decode cX8_init 43 = .ok (.iconst 3, 1) := by decide +kernel
theorem dX8_init_44 : decode cX8_init 44 = .ok (.newarray .int, 2) := by decide +kernel
theorem dX8_init_46 : decode cX8_init 46 = .ok (.putfield 27, 3) := by decide +kernel
theorem dX8_init_49 : decode cX8_init 49 = .ok (.aload_n 0, 1) := by decide +kernel
theorem dX8_init_50 : decode cX8_init 50 = .ok (.iconst 3, 1) := by decide +kernel
theorem dX8_init_51 : decode cX8_init 51 = .ok (.newarray .int, 2) := by decide +kernel
theorem dX8_init_53 : decode cX8_init 53 = .ok (.putfield 30, 3) := by decide +kernel
theorem dX8_init_56 : decode cX8_init 56 = .ok (.return_, 1) := by decide +kernel
set_option maxHeartbeats 4000000 in
set_option maxRecDepth 100000 in
theorem k_tableInit (l : Launch) (dC : Nat → ClassId) (dI : Nat → Nat → Nat) (k : Nat → ClassId) (tb : Nat) : Kn l dC dI k yX8_init (.code yX8_init cX8_init 1 none) ({ frames := 1, cells := 7, slots := 48, locals := 12 } : Room) [.ref tb] [(tb, .inr (8, [.null, .null, .null, .null, .null, .null, .null]))] (fun r w gc gs => (∃ (sa0 : Nat) (sa1 : Nat) (sa2 : Nat) (sa3 : Nat) (sa4 : Nat) (sa5 : Nat) (sa6 : Nat), r = none ∧ w = [(tb, .inr (8, [.ref sa0, .ref sa1, .ref sa2, .ref sa3, .ref sa4, .ref sa5, .ref sa6])), (sa0, .inl (k 0, 12, .inl (fun i9 : Nat => iI ((fun _ : Int => (0 : Int)) i9)))), (sa1, .inl (k 0, 12, .inl (fun i9 : Nat => iI ((fun _ : Int => (0 : Int)) i9)))), (sa2, .inl (k 0, 12, .inl (fun i9 : Nat => iI ((fun _ : Int => (0 : Int)) i9)))), (sa3, .inl (k 0, 3, .inl (fun i9 : Nat => iI ((fun _ : Int => (0 : Int)) i9)))), (sa4, .inl (k 0, 3, .inl (fun i9 : Nat => iI ((fun _ : Int => (0 : Int)) i9)))), (sa5, .inl (k 0, 3, .inl (fun i9 : Nat => iI ((fun _ : Int => (0 : Int)) i9)))), (sa6, .inl (k 0, 3, .inl (fun i9 : Nat => iI ((fun _ : Int => (0 : Int)) i9))))] ∧ gc = 7 ∧ gs = 48)) := by
  refine kn_of (by decide) (Nat.le_of_ble_eq_true rfl) ?_
  intro p e s m args below meth c H locs B hr hnm ls hl
  have hx := B.1.1
  have hb := B.1.2.1
  have hl : lv_has ls 1 [(0, .ref tb)] := hl
  refine lv_aload_n hx hb dX8_init_0 rfl (lv_at hl 0 rfl) ?_
  refine x_obj B mw_1142 mw_41 mw_obj hl dX8_init_1 (Nat.le_of_ble_eq_true rfl) (Nat.le_of_ble_eq_true rfl) ?_
  refine lv_aload_n hx hb dX8_init_4 rfl (lv_at hl 0 rfl) ?_
  refine lv_bipush (v := iI 12) hx hb dX8_init_5 (by decide) ?_
  refine x_newa (atype := .int) (ty := .int) (N' := 12) (a0 := (12, .inl (fun _ => 0))) B mw_119 rfl 0 rfl pr_int (fun _ => rfl) (by decide) (by decide) (Nat.le_of_ble_eq_true rfl) (Nat.le_of_ble_eq_true rfl) (Nat.le_of_ble_eq_true rfl) dX8_init_7 (fun q_1 H B => ?_)
  have B := bd_to (ws' := [(tb, .inr (8, [.null, .null, .null, .null, .null, .null, .null])), (q_1, .inl (k 0, 12, .inl (fun i9 : Nat => iI ((fun _ : Int => (0 : Int)) i9))))]) rfl B
  refine x_putF (ci := 8) (C := RX8) (T := TX8) (N := 7) (ty := .array .int) (v := .ref q_1) B tyX8_ok nmX8 0 rfl rfl in_X8 0 (by decide) mw_1143 (fun _ h9 => h9) rfl hnm rfl (by decide +kernel) rfl rfl (Nat.le_of_ble_eq_true rfl) dX8_init_9 (fun H locs B => ?_)
  have B := bd_to (ws' := [(tb, .inr (8, [.ref q_1, .null, .null, .null, .null, .null, .null])), (q_1, .inl (k 0, 12, .inl (fun i9 : Nat => iI ((fun _ : Int => (0 : Int)) i9))))]) rfl B
  refine lv_aload_n hx hb dX8_init_12 rfl (lv_at hl 0 rfl) ?_
  refine lv_bipush (v := iI 12) hx hb dX8_init_13 (by decide) ?_
  refine x_newa (atype := .int) (ty := .int) (N' := 12) (a0 := (12, .inl (fun _ => 0))) B mw_119 rfl 0 rfl pr_int (fun _ => rfl) (by decide) (by decide) (Nat.le_of_ble_eq_true rfl) (Nat.le_of_ble_eq_true rfl) (Nat.le_of_ble_eq_true rfl) dX8_init_15 (fun q_2 H B => ?_)
  have B := bd_to (ws' := [(tb, .inr (8, [.ref q_1, .null, .null, .null, .null, .null, .null])), (q_1, .inl (k 0, 12, .inl (fun i9 : Nat => iI ((fun _ : Int => (0 : Int)) i9)))), (q_2, .inl (k 0, 12, .inl (fun i9 : Nat => iI ((fun _ : Int => (0 : Int)) i9))))]) rfl B
  refine x_putF (ci := 8) (C := RX8) (T := TX8) (N := 7) (ty := .array .int) (v := .ref q_2) B tyX8_ok nmX8 0 rfl rfl in_X8 1 (by decide) mw_1144 (fun _ h9 => h9) rfl hnm rfl (by decide +kernel) rfl rfl (Nat.le_of_ble_eq_true rfl) dX8_init_17 (fun H locs B => ?_)
  have B := bd_to (ws' := [(tb, .inr (8, [.ref q_1, .ref q_2, .null, .null, .null, .null, .null])), (q_1, .inl (k 0, 12, .inl (fun i9 : Nat => iI ((fun _ : Int => (0 : Int)) i9)))), (q_2, .inl (k 0, 12, .inl (fun i9 : Nat => iI ((fun _ : Int => (0 : Int)) i9))))]) rfl B
  refine lv_aload_n hx hb dX8_init_20 rfl (lv_at hl 0 rfl) ?_
  refine lv_bipush (v := iI 12) hx hb dX8_init_21 (by decide) ?_
  refine x_newa (atype := .int) (ty := .int) (N' := 12) (a0 := (12, .inl (fun _ => 0))) B mw_119 rfl 0 rfl pr_int (fun _ => rfl) (by decide) (by decide) (Nat.le_of_ble_eq_true rfl) (Nat.le_of_ble_eq_true rfl) (Nat.le_of_ble_eq_true rfl) dX8_init_23 (fun q_3 H B => ?_)
  have B := bd_to (ws' := [(tb, .inr (8, [.ref q_1, .ref q_2, .null, .null, .null, .null, .null])), (q_1, .inl (k 0, 12, .inl (fun i9 : Nat => iI ((fun _ : Int => (0 : Int)) i9)))), (q_2, .inl (k 0, 12, .inl (fun i9 : Nat => iI ((fun _ : Int => (0 : Int)) i9)))), (q_3, .inl (k 0, 12, .inl (fun i9 : Nat => iI ((fun _ : Int => (0 : Int)) i9))))]) rfl B
  refine x_putF (ci := 8) (C := RX8) (T := TX8) (N := 7) (ty := .array .int) (v := .ref q_3) B tyX8_ok nmX8 0 rfl rfl in_X8 2 (by decide) mw_1145 (fun _ h9 => h9) rfl hnm rfl (by decide +kernel) rfl rfl (Nat.le_of_ble_eq_true rfl) dX8_init_25 (fun H locs B => ?_)
  have B := bd_to (ws' := [(tb, .inr (8, [.ref q_1, .ref q_2, .ref q_3, .null, .null, .null, .null])), (q_1, .inl (k 0, 12, .inl (fun i9 : Nat => iI ((fun _ : Int => (0 : Int)) i9)))), (q_2, .inl (k 0, 12, .inl (fun i9 : Nat => iI ((fun _ : Int => (0 : Int)) i9)))), (q_3, .inl (k 0, 12, .inl (fun i9 : Nat => iI ((fun _ : Int => (0 : Int)) i9))))]) rfl B
  refine lv_aload_n hx hb dX8_init_28 rfl (lv_at hl 0 rfl) ?_
  refine lv_iconst (v := iI 3) hx hb dX8_init_29 (by decide) ?_
  refine x_newa (atype := .int) (ty := .int) (N' := 3) (a0 := (3, .inl (fun _ => 0))) B mw_119 rfl 0 rfl pr_int (fun _ => rfl) (by decide) (by decide) (Nat.le_of_ble_eq_true rfl) (Nat.le_of_ble_eq_true rfl) (Nat.le_of_ble_eq_true rfl) dX8_init_30 (fun q_4 H B => ?_)
  have B := bd_to (ws' := [(tb, .inr (8, [.ref q_1, .ref q_2, .ref q_3, .null, .null, .null, .null])), (q_1, .inl (k 0, 12, .inl (fun i9 : Nat => iI ((fun _ : Int => (0 : Int)) i9)))), (q_2, .inl (k 0, 12, .inl (fun i9 : Nat => iI ((fun _ : Int => (0 : Int)) i9)))), (q_3, .inl (k 0, 12, .inl (fun i9 : Nat => iI ((fun _ : Int => (0 : Int)) i9)))), (q_4, .inl (k 0, 3, .inl (fun i9 : Nat => iI ((fun _ : Int => (0 : Int)) i9))))]) rfl B
  refine x_putF (ci := 8) (C := RX8) (T := TX8) (N := 7) (ty := .array .int) (v := .ref q_4) B tyX8_ok nmX8 0 rfl rfl in_X8 3 (by decide) mw_1146 (fun _ h9 => h9) rfl hnm rfl (by decide +kernel) rfl rfl (Nat.le_of_ble_eq_true rfl) dX8_init_32 (fun H locs B => ?_)
  have B := bd_to (ws' := [(tb, .inr (8, [.ref q_1, .ref q_2, .ref q_3, .ref q_4, .null, .null, .null])), (q_1, .inl (k 0, 12, .inl (fun i9 : Nat => iI ((fun _ : Int => (0 : Int)) i9)))), (q_2, .inl (k 0, 12, .inl (fun i9 : Nat => iI ((fun _ : Int => (0 : Int)) i9)))), (q_3, .inl (k 0, 12, .inl (fun i9 : Nat => iI ((fun _ : Int => (0 : Int)) i9)))), (q_4, .inl (k 0, 3, .inl (fun i9 : Nat => iI ((fun _ : Int => (0 : Int)) i9))))]) rfl B
  refine lv_aload_n hx hb dX8_init_35 rfl (lv_at hl 0 rfl) ?_
  refine lv_iconst (v := iI 3) hx hb dX8_init_36 (by decide) ?_
  refine x_newa (atype := .int) (ty := .int) (N' := 3) (a0 := (3, .inl (fun _ => 0))) B mw_119 rfl 0 rfl pr_int (fun _ => rfl) (by decide) (by decide) (Nat.le_of_ble_eq_true rfl) (Nat.le_of_ble_eq_true rfl) (Nat.le_of_ble_eq_true rfl) dX8_init_37 (fun q_5 H B => ?_)
  have B := bd_to (ws' := [(tb, .inr (8, [.ref q_1, .ref q_2, .ref q_3, .ref q_4, .null, .null, .null])), (q_1, .inl (k 0, 12, .inl (fun i9 : Nat => iI ((fun _ : Int => (0 : Int)) i9)))), (q_2, .inl (k 0, 12, .inl (fun i9 : Nat => iI ((fun _ : Int => (0 : Int)) i9)))), (q_3, .inl (k 0, 12, .inl (fun i9 : Nat => iI ((fun _ : Int => (0 : Int)) i9)))), (q_4, .inl (k 0, 3, .inl (fun i9 : Nat => iI ((fun _ : Int => (0 : Int)) i9)))), (q_5, .inl (k 0, 3, .inl (fun i9 : Nat => iI ((fun _ : Int => (0 : Int)) i9))))]) rfl B
  refine x_putF (ci := 8) (C := RX8) (T := TX8) (N := 7) (ty := .array .int) (v := .ref q_5) B tyX8_ok nmX8 0 rfl rfl in_X8 4 (by decide) mw_1147 (fun _ h9 => h9) rfl hnm rfl (by decide +kernel) rfl rfl (Nat.le_of_ble_eq_true rfl) dX8_init_39 (fun H locs B => ?_)
  have B := bd_to (ws' := [(tb, .inr (8, [.ref q_1, .ref q_2, .ref q_3, .ref q_4, .ref q_5, .null, .null])), (q_1, .inl (k 0, 12, .inl (fun i9 : Nat => iI ((fun _ : Int => (0 : Int)) i9)))), (q_2, .inl (k 0, 12, .inl (fun i9 : Nat => iI ((fun _ : Int => (0 : Int)) i9)))), (q_3, .inl (k 0, 12, .inl (fun i9 : Nat => iI ((fun _ : Int => (0 : Int)) i9)))), (q_4, .inl (k 0, 3, .inl (fun i9 : Nat => iI ((fun _ : Int => (0 : Int)) i9)))), (q_5, .inl (k 0, 3, .inl (fun i9 : Nat => iI ((fun _ : Int => (0 : Int)) i9))))]) rfl B
  refine lv_aload_n hx hb dX8_init_42 rfl (lv_at hl 0 rfl) ?_
  refine lv_iconst (v := iI 3) hx hb dX8_init_43 (by decide) ?_
  refine x_newa (atype := .int) (ty := .int) (N' := 3) (a0 := (3, .inl (fun _ => 0))) B mw_119 rfl 0 rfl pr_int (fun _ => rfl) (by decide) (by decide) (Nat.le_of_ble_eq_true rfl) (Nat.le_of_ble_eq_true rfl) (Nat.le_of_ble_eq_true rfl) dX8_init_44 (fun q_6 H B => ?_)
  have B := bd_to (ws' := [(tb, .inr (8, [.ref q_1, .ref q_2, .ref q_3, .ref q_4, .ref q_5, .null, .null])), (q_1, .inl (k 0, 12, .inl (fun i9 : Nat => iI ((fun _ : Int => (0 : Int)) i9)))), (q_2, .inl (k 0, 12, .inl (fun i9 : Nat => iI ((fun _ : Int => (0 : Int)) i9)))), (q_3, .inl (k 0, 12, .inl (fun i9 : Nat => iI ((fun _ : Int => (0 : Int)) i9)))), (q_4, .inl (k 0, 3, .inl (fun i9 : Nat => iI ((fun _ : Int => (0 : Int)) i9)))), (q_5, .inl (k 0, 3, .inl (fun i9 : Nat => iI ((fun _ : Int => (0 : Int)) i9)))), (q_6, .inl (k 0, 3, .inl (fun i9 : Nat => iI ((fun _ : Int => (0 : Int)) i9))))]) rfl B
  refine x_putF (ci := 8) (C := RX8) (T := TX8) (N := 7) (ty := .array .int) (v := .ref q_6) B tyX8_ok nmX8 0 rfl rfl in_X8 5 (by decide) mw_1148 (fun _ h9 => h9) rfl hnm rfl (by decide +kernel) rfl rfl (Nat.le_of_ble_eq_true rfl) dX8_init_46 (fun H locs B => ?_)
  have B := bd_to (ws' := [(tb, .inr (8, [.ref q_1, .ref q_2, .ref q_3, .ref q_4, .ref q_5, .ref q_6, .null])), (q_1, .inl (k 0, 12, .inl (fun i9 : Nat => iI ((fun _ : Int => (0 : Int)) i9)))), (q_2, .inl (k 0, 12, .inl (fun i9 : Nat => iI ((fun _ : Int => (0 : Int)) i9)))), (q_3, .inl (k 0, 12, .inl (fun i9 : Nat => iI ((fun _ : Int => (0 : Int)) i9)))), (q_4, .inl (k 0, 3, .inl (fun i9 : Nat => iI ((fun _ : Int => (0 : Int)) i9)))), (q_5, .inl (k 0, 3, .inl (fun i9 : Nat => iI ((fun _ : Int => (0 : Int)) i9)))), (q_6, .inl (k 0, 3, .inl (fun i9 : Nat => iI ((fun _ : Int => (0 : Int)) i9))))]) rfl B
  refine lv_aload_n hx hb dX8_init_49 rfl (lv_at hl 0 rfl) ?_
  refine lv_iconst (v := iI 3) hx hb dX8_init_50 (by decide) ?_
  refine x_newa (atype := .int) (ty := .int) (N' := 3) (a0 := (3, .inl (fun _ => 0))) B mw_119 rfl 0 rfl pr_int (fun _ => rfl) (by decide) (by decide) (Nat.le_of_ble_eq_true rfl) (Nat.le_of_ble_eq_true rfl) (Nat.le_of_ble_eq_true rfl) dX8_init_51 (fun q_7 H B => ?_)
  have B := bd_to (ws' := [(tb, .inr (8, [.ref q_1, .ref q_2, .ref q_3, .ref q_4, .ref q_5, .ref q_6, .null])), (q_1, .inl (k 0, 12, .inl (fun i9 : Nat => iI ((fun _ : Int => (0 : Int)) i9)))), (q_2, .inl (k 0, 12, .inl (fun i9 : Nat => iI ((fun _ : Int => (0 : Int)) i9)))), (q_3, .inl (k 0, 12, .inl (fun i9 : Nat => iI ((fun _ : Int => (0 : Int)) i9)))), (q_4, .inl (k 0, 3, .inl (fun i9 : Nat => iI ((fun _ : Int => (0 : Int)) i9)))), (q_5, .inl (k 0, 3, .inl (fun i9 : Nat => iI ((fun _ : Int => (0 : Int)) i9)))), (q_6, .inl (k 0, 3, .inl (fun i9 : Nat => iI ((fun _ : Int => (0 : Int)) i9)))), (q_7, .inl (k 0, 3, .inl (fun i9 : Nat => iI ((fun _ : Int => (0 : Int)) i9))))]) rfl B
  refine x_putF (ci := 8) (C := RX8) (T := TX8) (N := 7) (ty := .array .int) (v := .ref q_7) B tyX8_ok nmX8 0 rfl rfl in_X8 6 (by decide) mw_1149 (fun _ h9 => h9) rfl hnm rfl (by decide +kernel) rfl rfl (Nat.le_of_ble_eq_true rfl) dX8_init_53 (fun H locs B => ?_)
  have B := bd_to (ws' := [(tb, .inr (8, [.ref q_1, .ref q_2, .ref q_3, .ref q_4, .ref q_5, .ref q_6, .ref q_7])), (q_1, .inl (k 0, 12, .inl (fun i9 : Nat => iI ((fun _ : Int => (0 : Int)) i9)))), (q_2, .inl (k 0, 12, .inl (fun i9 : Nat => iI ((fun _ : Int => (0 : Int)) i9)))), (q_3, .inl (k 0, 12, .inl (fun i9 : Nat => iI ((fun _ : Int => (0 : Int)) i9)))), (q_4, .inl (k 0, 3, .inl (fun i9 : Nat => iI ((fun _ : Int => (0 : Int)) i9)))), (q_5, .inl (k 0, 3, .inl (fun i9 : Nat => iI ((fun _ : Int => (0 : Int)) i9)))), (q_6, .inl (k 0, 3, .inl (fun i9 : Nat => iI ((fun _ : Int => (0 : Int)) i9)))), (q_7, .inl (k 0, 3, .inl (fun i9 : Nat => iI ((fun _ : Int => (0 : Int)) i9))))]) rfl B
  exact k_vret B hr (⟨q_1, q_2, q_3, q_4, q_5, q_6, q_7, rfl, rfl, rfl, rfl⟩) ⟨Nat.le_of_ble_eq_true rfl, Nat.le_of_ble_eq_true rfl⟩ ⟨Nat.le_of_ble_eq_true rfl, Nat.le_of_ble_eq_true rfl⟩ dX8_init_56

theorem mw_663 : (Jvm.Cond.methodLink "Galleyforge$Pattern" (1 : Nat) ({ cls := "java/lang/Object", name := "<init>", desc := "()V" } : Jvm.MethodName)) ∈ gt := gt_at 733 (by decide +kernel) (by decide +kernel)
theorem mw_665 : (Jvm.Cond.fieldLink "Galleyforge$Pattern" (13 : Nat) "Galleyforge$Pattern" "gap" "I") ∈ gt := gt_at 735 (by decide +kernel) (by decide +kernel)
theorem mw_667 : (Jvm.Cond.fieldLink "Galleyforge$Pattern" (17 : Nat) "Galleyforge$Pattern" "level" "I") ∈ gt := gt_at 737 (by decide +kernel) (by decide +kernel)
theorem dX5_init_0 : decode cX5_init 0 = .ok (.aload_n 0, 1) := by decide +kernel
theorem dX5_init_1 : decode cX5_init 1 = .ok (.invokespecial 1, 3) := by decide +kernel
theorem dX5_init_4 : decode cX5_init 4 = .ok (.aload_n 0, 1) := by decide +kernel
theorem dX5_init_5 : decode cX5_init 5 = .ok (.aload_n 1, 1) := by decide +kernel
theorem dX5_init_6 : decode cX5_init 6 = .ok (.putfield 7, 3) := by decide +kernel
theorem dX5_init_9 : decode cX5_init 9 = .ok (.aload_n 0, 1) := by decide +kernel
theorem dX5_init_10 : decode cX5_init 10 = .ok (.iload_n 2, 1) := by decide +kernel
theorem dX5_init_11 : decode cX5_init 11 = .ok (.putfield 13, 3) := by decide +kernel
theorem dX5_init_14 : decode cX5_init 14 = .ok (.aload_n 0, 1) := by decide +kernel
theorem dX5_init_15 : decode cX5_init 15 = .ok (.iload_n 3, 1) := by decide +kernel
theorem dX5_init_16 : decode cX5_init 16 = .ok (.putfield 17, 3) := by decide +kernel
theorem dX5_init_19 : decode cX5_init 19 = .ok (.return_, 1) := by decide +kernel
set_option maxHeartbeats 4000000 in
set_option maxRecDepth 100000 in
theorem k_patInit (l : Launch) (dC : Nat → ClassId) (dI : Nat → Nat → Nat) (k : Nat → ClassId) (pt : Nat) (le_ : Nat) (gp : Int) (lv_ : Int) : Kn l dC dI k yX5_init (.code yX5_init cX5_init 4 none) ({ frames := 1, cells := 0, slots := 0, locals := 12 } : Room) [.ref pt, .ref le_, .int (iI gp), .int (iI lv_)] [(pt, .inr (5, [.null, .int (iI 0), .int (iI 0)]))] (fun r w gc gs => (r = none ∧ w = [(pt, .inr (5, [.ref le_, .int (iI gp), .int (iI lv_)]))] ∧ gc = 0 ∧ gs = 0)) := by
  refine kn_of (by decide) (Nat.le_of_ble_eq_true rfl) ?_
  intro p e s m args below meth c H locs B hr hnm ls hl
  have hx := B.1.1
  have hb := B.1.2.1
  have hl : lv_has ls 4 [(0, .ref pt), (1, .ref le_), (2, .int (iI gp)), (3, .int (iI lv_))] := hl
  refine lv_aload_n hx hb dX5_init_0 rfl (lv_at hl 0 rfl) ?_
  refine x_obj B mw_663 mw_41 mw_obj hl dX5_init_1 (Nat.le_of_ble_eq_true rfl) (Nat.le_of_ble_eq_true rfl) ?_
  refine lv_aload_n hx hb dX5_init_4 rfl (lv_at hl 0 rfl) ?_
  refine lv_aload_n hx hb dX5_init_5 rfl (lv_at hl 1 rfl) ?_
  refine x_putF (ci := 5) (C := RX5) (T := TX5) (N := 3) (ty := .array .int) (v := .ref le_) B tyX5_ok nmX5 0 rfl rfl in_X5 0 (by decide) mw_664 (fun _ h9 => h9) rfl hnm rfl (by decide +kernel) rfl rfl (Nat.le_of_ble_eq_true rfl) dX5_init_6 (fun H locs B => ?_)
  have B := bd_to (ws' := [(pt, .inr (5, [.ref le_, .int (iI 0), .int (iI 0)]))]) rfl B
  refine lv_aload_n hx hb dX5_init_9 rfl (lv_at hl 0 rfl) ?_
  refine lv_iload_n hx hb dX5_init_10 rfl (lv_at hl 2 rfl) ?_
  refine x_putF (ci := 5) (C := RX5) (T := TX5) (N := 3) (ty := .int) (v := .int (iI gp)) B tyX5_ok nmX5 0 rfl rfl in_X5 1 (by decide) mw_665 (fun _ h9 => h9) rfl hnm rfl (by decide +kernel) rfl rfl (Nat.le_of_ble_eq_true rfl) dX5_init_11 (fun H locs B => ?_)
  have B := bd_to (ws' := [(pt, .inr (5, [.ref le_, .int (iI gp), .int (iI 0)]))]) rfl B
  refine lv_aload_n hx hb dX5_init_14 rfl (lv_at hl 0 rfl) ?_
  refine lv_iload_n hx hb dX5_init_15 rfl (lv_at hl 3 rfl) ?_
  refine x_putF (ci := 5) (C := RX5) (T := TX5) (N := 3) (ty := .int) (v := .int (iI lv_)) B tyX5_ok nmX5 0 rfl rfl in_X5 2 (by decide) mw_667 (fun _ h9 => h9) rfl hnm rfl (by decide +kernel) rfl rfl (Nat.le_of_ble_eq_true rfl) dX5_init_16 (fun H locs B => ?_)
  have B := bd_to (ws' := [(pt, .inr (5, [.ref le_, .int (iI gp), .int (iI lv_)]))]) rfl B
  exact k_vret B hr (⟨rfl, rfl, rfl, rfl⟩) ⟨Nat.le_of_ble_eq_true rfl, Nat.le_of_ble_eq_true rfl⟩ ⟨Nat.le_of_ble_eq_true rfl, Nat.le_of_ble_eq_true rfl⟩ dX5_init_19

/-- the numbers of a new block -/
def nbV (kd : Int) : Nat → Int → Int → Int := fun c i _ => if c = 1 then kd else if c = 2 then (if i = 3 then 1 else if i = 6 then -1 else 0) else if c = 4 then 1 else if c = 6 then -1 else if c = 7 then -1 else 0

theorem mw_50 : (Jvm.Cond.instantiable "java/util/ArrayList" (3 : Nat)) ∈ gt := gt_at 120 (by decide +kernel) (by decide +kernel)
theorem mw_52 : (Jvm.Cond.instanceMethod ({ cls := "java/util/ArrayList", name := "<init>", desc := "()V" } : Jvm.MethodName)) ∈ gt := gt_at 122 (by decide +kernel) (by decide +kernel)
theorem mw_53 : (Jvm.Cond.code ({ cls := "java/util/ArrayList", name := "<init>", desc := "()V" } : Jvm.MethodName) prog_40_method_2_code (1 : Nat) (Option.none : Option Jvm.ClassFile.FieldType)) ∈ gt := gt_at 123 (by decide +kernel) (by decide +kernel)
theorem mw_1134 : (Jvm.Cond.methodLink "Galleyforge$Block" (3 : Nat) ({ cls := "java/lang/Object", name := "<init>", desc := "()V" } : Jvm.MethodName)) ∈ gt := gt_at 1204 (by decide +kernel) (by decide +kernel)
theorem mw_1135 : (Jvm.Cond.classLink "Galleyforge$Block" (15 : Nat) "java/util/ArrayList") ∈ gt := gt_at 1205 (by decide +kernel) (by decide +kernel)
theorem mw_1136 : (Jvm.Cond.methodLink "Galleyforge$Block" (17 : Nat) ({ cls := "java/util/ArrayList", name := "<init>", desc := "()V" } : Jvm.MethodName)) ∈ gt := gt_at 1206 (by decide +kernel) (by decide +kernel)
theorem mw_1179 : (Jvm.Cond.fieldLink "Galleyforge$Block" (18 : Nat) "Galleyforge$Block" "words" "Ljava/util/ArrayList;") ∈ gt := gt_at 1249 (by decide +kernel) (by decide +kernel)
theorem mw_1185 : (Jvm.Cond.fieldLink "Galleyforge$Block" (29 : Nat) "Galleyforge$Block" "table" "LGalleyforge$Table;") ∈ gt := gt_at 1255 (by decide +kernel) (by decide +kernel)
theorem mI_Jx4a65c_init_da8c8 : mI yJx4a65c_init_da8c8 cJx4a65c_init_da8c8 1 0 := ⟨⟨mw_53, mw_5, by decide, by decide, by decide +kernel⟩, mw_52, rfl⟩
theorem dX0_init_0 : decode cX0_init 0 = .ok (.aload_n 0, 1) := by decide +kernel
theorem dX0_init_1 : decode cX0_init 1 = .ok (.invokespecial 3, 3) := by decide +kernel
theorem dX0_init_4 : decode cX0_init 4 = .ok (.aload_n 0, 1) := by decide +kernel
theorem dX0_init_5 : decode cX0_init 5 = .ok (.bipush 7, 2) := by decide +kernel
theorem dX0_init_7 : decode cX0_init 7 = .ok (.newarray .int, 2) := by decide +kernel
theorem dX0_init_9 : decode cX0_init 9 = .ok (.dup, 1) := by decide +kernel
theorem dX0_init_10 : decode cX0_init 10 = .ok (.iconst 0, 1) := by decide +kernel
theorem dX0_init_11 : decode cX0_init 11 = .ok (.iconst 0, 1) := by decide +kernel
theorem dX0_init_12 : decode cX0_init 12 = .ok (.iastore, 1) := by decide +kernel
theorem dX0_init_13 : decode cX0_init 13 = .ok (.dup, 1) := by decide +kernel
theorem dX0_init_14 : decode cX0_init 14 = .ok (.iconst 1, 1) := by decide +kernel
theorem dX0_init_15 : decode cX0_init 15 = .ok (.iconst 0, 1) := by decide +kernel
theorem dX0_init_16 : decode cX0_init 16 = .ok (.iastore, 1) := by decide +kernel
theorem dX0_init_17 : decode cX0_init 17 = .ok (.dup, 1) := by decide +kernel
theorem dX0_init_18 : decode cX0_init 18 = .ok (.iconst 2, 1) := by decide +kernel
theorem dX0_init_19 : decode cX0_init 19 = .ok (.iconst 0, 1) := by decide +kernel
theorem dX0_init_20 : decode cX0_init 20 = .ok (.iastore, 1) := by decide +kernel
theorem dX0_init_21 : decode cX0_init 21 = .ok (.dup, 1) := by decide +kernel
theorem dX0_init_22 : decode cX0_init 22 = .ok (.iconst 3, 1) := by decide +kernel
theorem dX0_init_23 : decode cX0_init 23 = .ok (.iconst 1, 1) := by decide +kernel
theorem dX0_init_24 : decode cX0_init 24 = .ok (.iastore, 1) := by decide +kernel
theorem dX0_init_25 : decode cX0_init 25 = .ok (.dup, 1) := by decide +kernel
theorem dX0_init_26 : decode cX0_init 26 = .ok (.iconst 4, 1) := by decide +kernel
theorem dX0_init_27 : decode cX0_init 27 = .ok (.iconst 0, 1) := by decide +kernel
theorem dX0_init_28 : decode cX0_init 28 = .ok (.iastore, 1) := by decide +kernel
theorem dX0_init_29 : decode cX0_init 29 = .ok (.dup, 1) := by decide +kernel
theorem dX0_init_30 : decode cX0_init 30 = .ok (.iconst 5, 1) := by decide +kernel
theorem dX0_init_31 : decode cX0_init 31 = .ok (.iconst 0, 1) := by decide +kernel
theorem dX0_init_32 : decode cX0_init 32 = .ok (.iastore, 1) := by decide +kernel
theorem dX0_init_33 : decode cX0_init 33 = .ok (.dup, 1) := by decide +kernel
theorem dX0_init_34 : decode cX0_init 34 = .ok (.bipush 6, 2) := by decide +kernel
theorem dX0_init_36 : decode cX0_init 36 = .ok (.iconst (-1), 1) := by decide +kernel
theorem dX0_init_37 : decode cX0_init 37 = .ok (.iastore, 1) := by decide +kernel
theorem dX0_init_38 : decode cX0_init 38 = .ok (.putfield 9, 3) := by decide +kernel
theorem dX0_init_41 : decode cX0_init 41 = .ok (.aload_n 0, 1) := by decide +kernel
theorem dX0_init_42 : decode cX0_init 42 = .ok (.new 15, 3) := by decide +kernel
theorem dX0_init_45 : decode cX0_init 45 = .ok (.dup, 1) := by decide +kernel
theorem dX0_init_46 : decode cX0_init 46 = .ok (.invokespecial 17, 3) := by decide +kernel
theorem dX0_init_49 : decode cX0_init 49 = .ok (.putfield 18, 3) := by decide +kernel
theorem dX0_init_52 : decode cX0_init 52 = .ok (.aload_n 0, 1) := by decide +kernel
theorem dX0_init_53 : decode cX0_init 53 = .ok (.iload_n 1, 1) := by decide +kernel
theorem dX0_init_54 : decode cX0_init 54 = .ok (.putfield 22, 3) := by decide +kernel
theorem dX0_init_57 : decode cX0_init 57 = .ok (.aload_n 0, 1) := by decide +kernel
theorem dX0_init_58 : decode cX0_init 58 = .ok (.iload_n 1, 1) := by decide +kernel
theorem dX0_init_59 : decode cX0_init 59 = .ok (.iconst 3, 1) := by decide +kernel
theorem dX0_init_60 : decode cX0_init 60 = .ok (.if_icmp .ne 13, 3) := by decide +kernel
theorem dX0_init_73 : decode cX0_init 73 = .ok (.aconst_null, 1) := by decide +kernel
theorem dX0_init_74 : decode cX0_init 74 = .ok (.putfield 29, 3) := by decide +kernel
theorem dX0_init_77 : decode cX0_init 77 = .ok (.return_, 1) := by decide +kernel
set_option maxHeartbeats 4000000 in
set_option maxRecDepth 100000 in
theorem k_blockInitN (l : Launch) (dC : Nat → ClassId) (dI : Nat → Nat → Nat) (k : Nat → ClassId) (bo : Nat) (kd : Int) (hkd : 0 ≤ kd ∧ kd ≤ 6 ∧ kd ≠ 3) : Kn l dC dI k yX0_init (.code yX0_init cX0_init 2 none) ({ frames := 4, cells := 2, slots := 10, locals := 72 } : Room) [.ref bo, .int (iI kd)] [(bo, .inr (0, [.int (iI 0), .null, .null, .null]))] (fun r w gc gs => (∃ (st9 : Nat) (wl9 : Nat), r = none ∧ w = [(bo, .inr (0, [.int (iI kd), .ref st9, .ref wl9, .null])), (st9, .inl (k 0, 7, .inl (fun i9 : Nat => iI ((fun j9 : Int => nbV kd 2 j9 0) i9)))), (wl9, .inr (12, [.int (iI 0), .ref (dI 99 1), .int (iI 0)]))] ∧ gc = 2 ∧ gs = 10)) := by
  refine kn_of (by decide) (Nat.le_of_ble_eq_true rfl) ?_
  intro p e s m args below meth c H locs B hr hnm ls hl
  have hx := B.1.1
  have hb := B.1.2.1
  have hl : lv_has ls 2 [(0, .ref bo), (1, .int (iI kd))] := hl
  refine lv_aload_n hx hb dX0_init_0 rfl (lv_at hl 0 rfl) ?_
  refine x_obj B mw_1134 mw_41 mw_obj hl dX0_init_1 (Nat.le_of_ble_eq_true rfl) (Nat.le_of_ble_eq_true rfl) ?_
  refine lv_aload_n hx hb dX0_init_4 rfl (lv_at hl 0 rfl) ?_
  refine lv_bipush (v := iI 7) hx hb dX0_init_5 (by decide) ?_
  refine x_newa (atype := .int) (ty := .int) (N' := 7) (a0 := (7, .inl (fun _ => 0))) B mw_119 rfl 0 rfl pr_int (fun _ => rfl) (by decide) (by decide) (Nat.le_of_ble_eq_true rfl) (Nat.le_of_ble_eq_true rfl) (Nat.le_of_ble_eq_true rfl) dX0_init_7 (fun q_1 H B => ?_)
  have B := bd_to (ws' := [(bo, .inr (0, [.int (iI 0), .null, .null, .null])), (q_1, .inl (k 0, 7, .inl (fun i9 : Nat => iI ((fun _ : Int => (0 : Int)) i9))))]) rfl B
  refine lv_dup hx hb dX0_init_9 rfl ?_
  refine lv_iconst (v := iI 0) hx hb dX0_init_10 (by decide) ?_
  refine lv_iconst (v := iI 0) hx hb dX0_init_11 (by decide) ?_
  refine x_iast' (f := (fun _ : Int => (0 : Int))) (z := 0) (v := 0) B 1 rfl (by omega) dX0_init_12 (fun H locs B => ?_)
  have B := bd_to (ws' := [(bo, .inr (0, [.int (iI 0), .null, .null, .null])), (q_1, .inl (k 0, 7, .inl (fun i9 : Nat => iI ((uz (fun _ : Int => (0 : Int)) 0 0) i9))))]) rfl B
  refine lv_dup hx hb dX0_init_13 rfl ?_
  refine lv_iconst (v := iI 1) hx hb dX0_init_14 (by decide) ?_
  refine lv_iconst (v := iI 0) hx hb dX0_init_15 (by decide) ?_
  refine x_iast' (f := (uz (fun _ : Int => (0 : Int)) 0 0)) (z := 1) (v := 0) B 1 rfl (by omega) dX0_init_16 (fun H locs B => ?_)
  have B := bd_to (ws' := [(bo, .inr (0, [.int (iI 0), .null, .null, .null])), (q_1, .inl (k 0, 7, .inl (fun i9 : Nat => iI ((uz (uz (fun _ : Int => (0 : Int)) 0 0) 1 0) i9))))]) rfl B
  refine lv_dup hx hb dX0_init_17 rfl ?_
  refine lv_iconst (v := iI 2) hx hb dX0_init_18 (by decide) ?_
  refine lv_iconst (v := iI 0) hx hb dX0_init_19 (by decide) ?_
  refine x_iast' (f := (uz (uz (fun _ : Int => (0 : Int)) 0 0) 1 0)) (z := 2) (v := 0) B 1 rfl (by omega) dX0_init_20 (fun H locs B => ?_)
  have B := bd_to (ws' := [(bo, .inr (0, [.int (iI 0), .null, .null, .null])), (q_1, .inl (k 0, 7, .inl (fun i9 : Nat => iI ((uz (uz (uz (fun _ : Int => (0 : Int)) 0 0) 1 0) 2 0) i9))))]) rfl B
  refine lv_dup hx hb dX0_init_21 rfl ?_
  refine lv_iconst (v := iI 3) hx hb dX0_init_22 (by decide) ?_
  refine lv_iconst (v := iI 1) hx hb dX0_init_23 (by decide) ?_
  refine x_iast' (f := (uz (uz (uz (fun _ : Int => (0 : Int)) 0 0) 1 0) 2 0)) (z := 3) (v := 1) B 1 rfl (by omega) dX0_init_24 (fun H locs B => ?_)
  have B := bd_to (ws' := [(bo, .inr (0, [.int (iI 0), .null, .null, .null])), (q_1, .inl (k 0, 7, .inl (fun i9 : Nat => iI ((uz (uz (uz (uz (fun _ : Int => (0 : Int)) 0 0) 1 0) 2 0) 3 1) i9))))]) rfl B
  refine lv_dup hx hb dX0_init_25 rfl ?_
  refine lv_iconst (v := iI 4) hx hb dX0_init_26 (by decide) ?_
  refine lv_iconst (v := iI 0) hx hb dX0_init_27 (by decide) ?_
  refine x_iast' (f := (uz (uz (uz (uz (fun _ : Int => (0 : Int)) 0 0) 1 0) 2 0) 3 1)) (z := 4) (v := 0) B 1 rfl (by omega) dX0_init_28 (fun H locs B => ?_)
  have B := bd_to (ws' := [(bo, .inr (0, [.int (iI 0), .null, .null, .null])), (q_1, .inl (k 0, 7, .inl (fun i9 : Nat => iI ((uz (uz (uz (uz (uz (fun _ : Int => (0 : Int)) 0 0) 1 0) 2 0) 3 1) 4 0) i9))))]) rfl B
  refine lv_dup hx hb dX0_init_29 rfl ?_
  refine lv_iconst (v := iI 5) hx hb dX0_init_30 (by decide) ?_
  refine lv_iconst (v := iI 0) hx hb dX0_init_31 (by decide) ?_
  refine x_iast' (f := (uz (uz (uz (uz (uz (fun _ : Int => (0 : Int)) 0 0) 1 0) 2 0) 3 1) 4 0)) (z := 5) (v := 0) B 1 rfl (by omega) dX0_init_32 (fun H locs B => ?_)
  have B := bd_to (ws' := [(bo, .inr (0, [.int (iI 0), .null, .null, .null])), (q_1, .inl (k 0, 7, .inl (fun i9 : Nat => iI ((uz (uz (uz (uz (uz (uz (fun _ : Int => (0 : Int)) 0 0) 1 0) 2 0) 3 1) 4 0) 5 0) i9))))]) rfl B
  refine lv_dup hx hb dX0_init_33 rfl ?_
  refine lv_bipush (v := iI 6) hx hb dX0_init_34 (by decide) ?_
  refine lv_iconst (v := iI (-1)) hx hb dX0_init_36 (by decide) ?_
  refine x_iast' (f := (uz (uz (uz (uz (uz (uz (fun _ : Int => (0 : Int)) 0 0) 1 0) 2 0) 3 1) 4 0) 5 0)) (z := 6) (v := (-1)) B 1 rfl (by omega) dX0_init_37 (fun H locs B => ?_)
  have B := bd_to (ws' := [(bo, .inr (0, [.int (iI 0), .null, .null, .null])), (q_1, .inl (k 0, 7, .inl (fun i9 : Nat => iI ((uz (uz (uz (uz (uz (uz (uz (fun _ : Int => (0 : Int)) 0 0) 1 0) 2 0) 3 1) 4 0) 5 0) 6 (-1)) i9))))]) rfl B
  refine x_putF (ci := 0) (C := RX0) (T := TX0) (N := 4) (ty := .array .int) (v := .ref q_1) B tyX0_ok nmX0 0 rfl rfl in_X0 1 (by decide) mw_1173 (fun _ h9 => h9) rfl hnm rfl (by decide +kernel) rfl rfl (Nat.le_of_ble_eq_true rfl) dX0_init_38 (fun H locs B => ?_)
  have B := bd_to (ws' := [(bo, .inr (0, [.int (iI 0), .ref q_1, .null, .null])), (q_1, .inl (k 0, 7, .inl (fun i9 : Nat => iI ((uz (uz (uz (uz (uz (uz (uz (fun _ : Int => (0 : Int)) 0 0) 1 0) 2 0) 3 1) 4 0) 5 0) 6 (-1)) i9))))]) rfl B
  refine lv_aload_n hx hb dX0_init_41 rfl (lv_at hl 0 rfl) ?_
  refine x_new (ci := 12) (fs := [.int 0, .null, .int 0]) (C := RJx4a65c) (T := TJx4a65c) (N := 3) B tyJx4a65c_ok in_Jx4a65c mw_1135 mw_50 mw_5 rfl (by decide +kernel) (Nat.le_of_ble_eq_true rfl) (Nat.le_of_ble_eq_true rfl) dX0_init_42 (fun q_2 H B => ?_)
  have B := bd_to (ws' := [(bo, .inr (0, [.int (iI 0), .ref q_1, .null, .null])), (q_1, .inl (k 0, 7, .inl (fun i9 : Nat => iI ((uz (uz (uz (uz (uz (uz (uz (fun _ : Int => (0 : Int)) 0 0) 1 0) 2 0) 3 1) 4 0) 5 0) 6 (-1)) i9)))), (q_2, .inr (12, [.int (iI 0), .null, .int (iI 0)]))]) rfl B
  refine lv_dup hx hb dX0_init_45 rfl ?_
  have B := bd_sub (ws' := [(q_2, .inr (12, [.int (iI 0), .null, .int (iI 0)])), (bo, .inr (0, [.int (iI 0), .ref q_1, .null, .null])), (q_1, .inl (k 0, 7, .inl (fun i9 : Nat => iI ((uz (uz (uz (uz (uz (uz (uz (fun _ : Int => (0 : Int)) 0 0) 1 0) 2 0) 3 1) 4 0) 5 0) 6 (-1)) i9))))]) [2, 0, 1] (by decide) rfl B
  have B := bd_to (ws' := [(q_2, .inr (12, [.int (iI 0), .null, .int (iI 0)]))] ++ [(bo, .inr (0, [.int (iI 0), .ref q_1, .null, .null])), (q_1, .inl (k 0, 7, .inl (fun i9 : Nat => iI ((uz (uz (uz (uz (uz (uz (uz (fun _ : Int => (0 : Int)) 0 0) 1 0) 2 0) 3 1) 4 0) 5 0) 6 (-1)) i9))))]) rfl B
  refine k_I (rest := [.ref q_2, .ref bo]) (wc := [(q_2, .inr (12, [.int (iI 0), .null, .int (iI 0)]))]) (wr := [(bo, .inr (0, [.int (iI 0), .ref q_1, .null, .null])), (q_1, .inl (k 0, 7, .inl (fun i9 : Nat => iI ((uz (uz (uz (uz (uz (uz (uz (fun _ : Int => (0 : Int)) 0 0) 1 0) 2 0) 3 1) 4 0) 5 0) 6 (-1)) i9))))]) (k_alInit l dC dI k q_2) B mI_Jx4a65c_init_da8c8 mw_1136 hl ⟨Nat.le_of_ble_eq_true rfl, Nat.le_of_ble_eq_true rfl⟩ (Nat.le_of_ble_eq_true rfl) rfl dX0_init_46 ⟨Nat.le_of_ble_eq_true rfl, Nat.le_of_ble_eq_true rfl⟩ (fun r w gc gs H locs hp B => ?_)
  obtain ⟨rfl, hw9, rfl, rfl⟩ := hp
  rw [hw9] at B; clear hw9
  have B := bd_to (ws' := [(bo, .inr (0, [.int (iI 0), .ref q_1, .null, .null])), (q_1, .inl (k 0, 7, .inl (fun i9 : Nat => iI ((uz (uz (uz (uz (uz (uz (uz (fun _ : Int => (0 : Int)) 0 0) 1 0) 2 0) 3 1) 4 0) 5 0) 6 (-1)) i9)))), (q_2, .inr (12, [.int (iI 0), .ref (dI 99 1), .int (iI 0)]))]) rfl B
  refine x_putF (ci := 0) (C := RX0) (T := TX0) (N := 4) (ty := .object "java/util/ArrayList") (v := .ref q_2) B tyX0_ok nmX0 0 rfl rfl in_X0 2 (by decide) mw_1179 (fun _ h9 => h9) rfl hnm rfl (by decide +kernel) rfl rfl (Nat.le_of_ble_eq_true rfl) dX0_init_49 (fun H locs B => ?_)
  have B := bd_to (ws' := [(bo, .inr (0, [.int (iI 0), .ref q_1, .ref q_2, .null])), (q_1, .inl (k 0, 7, .inl (fun i9 : Nat => iI ((uz (uz (uz (uz (uz (uz (uz (fun _ : Int => (0 : Int)) 0 0) 1 0) 2 0) 3 1) 4 0) 5 0) 6 (-1)) i9)))), (q_2, .inr (12, [.int (iI 0), .ref (dI 99 1), .int (iI 0)]))]) rfl B
  refine lv_aload_n hx hb dX0_init_52 rfl (lv_at hl 0 rfl) ?_
  refine lv_iload_n hx hb dX0_init_53 rfl (lv_at hl 1 rfl) ?_
  refine x_putF (ci := 0) (C := RX0) (T := TX0) (N := 4) (ty := .int) (v := .int (iI kd)) B tyX0_ok nmX0 0 rfl rfl in_X0 0 (by decide) mw_1166 (fun _ h9 => h9) rfl hnm rfl (by decide +kernel) rfl rfl (Nat.le_of_ble_eq_true rfl) dX0_init_54 (fun H locs B => ?_)
  have B := bd_to (ws' := [(bo, .inr (0, [.int (iI kd), .ref q_1, .ref q_2, .null])), (q_1, .inl (k 0, 7, .inl (fun i9 : Nat => iI ((uz (uz (uz (uz (uz (uz (uz (fun _ : Int => (0 : Int)) 0 0) 1 0) 2 0) 3 1) 4 0) 5 0) 6 (-1)) i9)))), (q_2, .inr (12, [.int (iI 0), .ref (dI 99 1), .int (iI 0)]))]) rfl B
  refine lv_aload_n hx hb dX0_init_57 rfl (lv_at hl 0 rfl) ?_
  refine lv_iload_n hx hb dX0_init_58 rfl (lv_at hl 1 rfl) ?_
  refine lv_iconst (v := iI 3) hx hb dX0_init_59 (by decide) ?_
  refine lv_icmp_ne (tgt := 73) hx hb dX0_init_60 (by decide) (fun c_3 => ?_) (fun c_3 => ?_)
  · have zc_3 : kd ≠ 3 := jne (a := kd) (b := 3) (by omega) (by omega) c_3
    refine lv_null hx hb dX0_init_73 ?_
    refine x_putF (ci := 0) (C := RX0) (T := TX0) (N := 4) (ty := .object "Galleyforge$Table") (v := .null) B tyX0_ok nmX0 0 rfl rfl in_X0 3 (by decide) mw_1185 (fun _ h9 => h9) rfl hnm rfl (by decide +kernel) rfl rfl (Nat.le_of_ble_eq_true rfl) dX0_init_74 (fun H locs B => ?_)
    have B := bd_to (ws' := [(bo, .inr (0, [.int (iI kd), .ref q_1, .ref q_2, .null])), (q_1, .inl (k 0, 7, .inl (fun i9 : Nat => iI ((uz (uz (uz (uz (uz (uz (uz (fun _ : Int => (0 : Int)) 0 0) 1 0) 2 0) 3 1) 4 0) 5 0) 6 (-1)) i9)))), (q_2, .inr (12, [.int (iI 0), .ref (dI 99 1), .int (iI 0)]))]) rfl B
    have e_4 : (fun j9 : Int => nbV kd 2 j9 0) = (uz (uz (uz (uz (uz (uz (uz (fun _ : Int => (0 : Int)) 0 0) 1 0) 2 0) 3 1) 4 0) 5 0) 6 (-1)) := (by funext j9; simp only [uz]; show (if j9 = 3 then (1 : Int) else if j9 = 6 then -1 else 0) = _; repeat' split; all_goals first | rfl | omega)
    have B := bd_to (ws' := [(bo, .inr (0, [.int (iI kd), .ref q_1, .ref q_2, .null])), (q_1, .inl (k 0, 7, .inl (fun i9 : Nat => iI ((fun j9 : Int => nbV kd 2 j9 0) i9)))), (q_2, .inr (12, [.int (iI 0), .ref (dI 99 1), .int (iI 0)]))]) (by first | rfl | (rw [e_4])) B
    exact k_vret B hr (⟨q_1, q_2, rfl, rfl, rfl, rfl⟩) ⟨Nat.le_of_ble_eq_true rfl, Nat.le_of_ble_eq_true rfl⟩ ⟨Nat.le_of_ble_eq_true rfl, Nat.le_of_ble_eq_true rfl⟩ dX0_init_77
  · have zc_3 : kd = 3 := jeq (a := kd) (b := 3) (by omega) (by omega) c_3
    exfalso; omega

theorem mw_1137 : (Jvm.Cond.classLink "Galleyforge$Block" (26 : Nat) "Galleyforge$Table") ∈ gt := gt_at 1207 (by decide +kernel) (by decide +kernel)
theorem mw_1138 : (Jvm.Cond.instantiable "Galleyforge$Table" (7 : Nat)) ∈ gt := gt_at 1208 (by decide +kernel) (by decide +kernel)
theorem mw_1140 : (Jvm.Cond.instanceMethod ({ cls := "Galleyforge$Table", name := "<init>", desc := "()V" } : Jvm.MethodName)) ∈ gt := gt_at 1210 (by decide +kernel) (by decide +kernel)
theorem mw_1141 : (Jvm.Cond.code ({ cls := "Galleyforge$Table", name := "<init>", desc := "()V" } : Jvm.MethodName) prog_10_method_1_code (1 : Nat) (Option.none : Option Jvm.ClassFile.FieldType)) ∈ gt := gt_at 1211 (by decide +kernel) (by decide +kernel)
theorem mI_X8_init : mI yX8_init cX8_init 1 0 := ⟨⟨mw_1141, mw_20, by decide, by decide, by decide +kernel⟩, mw_1140, rfl⟩
theorem nml_X8_init : ("Galleyforge$Block", 28, yX8_init, "Galleyforge") ∈ nML := List.mem_of_getElem? (i := 4) rfl
theorem dX0_init_63 : decode cX0_init 63 = .ok (.new 26, 3) := by decide +kernel
theorem dX0_init_66 : decode cX0_init 66 = .ok (.dup, 1) := by decide +kernel
theorem dX0_init_67 : decode cX0_init 67 = .ok (.invokespecial 28, 3) := by decide +kernel
theorem dX0_init_70 : decode cX0_init 70 = .ok (.goto 4, 3) := by decide +kernel
set_option maxHeartbeats 4000000 in
set_option maxRecDepth 100000 in
theorem k_blockInit3 (l : Launch) (dC : Nat → ClassId) (dI : Nat → Nat → Nat) (k : Nat → ClassId) (bo : Nat) (kd : Int) (hkd : kd = 3) : Kn l dC dI k yX0_init (.code yX0_init cX0_init 2 none) ({ frames := 4, cells := 10, slots := 65, locals := 72 } : Room) [.ref bo, .int (iI kd)] [(bo, .inr (0, [.int (iI 0), .null, .null, .null]))] (fun r w gc gs => (∃ (st9 : Nat) (wl9 : Nat) (tb9 : Nat) (sa0 : Nat) (sa1 : Nat) (sa2 : Nat) (sa3 : Nat) (sa4 : Nat) (sa5 : Nat) (sa6 : Nat), r = none ∧ w = [(bo, .inr (0, [.int (iI kd), .ref st9, .ref wl9, .ref tb9])), (st9, .inl (k 0, 7, .inl (fun i9 : Nat => iI ((fun j9 : Int => nbV kd 2 j9 0) i9)))), (wl9, .inr (12, [.int (iI 0), .ref (dI 99 1), .int (iI 0)])), (tb9, .inr (8, [.ref sa0, .ref sa1, .ref sa2, .ref sa3, .ref sa4, .ref sa5, .ref sa6])), (sa0, .inl (k 0, 12, .inl (fun i9 : Nat => iI ((fun _ : Int => (0 : Int)) i9)))), (sa1, .inl (k 0, 12, .inl (fun i9 : Nat => iI ((fun _ : Int => (0 : Int)) i9)))), (sa2, .inl (k 0, 12, .inl (fun i9 : Nat => iI ((fun _ : Int => (0 : Int)) i9)))), (sa3, .inl (k 0, 3, .inl (fun i9 : Nat => iI ((fun _ : Int => (0 : Int)) i9)))), (sa4, .inl (k 0, 3, .inl (fun i9 : Nat => iI ((fun _ : Int => (0 : Int)) i9)))), (sa5, .inl (k 0, 3, .inl (fun i9 : Nat => iI ((fun _ : Int => (0 : Int)) i9)))), (sa6, .inl (k 0, 3, .inl (fun i9 : Nat => iI ((fun _ : Int => (0 : Int)) i9))))] ∧ gc = 10 ∧ gs = 65)) := by
  refine kn_of (by decide) (Nat.le_of_ble_eq_true rfl) ?_
  intro p e s m args below meth c H locs B hr hnm ls hl
  have hx := B.1.1
  have hb := B.1.2.1
  have hl : lv_has ls 2 [(0, .ref bo), (1, .int (iI kd))] := hl
  refine lv_aload_n hx hb dX0_init_0 rfl (lv_at hl 0 rfl) ?_
  refine x_obj B mw_1134 mw_41 mw_obj hl dX0_init_1 (Nat.le_of_ble_eq_true rfl) (Nat.le_of_ble_eq_true rfl) ?_
  refine lv_aload_n hx hb dX0_init_4 rfl (lv_at hl 0 rfl) ?_
  refine lv_bipush (v := iI 7) hx hb dX0_init_5 (by decide) ?_
  refine x_newa (atype := .int) (ty := .int) (N' := 7) (a0 := (7, .inl (fun _ => 0))) B mw_119 rfl 0 rfl pr_int (fun _ => rfl) (by decide) (by decide) (Nat.le_of_ble_eq_true rfl) (Nat.le_of_ble_eq_true rfl) (Nat.le_of_ble_eq_true rfl) dX0_init_7 (fun q_1 H B => ?_)
  have B := bd_to (ws' := [(bo, .inr (0, [.int (iI 0), .null, .null, .null])), (q_1, .inl (k 0, 7, .inl (fun i9 : Nat => iI ((fun _ : Int => (0 : Int)) i9))))]) rfl B
  refine lv_dup hx hb dX0_init_9 rfl ?_
  refine lv_iconst (v := iI 0) hx hb dX0_init_10 (by decide) ?_
  refine lv_iconst (v := iI 0) hx hb dX0_init_11 (by decide) ?_
  refine x_iast' (f := (fun _ : Int => (0 : Int))) (z := 0) (v := 0) B 1 rfl (by omega) dX0_init_12 (fun H locs B => ?_)
  have B := bd_to (ws' := [(bo, .inr (0, [.int (iI 0), .null, .null, .null])), (q_1, .inl (k 0, 7, .inl (fun i9 : Nat => iI ((uz (fun _ : Int => (0 : Int)) 0 0) i9))))]) rfl B
  refine lv_dup hx hb dX0_init_13 rfl ?_
  refine lv_iconst (v := iI 1) hx hb dX0_init_14 (by decide) ?_
  refine lv_iconst (v := iI 0) hx hb dX0_init_15 (by decide) ?_
  refine x_iast' (f := (uz (fun _ : Int => (0 : Int)) 0 0)) (z := 1) (v := 0) B 1 rfl (by omega) dX0_init_16 (fun H locs B => ?_)
  have B := bd_to (ws' := [(bo, .inr (0, [.int (iI 0), .null, .null, .null])), (q_1, .inl (k 0, 7, .inl (fun i9 : Nat => iI ((uz (uz (fun _ : Int => (0 : Int)) 0 0) 1 0) i9))))]) rfl B
  refine lv_dup hx hb dX0_init_17 rfl ?_
  refine lv_iconst (v := iI 2) hx hb dX0_init_18 (by decide) ?_
  refine lv_iconst (v := iI 0) hx hb dX0_init_19 (by decide) ?_
  refine x_iast' (f := (uz (uz (fun _ : Int => (0 : Int)) 0 0) 1 0)) (z := 2) (v := 0) B 1 rfl (by omega) dX0_init_20 (fun H locs B => ?_)
  have B := bd_to (ws' := [(bo, .inr (0, [.int (iI 0), .null, .null, .null])), (q_1, .inl (k 0, 7, .inl (fun i9 : Nat => iI ((uz (uz (uz (fun _ : Int => (0 : Int)) 0 0) 1 0) 2 0) i9))))]) rfl B
  refine lv_dup hx hb dX0_init_21 rfl ?_
  refine lv_iconst (v := iI 3) hx hb dX0_init_22 (by decide) ?_
  refine lv_iconst (v := iI 1) hx hb dX0_init_23 (by decide) ?_
  refine x_iast' (f := (uz (uz (uz (fun _ : Int => (0 : Int)) 0 0) 1 0) 2 0)) (z := 3) (v := 1) B 1 rfl (by omega) dX0_init_24 (fun H locs B => ?_)
  have B := bd_to (ws' := [(bo, .inr (0, [.int (iI 0), .null, .null, .null])), (q_1, .inl (k 0, 7, .inl (fun i9 : Nat => iI ((uz (uz (uz (uz (fun _ : Int => (0 : Int)) 0 0) 1 0) 2 0) 3 1) i9))))]) rfl B
  refine lv_dup hx hb dX0_init_25 rfl ?_
  refine lv_iconst (v := iI 4) hx hb dX0_init_26 (by decide) ?_
  refine lv_iconst (v := iI 0) hx hb dX0_init_27 (by decide) ?_
  refine x_iast' (f := (uz (uz (uz (uz (fun _ : Int => (0 : Int)) 0 0) 1 0) 2 0) 3 1)) (z := 4) (v := 0) B 1 rfl (by omega) dX0_init_28 (fun H locs B => ?_)
  have B := bd_to (ws' := [(bo, .inr (0, [.int (iI 0), .null, .null, .null])), (q_1, .inl (k 0, 7, .inl (fun i9 : Nat => iI ((uz (uz (uz (uz (uz (fun _ : Int => (0 : Int)) 0 0) 1 0) 2 0) 3 1) 4 0) i9))))]) rfl B
  refine lv_dup hx hb dX0_init_29 rfl ?_
  refine lv_iconst (v := iI 5) hx hb dX0_init_30 (by decide) ?_
  refine lv_iconst (v := iI 0) hx hb dX0_init_31 (by decide) ?_
  refine x_iast' (f := (uz (uz (uz (uz (uz (fun _ : Int => (0 : Int)) 0 0) 1 0) 2 0) 3 1) 4 0)) (z := 5) (v := 0) B 1 rfl (by omega) dX0_init_32 (fun H locs B => ?_)
  have B := bd_to (ws' := [(bo, .inr (0, [.int (iI 0), .null, .null, .null])), (q_1, .inl (k 0, 7, .inl (fun i9 : Nat => iI ((uz (uz (uz (uz (uz (uz (fun _ : Int => (0 : Int)) 0 0) 1 0) 2 0) 3 1) 4 0) 5 0) i9))))]) rfl B
  refine lv_dup hx hb dX0_init_33 rfl ?_
  refine lv_bipush (v := iI 6) hx hb dX0_init_34 (by decide) ?_
  refine lv_iconst (v := iI (-1)) hx hb dX0_init_36 (by decide) ?_
  refine x_iast' (f := (uz (uz (uz (uz (uz (uz (fun _ : Int => (0 : Int)) 0 0) 1 0) 2 0) 3 1) 4 0) 5 0)) (z := 6) (v := (-1)) B 1 rfl (by omega) dX0_init_37 (fun H locs B => ?_)
  have B := bd_to (ws' := [(bo, .inr (0, [.int (iI 0), .null, .null, .null])), (q_1, .inl (k 0, 7, .inl (fun i9 : Nat => iI ((uz (uz (uz (uz (uz (uz (uz (fun _ : Int => (0 : Int)) 0 0) 1 0) 2 0) 3 1) 4 0) 5 0) 6 (-1)) i9))))]) rfl B
  refine x_putF (ci := 0) (C := RX0) (T := TX0) (N := 4) (ty := .array .int) (v := .ref q_1) B tyX0_ok nmX0 0 rfl rfl in_X0 1 (by decide) mw_1173 (fun _ h9 => h9) rfl hnm rfl (by decide +kernel) rfl rfl (Nat.le_of_ble_eq_true rfl) dX0_init_38 (fun H locs B => ?_)
  have B := bd_to (ws' := [(bo, .inr (0, [.int (iI 0), .ref q_1, .null, .null])), (q_1, .inl (k 0, 7, .inl (fun i9 : Nat => iI ((uz (uz (uz (uz (uz (uz (uz (fun _ : Int => (0 : Int)) 0 0) 1 0) 2 0) 3 1) 4 0) 5 0) 6 (-1)) i9))))]) rfl B
  refine lv_aload_n hx hb dX0_init_41 rfl (lv_at hl 0 rfl) ?_
  refine x_new (ci := 12) (fs := [.int 0, .null, .int 0]) (C := RJx4a65c) (T := TJx4a65c) (N := 3) B tyJx4a65c_ok in_Jx4a65c mw_1135 mw_50 mw_5 rfl (by decide +kernel) (Nat.le_of_ble_eq_true rfl) (Nat.le_of_ble_eq_true rfl) dX0_init_42 (fun q_2 H B => ?_)
  have B := bd_to (ws' := [(bo, .inr (0, [.int (iI 0), .ref q_1, .null, .null])), (q_1, .inl (k 0, 7, .inl (fun i9 : Nat => iI ((uz (uz (uz (uz (uz (uz (uz (fun _ : Int => (0 : Int)) 0 0) 1 0) 2 0) 3 1) 4 0) 5 0) 6 (-1)) i9)))), (q_2, .inr (12, [.int (iI 0), .null, .int (iI 0)]))]) rfl B
  refine lv_dup hx hb dX0_init_45 rfl ?_
  have B := bd_sub (ws' := [(q_2, .inr (12, [.int (iI 0), .null, .int (iI 0)])), (bo, .inr (0, [.int (iI 0), .ref q_1, .null, .null])), (q_1, .inl (k 0, 7, .inl (fun i9 : Nat => iI ((uz (uz (uz (uz (uz (uz (uz (fun _ : Int => (0 : Int)) 0 0) 1 0) 2 0) 3 1) 4 0) 5 0) 6 (-1)) i9))))]) [2, 0, 1] (by decide) rfl B
  have B := bd_to (ws' := [(q_2, .inr (12, [.int (iI 0), .null, .int (iI 0)]))] ++ [(bo, .inr (0, [.int (iI 0), .ref q_1, .null, .null])), (q_1, .inl (k 0, 7, .inl (fun i9 : Nat => iI ((uz (uz (uz (uz (uz (uz (uz (fun _ : Int => (0 : Int)) 0 0) 1 0) 2 0) 3 1) 4 0) 5 0) 6 (-1)) i9))))]) rfl B
  refine k_I (rest := [.ref q_2, .ref bo]) (wc := [(q_2, .inr (12, [.int (iI 0), .null, .int (iI 0)]))]) (wr := [(bo, .inr (0, [.int (iI 0), .ref q_1, .null, .null])), (q_1, .inl (k 0, 7, .inl (fun i9 : Nat => iI ((uz (uz (uz (uz (uz (uz (uz (fun _ : Int => (0 : Int)) 0 0) 1 0) 2 0) 3 1) 4 0) 5 0) 6 (-1)) i9))))]) (k_alInit l dC dI k q_2) B mI_Jx4a65c_init_da8c8 mw_1136 hl ⟨Nat.le_of_ble_eq_true rfl, Nat.le_of_ble_eq_true rfl⟩ (Nat.le_of_ble_eq_true rfl) rfl dX0_init_46 ⟨Nat.le_of_ble_eq_true rfl, Nat.le_of_ble_eq_true rfl⟩ (fun r w gc gs H locs hp B => ?_)
  obtain ⟨rfl, hw9, rfl, rfl⟩ := hp
  rw [hw9] at B; clear hw9
  have B := bd_to (ws' := [(bo, .inr (0, [.int (iI 0), .ref q_1, .null, .null])), (q_1, .inl (k 0, 7, .inl (fun i9 : Nat => iI ((uz (uz (uz (uz (uz (uz (uz (fun _ : Int => (0 : Int)) 0 0) 1 0) 2 0) 3 1) 4 0) 5 0) 6 (-1)) i9)))), (q_2, .inr (12, [.int (iI 0), .ref (dI 99 1), .int (iI 0)]))]) rfl B
  refine x_putF (ci := 0) (C := RX0) (T := TX0) (N := 4) (ty := .object "java/util/ArrayList") (v := .ref q_2) B tyX0_ok nmX0 0 rfl rfl in_X0 2 (by decide) mw_1179 (fun _ h9 => h9) rfl hnm rfl (by decide +kernel) rfl rfl (Nat.le_of_ble_eq_true rfl) dX0_init_49 (fun H locs B => ?_)
  have B := bd_to (ws' := [(bo, .inr (0, [.int (iI 0), .ref q_1, .ref q_2, .null])), (q_1, .inl (k 0, 7, .inl (fun i9 : Nat => iI ((uz (uz (uz (uz (uz (uz (uz (fun _ : Int => (0 : Int)) 0 0) 1 0) 2 0) 3 1) 4 0) 5 0) 6 (-1)) i9)))), (q_2, .inr (12, [.int (iI 0), .ref (dI 99 1), .int (iI 0)]))]) rfl B
  refine lv_aload_n hx hb dX0_init_52 rfl (lv_at hl 0 rfl) ?_
  refine lv_iload_n hx hb dX0_init_53 rfl (lv_at hl 1 rfl) ?_
  refine x_putF (ci := 0) (C := RX0) (T := TX0) (N := 4) (ty := .int) (v := .int (iI kd)) B tyX0_ok nmX0 0 rfl rfl in_X0 0 (by decide) mw_1166 (fun _ h9 => h9) rfl hnm rfl (by decide +kernel) rfl rfl (Nat.le_of_ble_eq_true rfl) dX0_init_54 (fun H locs B => ?_)
  have B := bd_to (ws' := [(bo, .inr (0, [.int (iI kd), .ref q_1, .ref q_2, .null])), (q_1, .inl (k 0, 7, .inl (fun i9 : Nat => iI ((uz (uz (uz (uz (uz (uz (uz (fun _ : Int => (0 : Int)) 0 0) 1 0) 2 0) 3 1) 4 0) 5 0) 6 (-1)) i9)))), (q_2, .inr (12, [.int (iI 0), .ref (dI 99 1), .int (iI 0)]))]) rfl B
  refine lv_aload_n hx hb dX0_init_57 rfl (lv_at hl 0 rfl) ?_
  refine lv_iload_n hx hb dX0_init_58 rfl (lv_at hl 1 rfl) ?_
  refine lv_iconst (v := iI 3) hx hb dX0_init_59 (by decide) ?_
  refine lv_icmp_ne (tgt := 73) hx hb dX0_init_60 (by decide) (fun c_3 => ?_) (fun c_3 => ?_)
  · have zc_3 : kd ≠ 3 := jne (a := kd) (b := 3) (by omega) (by omega) c_3
    exfalso; omega
  · have zc_3 : kd = 3 := jeq (a := kd) (b := 3) (by omega) (by omega) c_3
    refine x_new (ci := 8) (fs := [.null, .null, .null, .null, .null, .null, .null]) (C := RX8) (T := TX8) (N := 7) B tyX8_ok in_X8 mw_1137 mw_1138 mw_20 rfl (by decide +kernel) (Nat.le_of_ble_eq_true rfl) (Nat.le_of_ble_eq_true rfl) dX0_init_63 (fun q_4 H B => ?_)
    have B := bd_to (ws' := [(bo, .inr (0, [.int (iI kd), .ref q_1, .ref q_2, .null])), (q_1, .inl (k 0, 7, .inl (fun i9 : Nat => iI ((uz (uz (uz (uz (uz (uz (uz (fun _ : Int => (0 : Int)) 0 0) 1 0) 2 0) 3 1) 4 0) 5 0) 6 (-1)) i9)))), (q_2, .inr (12, [.int (iI 0), .ref (dI 99 1), .int (iI 0)])), (q_4, .inr (8, [.null, .null, .null, .null, .null, .null, .null]))]) rfl B
    refine lv_dup hx hb dX0_init_66 rfl ?_
    have B := bd_sub (ws' := [(q_4, .inr (8, [.null, .null, .null, .null, .null, .null, .null])), (bo, .inr (0, [.int (iI kd), .ref q_1, .ref q_2, .null])), (q_1, .inl (k 0, 7, .inl (fun i9 : Nat => iI ((uz (uz (uz (uz (uz (uz (uz (fun _ : Int => (0 : Int)) 0 0) 1 0) 2 0) 3 1) 4 0) 5 0) 6 (-1)) i9)))), (q_2, .inr (12, [.int (iI 0), .ref (dI 99 1), .int (iI 0)]))]) [3, 0, 1, 2] (by decide) rfl B
    have B := bd_to (ws' := [(q_4, .inr (8, [.null, .null, .null, .null, .null, .null, .null]))] ++ [(bo, .inr (0, [.int (iI kd), .ref q_1, .ref q_2, .null])), (q_1, .inl (k 0, 7, .inl (fun i9 : Nat => iI ((uz (uz (uz (uz (uz (uz (uz (fun _ : Int => (0 : Int)) 0 0) 1 0) 2 0) 3 1) 4 0) 5 0) 6 (-1)) i9)))), (q_2, .inr (12, [.int (iI 0), .ref (dI 99 1), .int (iI 0)]))]) rfl B
    refine k_N (rest := [.ref q_4, .ref bo]) (wc := [(q_4, .inr (8, [.null, .null, .null, .null, .null, .null, .null]))]) (wr := [(bo, .inr (0, [.int (iI kd), .ref q_1, .ref q_2, .null])), (q_1, .inl (k 0, 7, .inl (fun i9 : Nat => iI ((uz (uz (uz (uz (uz (uz (uz (fun _ : Int => (0 : Int)) 0 0) 1 0) 2 0) 3 1) 4 0) 5 0) 6 (-1)) i9)))), (q_2, .inr (12, [.int (iI 0), .ref (dI 99 1), .int (iI 0)]))]) (k_tableInit l dC dI k q_4) B mI_X8_init (nml_X8_init) hl ⟨Nat.le_of_ble_eq_true rfl, Nat.le_of_ble_eq_true rfl⟩ (Nat.le_of_ble_eq_true rfl) rfl dX0_init_67 ⟨Nat.le_of_ble_eq_true rfl, Nat.le_of_ble_eq_true rfl⟩ (fun r w gc gs H locs hp B => ?_)
    obtain ⟨sa0_5, sa1_6, sa2_7, sa3_8, sa4_9, sa5_10, sa6_11, rfl, hw9, rfl, rfl⟩ := hp
    rw [hw9] at B; clear hw9
    have B := bd_to (ws' := [(bo, .inr (0, [.int (iI kd), .ref q_1, .ref q_2, .null])), (q_1, .inl (k 0, 7, .inl (fun i9 : Nat => iI ((uz (uz (uz (uz (uz (uz (uz (fun _ : Int => (0 : Int)) 0 0) 1 0) 2 0) 3 1) 4 0) 5 0) 6 (-1)) i9)))), (q_2, .inr (12, [.int (iI 0), .ref (dI 99 1), .int (iI 0)])), (q_4, .inr (8, [.ref sa0_5, .ref sa1_6, .ref sa2_7, .ref sa3_8, .ref sa4_9, .ref sa5_10, .ref sa6_11])), (sa0_5, .inl (k 0, 12, .inl (fun i9 : Nat => iI ((fun _ : Int => (0 : Int)) i9)))), (sa1_6, .inl (k 0, 12, .inl (fun i9 : Nat => iI ((fun _ : Int => (0 : Int)) i9)))), (sa2_7, .inl (k 0, 12, .inl (fun i9 : Nat => iI ((fun _ : Int => (0 : Int)) i9)))), (sa3_8, .inl (k 0, 3, .inl (fun i9 : Nat => iI ((fun _ : Int => (0 : Int)) i9)))), (sa4_9, .inl (k 0, 3, .inl (fun i9 : Nat => iI ((fun _ : Int => (0 : Int)) i9)))), (sa5_10, .inl (k 0, 3, .inl (fun i9 : Nat => iI ((fun _ : Int => (0 : Int)) i9)))), (sa6_11, .inl (k 0, 3, .inl (fun i9 : Nat => iI ((fun _ : Int => (0 : Int)) i9))))]) rfl B
    refine lv_goto (tgt := 74) hx hb dX0_init_70 (by decide) ?_
    refine x_putF (ci := 0) (C := RX0) (T := TX0) (N := 4) (ty := .object "Galleyforge$Table") (v := .ref q_4) B tyX0_ok nmX0 0 rfl rfl in_X0 3 (by decide) mw_1185 (fun _ h9 => h9) rfl hnm rfl (by decide +kernel) rfl rfl (Nat.le_of_ble_eq_true rfl) dX0_init_74 (fun H locs B => ?_)
    have B := bd_to (ws' := [(bo, .inr (0, [.int (iI kd), .ref q_1, .ref q_2, .ref q_4])), (q_1, .inl (k 0, 7, .inl (fun i9 : Nat => iI ((uz (uz (uz (uz (uz (uz (uz (fun _ : Int => (0 : Int)) 0 0) 1 0) 2 0) 3 1) 4 0) 5 0) 6 (-1)) i9)))), (q_2, .inr (12, [.int (iI 0), .ref (dI 99 1), .int (iI 0)])), (q_4, .inr (8, [.ref sa0_5, .ref sa1_6, .ref sa2_7, .ref sa3_8, .ref sa4_9, .ref sa5_10, .ref sa6_11])), (sa0_5, .inl (k 0, 12, .inl (fun i9 : Nat => iI ((fun _ : Int => (0 : Int)) i9)))), (sa1_6, .inl (k 0, 12, .inl (fun i9 : Nat => iI ((fun _ : Int => (0 : Int)) i9)))), (sa2_7, .inl (k 0, 12, .inl (fun i9 : Nat => iI ((fun _ : Int => (0 : Int)) i9)))), (sa3_8, .inl (k 0, 3, .inl (fun i9 : Nat => iI ((fun _ : Int => (0 : Int)) i9)))), (sa4_9, .inl (k 0, 3, .inl (fun i9 : Nat => iI ((fun _ : Int => (0 : Int)) i9)))), (sa5_10, .inl (k 0, 3, .inl (fun i9 : Nat => iI ((fun _ : Int => (0 : Int)) i9)))), (sa6_11, .inl (k 0, 3, .inl (fun i9 : Nat => iI ((fun _ : Int => (0 : Int)) i9))))]) rfl B
    have e_12 : (fun j9 : Int => nbV kd 2 j9 0) = (uz (uz (uz (uz (uz (uz (uz (fun _ : Int => (0 : Int)) 0 0) 1 0) 2 0) 3 1) 4 0) 5 0) 6 (-1)) := (by funext j9; simp only [uz]; show (if j9 = 3 then (1 : Int) else if j9 = 6 then -1 else 0) = _; repeat' split; all_goals first | rfl | omega)
    have B := bd_to (ws' := [(bo, .inr (0, [.int (iI kd), .ref q_1, .ref q_2, .ref q_4])), (q_1, .inl (k 0, 7, .inl (fun i9 : Nat => iI ((fun j9 : Int => nbV kd 2 j9 0) i9)))), (q_2, .inr (12, [.int (iI 0), .ref (dI 99 1), .int (iI 0)])), (q_4, .inr (8, [.ref sa0_5, .ref sa1_6, .ref sa2_7, .ref sa3_8, .ref sa4_9, .ref sa5_10, .ref sa6_11])), (sa0_5, .inl (k 0, 12, .inl (fun i9 : Nat => iI ((fun _ : Int => (0 : Int)) i9)))), (sa1_6, .inl (k 0, 12, .inl (fun i9 : Nat => iI ((fun _ : Int => (0 : Int)) i9)))), (sa2_7, .inl (k 0, 12, .inl (fun i9 : Nat => iI ((fun _ : Int => (0 : Int)) i9)))), (sa3_8, .inl (k 0, 3, .inl (fun i9 : Nat => iI ((fun _ : Int => (0 : Int)) i9)))), (sa4_9, .inl (k 0, 3, .inl (fun i9 : Nat => iI ((fun _ : Int => (0 : Int)) i9)))), (sa5_10, .inl (k 0, 3, .inl (fun i9 : Nat => iI ((fun _ : Int => (0 : Int)) i9)))), (sa6_11, .inl (k 0, 3, .inl (fun i9 : Nat => iI ((fun _ : Int => (0 : Int)) i9))))]) (by first | rfl | (rw [e_12])) B
    exact k_vret B hr (⟨q_1, q_2, q_4, sa0_5, sa1_6, sa2_7, sa3_8, sa4_9, sa5_10, sa6_11, rfl, rfl, rfl, rfl⟩) ⟨Nat.le_of_ble_eq_true rfl, Nat.le_of_ble_eq_true rfl⟩ ⟨Nat.le_of_ble_eq_true rfl, Nat.le_of_ble_eq_true rfl⟩ dX0_init_77

end
