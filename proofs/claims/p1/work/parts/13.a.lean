section
theorem dX6_forgetTerms_0 : decode cX6_forgetTerms 0 = .ok (.iconst 0, 1) := by decide +kernel
theorem dX6_forgetTerms_1 : decode cX6_forgetTerms 1 = .ok (.istore_n 1, 1) := by decide +kernel
theorem dX6_forgetTerms_2 : decode cX6_forgetTerms 2 = .ok (.iload_n 1, 1) := by decide +kernel
theorem dX6_forgetTerms_3 : decode cX6_forgetTerms 3 = .ok (.bipush 8, 2) := by decide +kernel
theorem dX6_forgetTerms_5 : decode cX6_forgetTerms 5 = .ok (.if_icmp .ge 16, 3) := by decide +kernel
theorem dX6_forgetTerms_8 : decode cX6_forgetTerms 8 = .ok (.aload_n 0, 1) := by decide +kernel
theorem dX6_forgetTerms_9 : decode cX6_forgetTerms 9 = .ok (.getfield 43, 3) := by decide +kernel
theorem dX6_forgetTerms_12 : decode cX6_forgetTerms 12 = .ok (.iload_n 1, 1) := by decide +kernel
theorem dX6_forgetTerms_13 : decode cX6_forgetTerms 13 = .ok (.iconst 0, 1) := by decide +kernel
theorem dX6_forgetTerms_14 : decode cX6_forgetTerms 14 = .ok (.bastore, 1) := by decide +kernel
theorem dX6_forgetTerms_15 : decode cX6_forgetTerms 15 = .ok (.iinc 1 1, 3) := by decide +kernel
theorem dX6_forgetTerms_18 : decode cX6_forgetTerms 18 = .ok (.goto (-16), 3) := by decide +kernel
theorem dX6_forgetTerms_21 : decode cX6_forgetTerms 21 = .ok (.return_, 1) := by decide +kernel
set_option maxHeartbeats 4000000 in
set_option maxRecDepth 100000 in
theorem c_forgetTerms (l : Launch) (dC : Nat → ClassId) (dI : Nat → Nat → Nat) (k : Nat → ClassId) (R : Nat) (r0 : Nat) (r1 : Nat) (r2 : Nat) (r3 : Nat) (r4 : Nat) (r5 : Nat) (r6 : Nat) (r7 : Nat) (wr : Nat) (lr : Nat) (tt : Nat) (fr : Nat) (r8 : Nat) (r9 : Nat) : Ct l dC dI k yX6_forgetTerms (.code yX6_forgetTerms cX6_forgetTerms 2 none) ({ frames := 0, cells := 0, slots := 0, locals := 0 } : Room) [.ref R] [(R, .inr (5, [.int 0, .ref r0, .ref r1, .ref r2, .ref r3, .ref r4, .ref r5, .ref r6, .ref r7, .ref wr, .ref lr, .ref tt, .int 0, .int 0, .ref fr, .ref r8, .ref r9, .int 0])), (tt, .inl (k 1, 8, .inl (fun _ => 0)))] (fun r w => (r = none ∧ w = [(R, .inr (5, [.int 0, .ref r0, .ref r1, .ref r2, .ref r3, .ref r4, .ref r5, .ref r6, .ref r7, .ref wr, .ref lr, .ref tt, .int 0, .int 0, .ref fr, .ref r8, .ref r9, .int 0])), (tt, .inl (k 1, 8, .inl (upd (upd (upd (upd (upd (upd (upd (upd (fun _ => 0) 0 0) 1 0) 2 0) 3 0) 4 0) 5 0) 6 0) 7 0)))])) := by
  refine ct_of (by decide) (Nat.le_of_ble_eq_true rfl) ?_
  intro p e s m args below meth c H locs B hr hnm ls hl
  have hx := B.1.1
  have hb := B.1.2.1
  have hl : lv_has ls 2 [(0, .ref R)] := hl
  refine lv_iconst (v := 0) hx hb dX6_forgetTerms_0 (by decide) ?_
  refine lv_istore_n (lv' := [(1, .int 0), (0, .ref R)]) hx hb dX6_forgetTerms_1 rfl hl (by decide) rfl (fun ls hl => ?_)
  refine lv_iload_n hx hb dX6_forgetTerms_2 rfl (lv_at hl 0 rfl) ?_
  refine lv_bipush (v := 8) hx hb dX6_forgetTerms_3 (by decide) ?_
  refine lv_icmp_ge (tgt := 21) hx hb dX6_forgetTerms_5 (by decide) (fun c9 => absurd c9 (by decide)) (fun _ => ?_)
  refine lv_aload_n hx hb dX6_forgetTerms_8 rfl (lv_at hl 1 rfl) ?_
  refine x_get (ci := 5) (C := RX6) (T := TX6) (N := 18) (v := .ref tt) B 0 rfl rfl in_X6 11 (by decide) mw_251 (fun _ h9 => h9) rfl dX6_forgetTerms_9 ?_
  refine lv_iload_n hx hb dX6_forgetTerms_12 rfl (lv_at hl 0 rfl) ?_
  refine lv_iconst (v := 0) hx hb dX6_forgetTerms_13 (by decide) ?_
  refine x_zast (x' := 0) B 1 rfl (by decide) (vpc (by decide)) dX6_forgetTerms_14 (j := 0) (by decide) (fun H locs B => ?_)
  have B := bd_to (ws' := [(R, .inr (5, [.int 0, .ref r0, .ref r1, .ref r2, .ref r3, .ref r4, .ref r5, .ref r6, .ref r7, .ref wr, .ref lr, .ref tt, .int 0, .int 0, .ref fr, .ref r8, .ref r9, .int 0])), (tt, .inl (k 1, 8, .inl (upd (fun _ => 0) 0 0)))]) rfl B
  refine lv_iinc (v := 1) (lv' := [(1, .int 1), (0, .ref R)]) hx hb dX6_forgetTerms_15 hl (k := 0) rfl (by decide) (by decide) rfl (fun ls hl => ?_)
  refine lv_goto (tgt := 2) hx hb dX6_forgetTerms_18 (by decide) ?_
  refine lv_iload_n hx hb dX6_forgetTerms_2 rfl (lv_at hl 0 rfl) ?_
  refine lv_bipush (v := 8) hx hb dX6_forgetTerms_3 (by decide) ?_
  refine lv_icmp_ge (tgt := 21) hx hb dX6_forgetTerms_5 (by decide) (fun c9 => absurd c9 (by decide)) (fun _ => ?_)
  refine lv_aload_n hx hb dX6_forgetTerms_8 rfl (lv_at hl 1 rfl) ?_
  refine x_get (ci := 5) (C := RX6) (T := TX6) (N := 18) (v := .ref tt) B 0 rfl rfl in_X6 11 (by decide) mw_251 (fun _ h9 => h9) rfl dX6_forgetTerms_9 ?_
  refine lv_iload_n hx hb dX6_forgetTerms_12 rfl (lv_at hl 0 rfl) ?_
  refine lv_iconst (v := 0) hx hb dX6_forgetTerms_13 (by decide) ?_
  refine x_zast (x' := 0) B 1 rfl (by decide) (vpc (by decide)) dX6_forgetTerms_14 (j := 1) (by decide) (fun H locs B => ?_)
  have B := bd_to (ws' := [(R, .inr (5, [.int 0, .ref r0, .ref r1, .ref r2, .ref r3, .ref r4, .ref r5, .ref r6, .ref r7, .ref wr, .ref lr, .ref tt, .int 0, .int 0, .ref fr, .ref r8, .ref r9, .int 0])), (tt, .inl (k 1, 8, .inl (upd (upd (fun _ => 0) 0 0) 1 0)))]) rfl B
  refine lv_iinc (v := 2) (lv' := [(1, .int 2), (0, .ref R)]) hx hb dX6_forgetTerms_15 hl (k := 0) rfl (by decide) (by decide) rfl (fun ls hl => ?_)
  refine lv_goto (tgt := 2) hx hb dX6_forgetTerms_18 (by decide) ?_
  refine lv_iload_n hx hb dX6_forgetTerms_2 rfl (lv_at hl 0 rfl) ?_
  refine lv_bipush (v := 8) hx hb dX6_forgetTerms_3 (by decide) ?_
  refine lv_icmp_ge (tgt := 21) hx hb dX6_forgetTerms_5 (by decide) (fun c9 => absurd c9 (by decide)) (fun _ => ?_)
  refine lv_aload_n hx hb dX6_forgetTerms_8 rfl (lv_at hl 1 rfl) ?_
  refine x_get (ci := 5) (C := RX6) (T := TX6) (N := 18) (v := .ref tt) B 0 rfl rfl in_X6 11 (by decide) mw_251 (fun _ h9 => h9) rfl dX6_forgetTerms_9 ?_
  refine lv_iload_n hx hb dX6_forgetTerms_12 rfl (lv_at hl 0 rfl) ?_
  refine lv_iconst (v := 0) hx hb dX6_forgetTerms_13 (by decide) ?_
  refine x_zast (x' := 0) B 1 rfl (by decide) (vpc (by decide)) dX6_forgetTerms_14 (j := 2) (by decide) (fun H locs B => ?_)
  have B := bd_to (ws' := [(R, .inr (5, [.int 0, .ref r0, .ref r1, .ref r2, .ref r3, .ref r4, .ref r5, .ref r6, .ref r7, .ref wr, .ref lr, .ref tt, .int 0, .int 0, .ref fr, .ref r8, .ref r9, .int 0])), (tt, .inl (k 1, 8, .inl (upd (upd (upd (fun _ => 0) 0 0) 1 0) 2 0)))]) rfl B
  refine lv_iinc (v := 3) (lv' := [(1, .int 3), (0, .ref R)]) hx hb dX6_forgetTerms_15 hl (k := 0) rfl (by decide) (by decide) rfl (fun ls hl => ?_)
  refine lv_goto (tgt := 2) hx hb dX6_forgetTerms_18 (by decide) ?_
  refine lv_iload_n hx hb dX6_forgetTerms_2 rfl (lv_at hl 0 rfl) ?_
  refine lv_bipush (v := 8) hx hb dX6_forgetTerms_3 (by decide) ?_
  refine lv_icmp_ge (tgt := 21) hx hb dX6_forgetTerms_5 (by decide) (fun c9 => absurd c9 (by decide)) (fun _ => ?_)
  refine lv_aload_n hx hb dX6_forgetTerms_8 rfl (lv_at hl 1 rfl) ?_
  refine x_get (ci := 5) (C := RX6) (T := TX6) (N := 18) (v := .ref tt) B 0 rfl rfl in_X6 11 (by decide) mw_251 (fun _ h9 => h9) rfl dX6_forgetTerms_9 ?_
  refine lv_iload_n hx hb dX6_forgetTerms_12 rfl (lv_at hl 0 rfl) ?_
  refine lv_iconst (v := 0) hx hb dX6_forgetTerms_13 (by decide) ?_
  refine x_zast (x' := 0) B 1 rfl (by decide) (vpc (by decide)) dX6_forgetTerms_14 (j := 3) (by decide) (fun H locs B => ?_)
  have B := bd_to (ws' := [(R, .inr (5, [.int 0, .ref r0, .ref r1, .ref r2, .ref r3, .ref r4, .ref r5, .ref r6, .ref r7, .ref wr, .ref lr, .ref tt, .int 0, .int 0, .ref fr, .ref r8, .ref r9, .int 0])), (tt, .inl (k 1, 8, .inl (upd (upd (upd (upd (fun _ => 0) 0 0) 1 0) 2 0) 3 0)))]) rfl B
  refine lv_iinc (v := 4) (lv' := [(1, .int 4), (0, .ref R)]) hx hb dX6_forgetTerms_15 hl (k := 0) rfl (by decide) (by decide) rfl (fun ls hl => ?_)
  refine lv_goto (tgt := 2) hx hb dX6_forgetTerms_18 (by decide) ?_
  refine lv_iload_n hx hb dX6_forgetTerms_2 rfl (lv_at hl 0 rfl) ?_
  refine lv_bipush (v := 8) hx hb dX6_forgetTerms_3 (by decide) ?_
  refine lv_icmp_ge (tgt := 21) hx hb dX6_forgetTerms_5 (by decide) (fun c9 => absurd c9 (by decide)) (fun _ => ?_)
  refine lv_aload_n hx hb dX6_forgetTerms_8 rfl (lv_at hl 1 rfl) ?_
  refine x_get (ci := 5) (C := RX6) (T := TX6) (N := 18) (v := .ref tt) B 0 rfl rfl in_X6 11 (by decide) mw_251 (fun _ h9 => h9) rfl dX6_forgetTerms_9 ?_
  refine lv_iload_n hx hb dX6_forgetTerms_12 rfl (lv_at hl 0 rfl) ?_
  refine lv_iconst (v := 0) hx hb dX6_forgetTerms_13 (by decide) ?_
  refine x_zast (x' := 0) B 1 rfl (by decide) (vpc (by decide)) dX6_forgetTerms_14 (j := 4) (by decide) (fun H locs B => ?_)
  have B := bd_to (ws' := [(R, .inr (5, [.int 0, .ref r0, .ref r1, .ref r2, .ref r3, .ref r4, .ref r5, .ref r6, .ref r7, .ref wr, .ref lr, .ref tt, .int 0, .int 0, .ref fr, .ref r8, .ref r9, .int 0])), (tt, .inl (k 1, 8, .inl (upd (upd (upd (upd (upd (fun _ => 0) 0 0) 1 0) 2 0) 3 0) 4 0)))]) rfl B
  refine lv_iinc (v := 5) (lv' := [(1, .int 5), (0, .ref R)]) hx hb dX6_forgetTerms_15 hl (k := 0) rfl (by decide) (by decide) rfl (fun ls hl => ?_)
  refine lv_goto (tgt := 2) hx hb dX6_forgetTerms_18 (by decide) ?_
  refine lv_iload_n hx hb dX6_forgetTerms_2 rfl (lv_at hl 0 rfl) ?_
  refine lv_bipush (v := 8) hx hb dX6_forgetTerms_3 (by decide) ?_
  refine lv_icmp_ge (tgt := 21) hx hb dX6_forgetTerms_5 (by decide) (fun c9 => absurd c9 (by decide)) (fun _ => ?_)
  refine lv_aload_n hx hb dX6_forgetTerms_8 rfl (lv_at hl 1 rfl) ?_
  refine x_get (ci := 5) (C := RX6) (T := TX6) (N := 18) (v := .ref tt) B 0 rfl rfl in_X6 11 (by decide) mw_251 (fun _ h9 => h9) rfl dX6_forgetTerms_9 ?_
  refine lv_iload_n hx hb dX6_forgetTerms_12 rfl (lv_at hl 0 rfl) ?_
  refine lv_iconst (v := 0) hx hb dX6_forgetTerms_13 (by decide) ?_
  refine x_zast (x' := 0) B 1 rfl (by decide) (vpc (by decide)) dX6_forgetTerms_14 (j := 5) (by decide) (fun H locs B => ?_)
  have B := bd_to (ws' := [(R, .inr (5, [.int 0, .ref r0, .ref r1, .ref r2, .ref r3, .ref r4, .ref r5, .ref r6, .ref r7, .ref wr, .ref lr, .ref tt, .int 0, .int 0, .ref fr, .ref r8, .ref r9, .int 0])), (tt, .inl (k 1, 8, .inl (upd (upd (upd (upd (upd (upd (fun _ => 0) 0 0) 1 0) 2 0) 3 0) 4 0) 5 0)))]) rfl B
  refine lv_iinc (v := 6) (lv' := [(1, .int 6), (0, .ref R)]) hx hb dX6_forgetTerms_15 hl (k := 0) rfl (by decide) (by decide) rfl (fun ls hl => ?_)
  refine lv_goto (tgt := 2) hx hb dX6_forgetTerms_18 (by decide) ?_
  refine lv_iload_n hx hb dX6_forgetTerms_2 rfl (lv_at hl 0 rfl) ?_
  refine lv_bipush (v := 8) hx hb dX6_forgetTerms_3 (by decide) ?_
  refine lv_icmp_ge (tgt := 21) hx hb dX6_forgetTerms_5 (by decide) (fun c9 => absurd c9 (by decide)) (fun _ => ?_)
  refine lv_aload_n hx hb dX6_forgetTerms_8 rfl (lv_at hl 1 rfl) ?_
  refine x_get (ci := 5) (C := RX6) (T := TX6) (N := 18) (v := .ref tt) B 0 rfl rfl in_X6 11 (by decide) mw_251 (fun _ h9 => h9) rfl dX6_forgetTerms_9 ?_
  refine lv_iload_n hx hb dX6_forgetTerms_12 rfl (lv_at hl 0 rfl) ?_
  refine lv_iconst (v := 0) hx hb dX6_forgetTerms_13 (by decide) ?_
  refine x_zast (x' := 0) B 1 rfl (by decide) (vpc (by decide)) dX6_forgetTerms_14 (j := 6) (by decide) (fun H locs B => ?_)
  have B := bd_to (ws' := [(R, .inr (5, [.int 0, .ref r0, .ref r1, .ref r2, .ref r3, .ref r4, .ref r5, .ref r6, .ref r7, .ref wr, .ref lr, .ref tt, .int 0, .int 0, .ref fr, .ref r8, .ref r9, .int 0])), (tt, .inl (k 1, 8, .inl (upd (upd (upd (upd (upd (upd (upd (fun _ => 0) 0 0) 1 0) 2 0) 3 0) 4 0) 5 0) 6 0)))]) rfl B
  refine lv_iinc (v := 7) (lv' := [(1, .int 7), (0, .ref R)]) hx hb dX6_forgetTerms_15 hl (k := 0) rfl (by decide) (by decide) rfl (fun ls hl => ?_)
  refine lv_goto (tgt := 2) hx hb dX6_forgetTerms_18 (by decide) ?_
  refine lv_iload_n hx hb dX6_forgetTerms_2 rfl (lv_at hl 0 rfl) ?_
  refine lv_bipush (v := 8) hx hb dX6_forgetTerms_3 (by decide) ?_
  refine lv_icmp_ge (tgt := 21) hx hb dX6_forgetTerms_5 (by decide) (fun c9 => absurd c9 (by decide)) (fun _ => ?_)
  refine lv_aload_n hx hb dX6_forgetTerms_8 rfl (lv_at hl 1 rfl) ?_
  refine x_get (ci := 5) (C := RX6) (T := TX6) (N := 18) (v := .ref tt) B 0 rfl rfl in_X6 11 (by decide) mw_251 (fun _ h9 => h9) rfl dX6_forgetTerms_9 ?_
  refine lv_iload_n hx hb dX6_forgetTerms_12 rfl (lv_at hl 0 rfl) ?_
  refine lv_iconst (v := 0) hx hb dX6_forgetTerms_13 (by decide) ?_
  refine x_zast (x' := 0) B 1 rfl (by decide) (vpc (by decide)) dX6_forgetTerms_14 (j := 7) (by decide) (fun H locs B => ?_)
  have B := bd_to (ws' := [(R, .inr (5, [.int 0, .ref r0, .ref r1, .ref r2, .ref r3, .ref r4, .ref r5, .ref r6, .ref r7, .ref wr, .ref lr, .ref tt, .int 0, .int 0, .ref fr, .ref r8, .ref r9, .int 0])), (tt, .inl (k 1, 8, .inl (upd (upd (upd (upd (upd (upd (upd (upd (fun _ => 0) 0 0) 1 0) 2 0) 3 0) 4 0) 5 0) 6 0) 7 0)))]) rfl B
  refine lv_iinc (v := 8) (lv' := [(1, .int 8), (0, .ref R)]) hx hb dX6_forgetTerms_15 hl (k := 0) rfl (by decide) (by decide) rfl (fun ls hl => ?_)
  refine lv_goto (tgt := 2) hx hb dX6_forgetTerms_18 (by decide) ?_
  refine lv_iload_n hx hb dX6_forgetTerms_2 rfl (lv_at hl 0 rfl) ?_
  refine lv_bipush (v := 8) hx hb dX6_forgetTerms_3 (by decide) ?_
  refine lv_icmp_ge (tgt := 21) hx hb dX6_forgetTerms_5 (by decide) (fun _ => ?_) (fun c9 => absurd (by decide) c9)
  have B := bd_sub (ws' := [(R, .inr (5, [.int 0, .ref r0, .ref r1, .ref r2, .ref r3, .ref r4, .ref r5, .ref r6, .ref r7, .ref wr, .ref lr, .ref tt, .int 0, .int 0, .ref fr, .ref r8, .ref r9, .int 0])), (tt, .inl (k 1, 8, .inl (upd (upd (upd (upd (upd (upd (upd (upd (fun _ => 0) 0 0) 1 0) 2 0) 3 0) 4 0) 5 0) 6 0) 7 0)))]) [0, 1] (by decide) rfl B
  exact x_vret B hr (⟨rfl, rfl⟩) (Nat.le_of_ble_eq_true rfl) (Nat.le_of_ble_eq_true rfl) dX6_forgetTerms_21

theorem mw_77 : (Jvm.Cond.fieldLink "Galleyforge$Rows" (63 : Nat) "Galleyforge$Text" "blocks" "Ljava/util/ArrayList;") ∈ gt := gt_at 212 (by decide +kernel) (by decide +kernel)
theorem mw_253 : (Jvm.Cond.fieldLink "Galleyforge$Rows" (111 : Nat) "Galleyforge$Rows" "headings" "I") ∈ gt := gt_at 388 (by decide +kernel) (by decide +kernel)
theorem mw_254 : (Jvm.Cond.fieldLink "Galleyforge$Rows" (114 : Nat) "Galleyforge$Rows" "terms" "I") ∈ gt := gt_at 389 (by decide +kernel) (by decide +kernel)
theorem mw_500 : (Jvm.Cond.instanceMethod ({ cls := "java/util/ArrayList", name := "size", desc := "()I" } : Jvm.MethodName)) ∈ gt := gt_at 635 (by decide +kernel) (by decide +kernel)
theorem mw_501 : (Jvm.Cond.selects "java/util/ArrayList" ({ cls := "java/util/ArrayList", name := "size", desc := "()I" } : Jvm.MethodName) ({ cls := "java/util/ArrayList", name := "size", desc := "()I" } : Jvm.MethodName)) ∈ gt := gt_at 636 (by decide +kernel) (by decide +kernel)
theorem mw_502 : (Jvm.Cond.code ({ cls := "java/util/ArrayList", name := "size", desc := "()I" } : Jvm.MethodName) prog_40_method_8_code (1 : Nat) (Option.some Jvm.ClassFile.FieldType.int)) ∈ gt := gt_at 637 (by decide +kernel) (by decide +kernel)
theorem mw_1469 : (Jvm.Cond.methodLink "Galleyforge$Rows" (117 : Nat) ({ cls := "Galleyforge$Rows", name := "forgetTerms", desc := "()V" } : Jvm.MethodName)) ∈ gt := gt_at 1604 (by decide +kernel) (by decide +kernel)
theorem mw_1471 : (Jvm.Cond.instanceMethod ({ cls := "Galleyforge$Rows", name := "forgetTerms", desc := "()V" } : Jvm.MethodName)) ∈ gt := gt_at 1606 (by decide +kernel) (by decide +kernel)
theorem mw_1472 : (Jvm.Cond.code ({ cls := "Galleyforge$Rows", name := "forgetTerms", desc := "()V" } : Jvm.MethodName) prog_8_method_4_code (2 : Nat) (Option.none : Option Jvm.ClassFile.FieldType)) ∈ gt := gt_at 1607 (by decide +kernel) (by decide +kernel)
theorem mw_1473 : (Jvm.Cond.methodLink "Galleyforge$Rows" (68 : Nat) ({ cls := "java/util/ArrayList", name := "size", desc := "()I" } : Jvm.MethodName)) ∈ gt := gt_at 1608 (by decide +kernel) (by decide +kernel)
theorem mV_Jx4a65c_size_8abf5 : mV yJx4a65c_size_8abf5 cJx4a65c_size_8abf5 1 (some .int) 0 := ⟨⟨mw_502, mw_5, by decide, by decide, by decide +kernel⟩, mw_500, mw_501⟩
theorem ms_33 : Cond.selects "Galleyforge$Rows" (⟨"Galleyforge$Rows", "forgetTerms", "()V"⟩ : MethodName) (⟨"Galleyforge$Rows", "forgetTerms", "()V"⟩ : MethodName) ∈ gt := gt_at 33 (by decide +kernel) (by decide +kernel)
theorem mV_X6_forgetTerms : mV yX6_forgetTerms cX6_forgetTerms 2 none 0 := ⟨⟨mw_1472, mw_9, by decide, by decide, by decide +kernel⟩, mw_1471, ms_33⟩
theorem dX6_countHeadingsAndTerms_0 : decode cX6_countHeadingsAndTerms 0 = .ok (.aload_n 0, 1) := by decide +kernel
theorem dX6_countHeadingsAndTerms_1 : decode cX6_countHeadingsAndTerms 1 = .ok (.iconst 0, 1) := by decide +kernel
theorem dX6_countHeadingsAndTerms_2 : decode cX6_countHeadingsAndTerms 2 = .ok (.putfield 111, 3) := by decide +kernel
theorem dX6_countHeadingsAndTerms_5 : decode cX6_countHeadingsAndTerms 5 = .ok (.aload_n 0, 1) := by decide +kernel
theorem dX6_countHeadingsAndTerms_6 : decode cX6_countHeadingsAndTerms 6 = .ok (.iconst 0, 1) := by decide +kernel
theorem dX6_countHeadingsAndTerms_7 : decode cX6_countHeadingsAndTerms 7 = .ok (.putfield 114, 3) := by decide +kernel
theorem dX6_countHeadingsAndTerms_10 : decode cX6_countHeadingsAndTerms 10 = .ok (.aload_n 0, 1) := by decide +kernel
theorem dX6_countHeadingsAndTerms_11 : decode cX6_countHeadingsAndTerms 11 = .ok (.invokevirtual 117, 3) := by decide +kernel
theorem dX6_countHeadingsAndTerms_14 : decode cX6_countHeadingsAndTerms 14 = .ok (.iconst 0, 1) := by decide +kernel
theorem dX6_countHeadingsAndTerms_15 : decode cX6_countHeadingsAndTerms 15 = .ok (.istore_n 3, 1) := by decide +kernel
theorem dX6_countHeadingsAndTerms_16 : decode cX6_countHeadingsAndTerms 16 = .ok (.iload_n 3, 1) := by decide +kernel
theorem dX6_countHeadingsAndTerms_17 : decode cX6_countHeadingsAndTerms 17 = .ok (.aload_n 1, 1) := by decide +kernel
theorem dX6_countHeadingsAndTerms_18 : decode cX6_countHeadingsAndTerms 18 = .ok (.getfield 63, 3) := by decide +kernel
theorem dX6_countHeadingsAndTerms_21 : decode cX6_countHeadingsAndTerms 21 = .ok (.invokevirtual 68, 3) := by decide +kernel
theorem dX6_countHeadingsAndTerms_24 : decode cX6_countHeadingsAndTerms 24 = .ok (.if_icmp .ge 114, 3) := by decide +kernel
theorem dX6_countHeadingsAndTerms_138 : decode cX6_countHeadingsAndTerms 138 = .ok (.return_, 1) := by decide +kernel
set_option maxHeartbeats 4000000 in
set_option maxRecDepth 100000 in
theorem c_countHT (l : Launch) (dC : Nat → ClassId) (dI : Nat → Nat → Nat) (k : Nat → ClassId) (R : Nat) (r0 : Nat) (r1 : Nat) (r2 : Nat) (r3 : Nat) (r4 : Nat) (r5 : Nat) (r6 : Nat) (r7 : Nat) (wr : Nat) (lr : Nat) (tt : Nat) (fr : Nat) (r8 : Nat) (r9 : Nat) (T : Nat) (bl : Nat) (pt : Nat) (fk : Nat) (fh : Nat) (ky : Nat) (v : Int32) : Ct l dC dI k yX6_countHeadingsAndTerms (.code yX6_countHeadingsAndTerms cX6_countHeadingsAndTerms 7 none) ({ frames := 1, cells := 0, slots := 0, locals := 21 } : Room) [.ref R, .ref T, .int v] [(R, .inr (5, [.int 0, .ref r0, .ref r1, .ref r2, .ref r3, .ref r4, .ref r5, .ref r6, .ref r7, .ref wr, .ref lr, .ref tt, .int 0, .int 0, .ref fr, .ref r8, .ref r9, .int 0])), (T, .inr (8, [.ref bl, .ref pt, .ref fk, .ref fh, .int 0, .ref ky, .int 60, .int 12])), (bl, .inr (11, [.int 0, .ref (dI 99 1), .int 0])), (tt, .inl (k 1, 8, .inl (fun _ => 0)))] (fun r w => (r = none ∧ w = [(R, .inr (5, [.int 0, .ref r0, .ref r1, .ref r2, .ref r3, .ref r4, .ref r5, .ref r6, .ref r7, .ref wr, .ref lr, .ref tt, .int 0, .int 0, .ref fr, .ref r8, .ref r9, .int 0])), (T, .inr (8, [.ref bl, .ref pt, .ref fk, .ref fh, .int 0, .ref ky, .int 60, .int 12])), (bl, .inr (11, [.int 0, .ref (dI 99 1), .int 0])), (tt, .inl (k 1, 8, .inl (upd (upd (upd (upd (upd (upd (upd (upd (fun _ => 0) 0 0) 1 0) 2 0) 3 0) 4 0) 5 0) 6 0) 7 0)))])) := by
  refine ct_of (by decide) (Nat.le_of_ble_eq_true rfl) ?_
  intro p e s m args below meth c H locs B hr hnm ls hl
  have hx := B.1.1
  have hb := B.1.2.1
  have hl : lv_has ls 7 [(0, .ref R), (1, .ref T), (2, .int v)] := hl
  refine lv_aload_n hx hb dX6_countHeadingsAndTerms_0 rfl (lv_at hl 0 rfl) ?_
  refine lv_iconst (v := 0) hx hb dX6_countHeadingsAndTerms_1 (by decide) ?_
  refine x_put (ci := 5) (C := RX6) (T := TX6) (N := 18) (ty := .int) (v := .int 0) B tyX6_ok nmX6 0 rfl rfl in_X6 12 (by decide) mw_253 (fun _ h9 => h9) rfl (by decide +kernel) rfl rfl (Nat.le_of_ble_eq_true rfl) dX6_countHeadingsAndTerms_2 (fun H locs B => ?_)
  have B := bd_to (ws' := [(R, .inr (5, [.int 0, .ref r0, .ref r1, .ref r2, .ref r3, .ref r4, .ref r5, .ref r6, .ref r7, .ref wr, .ref lr, .ref tt, .int 0, .int 0, .ref fr, .ref r8, .ref r9, .int 0])), (T, .inr (8, [.ref bl, .ref pt, .ref fk, .ref fh, .int 0, .ref ky, .int 60, .int 12])), (bl, .inr (11, [.int 0, .ref (dI 99 1), .int 0])), (tt, .inl (k 1, 8, .inl (fun _ => 0)))]) rfl B
  refine lv_aload_n hx hb dX6_countHeadingsAndTerms_5 rfl (lv_at hl 0 rfl) ?_
  refine lv_iconst (v := 0) hx hb dX6_countHeadingsAndTerms_6 (by decide) ?_
  refine x_put (ci := 5) (C := RX6) (T := TX6) (N := 18) (ty := .int) (v := .int 0) B tyX6_ok nmX6 0 rfl rfl in_X6 13 (by decide) mw_254 (fun _ h9 => h9) rfl (by decide +kernel) rfl rfl (Nat.le_of_ble_eq_true rfl) dX6_countHeadingsAndTerms_7 (fun H locs B => ?_)
  have B := bd_to (ws' := [(R, .inr (5, [.int 0, .ref r0, .ref r1, .ref r2, .ref r3, .ref r4, .ref r5, .ref r6, .ref r7, .ref wr, .ref lr, .ref tt, .int 0, .int 0, .ref fr, .ref r8, .ref r9, .int 0])), (T, .inr (8, [.ref bl, .ref pt, .ref fk, .ref fh, .int 0, .ref ky, .int 60, .int 12])), (bl, .inr (11, [.int 0, .ref (dI 99 1), .int 0])), (tt, .inl (k 1, 8, .inl (fun _ => 0)))]) rfl B
  refine lv_aload_n hx hb dX6_countHeadingsAndTerms_10 rfl (lv_at hl 0 rfl) ?_
  refine x_callV (rest := []) (wr := [(T, .inr (8, [.ref bl, .ref pt, .ref fk, .ref fh, .int 0, .ref ky, .int 60, .int 12])), (bl, .inr (11, [.int 0, .ref (dI 99 1), .int 0]))]) (c_forgetTerms l dC dI k R r0 r1 r2 r3 r4 r5 r6 r7 wr lr tt fr r8 r9) B mV_X6_forgetTerms mw_1469 hl [0, 3] [1, 2] rfl rfl ⟨by decide, by decide⟩ (by decide) (q0 := 0) rfl rfl rfl ⟨Nat.le_of_ble_eq_true rfl, Nat.le_of_ble_eq_true rfl⟩ (Nat.le_of_ble_eq_true rfl) rfl dX6_countHeadingsAndTerms_11 ⟨Nat.le_of_ble_eq_true rfl, Nat.le_of_ble_eq_true rfl⟩ (fun r w H locs hp B => ?_)
  obtain ⟨rfl, rfl⟩ := hp
  have B := bd_to (ws' := [(T, .inr (8, [.ref bl, .ref pt, .ref fk, .ref fh, .int 0, .ref ky, .int 60, .int 12])), (bl, .inr (11, [.int 0, .ref (dI 99 1), .int 0])), (R, .inr (5, [.int 0, .ref r0, .ref r1, .ref r2, .ref r3, .ref r4, .ref r5, .ref r6, .ref r7, .ref wr, .ref lr, .ref tt, .int 0, .int 0, .ref fr, .ref r8, .ref r9, .int 0])), (tt, .inl (k 1, 8, .inl (upd (upd (upd (upd (upd (upd (upd (upd (fun _ => 0) 0 0) 1 0) 2 0) 3 0) 4 0) 5 0) 6 0) 7 0)))]) rfl B
  refine lv_iconst (v := 0) hx hb dX6_countHeadingsAndTerms_14 (by decide) ?_
  refine lv_istore_n (lv' := [(3, .int 0), (0, .ref R), (1, .ref T), (2, .int v)]) hx hb dX6_countHeadingsAndTerms_15 rfl hl (by decide) rfl (fun ls hl => ?_)
  refine lv_iload_n hx hb dX6_countHeadingsAndTerms_16 rfl (lv_at hl 0 rfl) ?_
  refine lv_aload_n hx hb dX6_countHeadingsAndTerms_17 rfl (lv_at hl 2 rfl) ?_
  refine x_get (ci := 8) (C := RX9) (T := TX9) (N := 8) (v := .ref bl) B 0 rfl rfl in_X9 0 (by decide) mw_77 (fun _ h9 => h9) rfl dX6_countHeadingsAndTerms_18 ?_
  refine x_callV (rest := [.int 0]) (wr := [(T, .inr (8, [.ref bl, .ref pt, .ref fk, .ref fh, .int 0, .ref ky, .int 60, .int 12])), (R, .inr (5, [.int 0, .ref r0, .ref r1, .ref r2, .ref r3, .ref r4, .ref r5, .ref r6, .ref r7, .ref wr, .ref lr, .ref tt, .int 0, .int 0, .ref fr, .ref r8, .ref r9, .int 0])), (tt, .inl (k 1, 8, .inl (upd (upd (upd (upd (upd (upd (upd (upd (fun _ => 0) 0 0) 1 0) 2 0) 3 0) 4 0) 5 0) 6 0) 7 0)))]) (c_size l dC dI k bl (dI 99 1) 0 0) B mV_Jx4a65c_size_8abf5 mw_1473 hl [1] [0, 2, 3] rfl rfl ⟨by decide, by decide⟩ (by decide) (q0 := 0) rfl rfl rfl ⟨Nat.le_of_ble_eq_true rfl, Nat.le_of_ble_eq_true rfl⟩ (Nat.le_of_ble_eq_true rfl) rfl dX6_countHeadingsAndTerms_21 ⟨Nat.le_of_ble_eq_true rfl, Nat.le_of_ble_eq_true rfl⟩ (fun r w H locs hp B => ?_)
  obtain ⟨rfl, rfl⟩ := hp
  have B := bd_to (ws' := [(T, .inr (8, [.ref bl, .ref pt, .ref fk, .ref fh, .int 0, .ref ky, .int 60, .int 12])), (R, .inr (5, [.int 0, .ref r0, .ref r1, .ref r2, .ref r3, .ref r4, .ref r5, .ref r6, .ref r7, .ref wr, .ref lr, .ref tt, .int 0, .int 0, .ref fr, .ref r8, .ref r9, .int 0])), (tt, .inl (k 1, 8, .inl (upd (upd (upd (upd (upd (upd (upd (upd (fun _ => 0) 0 0) 1 0) 2 0) 3 0) 4 0) 5 0) 6 0) 7 0))), (bl, .inr (11, [.int 0, .ref (dI 99 1), .int 0]))]) rfl B
  refine lv_icmp_ge (tgt := 138) hx hb dX6_countHeadingsAndTerms_24 (by decide) (fun _ => ?_) (fun c9 => absurd (by decide) c9)
  have B := bd_sub (ws' := [(R, .inr (5, [.int 0, .ref r0, .ref r1, .ref r2, .ref r3, .ref r4, .ref r5, .ref r6, .ref r7, .ref wr, .ref lr, .ref tt, .int 0, .int 0, .ref fr, .ref r8, .ref r9, .int 0])), (T, .inr (8, [.ref bl, .ref pt, .ref fk, .ref fh, .int 0, .ref ky, .int 60, .int 12])), (bl, .inr (11, [.int 0, .ref (dI 99 1), .int 0])), (tt, .inl (k 1, 8, .inl (upd (upd (upd (upd (upd (upd (upd (upd (fun _ => 0) 0 0) 1 0) 2 0) 3 0) 4 0) 5 0) 6 0) 7 0)))]) [1, 0, 3, 2] (by decide) rfl B
  exact x_vret B hr (⟨rfl, rfl⟩) (Nat.le_of_ble_eq_true rfl) (Nat.le_of_ble_eq_true rfl) dX6_countHeadingsAndTerms_138

theorem mw_1509 : (Jvm.Cond.methodLink "Galleyforge$Rows" (156 : Nat) ({ cls := "java/util/Arrays", name := "fill", desc := "([II)V" } : Jvm.MethodName)) ∈ gt := gt_at 1644 (by decide +kernel) (by decide +kernel)
theorem dX6_placeWords_0 : decode cX6_placeWords 0 = .ok (.aload_n 0, 1) := by decide +kernel
theorem dX6_placeWords_1 : decode cX6_placeWords 1 = .ok (.getfield 37, 3) := by decide +kernel
theorem dX6_placeWords_4 : decode cX6_placeWords 4 = .ok (.iconst (-1), 1) := by decide +kernel
theorem dX6_placeWords_5 : decode cX6_placeWords 5 = .ok (.invokestatic 156, 3) := by decide +kernel
theorem dX6_placeWords_8 : decode cX6_placeWords 8 = .ok (.aload_n 0, 1) := by decide +kernel
theorem dX6_placeWords_9 : decode cX6_placeWords 9 = .ok (.getfield 40, 3) := by decide +kernel
theorem dX6_placeWords_12 : decode cX6_placeWords 12 = .ok (.iconst (-1), 1) := by decide +kernel
theorem dX6_placeWords_13 : decode cX6_placeWords 13 = .ok (.invokestatic 156, 3) := by decide +kernel
theorem dX6_placeWords_16 : decode cX6_placeWords 16 = .ok (.aload_n 0, 1) := by decide +kernel
theorem dX6_placeWords_17 : decode cX6_placeWords 17 = .ok (.getfield 46, 3) := by decide +kernel
theorem dX6_placeWords_20 : decode cX6_placeWords 20 = .ok (.iconst (-1), 1) := by decide +kernel
theorem dX6_placeWords_21 : decode cX6_placeWords 21 = .ok (.invokestatic 156, 3) := by decide +kernel
theorem dX6_placeWords_24 : decode cX6_placeWords 24 = .ok (.iconst 0, 1) := by decide +kernel
theorem dX6_placeWords_25 : decode cX6_placeWords 25 = .ok (.istore 4, 2) := by decide +kernel
theorem dX6_placeWords_27 : decode cX6_placeWords 27 = .ok (.iload 4, 2) := by decide +kernel
theorem dX6_placeWords_29 : decode cX6_placeWords 29 = .ok (.aload_n 1, 1) := by decide +kernel
theorem dX6_placeWords_30 : decode cX6_placeWords 30 = .ok (.getfield 63, 3) := by decide +kernel
theorem dX6_placeWords_33 : decode cX6_placeWords 33 = .ok (.invokevirtual 68, 3) := by decide +kernel
theorem dX6_placeWords_36 : decode cX6_placeWords 36 = .ok (.if_icmp .ge 164, 3) := by decide +kernel
theorem dX6_placeWords_200 : decode cX6_placeWords 200 = .ok (.return_, 1) := by decide +kernel
set_option maxHeartbeats 4000000 in
set_option maxRecDepth 100000 in
theorem c_placeWords (l : Launch) (dC : Nat → ClassId) (dI : Nat → Nat → Nat) (k : Nat → ClassId) (R : Nat) (r0 : Nat) (r1 : Nat) (r2 : Nat) (r3 : Nat) (r4 : Nat) (r5 : Nat) (r6 : Nat) (r7 : Nat) (wr : Nat) (lr : Nat) (tt : Nat) (fr : Nat) (r8 : Nat) (r9 : Nat) (T : Nat) (bl : Nat) (pt : Nat) (fk : Nat) (fh : Nat) (ky : Nat) (wl : Nat) (v : Int32) : Ct l dC dI k yX6_placeWords (.code yX6_placeWords cX6_placeWords 11 none) ({ frames := 1, cells := 0, slots := 0, locals := 23 } : Room) [.ref R, .ref T, .int v, .ref wl] [(R, .inr (5, [.int 0, .ref r0, .ref r1, .ref r2, .ref r3, .ref r4, .ref r5, .ref r6, .ref r7, .ref wr, .ref lr, .ref tt, .int 0, .int 0, .ref fr, .ref r8, .ref r9, .int 0])), (T, .inr (8, [.ref bl, .ref pt, .ref fk, .ref fh, .int 0, .ref ky, .int 60, .int 12])), (bl, .inr (11, [.int 0, .ref (dI 99 1), .int 0])), (wr, .inl (k 0, 192, .inl (fun _ => 0))), (lr, .inl (k 0, 6, .inl (fun _ => 0))), (fr, .inl (k 0, 5, .inl (fun _ => 0)))] (fun r w => (∃ (gl : Nat → Int32), (∀ j, j < 6 → gl j = -1) ∧ r = none ∧ w = [(R, .inr (5, [.int 0, .ref r0, .ref r1, .ref r2, .ref r3, .ref r4, .ref r5, .ref r6, .ref r7, .ref wr, .ref lr, .ref tt, .int 0, .int 0, .ref fr, .ref r8, .ref r9, .int 0])), (T, .inr (8, [.ref bl, .ref pt, .ref fk, .ref fh, .int 0, .ref ky, .int 60, .int 12])), (bl, .inr (11, [.int 0, .ref (dI 99 1), .int 0])), (lr, .inl (k 0, 6, .inl gl))])) := by
  refine ct_of (by decide) (Nat.le_of_ble_eq_true rfl) ?_
  intro p e s m args below meth c H locs B hr hnm ls hl
  have hx := B.1.1
  have hb := B.1.2.1
  have hl : lv_has ls 11 [(0, .ref R), (1, .ref T), (2, .int v), (3, .ref wl)] := hl
  refine lv_aload_n hx hb dX6_placeWords_0 rfl (lv_at hl 0 rfl) ?_
  refine x_get (ci := 5) (C := RX6) (T := TX6) (N := 18) (v := .ref wr) B 0 rfl rfl in_X6 9 (by decide) mw_246 (fun _ h9 => h9) rfl dX6_placeWords_1 ?_
  refine lv_iconst (v := (-1)) hx hb dX6_placeWords_4 (by decide) ?_
  refine x_callS (rest := []) (wr := [(R, .inr (5, [.int 0, .ref r0, .ref r1, .ref r2, .ref r3, .ref r4, .ref r5, .ref r6, .ref r7, .ref wr, .ref lr, .ref tt, .int 0, .int 0, .ref fr, .ref r8, .ref r9, .int 0])), (T, .inr (8, [.ref bl, .ref pt, .ref fk, .ref fh, .int 0, .ref ky, .int 60, .int 12])), (bl, .inr (11, [.int 0, .ref (dI 99 1), .int 0])), (lr, .inl (k 0, 6, .inl (fun _ => 0))), (fr, .inl (k 0, 5, .inl (fun _ => 0)))]) (c_fill_192 l dC dI k wr (fun _ => 0)) B mS_J7_fill_53178 mw_1509 hl [3] [0, 1, 2, 4, 5] rfl rfl ⟨by decide, by decide⟩ (by decide) ⟨Nat.le_of_ble_eq_true rfl, Nat.le_of_ble_eq_true rfl⟩ (Nat.le_of_ble_eq_true rfl) rfl dX6_placeWords_5 ⟨Nat.le_of_ble_eq_true rfl, Nat.le_of_ble_eq_true rfl⟩ (fun r w H locs hp B => ?_)
  obtain ⟨g_1, z_2, rfl, rfl⟩ := hp
  have B := bd_to (ws' := [(R, .inr (5, [.int 0, .ref r0, .ref r1, .ref r2, .ref r3, .ref r4, .ref r5, .ref r6, .ref r7, .ref wr, .ref lr, .ref tt, .int 0, .int 0, .ref fr, .ref r8, .ref r9, .int 0])), (T, .inr (8, [.ref bl, .ref pt, .ref fk, .ref fh, .int 0, .ref ky, .int 60, .int 12])), (bl, .inr (11, [.int 0, .ref (dI 99 1), .int 0])), (lr, .inl (k 0, 6, .inl (fun _ => 0))), (fr, .inl (k 0, 5, .inl (fun _ => 0))), (wr, .inl (k 0, 192, .inl g_1))]) rfl B
  refine lv_aload_n hx hb dX6_placeWords_8 rfl (lv_at hl 0 rfl) ?_
  refine x_get (ci := 5) (C := RX6) (T := TX6) (N := 18) (v := .ref lr) B 0 rfl rfl in_X6 10 (by decide) mw_249 (fun _ h9 => h9) rfl dX6_placeWords_9 ?_
  refine lv_iconst (v := (-1)) hx hb dX6_placeWords_12 (by decide) ?_
  refine x_callS (rest := []) (wr := [(R, .inr (5, [.int 0, .ref r0, .ref r1, .ref r2, .ref r3, .ref r4, .ref r5, .ref r6, .ref r7, .ref wr, .ref lr, .ref tt, .int 0, .int 0, .ref fr, .ref r8, .ref r9, .int 0])), (T, .inr (8, [.ref bl, .ref pt, .ref fk, .ref fh, .int 0, .ref ky, .int 60, .int 12])), (bl, .inr (11, [.int 0, .ref (dI 99 1), .int 0])), (fr, .inl (k 0, 5, .inl (fun _ => 0))), (wr, .inl (k 0, 192, .inl g_1))]) (c_fill_6 l dC dI k lr (fun _ => 0)) B mS_J7_fill_53178 mw_1509 hl [3] [0, 1, 2, 4, 5] rfl rfl ⟨by decide, by decide⟩ (by decide) ⟨Nat.le_of_ble_eq_true rfl, Nat.le_of_ble_eq_true rfl⟩ (Nat.le_of_ble_eq_true rfl) rfl dX6_placeWords_13 ⟨Nat.le_of_ble_eq_true rfl, Nat.le_of_ble_eq_true rfl⟩ (fun r w H locs hp B => ?_)
  obtain ⟨g_3, z_4, rfl, rfl⟩ := hp
  have B := bd_to (ws' := [(R, .inr (5, [.int 0, .ref r0, .ref r1, .ref r2, .ref r3, .ref r4, .ref r5, .ref r6, .ref r7, .ref wr, .ref lr, .ref tt, .int 0, .int 0, .ref fr, .ref r8, .ref r9, .int 0])), (T, .inr (8, [.ref bl, .ref pt, .ref fk, .ref fh, .int 0, .ref ky, .int 60, .int 12])), (bl, .inr (11, [.int 0, .ref (dI 99 1), .int 0])), (fr, .inl (k 0, 5, .inl (fun _ => 0))), (wr, .inl (k 0, 192, .inl g_1)), (lr, .inl (k 0, 6, .inl g_3))]) rfl B
  refine lv_aload_n hx hb dX6_placeWords_16 rfl (lv_at hl 0 rfl) ?_
  refine x_get (ci := 5) (C := RX6) (T := TX6) (N := 18) (v := .ref fr) B 0 rfl rfl in_X6 14 (by decide) mw_255 (fun _ h9 => h9) rfl dX6_placeWords_17 ?_
  refine lv_iconst (v := (-1)) hx hb dX6_placeWords_20 (by decide) ?_
  refine x_callS (rest := []) (wr := [(R, .inr (5, [.int 0, .ref r0, .ref r1, .ref r2, .ref r3, .ref r4, .ref r5, .ref r6, .ref r7, .ref wr, .ref lr, .ref tt, .int 0, .int 0, .ref fr, .ref r8, .ref r9, .int 0])), (T, .inr (8, [.ref bl, .ref pt, .ref fk, .ref fh, .int 0, .ref ky, .int 60, .int 12])), (bl, .inr (11, [.int 0, .ref (dI 99 1), .int 0])), (wr, .inl (k 0, 192, .inl g_1)), (lr, .inl (k 0, 6, .inl g_3))]) (c_fill_5 l dC dI k fr (fun _ => 0)) B mS_J7_fill_53178 mw_1509 hl [3] [0, 1, 2, 4, 5] rfl rfl ⟨by decide, by decide⟩ (by decide) ⟨Nat.le_of_ble_eq_true rfl, Nat.le_of_ble_eq_true rfl⟩ (Nat.le_of_ble_eq_true rfl) rfl dX6_placeWords_21 ⟨Nat.le_of_ble_eq_true rfl, Nat.le_of_ble_eq_true rfl⟩ (fun r w H locs hp B => ?_)
  obtain ⟨g_5, z_6, rfl, rfl⟩ := hp
  have B := bd_to (ws' := [(R, .inr (5, [.int 0, .ref r0, .ref r1, .ref r2, .ref r3, .ref r4, .ref r5, .ref r6, .ref r7, .ref wr, .ref lr, .ref tt, .int 0, .int 0, .ref fr, .ref r8, .ref r9, .int 0])), (T, .inr (8, [.ref bl, .ref pt, .ref fk, .ref fh, .int 0, .ref ky, .int 60, .int 12])), (bl, .inr (11, [.int 0, .ref (dI 99 1), .int 0])), (wr, .inl (k 0, 192, .inl g_1)), (lr, .inl (k 0, 6, .inl g_3)), (fr, .inl (k 0, 5, .inl g_5))]) rfl B
  refine lv_iconst (v := 0) hx hb dX6_placeWords_24 (by decide) ?_
  refine lv_istore (lv' := [(4, .int 0), (0, .ref R), (1, .ref T), (2, .int v), (3, .ref wl)]) hx hb dX6_placeWords_25 hl (by decide) rfl (fun ls hl => ?_)
  refine lv_iload hx hb dX6_placeWords_27 (lv_at hl 0 rfl) ?_
  refine lv_aload_n hx hb dX6_placeWords_29 rfl (lv_at hl 2 rfl) ?_
  refine x_get (ci := 8) (C := RX9) (T := TX9) (N := 8) (v := .ref bl) B 1 rfl rfl in_X9 0 (by decide) mw_77 (fun _ h9 => h9) rfl dX6_placeWords_30 ?_
  refine x_callV (rest := [.int 0]) (wr := [(R, .inr (5, [.int 0, .ref r0, .ref r1, .ref r2, .ref r3, .ref r4, .ref r5, .ref r6, .ref r7, .ref wr, .ref lr, .ref tt, .int 0, .int 0, .ref fr, .ref r8, .ref r9, .int 0])), (T, .inr (8, [.ref bl, .ref pt, .ref fk, .ref fh, .int 0, .ref ky, .int 60, .int 12])), (wr, .inl (k 0, 192, .inl g_1)), (lr, .inl (k 0, 6, .inl g_3)), (fr, .inl (k 0, 5, .inl g_5))]) (c_size l dC dI k bl (dI 99 1) 0 0) B mV_Jx4a65c_size_8abf5 mw_1473 hl [2] [0, 1, 3, 4, 5] rfl rfl ⟨by decide, by decide⟩ (by decide) (q0 := 0) rfl rfl rfl ⟨Nat.le_of_ble_eq_true rfl, Nat.le_of_ble_eq_true rfl⟩ (Nat.le_of_ble_eq_true rfl) rfl dX6_placeWords_33 ⟨Nat.le_of_ble_eq_true rfl, Nat.le_of_ble_eq_true rfl⟩ (fun r w H locs hp B => ?_)
  obtain ⟨rfl, rfl⟩ := hp
  have B := bd_to (ws' := [(R, .inr (5, [.int 0, .ref r0, .ref r1, .ref r2, .ref r3, .ref r4, .ref r5, .ref r6, .ref r7, .ref wr, .ref lr, .ref tt, .int 0, .int 0, .ref fr, .ref r8, .ref r9, .int 0])), (T, .inr (8, [.ref bl, .ref pt, .ref fk, .ref fh, .int 0, .ref ky, .int 60, .int 12])), (wr, .inl (k 0, 192, .inl g_1)), (lr, .inl (k 0, 6, .inl g_3)), (fr, .inl (k 0, 5, .inl g_5)), (bl, .inr (11, [.int 0, .ref (dI 99 1), .int 0]))]) rfl B
  refine lv_icmp_ge (tgt := 200) hx hb dX6_placeWords_36 (by decide) (fun _ => ?_) (fun c9 => absurd (by decide) c9)
  have B := bd_sub (ws' := [(R, .inr (5, [.int 0, .ref r0, .ref r1, .ref r2, .ref r3, .ref r4, .ref r5, .ref r6, .ref r7, .ref wr, .ref lr, .ref tt, .int 0, .int 0, .ref fr, .ref r8, .ref r9, .int 0])), (T, .inr (8, [.ref bl, .ref pt, .ref fk, .ref fh, .int 0, .ref ky, .int 60, .int 12])), (bl, .inr (11, [.int 0, .ref (dI 99 1), .int 0])), (lr, .inl (k 0, 6, .inl g_3))]) [0, 1, 5, 3] (by decide) rfl B
  exact x_vret B hr (⟨g_3, z_4, rfl, rfl⟩) (Nat.le_of_ble_eq_true rfl) (Nat.le_of_ble_eq_true rfl) dX6_placeWords_200

theorem mw_263 : (Jvm.Cond.fieldLink "Galleyforge$Rows" (166 : Nat) "Galleyforge$Rows" "figureCount" "I") ∈ gt := gt_at 398 (by decide +kernel) (by decide +kernel)
theorem dX6_orderFigures_0 : decode cX6_orderFigures 0 = .ok (.aload_n 0, 1) := by decide +kernel
theorem dX6_orderFigures_1 : decode cX6_orderFigures 1 = .ok (.iconst 0, 1) := by decide +kernel
theorem dX6_orderFigures_2 : decode cX6_orderFigures 2 = .ok (.putfield 166, 3) := by decide +kernel
theorem dX6_orderFigures_5 : decode cX6_orderFigures 5 = .ok (.iconst 0, 1) := by decide +kernel
theorem dX6_orderFigures_6 : decode cX6_orderFigures 6 = .ok (.istore_n 2, 1) := by decide +kernel
theorem dX6_orderFigures_7 : decode cX6_orderFigures 7 = .ok (.iload_n 2, 1) := by decide +kernel
theorem dX6_orderFigures_8 : decode cX6_orderFigures 8 = .ok (.iload_n 1, 1) := by decide +kernel
theorem dX6_orderFigures_9 : decode cX6_orderFigures 9 = .ok (.if_icmp .ge 84, 3) := by decide +kernel
theorem dX6_orderFigures_93 : decode cX6_orderFigures 93 = .ok (.return_, 1) := by decide +kernel
set_option maxHeartbeats 4000000 in
set_option maxRecDepth 100000 in
theorem c_orderFigures (l : Launch) (dC : Nat → ClassId) (dI : Nat → Nat → Nat) (k : Nat → ClassId) (R : Nat) (r0 : Nat) (r1 : Nat) (r2 : Nat) (r3 : Nat) (r4 : Nat) (r5 : Nat) (r6 : Nat) (r7 : Nat) (wr : Nat) (lr : Nat) (tt : Nat) (fr : Nat) (r8 : Nat) (r9 : Nat) : Ct l dC dI k yX6_orderFigures (.code yX6_orderFigures cX6_orderFigures 4 none) ({ frames := 0, cells := 0, slots := 0, locals := 0 } : Room) [.ref R, .int 0] [(R, .inr (5, [.int 0, .ref r0, .ref r1, .ref r2, .ref r3, .ref r4, .ref r5, .ref r6, .ref r7, .ref wr, .ref lr, .ref tt, .int 0, .int 0, .ref fr, .ref r8, .ref r9, .int 0]))] (fun r w => (r = none ∧ w = [(R, .inr (5, [.int 0, .ref r0, .ref r1, .ref r2, .ref r3, .ref r4, .ref r5, .ref r6, .ref r7, .ref wr, .ref lr, .ref tt, .int 0, .int 0, .ref fr, .ref r8, .ref r9, .int 0]))])) := by
  refine ct_of (by decide) (Nat.le_of_ble_eq_true rfl) ?_
  intro p e s m args below meth c H locs B hr hnm ls hl
  have hx := B.1.1
  have hb := B.1.2.1
  have hl : lv_has ls 4 [(0, .ref R), (1, .int 0)] := hl
  refine lv_aload_n hx hb dX6_orderFigures_0 rfl (lv_at hl 0 rfl) ?_
  refine lv_iconst (v := 0) hx hb dX6_orderFigures_1 (by decide) ?_
  refine x_put (ci := 5) (C := RX6) (T := TX6) (N := 18) (ty := .int) (v := .int 0) B tyX6_ok nmX6 0 rfl rfl in_X6 17 (by decide) mw_263 (fun _ h9 => h9) rfl (by decide +kernel) rfl rfl (Nat.le_of_ble_eq_true rfl) dX6_orderFigures_2 (fun H locs B => ?_)
  have B := bd_to (ws' := [(R, .inr (5, [.int 0, .ref r0, .ref r1, .ref r2, .ref r3, .ref r4, .ref r5, .ref r6, .ref r7, .ref wr, .ref lr, .ref tt, .int 0, .int 0, .ref fr, .ref r8, .ref r9, .int 0]))]) rfl B
  refine lv_iconst (v := 0) hx hb dX6_orderFigures_5 (by decide) ?_
  refine lv_istore_n (lv' := [(2, .int 0), (0, .ref R), (1, .int 0)]) hx hb dX6_orderFigures_6 rfl hl (by decide) rfl (fun ls hl => ?_)
  refine lv_iload_n hx hb dX6_orderFigures_7 rfl (lv_at hl 0 rfl) ?_
  refine lv_iload_n hx hb dX6_orderFigures_8 rfl (lv_at hl 2 rfl) ?_
  refine lv_icmp_ge (tgt := 93) hx hb dX6_orderFigures_9 (by decide) (fun _ => ?_) (fun c9 => absurd (by decide) c9)
  have B := bd_sub (ws' := [(R, .inr (5, [.int 0, .ref r0, .ref r1, .ref r2, .ref r3, .ref r4, .ref r5, .ref r6, .ref r7, .ref wr, .ref lr, .ref tt, .int 0, .int 0, .ref fr, .ref r8, .ref r9, .int 0]))]) [0] (by decide) rfl B
  exact x_vret B hr (⟨rfl, rfl⟩) (Nat.le_of_ble_eq_true rfl) (Nat.le_of_ble_eq_true rfl) dX6_orderFigures_93

theorem mw_90 : (Jvm.Cond.fieldLink "Galleyforge$Rows" (105 : Nat) "Galleyforge$Text" "figureCount" "I") ∈ gt := gt_at 225 (by decide +kernel) (by decide +kernel)
theorem mw_224 : (Jvm.Cond.fieldLink "Galleyforge$Rows" (55 : Nat) "Galleyforge$Rows" "count" "I") ∈ gt := gt_at 359 (by decide +kernel) (by decide +kernel)
theorem mw_1465 : (Jvm.Cond.methodLink "Galleyforge$Rows" (59 : Nat) ({ cls := "Galleyforge$Rows", name := "countHeadingsAndTerms", desc := "(LGalleyforge$Text;I)V" } : Jvm.MethodName)) ∈ gt := gt_at 1600 (by decide +kernel) (by decide +kernel)
theorem mw_1467 : (Jvm.Cond.instanceMethod ({ cls := "Galleyforge$Rows", name := "countHeadingsAndTerms", desc := "(LGalleyforge$Text;I)V" } : Jvm.MethodName)) ∈ gt := gt_at 1602 (by decide +kernel) (by decide +kernel)
theorem mw_1468 : (Jvm.Cond.code ({ cls := "Galleyforge$Rows", name := "countHeadingsAndTerms", desc := "(LGalleyforge$Text;I)V" } : Jvm.MethodName) prog_8_method_3_code (7 : Nat) (Option.none : Option Jvm.ClassFile.FieldType)) ∈ gt := gt_at 1603 (by decide +kernel) (by decide +kernel)
theorem mw_1505 : (Jvm.Cond.methodLink "Galleyforge$Rows" (101 : Nat) ({ cls := "Galleyforge$Rows", name := "placeWords", desc := "(LGalleyforge$Text;I[I)V" } : Jvm.MethodName)) ∈ gt := gt_at 1640 (by decide +kernel) (by decide +kernel)
theorem mw_1507 : (Jvm.Cond.instanceMethod ({ cls := "Galleyforge$Rows", name := "placeWords", desc := "(LGalleyforge$Text;I[I)V" } : Jvm.MethodName)) ∈ gt := gt_at 1642 (by decide +kernel) (by decide +kernel)
theorem mw_1508 : (Jvm.Cond.code ({ cls := "Galleyforge$Rows", name := "placeWords", desc := "(LGalleyforge$Text;I[I)V" } : Jvm.MethodName) prog_8_method_11_code (11 : Nat) (Option.none : Option Jvm.ClassFile.FieldType)) ∈ gt := gt_at 1643 (by decide +kernel) (by decide +kernel)
theorem mw_1514 : (Jvm.Cond.methodLink "Galleyforge$Rows" (108 : Nat) ({ cls := "Galleyforge$Rows", name := "orderFigures", desc := "(I)V" } : Jvm.MethodName)) ∈ gt := gt_at 1649 (by decide +kernel) (by decide +kernel)
theorem mw_1516 : (Jvm.Cond.instanceMethod ({ cls := "Galleyforge$Rows", name := "orderFigures", desc := "(I)V" } : Jvm.MethodName)) ∈ gt := gt_at 1651 (by decide +kernel) (by decide +kernel)
theorem mw_1517 : (Jvm.Cond.code ({ cls := "Galleyforge$Rows", name := "orderFigures", desc := "(I)V" } : Jvm.MethodName) prog_8_method_13_code (4 : Nat) (Option.none : Option Jvm.ClassFile.FieldType)) ∈ gt := gt_at 1652 (by decide +kernel) (by decide +kernel)
theorem ms_32 : Cond.selects "Galleyforge$Rows" (⟨"Galleyforge$Rows", "countHeadingsAndTerms", "(LGalleyforge$Text;I)V"⟩ : MethodName) (⟨"Galleyforge$Rows", "countHeadingsAndTerms", "(LGalleyforge$Text;I)V"⟩ : MethodName) ∈ gt := gt_at 32 (by decide +kernel) (by decide +kernel)
theorem mV_X6_countHeadingsAndTerms : mV yX6_countHeadingsAndTerms cX6_countHeadingsAndTerms 7 none 2 := ⟨⟨mw_1468, mw_9, by decide, by decide, by decide +kernel⟩, mw_1467, ms_32⟩
theorem ms_41 : Cond.selects "Galleyforge$Rows" (⟨"Galleyforge$Rows", "orderFigures", "(I)V"⟩ : MethodName) (⟨"Galleyforge$Rows", "orderFigures", "(I)V"⟩ : MethodName) ∈ gt := gt_at 41 (by decide +kernel) (by decide +kernel)
theorem mV_X6_orderFigures : mV yX6_orderFigures cX6_orderFigures 4 none 1 := ⟨⟨mw_1517, mw_9, by decide, by decide, by decide +kernel⟩, mw_1516, ms_41⟩
theorem ms_39 : Cond.selects "Galleyforge$Rows" (⟨"Galleyforge$Rows", "placeWords", "(LGalleyforge$Text;I[I)V"⟩ : MethodName) (⟨"Galleyforge$Rows", "placeWords", "(LGalleyforge$Text;I[I)V"⟩ : MethodName) ∈ gt := gt_at 39 (by decide +kernel) (by decide +kernel)
theorem mV_X6_placeWords : mV yX6_placeWords cX6_placeWords 11 none 3 := ⟨⟨mw_1508, mw_9, by decide, by decide, by decide +kernel⟩, mw_1507, ms_39⟩
theorem dX6_make_0 : decode cX6_make 0 = .ok (.aload_n 0, 1) := by decide +kernel
theorem dX6_make_1 : decode cX6_make 1 = .ok (.iconst 0, 1) := by decide +kernel
theorem dX6_make_2 : decode cX6_make 2 = .ok (.putfield 55, 3) := by decide +kernel
theorem dX6_make_5 : decode cX6_make 5 = .ok (.aload_n 0, 1) := by decide +kernel
theorem dX6_make_6 : decode cX6_make 6 = .ok (.aload_n 1, 1) := by decide +kernel
theorem dX6_make_7 : decode cX6_make 7 = .ok (.iload_n 2, 1) := by decide +kernel
theorem dX6_make_8 : decode cX6_make 8 = .ok (.invokevirtual 59, 3) := by decide +kernel
theorem dX6_make_11 : decode cX6_make 11 = .ok (.iconst 0, 1) := by decide +kernel
theorem dX6_make_12 : decode cX6_make 12 = .ok (.istore 5, 2) := by decide +kernel
theorem dX6_make_14 : decode cX6_make 14 = .ok (.iload 5, 2) := by decide +kernel
theorem dX6_make_16 : decode cX6_make 16 = .ok (.aload_n 1, 1) := by decide +kernel
theorem dX6_make_17 : decode cX6_make 17 = .ok (.getfield 63, 3) := by decide +kernel
theorem dX6_make_20 : decode cX6_make 20 = .ok (.invokevirtual 68, 3) := by decide +kernel
theorem dX6_make_23 : decode cX6_make 23 = .ok (.if_icmp .ge 94, 3) := by decide +kernel
theorem dX6_make_117 : decode cX6_make 117 = .ok (.aload_n 0, 1) := by decide +kernel
theorem dX6_make_118 : decode cX6_make 118 = .ok (.aload_n 1, 1) := by decide +kernel
theorem dX6_make_119 : decode cX6_make 119 = .ok (.iload_n 2, 1) := by decide +kernel
theorem dX6_make_120 : decode cX6_make 120 = .ok (.aload 4, 2) := by decide +kernel
theorem dX6_make_122 : decode cX6_make 122 = .ok (.invokevirtual 101, 3) := by decide +kernel
theorem dX6_make_125 : decode cX6_make 125 = .ok (.aload_n 0, 1) := by decide +kernel
theorem dX6_make_126 : decode cX6_make 126 = .ok (.aload_n 1, 1) := by decide +kernel
theorem dX6_make_127 : decode cX6_make 127 = .ok (.getfield 105, 3) := by decide +kernel
theorem dX6_make_130 : decode cX6_make 130 = .ok (.invokevirtual 108, 3) := by decide +kernel
theorem dX6_make_133 : decode cX6_make 133 = .ok (.return_, 1) := by decide +kernel
set_option maxHeartbeats 4000000 in
set_option maxRecDepth 100000 in
theorem c_Rows_make (l : Launch) (dC : Nat → ClassId) (dI : Nat → Nat → Nat) (k : Nat → ClassId) (R : Nat) (r0 : Nat) (r1 : Nat) (r2 : Nat) (r3 : Nat) (r4 : Nat) (r5 : Nat) (r6 : Nat) (r7 : Nat) (wr : Nat) (lr : Nat) (tt : Nat) (fr : Nat) (r8 : Nat) (r9 : Nat) (T : Nat) (bl : Nat) (pt : Nat) (fk : Nat) (fh : Nat) (ky : Nat) (lc : Nat) (wl : Nat) (v : Int32) : Ct l dC dI k yX6_make (.code yX6_make cX6_make 7 none) ({ frames := 2, cells := 0, slots := 0, locals := 53 } : Room) [.ref R, .ref T, .int v, .ref lc, .ref wl] [(R, .inr (5, [.int 0, .ref r0, .ref r1, .ref r2, .ref r3, .ref r4, .ref r5, .ref r6, .ref r7, .ref wr, .ref lr, .ref tt, .int 0, .int 0, .ref fr, .ref r8, .ref r9, .int 0])), (T, .inr (8, [.ref bl, .ref pt, .ref fk, .ref fh, .int 0, .ref ky, .int 60, .int 12])), (bl, .inr (11, [.int 0, .ref (dI 99 1), .int 0])), (wr, .inl (k 0, 192, .inl (fun _ => 0))), (lr, .inl (k 0, 6, .inl (fun _ => 0))), (tt, .inl (k 1, 8, .inl (fun _ => 0))), (fr, .inl (k 0, 5, .inl (fun _ => 0)))] (fun r w => (∃ (gl : Nat → Int32), (∀ j, j < 6 → gl j = -1) ∧ r = none ∧ w = [(R, .inr (5, [.int 0, .ref r0, .ref r1, .ref r2, .ref r3, .ref r4, .ref r5, .ref r6, .ref r7, .ref wr, .ref lr, .ref tt, .int 0, .int 0, .ref fr, .ref r8, .ref r9, .int 0])), (T, .inr (8, [.ref bl, .ref pt, .ref fk, .ref fh, .int 0, .ref ky, .int 60, .int 12])), (bl, .inr (11, [.int 0, .ref (dI 99 1), .int 0])), (tt, .inl (k 1, 8, .inl (upd (upd (upd (upd (upd (upd (upd (upd (fun _ => 0) 0 0) 1 0) 2 0) 3 0) 4 0) 5 0) 6 0) 7 0))), (lr, .inl (k 0, 6, .inl gl))])) := by
  refine ct_of (by decide) (Nat.le_of_ble_eq_true rfl) ?_
  intro p e s m args below meth c H locs B hr hnm ls hl
  have hx := B.1.1
  have hb := B.1.2.1
  have hl : lv_has ls 7 [(0, .ref R), (1, .ref T), (2, .int v), (3, .ref lc), (4, .ref wl)] := hl
  refine lv_aload_n hx hb dX6_make_0 rfl (lv_at hl 0 rfl) ?_
  refine lv_iconst (v := 0) hx hb dX6_make_1 (by decide) ?_
  refine x_put (ci := 5) (C := RX6) (T := TX6) (N := 18) (ty := .int) (v := .int 0) B tyX6_ok nmX6 0 rfl rfl in_X6 0 (by decide) mw_224 (fun _ h9 => h9) rfl (by decide +kernel) rfl rfl (Nat.le_of_ble_eq_true rfl) dX6_make_2 (fun H locs B => ?_)
  have B := bd_to (ws' := [(R, .inr (5, [.int 0, .ref r0, .ref r1, .ref r2, .ref r3, .ref r4, .ref r5, .ref r6, .ref r7, .ref wr, .ref lr, .ref tt, .int 0, .int 0, .ref fr, .ref r8, .ref r9, .int 0])), (T, .inr (8, [.ref bl, .ref pt, .ref fk, .ref fh, .int 0, .ref ky, .int 60, .int 12])), (bl, .inr (11, [.int 0, .ref (dI 99 1), .int 0])), (wr, .inl (k 0, 192, .inl (fun _ => 0))), (lr, .inl (k 0, 6, .inl (fun _ => 0))), (tt, .inl (k 1, 8, .inl (fun _ => 0))), (fr, .inl (k 0, 5, .inl (fun _ => 0)))]) rfl B
  refine lv_aload_n hx hb dX6_make_5 rfl (lv_at hl 0 rfl) ?_
  refine lv_aload_n hx hb dX6_make_6 rfl (lv_at hl 1 rfl) ?_
  refine lv_iload_n hx hb dX6_make_7 rfl (lv_at hl 2 rfl) ?_
  refine x_callV (rest := []) (wr := [(wr, .inl (k 0, 192, .inl (fun _ => 0))), (lr, .inl (k 0, 6, .inl (fun _ => 0))), (fr, .inl (k 0, 5, .inl (fun _ => 0)))]) (c_countHT l dC dI k R r0 r1 r2 r3 r4 r5 r6 r7 wr lr tt fr r8 r9 T bl pt fk fh ky v) B mV_X6_countHeadingsAndTerms mw_1465 hl [0, 1, 2, 5] [3, 4, 6] rfl rfl ⟨by decide, by decide⟩ (by decide) (q0 := 0) rfl rfl rfl ⟨Nat.le_of_ble_eq_true rfl, Nat.le_of_ble_eq_true rfl⟩ (Nat.le_of_ble_eq_true rfl) rfl dX6_make_8 ⟨Nat.le_of_ble_eq_true rfl, Nat.le_of_ble_eq_true rfl⟩ (fun r w H locs hp B => ?_)
  obtain ⟨rfl, rfl⟩ := hp
  have B := bd_to (ws' := [(wr, .inl (k 0, 192, .inl (fun _ => 0))), (lr, .inl (k 0, 6, .inl (fun _ => 0))), (fr, .inl (k 0, 5, .inl (fun _ => 0))), (R, .inr (5, [.int 0, .ref r0, .ref r1, .ref r2, .ref r3, .ref r4, .ref r5, .ref r6, .ref r7, .ref wr, .ref lr, .ref tt, .int 0, .int 0, .ref fr, .ref r8, .ref r9, .int 0])), (T, .inr (8, [.ref bl, .ref pt, .ref fk, .ref fh, .int 0, .ref ky, .int 60, .int 12])), (bl, .inr (11, [.int 0, .ref (dI 99 1), .int 0])), (tt, .inl (k 1, 8, .inl (upd (upd (upd (upd (upd (upd (upd (upd (fun _ => 0) 0 0) 1 0) 2 0) 3 0) 4 0) 5 0) 6 0) 7 0)))]) rfl B
  refine lv_iconst (v := 0) hx hb dX6_make_11 (by decide) ?_
  refine lv_istore (lv' := [(5, .int 0), (0, .ref R), (1, .ref T), (2, .int v), (3, .ref lc), (4, .ref wl)]) hx hb dX6_make_12 hl (by decide) rfl (fun ls hl => ?_)
  refine lv_iload hx hb dX6_make_14 (lv_at hl 0 rfl) ?_
  refine lv_aload_n hx hb dX6_make_16 rfl (lv_at hl 2 rfl) ?_
  refine x_get (ci := 8) (C := RX9) (T := TX9) (N := 8) (v := .ref bl) B 4 rfl rfl in_X9 0 (by decide) mw_77 (fun _ h9 => h9) rfl dX6_make_17 ?_
  refine x_callV (rest := [.int 0]) (wr := [(wr, .inl (k 0, 192, .inl (fun _ => 0))), (lr, .inl (k 0, 6, .inl (fun _ => 0))), (fr, .inl (k 0, 5, .inl (fun _ => 0))), (R, .inr (5, [.int 0, .ref r0, .ref r1, .ref r2, .ref r3, .ref r4, .ref r5, .ref r6, .ref r7, .ref wr, .ref lr, .ref tt, .int 0, .int 0, .ref fr, .ref r8, .ref r9, .int 0])), (T, .inr (8, [.ref bl, .ref pt, .ref fk, .ref fh, .int 0, .ref ky, .int 60, .int 12])), (tt, .inl (k 1, 8, .inl (upd (upd (upd (upd (upd (upd (upd (upd (fun _ => 0) 0 0) 1 0) 2 0) 3 0) 4 0) 5 0) 6 0) 7 0)))]) (c_size l dC dI k bl (dI 99 1) 0 0) B mV_Jx4a65c_size_8abf5 mw_1473 hl [5] [0, 1, 2, 3, 4, 6] rfl rfl ⟨by decide, by decide⟩ (by decide) (q0 := 0) rfl rfl rfl ⟨Nat.le_of_ble_eq_true rfl, Nat.le_of_ble_eq_true rfl⟩ (Nat.le_of_ble_eq_true rfl) rfl dX6_make_20 ⟨Nat.le_of_ble_eq_true rfl, Nat.le_of_ble_eq_true rfl⟩ (fun r w H locs hp B => ?_)
  obtain ⟨rfl, rfl⟩ := hp
  have B := bd_to (ws' := [(wr, .inl (k 0, 192, .inl (fun _ => 0))), (lr, .inl (k 0, 6, .inl (fun _ => 0))), (fr, .inl (k 0, 5, .inl (fun _ => 0))), (R, .inr (5, [.int 0, .ref r0, .ref r1, .ref r2, .ref r3, .ref r4, .ref r5, .ref r6, .ref r7, .ref wr, .ref lr, .ref tt, .int 0, .int 0, .ref fr, .ref r8, .ref r9, .int 0])), (T, .inr (8, [.ref bl, .ref pt, .ref fk, .ref fh, .int 0, .ref ky, .int 60, .int 12])), (tt, .inl (k 1, 8, .inl (upd (upd (upd (upd (upd (upd (upd (upd (fun _ => 0) 0 0) 1 0) 2 0) 3 0) 4 0) 5 0) 6 0) 7 0))), (bl, .inr (11, [.int 0, .ref (dI 99 1), .int 0]))]) rfl B
  refine lv_icmp_ge (tgt := 117) hx hb dX6_make_23 (by decide) (fun _ => ?_) (fun c9 => absurd (by decide) c9)
  refine lv_aload_n hx hb dX6_make_117 rfl (lv_at hl 1 rfl) ?_
  refine lv_aload_n hx hb dX6_make_118 rfl (lv_at hl 2 rfl) ?_
  refine lv_iload_n hx hb dX6_make_119 rfl (lv_at hl 3 rfl) ?_
  refine lv_aload hx hb dX6_make_120 (lv_at hl 5 rfl) ?_
  refine x_callV (rest := []) (wr := [(tt, .inl (k 1, 8, .inl (upd (upd (upd (upd (upd (upd (upd (upd (fun _ => 0) 0 0) 1 0) 2 0) 3 0) 4 0) 5 0) 6 0) 7 0)))]) (c_placeWords l dC dI k R r0 r1 r2 r3 r4 r5 r6 r7 wr lr tt fr r8 r9 T bl pt fk fh ky wl v) B mV_X6_placeWords mw_1505 hl [3, 4, 6, 0, 1, 2] [5] rfl rfl ⟨by decide, by decide⟩ (by decide) (q0 := 0) rfl rfl rfl ⟨Nat.le_of_ble_eq_true rfl, Nat.le_of_ble_eq_true rfl⟩ (Nat.le_of_ble_eq_true rfl) rfl dX6_make_122 ⟨Nat.le_of_ble_eq_true rfl, Nat.le_of_ble_eq_true rfl⟩ (fun r w H locs hp B => ?_)
  obtain ⟨gl_1, z_2, rfl, rfl⟩ := hp
  have B := bd_to (ws' := [(tt, .inl (k 1, 8, .inl (upd (upd (upd (upd (upd (upd (upd (upd (fun _ => 0) 0 0) 1 0) 2 0) 3 0) 4 0) 5 0) 6 0) 7 0))), (R, .inr (5, [.int 0, .ref r0, .ref r1, .ref r2, .ref r3, .ref r4, .ref r5, .ref r6, .ref r7, .ref wr, .ref lr, .ref tt, .int 0, .int 0, .ref fr, .ref r8, .ref r9, .int 0])), (T, .inr (8, [.ref bl, .ref pt, .ref fk, .ref fh, .int 0, .ref ky, .int 60, .int 12])), (bl, .inr (11, [.int 0, .ref (dI 99 1), .int 0])), (lr, .inl (k 0, 6, .inl gl_1))]) rfl B
  refine lv_aload_n hx hb dX6_make_125 rfl (lv_at hl 1 rfl) ?_
  refine lv_aload_n hx hb dX6_make_126 rfl (lv_at hl 2 rfl) ?_
  refine x_get (ci := 8) (C := RX9) (T := TX9) (N := 8) (v := .int 0) B 2 rfl rfl in_X9 4 (by decide) mw_90 (fun _ h9 => h9) rfl dX6_make_127 ?_
  refine x_callV (rest := []) (wr := [(tt, .inl (k 1, 8, .inl (upd (upd (upd (upd (upd (upd (upd (upd (fun _ => 0) 0 0) 1 0) 2 0) 3 0) 4 0) 5 0) 6 0) 7 0))), (T, .inr (8, [.ref bl, .ref pt, .ref fk, .ref fh, .int 0, .ref ky, .int 60, .int 12])), (bl, .inr (11, [.int 0, .ref (dI 99 1), .int 0])), (lr, .inl (k 0, 6, .inl gl_1))]) (c_orderFigures l dC dI k R r0 r1 r2 r3 r4 r5 r6 r7 wr lr tt fr r8 r9) B mV_X6_orderFigures mw_1514 hl [1] [0, 2, 3, 4] rfl rfl ⟨by decide, by decide⟩ (by decide) (q0 := 0) rfl rfl rfl ⟨Nat.le_of_ble_eq_true rfl, Nat.le_of_ble_eq_true rfl⟩ (Nat.le_of_ble_eq_true rfl) rfl dX6_make_130 ⟨Nat.le_of_ble_eq_true rfl, Nat.le_of_ble_eq_true rfl⟩ (fun r w H locs hp B => ?_)
  obtain ⟨rfl, rfl⟩ := hp
  have B := bd_to (ws' := [(tt, .inl (k 1, 8, .inl (upd (upd (upd (upd (upd (upd (upd (upd (fun _ => 0) 0 0) 1 0) 2 0) 3 0) 4 0) 5 0) 6 0) 7 0))), (T, .inr (8, [.ref bl, .ref pt, .ref fk, .ref fh, .int 0, .ref ky, .int 60, .int 12])), (bl, .inr (11, [.int 0, .ref (dI 99 1), .int 0])), (lr, .inl (k 0, 6, .inl gl_1)), (R, .inr (5, [.int 0, .ref r0, .ref r1, .ref r2, .ref r3, .ref r4, .ref r5, .ref r6, .ref r7, .ref wr, .ref lr, .ref tt, .int 0, .int 0, .ref fr, .ref r8, .ref r9, .int 0]))]) rfl B
  have B := bd_sub (ws' := [(R, .inr (5, [.int 0, .ref r0, .ref r1, .ref r2, .ref r3, .ref r4, .ref r5, .ref r6, .ref r7, .ref wr, .ref lr, .ref tt, .int 0, .int 0, .ref fr, .ref r8, .ref r9, .int 0])), (T, .inr (8, [.ref bl, .ref pt, .ref fk, .ref fh, .int 0, .ref ky, .int 60, .int 12])), (bl, .inr (11, [.int 0, .ref (dI 99 1), .int 0])), (tt, .inl (k 1, 8, .inl (upd (upd (upd (upd (upd (upd (upd (upd (fun _ => 0) 0 0) 1 0) 2 0) 3 0) 4 0) 5 0) 6 0) 7 0))), (lr, .inl (k 0, 6, .inl gl_1))]) [4, 1, 2, 0, 3] (by decide) rfl B
  exact x_vret B hr (⟨gl_1, z_2, rfl, rfl⟩) (Nat.le_of_ble_eq_true rfl) (Nat.le_of_ble_eq_true rfl) dX6_make_133

theorem mw_225 : (Jvm.Cond.fieldLink "Galleyforge$Pages" (64 : Nat) "Galleyforge$Rows" "count" "I") ∈ gt := gt_at 360 (by decide +kernel) (by decide +kernel)
theorem mw_370 : (Jvm.Cond.fieldLink "Galleyforge$Pages" (51 : Nat) "Galleyforge$Pages" "count" "I") ∈ gt := gt_at 505 (by decide +kernel) (by decide +kernel)
theorem mw_373 : (Jvm.Cond.fieldLink "Galleyforge$Pages" (55 : Nat) "Galleyforge$Pages" "costs" "I") ∈ gt := gt_at 508 (by decide +kernel) (by decide +kernel)
theorem mw_1526 : (Jvm.Cond.methodLink "Galleyforge$Pages" (58 : Nat) ({ cls := "java/util/Arrays", name := "fill", desc := "([II)V" } : Jvm.MethodName)) ∈ gt := gt_at 1661 (by decide +kernel) (by decide +kernel)
theorem dX4_make_0 : decode cX4_make 0 = .ok (.aload_n 0, 1) := by decide +kernel
theorem dX4_make_1 : decode cX4_make 1 = .ok (.iconst 0, 1) := by decide +kernel
theorem dX4_make_2 : decode cX4_make 2 = .ok (.putfield 51, 3) := by decide +kernel
theorem dX4_make_5 : decode cX4_make 5 = .ok (.aload_n 0, 1) := by decide +kernel
theorem dX4_make_6 : decode cX4_make 6 = .ok (.iconst 0, 1) := by decide +kernel
theorem dX4_make_7 : decode cX4_make 7 = .ok (.putfield 55, 3) := by decide +kernel
theorem dX4_make_10 : decode cX4_make 10 = .ok (.aload_n 0, 1) := by decide +kernel
theorem dX4_make_11 : decode cX4_make 11 = .ok (.getfield 27, 3) := by decide +kernel
theorem dX4_make_14 : decode cX4_make 14 = .ok (.iconst (-1), 1) := by decide +kernel
theorem dX4_make_15 : decode cX4_make 15 = .ok (.invokestatic 58, 3) := by decide +kernel
theorem dX4_make_18 : decode cX4_make 18 = .ok (.aload_n 0, 1) := by decide +kernel
theorem dX4_make_19 : decode cX4_make 19 = .ok (.getfield 34, 3) := by decide +kernel
theorem dX4_make_22 : decode cX4_make 22 = .ok (.getfield 64, 3) := by decide +kernel
theorem dX4_make_25 : decode cX4_make 25 = .ok (.ifCond .ne 4, 3) := by decide +kernel
theorem dX4_make_28 : decode cX4_make 28 = .ok (.return_, 1) := by decide +kernel
set_option maxHeartbeats 4000000 in
set_option maxRecDepth 100000 in
theorem c_Pages_make (l : Launch) (dC : Nat → ClassId) (dI : Nat → Nat → Nat) (k : Nat → ClassId) (P : Nat) (pg : Nat) (p0 : Nat) (p1 : Nat) (p2 : Nat) (p3 : Nat) (p4 : Nat) (p5 : Nat) (R : Nat) (r0 : Nat) (r1 : Nat) (r2 : Nat) (r3 : Nat) (r4 : Nat) (r5 : Nat) (r6 : Nat) (r7 : Nat) (wr : Nat) (lr : Nat) (tt : Nat) (fr : Nat) (r8 : Nat) (r9 : Nat) (T : Nat) (ST : Nat) : Ct l dC dI k yX4_make (.code yX4_make cX4_make 4 none) ({ frames := 1, cells := 0, slots := 0, locals := 23 } : Room) [.ref P] [(P, .inr (4, [.ref T, .ref R, .ref pg, .ref ST, .int 0, .int 0, .ref p0, .ref p1, .ref p2, .ref p3, .ref p4, .ref p5])), (R, .inr (5, [.int 0, .ref r0, .ref r1, .ref r2, .ref r3, .ref r4, .ref r5, .ref r6, .ref r7, .ref wr, .ref lr, .ref tt, .int 0, .int 0, .ref fr, .ref r8, .ref r9, .int 0])), (p5, .inl (k 0, 5, .inl (fun _ => 0)))] (fun r w => (r = none ∧ w = [(P, .inr (4, [.ref T, .ref R, .ref pg, .ref ST, .int 0, .int 0, .ref p0, .ref p1, .ref p2, .ref p3, .ref p4, .ref p5])), (R, .inr (5, [.int 0, .ref r0, .ref r1, .ref r2, .ref r3, .ref r4, .ref r5, .ref r6, .ref r7, .ref wr, .ref lr, .ref tt, .int 0, .int 0, .ref fr, .ref r8, .ref r9, .int 0]))])) := by
  refine ct_of (by decide) (Nat.le_of_ble_eq_true rfl) ?_
  intro p e s m args below meth c H locs B hr hnm ls hl
  have hx := B.1.1
  have hb := B.1.2.1
  have hl : lv_has ls 4 [(0, .ref P)] := hl
  refine lv_aload_n hx hb dX4_make_0 rfl (lv_at hl 0 rfl) ?_
  refine lv_iconst (v := 0) hx hb dX4_make_1 (by decide) ?_
  refine x_put (ci := 4) (C := RX4) (T := TX4) (N := 12) (ty := .int) (v := .int 0) B tyX4_ok nmX4 0 rfl rfl in_X4 4 (by decide) mw_370 (fun _ h9 => h9) rfl (by decide +kernel) rfl rfl (Nat.le_of_ble_eq_true rfl) dX4_make_2 (fun H locs B => ?_)
  have B := bd_to (ws' := [(P, .inr (4, [.ref T, .ref R, .ref pg, .ref ST, .int 0, .int 0, .ref p0, .ref p1, .ref p2, .ref p3, .ref p4, .ref p5])), (R, .inr (5, [.int 0, .ref r0, .ref r1, .ref r2, .ref r3, .ref r4, .ref r5, .ref r6, .ref r7, .ref wr, .ref lr, .ref tt, .int 0, .int 0, .ref fr, .ref r8, .ref r9, .int 0])), (p5, .inl (k 0, 5, .inl (fun _ => 0)))]) rfl B
  refine lv_aload_n hx hb dX4_make_5 rfl (lv_at hl 0 rfl) ?_
  refine lv_iconst (v := 0) hx hb dX4_make_6 (by decide) ?_
  refine x_put (ci := 4) (C := RX4) (T := TX4) (N := 12) (ty := .int) (v := .int 0) B tyX4_ok nmX4 0 rfl rfl in_X4 5 (by decide) mw_373 (fun _ h9 => h9) rfl (by decide +kernel) rfl rfl (Nat.le_of_ble_eq_true rfl) dX4_make_7 (fun H locs B => ?_)
  have B := bd_to (ws' := [(P, .inr (4, [.ref T, .ref R, .ref pg, .ref ST, .int 0, .int 0, .ref p0, .ref p1, .ref p2, .ref p3, .ref p4, .ref p5])), (R, .inr (5, [.int 0, .ref r0, .ref r1, .ref r2, .ref r3, .ref r4, .ref r5, .ref r6, .ref r7, .ref wr, .ref lr, .ref tt, .int 0, .int 0, .ref fr, .ref r8, .ref r9, .int 0])), (p5, .inl (k 0, 5, .inl (fun _ => 0)))]) rfl B
  refine lv_aload_n hx hb dX4_make_10 rfl (lv_at hl 0 rfl) ?_
  refine x_get (ci := 4) (C := RX4) (T := TX4) (N := 12) (v := .ref p5) B 0 rfl rfl in_X4 11 (by decide) mw_384 (fun _ h9 => h9) rfl dX4_make_11 ?_
  refine lv_iconst (v := (-1)) hx hb dX4_make_14 (by decide) ?_
  refine x_callS (rest := []) (wr := [(P, .inr (4, [.ref T, .ref R, .ref pg, .ref ST, .int 0, .int 0, .ref p0, .ref p1, .ref p2, .ref p3, .ref p4, .ref p5])), (R, .inr (5, [.int 0, .ref r0, .ref r1, .ref r2, .ref r3, .ref r4, .ref r5, .ref r6, .ref r7, .ref wr, .ref lr, .ref tt, .int 0, .int 0, .ref fr, .ref r8, .ref r9, .int 0]))]) (c_fill_5 l dC dI k p5 (fun _ => 0)) B mS_J7_fill_53178 mw_1526 hl [2] [0, 1] rfl rfl ⟨by decide, by decide⟩ (by decide) ⟨Nat.le_of_ble_eq_true rfl, Nat.le_of_ble_eq_true rfl⟩ (Nat.le_of_ble_eq_true rfl) rfl dX4_make_15 ⟨Nat.le_of_ble_eq_true rfl, Nat.le_of_ble_eq_true rfl⟩ (fun r w H locs hp B => ?_)
  obtain ⟨g_1, z_2, rfl, rfl⟩ := hp
  have B := bd_to (ws' := [(P, .inr (4, [.ref T, .ref R, .ref pg, .ref ST, .int 0, .int 0, .ref p0, .ref p1, .ref p2, .ref p3, .ref p4, .ref p5])), (R, .inr (5, [.int 0, .ref r0, .ref r1, .ref r2, .ref r3, .ref r4, .ref r5, .ref r6, .ref r7, .ref wr, .ref lr, .ref tt, .int 0, .int 0, .ref fr, .ref r8, .ref r9, .int 0])), (p5, .inl (k 0, 5, .inl g_1))]) rfl B
  refine lv_aload_n hx hb dX4_make_18 rfl (lv_at hl 0 rfl) ?_
  refine x_get (ci := 4) (C := RX4) (T := TX4) (N := 12) (v := .ref R) B 0 rfl rfl in_X4 1 (by decide) mw_367 (fun _ h9 => h9) rfl dX4_make_19 ?_
  refine x_get (ci := 5) (C := RX6) (T := TX6) (N := 18) (v := .int 0) B 1 rfl rfl in_X6 0 (by decide) mw_225 (fun _ h9 => h9) rfl dX4_make_22 ?_
  refine lv_if_ne (tgt := 29) hx hb dX4_make_25 (by decide) (fun c9 => absurd c9 (by decide)) (fun _ => ?_)
  have B := bd_sub (ws' := [(P, .inr (4, [.ref T, .ref R, .ref pg, .ref ST, .int 0, .int 0, .ref p0, .ref p1, .ref p2, .ref p3, .ref p4, .ref p5])), (R, .inr (5, [.int 0, .ref r0, .ref r1, .ref r2, .ref r3, .ref r4, .ref r5, .ref r6, .ref r7, .ref wr, .ref lr, .ref tt, .int 0, .int 0, .ref fr, .ref r8, .ref r9, .int 0]))]) [0, 1] (by decide) rfl B
  exact x_vret B hr (⟨rfl, rfl⟩) (Nat.le_of_ble_eq_true rfl) (Nat.le_of_ble_eq_true rfl) dX4_make_28

theorem mw_250 : (Jvm.Cond.fieldLink "Galleyforge$Layout" (181 : Nat) "Galleyforge$Rows" "labelRows" "[I") ∈ gt := gt_at 385 (by decide +kernel) (by decide +kernel)
theorem dX1_pageOfLabel_0 : decode cX1_pageOfLabel 0 = .ok (.aload_n 0, 1) := by decide +kernel
theorem dX1_pageOfLabel_1 : decode cX1_pageOfLabel 1 = .ok (.getfield 57, 3) := by decide +kernel
theorem dX1_pageOfLabel_4 : decode cX1_pageOfLabel 4 = .ok (.getfield 181, 3) := by decide +kernel
theorem dX1_pageOfLabel_7 : decode cX1_pageOfLabel 7 = .ok (.iload_n 1, 1) := by decide +kernel
theorem dX1_pageOfLabel_8 : decode cX1_pageOfLabel 8 = .ok (.iaload, 1) := by decide +kernel
theorem dX1_pageOfLabel_9 : decode cX1_pageOfLabel 9 = .ok (.iconst (-1), 1) := by decide +kernel
theorem dX1_pageOfLabel_10 : decode cX1_pageOfLabel 10 = .ok (.if_icmp .ne 7, 3) := by decide +kernel
theorem dX1_pageOfLabel_13 : decode cX1_pageOfLabel 13 = .ok (.iconst (-1), 1) := by decide +kernel
theorem dX1_pageOfLabel_14 : decode cX1_pageOfLabel 14 = .ok (.goto 19, 3) := by decide +kernel
theorem dX1_pageOfLabel_33 : decode cX1_pageOfLabel 33 = .ok (.ireturn, 1) := by decide +kernel
set_option maxHeartbeats 4000000 in
set_option maxRecDepth 100000 in
theorem c_pageOfLabel (l : Launch) (dC : Nat → ClassId) (dI : Nat → Nat → Nat) (k : Nat → ClassId) (L : Nat) (lc : Nat) (le : Nat) (ll : Nat) (ld : Nat) (wl : Nat) (op : Nat) (dg : Nat) (T : Nat) (LN : Nat) (R : Nat) (P : Nat) (v : Int32) (r0 : Nat) (r1 : Nat) (r2 : Nat) (r3 : Nat) (r4 : Nat) (r5 : Nat) (r6 : Nat) (r7 : Nat) (wr : Nat) (lr : Nat) (tt : Nat) (fr : Nat) (r8 : Nat) (r9 : Nat) (gl : Nat → Int32) (lb : Int32) (hgl : ∀ j, j < 6 → gl j = -1) (hlb : 0 ≤ lb.toInt ∧ lb.toInt ≤ 5) : Ct l dC dI k yX1_pageOfLabel (.code yX1_pageOfLabel cX1_pageOfLabel 2 (some .int)) ({ frames := 0, cells := 0, slots := 0, locals := 0 } : Room) [.ref L, .int lb] [(L, .inr (1, [.ref T, .int v, .ref LN, .ref R, .ref P, .int 1, .int 0, .ref lc, .ref le, .ref ll, .ref ld, .ref wl, .ref op, .int 0, .int 0, .int 1365, .ref dg])), (R, .inr (5, [.int 0, .ref r0, .ref r1, .ref r2, .ref r3, .ref r4, .ref r5, .ref r6, .ref r7, .ref wr, .ref lr, .ref tt, .int 0, .int 0, .ref fr, .ref r8, .ref r9, .int 0])), (lr, .inl (k 0, 6, .inl gl))] (fun r w => (r = some (.int (-1)) ∧ w = [(L, .inr (1, [.ref T, .int v, .ref LN, .ref R, .ref P, .int 1, .int 0, .ref lc, .ref le, .ref ll, .ref ld, .ref wl, .ref op, .int 0, .int 0, .int 1365, .ref dg])), (R, .inr (5, [.int 0, .ref r0, .ref r1, .ref r2, .ref r3, .ref r4, .ref r5, .ref r6, .ref r7, .ref wr, .ref lr, .ref tt, .int 0, .int 0, .ref fr, .ref r8, .ref r9, .int 0])), (lr, .inl (k 0, 6, .inl gl))])) := by
  refine ct_of (by decide) (Nat.le_of_ble_eq_true rfl) ?_
  intro p e s m args below meth c H locs B hr hnm ls hl
  have hx := B.1.1
  have hb := B.1.2.1
  have hl : lv_has ls 2 [(0, .ref L), (1, .int lb)] := hl
  refine lv_aload_n hx hb dX1_pageOfLabel_0 rfl (lv_at hl 0 rfl) ?_
  refine x_get (ci := 1) (C := RX1) (T := TX1) (N := 17) (v := .ref R) B 0 rfl rfl in_X1 3 (by decide) mw_414 (fun _ h9 => h9) rfl dX1_pageOfLabel_1 ?_
  refine x_get (ci := 5) (C := RX6) (T := TX6) (N := 18) (v := .ref lr) B 1 rfl rfl in_X6 10 (by decide) mw_250 (fun _ h9 => h9) rfl dX1_pageOfLabel_4 ?_
  refine lv_iload_n hx hb dX1_pageOfLabel_7 rfl (lv_at hl 1 rfl) ?_
  refine x_iald (v := (-1)) B 2 rfl (zin (by omega) (by omega)) dX1_pageOfLabel_8 (hgl _ (zcl (by omega) (by omega))) ?_
  refine lv_iconst (v := (-1)) hx hb dX1_pageOfLabel_9 (by decide) ?_
  refine lv_icmp_ne (tgt := 17) hx hb dX1_pageOfLabel_10 (by decide) (fun c9 => absurd c9 (by decide)) (fun _ => ?_)
  refine lv_iconst (v := (-1)) hx hb dX1_pageOfLabel_13 (by decide) ?_
  refine lv_goto (tgt := 33) hx hb dX1_pageOfLabel_14 (by decide) ?_
  have B := bd_sub (ws' := [(L, .inr (1, [.ref T, .int v, .ref LN, .ref R, .ref P, .int 1, .int 0, .ref lc, .ref le, .ref ll, .ref ld, .ref wl, .ref op, .int 0, .int 0, .int 1365, .ref dg])), (R, .inr (5, [.int 0, .ref r0, .ref r1, .ref r2, .ref r3, .ref r4, .ref r5, .ref r6, .ref r7, .ref wr, .ref lr, .ref tt, .int 0, .int 0, .ref fr, .ref r8, .ref r9, .int 0])), (lr, .inl (k 0, 6, .inl gl))]) [0, 1, 2] (by decide) rfl B
  exact x_iret B hr (⟨rfl, rfl⟩) (Nat.le_of_ble_eq_true rfl) (Nat.le_of_ble_eq_true rfl) dX1_pageOfLabel_33

set_option maxHeartbeats 4000000 in
set_option maxRecDepth 100000 in
theorem c_pageOfLabel1 (l : Launch) (dC : Nat → ClassId) (dI : Nat → Nat → Nat) (k : Nat → ClassId) (L : Nat) (lc : Nat) (le : Nat) (ll : Nat) (ld : Nat) (wl : Nat) (op : Nat) (dg : Nat) (T : Nat) (LN : Nat) (R : Nat) (P : Nat) (v : Int32) (r0 : Nat) (r1 : Nat) (r2 : Nat) (r3 : Nat) (r4 : Nat) (r5 : Nat) (r6 : Nat) (r7 : Nat) (wr : Nat) (lr : Nat) (tt : Nat) (fr : Nat) (r8 : Nat) (r9 : Nat) (gl : Nat → Int32) (lb : Int32) (hgl : ∀ j, j < 6 → gl j = -1) (hlb : 0 ≤ lb.toInt ∧ lb.toInt ≤ 5) : Ct l dC dI k yX1_pageOfLabel (.code yX1_pageOfLabel cX1_pageOfLabel 2 (some .int)) ({ frames := 0, cells := 0, slots := 0, locals := 0 } : Room) [.ref L, .int lb] [(L, .inr (1, [.ref T, .int v, .ref LN, .ref R, .ref P, .int 1, .int 0, .ref lc, .ref le, .ref ll, .ref ld, .ref wl, .ref op, .int 1, .int 0, .int 1365, .ref dg])), (R, .inr (5, [.int 0, .ref r0, .ref r1, .ref r2, .ref r3, .ref r4, .ref r5, .ref r6, .ref r7, .ref wr, .ref lr, .ref tt, .int 0, .int 0, .ref fr, .ref r8, .ref r9, .int 0])), (lr, .inl (k 0, 6, .inl gl))] (fun r w => (r = some (.int (-1)) ∧ w = [(L, .inr (1, [.ref T, .int v, .ref LN, .ref R, .ref P, .int 1, .int 0, .ref lc, .ref le, .ref ll, .ref ld, .ref wl, .ref op, .int 1, .int 0, .int 1365, .ref dg])), (R, .inr (5, [.int 0, .ref r0, .ref r1, .ref r2, .ref r3, .ref r4, .ref r5, .ref r6, .ref r7, .ref wr, .ref lr, .ref tt, .int 0, .int 0, .ref fr, .ref r8, .ref r9, .int 0])), (lr, .inl (k 0, 6, .inl gl))])) := by
  refine ct_of (by decide) (Nat.le_of_ble_eq_true rfl) ?_
  intro p e s m args below meth c H locs B hr hnm ls hl
  have hx := B.1.1
  have hb := B.1.2.1
  have hl : lv_has ls 2 [(0, .ref L), (1, .int lb)] := hl
  refine lv_aload_n hx hb dX1_pageOfLabel_0 rfl (lv_at hl 0 rfl) ?_
  refine x_get (ci := 1) (C := RX1) (T := TX1) (N := 17) (v := .ref R) B 0 rfl rfl in_X1 3 (by decide) mw_414 (fun _ h9 => h9) rfl dX1_pageOfLabel_1 ?_
  refine x_get (ci := 5) (C := RX6) (T := TX6) (N := 18) (v := .ref lr) B 1 rfl rfl in_X6 10 (by decide) mw_250 (fun _ h9 => h9) rfl dX1_pageOfLabel_4 ?_
  refine lv_iload_n hx hb dX1_pageOfLabel_7 rfl (lv_at hl 1 rfl) ?_
  refine x_iald (v := (-1)) B 2 rfl (zin (by omega) (by omega)) dX1_pageOfLabel_8 (hgl _ (zcl (by omega) (by omega))) ?_
  refine lv_iconst (v := (-1)) hx hb dX1_pageOfLabel_9 (by decide) ?_
  refine lv_icmp_ne (tgt := 17) hx hb dX1_pageOfLabel_10 (by decide) (fun c9 => absurd c9 (by decide)) (fun _ => ?_)
  refine lv_iconst (v := (-1)) hx hb dX1_pageOfLabel_13 (by decide) ?_
  refine lv_goto (tgt := 33) hx hb dX1_pageOfLabel_14 (by decide) ?_
  have B := bd_sub (ws' := [(L, .inr (1, [.ref T, .int v, .ref LN, .ref R, .ref P, .int 1, .int 0, .ref lc, .ref le, .ref ll, .ref ld, .ref wl, .ref op, .int 1, .int 0, .int 1365, .ref dg])), (R, .inr (5, [.int 0, .ref r0, .ref r1, .ref r2, .ref r3, .ref r4, .ref r5, .ref r6, .ref r7, .ref wr, .ref lr, .ref tt, .int 0, .int 0, .ref fr, .ref r8, .ref r9, .int 0])), (lr, .inl (k 0, 6, .inl gl))]) [0, 1, 2] (by decide) rfl B
  exact x_iret B hr (⟨rfl, rfl⟩) (Nat.le_of_ble_eq_true rfl) (Nat.le_of_ble_eq_true rfl) dX1_pageOfLabel_33

theorem mw_1654 : (Jvm.Cond.methodLink "Galleyforge$Layout" (156 : Nat) ({ cls := "Galleyforge$Layout", name := "pageOfLabel", desc := "(I)I" } : Jvm.MethodName)) ∈ gt := gt_at 1789 (by decide +kernel) (by decide +kernel)
theorem mw_1655 : (Jvm.Cond.instanceMethod ({ cls := "Galleyforge$Layout", name := "pageOfLabel", desc := "(I)I" } : Jvm.MethodName)) ∈ gt := gt_at 1790 (by decide +kernel) (by decide +kernel)
theorem mw_1656 : (Jvm.Cond.selects "Galleyforge$Layout" ({ cls := "Galleyforge$Layout", name := "pageOfLabel", desc := "(I)I" } : Jvm.MethodName) ({ cls := "Galleyforge$Layout", name := "pageOfLabel", desc := "(I)I" } : Jvm.MethodName)) ∈ gt := gt_at 1791 (by decide +kernel) (by decide +kernel)
theorem mw_1657 : (Jvm.Cond.code ({ cls := "Galleyforge$Layout", name := "pageOfLabel", desc := "(I)I" } : Jvm.MethodName) prog_3_method_13_code (2 : Nat) (Option.some Jvm.ClassFile.FieldType.int)) ∈ gt := gt_at 1792 (by decide +kernel) (by decide +kernel)
theorem mV_X1_pageOfLabel : mV yX1_pageOfLabel cX1_pageOfLabel 2 (some .int) 1 := ⟨⟨mw_1657, mw_8, by decide, by decide, by decide +kernel⟩, mw_1655, mw_1656⟩
theorem dX1_digitsOfPages_0 : decode cX1_digitsOfPages 0 = .ok (.iconst 0, 1) := by decide +kernel
theorem dX1_digitsOfPages_1 : decode cX1_digitsOfPages 1 = .ok (.istore_n 1, 1) := by decide +kernel
theorem dX1_digitsOfPages_2 : decode cX1_digitsOfPages 2 = .ok (.iconst 0, 1) := by decide +kernel
theorem dX1_digitsOfPages_3 : decode cX1_digitsOfPages 3 = .ok (.istore_n 2, 1) := by decide +kernel
theorem dX1_digitsOfPages_4 : decode cX1_digitsOfPages 4 = .ok (.iload_n 2, 1) := by decide +kernel
theorem dX1_digitsOfPages_5 : decode cX1_digitsOfPages 5 = .ok (.bipush 6, 2) := by decide +kernel
theorem dX1_digitsOfPages_7 : decode cX1_digitsOfPages 7 = .ok (.if_icmp .ge 47, 3) := by decide +kernel
theorem dX1_digitsOfPages_10 : decode cX1_digitsOfPages 10 = .ok (.aload_n 0, 1) := by decide +kernel
theorem dX1_digitsOfPages_11 : decode cX1_digitsOfPages 11 = .ok (.iload_n 2, 1) := by decide +kernel
theorem dX1_digitsOfPages_12 : decode cX1_digitsOfPages 12 = .ok (.invokevirtual 156, 3) := by decide +kernel
theorem dX1_digitsOfPages_15 : decode cX1_digitsOfPages 15 = .ok (.istore_n 3, 1) := by decide +kernel
theorem dX1_digitsOfPages_16 : decode cX1_digitsOfPages 16 = .ok (.iload_n 3, 1) := by decide +kernel
theorem dX1_digitsOfPages_17 : decode cX1_digitsOfPages 17 = .ok (.bipush 10, 2) := by decide +kernel
theorem dX1_digitsOfPages_19 : decode cX1_digitsOfPages 19 = .ok (.if_icmp .ge 7, 3) := by decide +kernel
theorem dX1_digitsOfPages_22 : decode cX1_digitsOfPages 22 = .ok (.iconst 1, 1) := by decide +kernel
theorem dX1_digitsOfPages_23 : decode cX1_digitsOfPages 23 = .ok (.goto 14, 3) := by decide +kernel
theorem dX1_digitsOfPages_37 : decode cX1_digitsOfPages 37 = .ok (.istore 4, 2) := by decide +kernel
theorem dX1_digitsOfPages_39 : decode cX1_digitsOfPages 39 = .ok (.iload_n 1, 1) := by decide +kernel
theorem dX1_digitsOfPages_40 : decode cX1_digitsOfPages 40 = .ok (.iload 4, 2) := by decide +kernel
theorem dX1_digitsOfPages_42 : decode cX1_digitsOfPages 42 = .ok (.iconst 2, 1) := by decide +kernel
theorem dX1_digitsOfPages_43 : decode cX1_digitsOfPages 43 = .ok (.iload_n 2, 1) := by decide +kernel
theorem dX1_digitsOfPages_44 : decode cX1_digitsOfPages 44 = .ok (.imul, 1) := by decide +kernel
theorem dX1_digitsOfPages_45 : decode cX1_digitsOfPages 45 = .ok (.ishl, 1) := by decide +kernel
theorem dX1_digitsOfPages_46 : decode cX1_digitsOfPages 46 = .ok (.ior, 1) := by decide +kernel
theorem dX1_digitsOfPages_47 : decode cX1_digitsOfPages 47 = .ok (.istore_n 1, 1) := by decide +kernel
theorem dX1_digitsOfPages_48 : decode cX1_digitsOfPages 48 = .ok (.iinc 2 1, 3) := by decide +kernel
theorem dX1_digitsOfPages_51 : decode cX1_digitsOfPages 51 = .ok (.goto (-47), 3) := by decide +kernel
theorem dX1_digitsOfPages_54 : decode cX1_digitsOfPages 54 = .ok (.iload_n 1, 1) := by decide +kernel
theorem dX1_digitsOfPages_55 : decode cX1_digitsOfPages 55 = .ok (.ireturn, 1) := by decide +kernel
set_option maxHeartbeats 4000000 in
set_option maxRecDepth 100000 in
theorem c_digitsOfPages (l : Launch) (dC : Nat → ClassId) (dI : Nat → Nat → Nat) (k : Nat → ClassId) (L : Nat) (lc : Nat) (le : Nat) (ll : Nat) (ld : Nat) (wl : Nat) (op : Nat) (dg : Nat) (T : Nat) (LN : Nat) (R : Nat) (P : Nat) (v : Int32) (r0 : Nat) (r1 : Nat) (r2 : Nat) (r3 : Nat) (r4 : Nat) (r5 : Nat) (r6 : Nat) (r7 : Nat) (wr : Nat) (lr : Nat) (tt : Nat) (fr : Nat) (r8 : Nat) (r9 : Nat) (gl : Nat → Int32) (hgl : ∀ j, j < 6 → gl j = -1) : Ct l dC dI k yX1_digitsOfPages (.code yX1_digitsOfPages cX1_digitsOfPages 5 (some .int)) ({ frames := 1, cells := 0, slots := 0, locals := 21 } : Room) [.ref L] [(L, .inr (1, [.ref T, .int v, .ref LN, .ref R, .ref P, .int 1, .int 0, .ref lc, .ref le, .ref ll, .ref ld, .ref wl, .ref op, .int 1, .int 0, .int 1365, .ref dg])), (R, .inr (5, [.int 0, .ref r0, .ref r1, .ref r2, .ref r3, .ref r4, .ref r5, .ref r6, .ref r7, .ref wr, .ref lr, .ref tt, .int 0, .int 0, .ref fr, .ref r8, .ref r9, .int 0])), (lr, .inl (k 0, 6, .inl gl))] (fun r w => (r = some (.int 1365) ∧ w = [(L, .inr (1, [.ref T, .int v, .ref LN, .ref R, .ref P, .int 1, .int 0, .ref lc, .ref le, .ref ll, .ref ld, .ref wl, .ref op, .int 1, .int 0, .int 1365, .ref dg])), (R, .inr (5, [.int 0, .ref r0, .ref r1, .ref r2, .ref r3, .ref r4, .ref r5, .ref r6, .ref r7, .ref wr, .ref lr, .ref tt, .int 0, .int 0, .ref fr, .ref r8, .ref r9, .int 0])), (lr, .inl (k 0, 6, .inl gl))])) := by
  refine ct_of (by decide) (Nat.le_of_ble_eq_true rfl) ?_
  intro p e s m args below meth c H locs B hr hnm ls hl
  have hx := B.1.1
  have hb := B.1.2.1
  have hl : lv_has ls 5 [(0, .ref L)] := hl
  refine lv_iconst (v := 0) hx hb dX1_digitsOfPages_0 (by decide) ?_
  refine lv_istore_n (lv' := [(1, .int 0), (0, .ref L)]) hx hb dX1_digitsOfPages_1 rfl hl (by decide) rfl (fun ls hl => ?_)
  refine lv_iconst (v := 0) hx hb dX1_digitsOfPages_2 (by decide) ?_
  refine lv_istore_n (lv' := [(2, .int 0), (1, .int 0), (0, .ref L)]) hx hb dX1_digitsOfPages_3 rfl hl (by decide) rfl (fun ls hl => ?_)
  refine lv_iload_n hx hb dX1_digitsOfPages_4 rfl (lv_at hl 0 rfl) ?_
  refine lv_bipush (v := 6) hx hb dX1_digitsOfPages_5 (by decide) ?_
  refine lv_icmp_ge (tgt := 54) hx hb dX1_digitsOfPages_7 (by decide) (fun c9 => absurd c9 (by decide)) (fun _ => ?_)
  refine lv_aload_n hx hb dX1_digitsOfPages_10 rfl (lv_at hl 2 rfl) ?_
  refine lv_iload_n hx hb dX1_digitsOfPages_11 rfl (lv_at hl 0 rfl) ?_
  refine x_callV (rest := []) (wr := []) (c_pageOfLabel1 l dC dI k L lc le ll ld wl op dg T LN R P v r0 r1 r2 r3 r4 r5 r6 r7 wr lr tt fr r8 r9 gl 0 hgl (by decide)) B mV_X1_pageOfLabel mw_1654 hl [0, 1, 2] [] rfl rfl ⟨by decide, by decide⟩ (by decide) (q0 := 0) rfl rfl rfl ⟨Nat.le_of_ble_eq_true rfl, Nat.le_of_ble_eq_true rfl⟩ (Nat.le_of_ble_eq_true rfl) rfl dX1_digitsOfPages_12 ⟨Nat.le_of_ble_eq_true rfl, Nat.le_of_ble_eq_true rfl⟩ (fun r w H locs hp B => ?_)
  obtain ⟨rfl, rfl⟩ := hp
  have B := bd_to (ws' := [(L, .inr (1, [.ref T, .int v, .ref LN, .ref R, .ref P, .int 1, .int 0, .ref lc, .ref le, .ref ll, .ref ld, .ref wl, .ref op, .int 1, .int 0, .int 1365, .ref dg])), (R, .inr (5, [.int 0, .ref r0, .ref r1, .ref r2, .ref r3, .ref r4, .ref r5, .ref r6, .ref r7, .ref wr, .ref lr, .ref tt, .int 0, .int 0, .ref fr, .ref r8, .ref r9, .int 0])), (lr, .inl (k 0, 6, .inl gl))]) rfl B
  refine lv_istore_n (lv' := [(3, .int (-1)), (2, .int 0), (1, .int 0), (0, .ref L)]) hx hb dX1_digitsOfPages_15 rfl hl (by decide) rfl (fun ls hl => ?_)
  refine lv_iload_n hx hb dX1_digitsOfPages_16 rfl (lv_at hl 0 rfl) ?_
  refine lv_bipush (v := 10) hx hb dX1_digitsOfPages_17 (by decide) ?_
  refine lv_icmp_ge (tgt := 26) hx hb dX1_digitsOfPages_19 (by decide) (fun c9 => absurd c9 (by decide)) (fun _ => ?_)
  refine lv_iconst (v := 1) hx hb dX1_digitsOfPages_22 (by decide) ?_
  refine lv_goto (tgt := 37) hx hb dX1_digitsOfPages_23 (by decide) ?_
  refine lv_istore (lv' := [(4, .int 1), (3, .int (-1)), (2, .int 0), (1, .int 0), (0, .ref L)]) hx hb dX1_digitsOfPages_37 hl (by decide) rfl (fun ls hl => ?_)
  refine lv_iload_n hx hb dX1_digitsOfPages_39 rfl (lv_at hl 3 rfl) ?_
  refine lv_iload hx hb dX1_digitsOfPages_40 (lv_at hl 0 rfl) ?_
  refine lv_iconst (v := 2) hx hb dX1_digitsOfPages_42 (by decide) ?_
  refine lv_iload_n hx hb dX1_digitsOfPages_43 rfl (lv_at hl 2 rfl) ?_
  refine lv_imul hx hb dX1_digitsOfPages_44 ?_
  refine lv_seti (y := 0) (by decide) ?_
  refine lv_ishl hx hb dX1_digitsOfPages_45 ?_
  refine lv_seti (y := 1) (by decide) ?_
  refine lv_ior hx hb dX1_digitsOfPages_46 ?_
  refine lv_seti (y := 1) (by decide) ?_
  refine lv_istore_n (lv' := [(1, .int 1), (4, .int 1), (3, .int (-1)), (2, .int 0), (0, .ref L)]) hx hb dX1_digitsOfPages_47 rfl hl (by decide) rfl (fun ls hl => ?_)
  refine lv_iinc (v := 1) (lv' := [(2, .int 1), (1, .int 1), (4, .int 1), (3, .int (-1)), (0, .ref L)]) hx hb dX1_digitsOfPages_48 hl (k := 3) rfl (by decide) (by decide) rfl (fun ls hl => ?_)
  refine lv_goto (tgt := 4) hx hb dX1_digitsOfPages_51 (by decide) ?_
  refine lv_iload_n hx hb dX1_digitsOfPages_4 rfl (lv_at hl 0 rfl) ?_
  refine lv_bipush (v := 6) hx hb dX1_digitsOfPages_5 (by decide) ?_
  refine lv_icmp_ge (tgt := 54) hx hb dX1_digitsOfPages_7 (by decide) (fun c9 => absurd c9 (by decide)) (fun _ => ?_)
  refine lv_aload_n hx hb dX1_digitsOfPages_10 rfl (lv_at hl 4 rfl) ?_
  refine lv_iload_n hx hb dX1_digitsOfPages_11 rfl (lv_at hl 0 rfl) ?_
  refine x_callV (rest := []) (wr := []) (c_pageOfLabel1 l dC dI k L lc le ll ld wl op dg T LN R P v r0 r1 r2 r3 r4 r5 r6 r7 wr lr tt fr r8 r9 gl 1 hgl (by decide)) B mV_X1_pageOfLabel mw_1654 hl [0, 1, 2] [] rfl rfl ⟨by decide, by decide⟩ (by decide) (q0 := 0) rfl rfl rfl ⟨Nat.le_of_ble_eq_true rfl, Nat.le_of_ble_eq_true rfl⟩ (Nat.le_of_ble_eq_true rfl) rfl dX1_digitsOfPages_12 ⟨Nat.le_of_ble_eq_true rfl, Nat.le_of_ble_eq_true rfl⟩ (fun r w H locs hp B => ?_)
  obtain ⟨rfl, rfl⟩ := hp
  have B := bd_to (ws' := [(L, .inr (1, [.ref T, .int v, .ref LN, .ref R, .ref P, .int 1, .int 0, .ref lc, .ref le, .ref ll, .ref ld, .ref wl, .ref op, .int 1, .int 0, .int 1365, .ref dg])), (R, .inr (5, [.int 0, .ref r0, .ref r1, .ref r2, .ref r3, .ref r4, .ref r5, .ref r6, .ref r7, .ref wr, .ref lr, .ref tt, .int 0, .int 0, .ref fr, .ref r8, .ref r9, .int 0])), (lr, .inl (k 0, 6, .inl gl))]) rfl B
  refine lv_istore_n (lv' := [(3, .int (-1)), (2, .int 1), (1, .int 1), (4, .int 1), (0, .ref L)]) hx hb dX1_digitsOfPages_15 rfl hl (by decide) rfl (fun ls hl => ?_)
  refine lv_iload_n hx hb dX1_digitsOfPages_16 rfl (lv_at hl 0 rfl) ?_
  refine lv_bipush (v := 10) hx hb dX1_digitsOfPages_17 (by decide) ?_
  refine lv_icmp_ge (tgt := 26) hx hb dX1_digitsOfPages_19 (by decide) (fun c9 => absurd c9 (by decide)) (fun _ => ?_)
  refine lv_iconst (v := 1) hx hb dX1_digitsOfPages_22 (by decide) ?_
  refine lv_goto (tgt := 37) hx hb dX1_digitsOfPages_23 (by decide) ?_
  refine lv_istore (lv' := [(4, .int 1), (3, .int (-1)), (2, .int 1), (1, .int 1), (0, .ref L)]) hx hb dX1_digitsOfPages_37 hl (by decide) rfl (fun ls hl => ?_)
  refine lv_iload_n hx hb dX1_digitsOfPages_39 rfl (lv_at hl 3 rfl) ?_
  refine lv_iload hx hb dX1_digitsOfPages_40 (lv_at hl 0 rfl) ?_
  refine lv_iconst (v := 2) hx hb dX1_digitsOfPages_42 (by decide) ?_
  refine lv_iload_n hx hb dX1_digitsOfPages_43 rfl (lv_at hl 2 rfl) ?_
  refine lv_imul hx hb dX1_digitsOfPages_44 ?_
  refine lv_seti (y := 2) (by decide) ?_
  refine lv_ishl hx hb dX1_digitsOfPages_45 ?_
  refine lv_seti (y := 4) (by decide) ?_
  refine lv_ior hx hb dX1_digitsOfPages_46 ?_
  refine lv_seti (y := 5) (by decide) ?_
  refine lv_istore_n (lv' := [(1, .int 5), (4, .int 1), (3, .int (-1)), (2, .int 1), (0, .ref L)]) hx hb dX1_digitsOfPages_47 rfl hl (by decide) rfl (fun ls hl => ?_)
  refine lv_iinc (v := 2) (lv' := [(2, .int 2), (1, .int 5), (4, .int 1), (3, .int (-1)), (0, .ref L)]) hx hb dX1_digitsOfPages_48 hl (k := 3) rfl (by decide) (by decide) rfl (fun ls hl => ?_)
  refine lv_goto (tgt := 4) hx hb dX1_digitsOfPages_51 (by decide) ?_
  refine lv_iload_n hx hb dX1_digitsOfPages_4 rfl (lv_at hl 0 rfl) ?_
  refine lv_bipush (v := 6) hx hb dX1_digitsOfPages_5 (by decide) ?_
  refine lv_icmp_ge (tgt := 54) hx hb dX1_digitsOfPages_7 (by decide) (fun c9 => absurd c9 (by decide)) (fun _ => ?_)
  refine lv_aload_n hx hb dX1_digitsOfPages_10 rfl (lv_at hl 4 rfl) ?_
  refine lv_iload_n hx hb dX1_digitsOfPages_11 rfl (lv_at hl 0 rfl) ?_
  refine x_callV (rest := []) (wr := []) (c_pageOfLabel1 l dC dI k L lc le ll ld wl op dg T LN R P v r0 r1 r2 r3 r4 r5 r6 r7 wr lr tt fr r8 r9 gl 2 hgl (by decide)) B mV_X1_pageOfLabel mw_1654 hl [0, 1, 2] [] rfl rfl ⟨by decide, by decide⟩ (by decide) (q0 := 0) rfl rfl rfl ⟨Nat.le_of_ble_eq_true rfl, Nat.le_of_ble_eq_true rfl⟩ (Nat.le_of_ble_eq_true rfl) rfl dX1_digitsOfPages_12 ⟨Nat.le_of_ble_eq_true rfl, Nat.le_of_ble_eq_true rfl⟩ (fun r w H locs hp B => ?_)
  obtain ⟨rfl, rfl⟩ := hp
  have B := bd_to (ws' := [(L, .inr (1, [.ref T, .int v, .ref LN, .ref R, .ref P, .int 1, .int 0, .ref lc, .ref le, .ref ll, .ref ld, .ref wl, .ref op, .int 1, .int 0, .int 1365, .ref dg])), (R, .inr (5, [.int 0, .ref r0, .ref r1, .ref r2, .ref r3, .ref r4, .ref r5, .ref r6, .ref r7, .ref wr, .ref lr, .ref tt, .int 0, .int 0, .ref fr, .ref r8, .ref r9, .int 0])), (lr, .inl (k 0, 6, .inl gl))]) rfl B
  refine lv_istore_n (lv' := [(3, .int (-1)), (2, .int 2), (1, .int 5), (4, .int 1), (0, .ref L)]) hx hb dX1_digitsOfPages_15 rfl hl (by decide) rfl (fun ls hl => ?_)
  refine lv_iload_n hx hb dX1_digitsOfPages_16 rfl (lv_at hl 0 rfl) ?_
  refine lv_bipush (v := 10) hx hb dX1_digitsOfPages_17 (by decide) ?_
  refine lv_icmp_ge (tgt := 26) hx hb dX1_digitsOfPages_19 (by decide) (fun c9 => absurd c9 (by decide)) (fun _ => ?_)
  refine lv_iconst (v := 1) hx hb dX1_digitsOfPages_22 (by decide) ?_
  refine lv_goto (tgt := 37) hx hb dX1_digitsOfPages_23 (by decide) ?_
  refine lv_istore (lv' := [(4, .int 1), (3, .int (-1)), (2, .int 2), (1, .int 5), (0, .ref L)]) hx hb dX1_digitsOfPages_37 hl (by decide) rfl (fun ls hl => ?_)
  refine lv_iload_n hx hb dX1_digitsOfPages_39 rfl (lv_at hl 3 rfl) ?_
  refine lv_iload hx hb dX1_digitsOfPages_40 (lv_at hl 0 rfl) ?_
  refine lv_iconst (v := 2) hx hb dX1_digitsOfPages_42 (by decide) ?_
  refine lv_iload_n hx hb dX1_digitsOfPages_43 rfl (lv_at hl 2 rfl) ?_
  refine lv_imul hx hb dX1_digitsOfPages_44 ?_
  refine lv_seti (y := 4) (by decide) ?_
  refine lv_ishl hx hb dX1_digitsOfPages_45 ?_
  refine lv_seti (y := 16) (by decide) ?_
  refine lv_ior hx hb dX1_digitsOfPages_46 ?_
  refine lv_seti (y := 21) (by decide) ?_
  refine lv_istore_n (lv' := [(1, .int 21), (4, .int 1), (3, .int (-1)), (2, .int 2), (0, .ref L)]) hx hb dX1_digitsOfPages_47 rfl hl (by decide) rfl (fun ls hl => ?_)
  refine lv_iinc (v := 3) (lv' := [(2, .int 3), (1, .int 21), (4, .int 1), (3, .int (-1)), (0, .ref L)]) hx hb dX1_digitsOfPages_48 hl (k := 3) rfl (by decide) (by decide) rfl (fun ls hl => ?_)
  refine lv_goto (tgt := 4) hx hb dX1_digitsOfPages_51 (by decide) ?_
  refine lv_iload_n hx hb dX1_digitsOfPages_4 rfl (lv_at hl 0 rfl) ?_
  refine lv_bipush (v := 6) hx hb dX1_digitsOfPages_5 (by decide) ?_
  refine lv_icmp_ge (tgt := 54) hx hb dX1_digitsOfPages_7 (by decide) (fun c9 => absurd c9 (by decide)) (fun _ => ?_)
  refine lv_aload_n hx hb dX1_digitsOfPages_10 rfl (lv_at hl 4 rfl) ?_
  refine lv_iload_n hx hb dX1_digitsOfPages_11 rfl (lv_at hl 0 rfl) ?_
  refine x_callV (rest := []) (wr := []) (c_pageOfLabel1 l dC dI k L lc le ll ld wl op dg T LN R P v r0 r1 r2 r3 r4 r5 r6 r7 wr lr tt fr r8 r9 gl 3 hgl (by decide)) B mV_X1_pageOfLabel mw_1654 hl [0, 1, 2] [] rfl rfl ⟨by decide, by decide⟩ (by decide) (q0 := 0) rfl rfl rfl ⟨Nat.le_of_ble_eq_true rfl, Nat.le_of_ble_eq_true rfl⟩ (Nat.le_of_ble_eq_true rfl) rfl dX1_digitsOfPages_12 ⟨Nat.le_of_ble_eq_true rfl, Nat.le_of_ble_eq_true rfl⟩ (fun r w H locs hp B => ?_)
  obtain ⟨rfl, rfl⟩ := hp
  have B := bd_to (ws' := [(L, .inr (1, [.ref T, .int v, .ref LN, .ref R, .ref P, .int 1, .int 0, .ref lc, .ref le, .ref ll, .ref ld, .ref wl, .ref op, .int 1, .int 0, .int 1365, .ref dg])), (R, .inr (5, [.int 0, .ref r0, .ref r1, .ref r2, .ref r3, .ref r4, .ref r5, .ref r6, .ref r7, .ref wr, .ref lr, .ref tt, .int 0, .int 0, .ref fr, .ref r8, .ref r9, .int 0])), (lr, .inl (k 0, 6, .inl gl))]) rfl B
  refine lv_istore_n (lv' := [(3, .int (-1)), (2, .int 3), (1, .int 21), (4, .int 1), (0, .ref L)]) hx hb dX1_digitsOfPages_15 rfl hl (by decide) rfl (fun ls hl => ?_)
  refine lv_iload_n hx hb dX1_digitsOfPages_16 rfl (lv_at hl 0 rfl) ?_
  refine lv_bipush (v := 10) hx hb dX1_digitsOfPages_17 (by decide) ?_
  refine lv_icmp_ge (tgt := 26) hx hb dX1_digitsOfPages_19 (by decide) (fun c9 => absurd c9 (by decide)) (fun _ => ?_)
  refine lv_iconst (v := 1) hx hb dX1_digitsOfPages_22 (by decide) ?_
  refine lv_goto (tgt := 37) hx hb dX1_digitsOfPages_23 (by decide) ?_
  refine lv_istore (lv' := [(4, .int 1), (3, .int (-1)), (2, .int 3), (1, .int 21), (0, .ref L)]) hx hb dX1_digitsOfPages_37 hl (by decide) rfl (fun ls hl => ?_)
  refine lv_iload_n hx hb dX1_digitsOfPages_39 rfl (lv_at hl 3 rfl) ?_
  refine lv_iload hx hb dX1_digitsOfPages_40 (lv_at hl 0 rfl) ?_
  refine lv_iconst (v := 2) hx hb dX1_digitsOfPages_42 (by decide) ?_
  refine lv_iload_n hx hb dX1_digitsOfPages_43 rfl (lv_at hl 2 rfl) ?_
  refine lv_imul hx hb dX1_digitsOfPages_44 ?_
  refine lv_seti (y := 6) (by decide) ?_
  refine lv_ishl hx hb dX1_digitsOfPages_45 ?_
  refine lv_seti (y := 64) (by decide) ?_
  refine lv_ior hx hb dX1_digitsOfPages_46 ?_
  refine lv_seti (y := 85) (by decide) ?_
  refine lv_istore_n (lv' := [(1, .int 85), (4, .int 1), (3, .int (-1)), (2, .int 3), (0, .ref L)]) hx hb dX1_digitsOfPages_47 rfl hl (by decide) rfl (fun ls hl => ?_)
  refine lv_iinc (v := 4) (lv' := [(2, .int 4), (1, .int 85), (4, .int 1), (3, .int (-1)), (0, .ref L)]) hx hb dX1_digitsOfPages_48 hl (k := 3) rfl (by decide) (by decide) rfl (fun ls hl => ?_)
  refine lv_goto (tgt := 4) hx hb dX1_digitsOfPages_51 (by decide) ?_
  refine lv_iload_n hx hb dX1_digitsOfPages_4 rfl (lv_at hl 0 rfl) ?_
  refine lv_bipush (v := 6) hx hb dX1_digitsOfPages_5 (by decide) ?_
  refine lv_icmp_ge (tgt := 54) hx hb dX1_digitsOfPages_7 (by decide) (fun c9 => absurd c9 (by decide)) (fun _ => ?_)
  refine lv_aload_n hx hb dX1_digitsOfPages_10 rfl (lv_at hl 4 rfl) ?_
  refine lv_iload_n hx hb dX1_digitsOfPages_11 rfl (lv_at hl 0 rfl) ?_
  refine x_callV (rest := []) (wr := []) (c_pageOfLabel1 l dC dI k L lc le ll ld wl op dg T LN R P v r0 r1 r2 r3 r4 r5 r6 r7 wr lr tt fr r8 r9 gl 4 hgl (by decide)) B mV_X1_pageOfLabel mw_1654 hl [0, 1, 2] [] rfl rfl ⟨by decide, by decide⟩ (by decide) (q0 := 0) rfl rfl rfl ⟨Nat.le_of_ble_eq_true rfl, Nat.le_of_ble_eq_true rfl⟩ (Nat.le_of_ble_eq_true rfl) rfl dX1_digitsOfPages_12 ⟨Nat.le_of_ble_eq_true rfl, Nat.le_of_ble_eq_true rfl⟩ (fun r w H locs hp B => ?_)
  obtain ⟨rfl, rfl⟩ := hp
  have B := bd_to (ws' := [(L, .inr (1, [.ref T, .int v, .ref LN, .ref R, .ref P, .int 1, .int 0, .ref lc, .ref le, .ref ll, .ref ld, .ref wl, .ref op, .int 1, .int 0, .int 1365, .ref dg])), (R, .inr (5, [.int 0, .ref r0, .ref r1, .ref r2, .ref r3, .ref r4, .ref r5, .ref r6, .ref r7, .ref wr, .ref lr, .ref tt, .int 0, .int 0, .ref fr, .ref r8, .ref r9, .int 0])), (lr, .inl (k 0, 6, .inl gl))]) rfl B
  refine lv_istore_n (lv' := [(3, .int (-1)), (2, .int 4), (1, .int 85), (4, .int 1), (0, .ref L)]) hx hb dX1_digitsOfPages_15 rfl hl (by decide) rfl (fun ls hl => ?_)
  refine lv_iload_n hx hb dX1_digitsOfPages_16 rfl (lv_at hl 0 rfl) ?_
  refine lv_bipush (v := 10) hx hb dX1_digitsOfPages_17 (by decide) ?_
  refine lv_icmp_ge (tgt := 26) hx hb dX1_digitsOfPages_19 (by decide) (fun c9 => absurd c9 (by decide)) (fun _ => ?_)
  refine lv_iconst (v := 1) hx hb dX1_digitsOfPages_22 (by decide) ?_
  refine lv_goto (tgt := 37) hx hb dX1_digitsOfPages_23 (by decide) ?_
  refine lv_istore (lv' := [(4, .int 1), (3, .int (-1)), (2, .int 4), (1, .int 85), (0, .ref L)]) hx hb dX1_digitsOfPages_37 hl (by decide) rfl (fun ls hl => ?_)
  refine lv_iload_n hx hb dX1_digitsOfPages_39 rfl (lv_at hl 3 rfl) ?_
  refine lv_iload hx hb dX1_digitsOfPages_40 (lv_at hl 0 rfl) ?_
  refine lv_iconst (v := 2) hx hb dX1_digitsOfPages_42 (by decide) ?_
  refine lv_iload_n hx hb dX1_digitsOfPages_43 rfl (lv_at hl 2 rfl) ?_
  refine lv_imul hx hb dX1_digitsOfPages_44 ?_
  refine lv_seti (y := 8) (by decide) ?_
  refine lv_ishl hx hb dX1_digitsOfPages_45 ?_
  refine lv_seti (y := 256) (by decide) ?_
  refine lv_ior hx hb dX1_digitsOfPages_46 ?_
  refine lv_seti (y := 341) (by decide) ?_
  refine lv_istore_n (lv' := [(1, .int 341), (4, .int 1), (3, .int (-1)), (2, .int 4), (0, .ref L)]) hx hb dX1_digitsOfPages_47 rfl hl (by decide) rfl (fun ls hl => ?_)
  refine lv_iinc (v := 5) (lv' := [(2, .int 5), (1, .int 341), (4, .int 1), (3, .int (-1)), (0, .ref L)]) hx hb dX1_digitsOfPages_48 hl (k := 3) rfl (by decide) (by decide) rfl (fun ls hl => ?_)
  refine lv_goto (tgt := 4) hx hb dX1_digitsOfPages_51 (by decide) ?_
  refine lv_iload_n hx hb dX1_digitsOfPages_4 rfl (lv_at hl 0 rfl) ?_
  refine lv_bipush (v := 6) hx hb dX1_digitsOfPages_5 (by decide) ?_
  refine lv_icmp_ge (tgt := 54) hx hb dX1_digitsOfPages_7 (by decide) (fun c9 => absurd c9 (by decide)) (fun _ => ?_)
  refine lv_aload_n hx hb dX1_digitsOfPages_10 rfl (lv_at hl 4 rfl) ?_
  refine lv_iload_n hx hb dX1_digitsOfPages_11 rfl (lv_at hl 0 rfl) ?_
  refine x_callV (rest := []) (wr := []) (c_pageOfLabel1 l dC dI k L lc le ll ld wl op dg T LN R P v r0 r1 r2 r3 r4 r5 r6 r7 wr lr tt fr r8 r9 gl 5 hgl (by decide)) B mV_X1_pageOfLabel mw_1654 hl [0, 1, 2] [] rfl rfl ⟨by decide, by decide⟩ (by decide) (q0 := 0) rfl rfl rfl ⟨Nat.le_of_ble_eq_true rfl, Nat.le_of_ble_eq_true rfl⟩ (Nat.le_of_ble_eq_true rfl) rfl dX1_digitsOfPages_12 ⟨Nat.le_of_ble_eq_true rfl, Nat.le_of_ble_eq_true rfl⟩ (fun r w H locs hp B => ?_)
  obtain ⟨rfl, rfl⟩ := hp
  have B := bd_to (ws' := [(L, .inr (1, [.ref T, .int v, .ref LN, .ref R, .ref P, .int 1, .int 0, .ref lc, .ref le, .ref ll, .ref ld, .ref wl, .ref op, .int 1, .int 0, .int 1365, .ref dg])), (R, .inr (5, [.int 0, .ref r0, .ref r1, .ref r2, .ref r3, .ref r4, .ref r5, .ref r6, .ref r7, .ref wr, .ref lr, .ref tt, .int 0, .int 0, .ref fr, .ref r8, .ref r9, .int 0])), (lr, .inl (k 0, 6, .inl gl))]) rfl B
  refine lv_istore_n (lv' := [(3, .int (-1)), (2, .int 5), (1, .int 341), (4, .int 1), (0, .ref L)]) hx hb dX1_digitsOfPages_15 rfl hl (by decide) rfl (fun ls hl => ?_)
  refine lv_iload_n hx hb dX1_digitsOfPages_16 rfl (lv_at hl 0 rfl) ?_
  refine lv_bipush (v := 10) hx hb dX1_digitsOfPages_17 (by decide) ?_
  refine lv_icmp_ge (tgt := 26) hx hb dX1_digitsOfPages_19 (by decide) (fun c9 => absurd c9 (by decide)) (fun _ => ?_)
  refine lv_iconst (v := 1) hx hb dX1_digitsOfPages_22 (by decide) ?_
  refine lv_goto (tgt := 37) hx hb dX1_digitsOfPages_23 (by decide) ?_
  refine lv_istore (lv' := [(4, .int 1), (3, .int (-1)), (2, .int 5), (1, .int 341), (0, .ref L)]) hx hb dX1_digitsOfPages_37 hl (by decide) rfl (fun ls hl => ?_)
  refine lv_iload_n hx hb dX1_digitsOfPages_39 rfl (lv_at hl 3 rfl) ?_
  refine lv_iload hx hb dX1_digitsOfPages_40 (lv_at hl 0 rfl) ?_
  refine lv_iconst (v := 2) hx hb dX1_digitsOfPages_42 (by decide) ?_
  refine lv_iload_n hx hb dX1_digitsOfPages_43 rfl (lv_at hl 2 rfl) ?_
  refine lv_imul hx hb dX1_digitsOfPages_44 ?_
  refine lv_seti (y := 10) (by decide) ?_
  refine lv_ishl hx hb dX1_digitsOfPages_45 ?_
  refine lv_seti (y := 1024) (by decide) ?_
  refine lv_ior hx hb dX1_digitsOfPages_46 ?_
  refine lv_seti (y := 1365) (by decide) ?_
  refine lv_istore_n (lv' := [(1, .int 1365), (4, .int 1), (3, .int (-1)), (2, .int 5), (0, .ref L)]) hx hb dX1_digitsOfPages_47 rfl hl (by decide) rfl (fun ls hl => ?_)
  refine lv_iinc (v := 6) (lv' := [(2, .int 6), (1, .int 1365), (4, .int 1), (3, .int (-1)), (0, .ref L)]) hx hb dX1_digitsOfPages_48 hl (k := 3) rfl (by decide) (by decide) rfl (fun ls hl => ?_)
  refine lv_goto (tgt := 4) hx hb dX1_digitsOfPages_51 (by decide) ?_
  refine lv_iload_n hx hb dX1_digitsOfPages_4 rfl (lv_at hl 0 rfl) ?_
  refine lv_bipush (v := 6) hx hb dX1_digitsOfPages_5 (by decide) ?_
  refine lv_icmp_ge (tgt := 54) hx hb dX1_digitsOfPages_7 (by decide) (fun _ => ?_) (fun c9 => absurd (by decide) c9)
  refine lv_iload_n hx hb dX1_digitsOfPages_54 rfl (lv_at hl 1 rfl) ?_
  have B := bd_sub (ws' := [(L, .inr (1, [.ref T, .int v, .ref LN, .ref R, .ref P, .int 1, .int 0, .ref lc, .ref le, .ref ll, .ref ld, .ref wl, .ref op, .int 1, .int 0, .int 1365, .ref dg])), (R, .inr (5, [.int 0, .ref r0, .ref r1, .ref r2, .ref r3, .ref r4, .ref r5, .ref r6, .ref r7, .ref wr, .ref lr, .ref tt, .int 0, .int 0, .ref fr, .ref r8, .ref r9, .int 0])), (lr, .inl (k 0, 6, .inl gl))]) [0, 1, 2] (by decide) rfl B
  exact x_iret B hr (⟨rfl, rfl⟩) (Nat.le_of_ble_eq_true rfl) (Nat.le_of_ble_eq_true rfl) dX1_digitsOfPages_55

theorem mw_433 : (Jvm.Cond.fieldLink "Galleyforge$Layout" (73 : Nat) "Galleyforge$Layout" "settled" "Z") ∈ gt := gt_at 568 (by decide +kernel) (by decide +kernel)
theorem dX1_compareDigits_0 : decode cX1_compareDigits 0 = .ok (.aload_n 0, 1) := by decide +kernel
theorem dX1_compareDigits_1 : decode cX1_compareDigits 1 = .ok (.iload_n 1, 1) := by decide +kernel
theorem dX1_compareDigits_2 : decode cX1_compareDigits 2 = .ok (.aload_n 0, 1) := by decide +kernel
theorem dX1_compareDigits_3 : decode cX1_compareDigits 3 = .ok (.getfield 36, 3) := by decide +kernel
theorem dX1_compareDigits_6 : decode cX1_compareDigits 6 = .ok (.if_icmp .ne 7, 3) := by decide +kernel
theorem dX1_compareDigits_9 : decode cX1_compareDigits 9 = .ok (.iconst 1, 1) := by decide +kernel
theorem dX1_compareDigits_10 : decode cX1_compareDigits 10 = .ok (.goto 4, 3) := by decide +kernel
theorem dX1_compareDigits_14 : decode cX1_compareDigits 14 = .ok (.putfield 73, 3) := by decide +kernel
theorem dX1_compareDigits_17 : decode cX1_compareDigits 17 = .ok (.aload_n 0, 1) := by decide +kernel
theorem dX1_compareDigits_18 : decode cX1_compareDigits 18 = .ok (.aload_n 0, 1) := by decide +kernel
theorem dX1_compareDigits_19 : decode cX1_compareDigits 19 = .ok (.getfield 73, 3) := by decide +kernel
theorem dX1_compareDigits_22 : decode cX1_compareDigits 22 = .ok (.ifCond .ne 7, 3) := by decide +kernel
theorem dX1_compareDigits_29 : decode cX1_compareDigits 29 = .ok (.iconst 0, 1) := by decide +kernel
theorem dX1_compareDigits_30 : decode cX1_compareDigits 30 = .ok (.putfield 9, 3) := by decide +kernel
theorem dX1_compareDigits_33 : decode cX1_compareDigits 33 = .ok (.aload_n 0, 1) := by decide +kernel
theorem dX1_compareDigits_34 : decode cX1_compareDigits 34 = .ok (.getfield 9, 3) := by decide +kernel
theorem dX1_compareDigits_37 : decode cX1_compareDigits 37 = .ok (.ifCond .eq 43, 3) := by decide +kernel
theorem dX1_compareDigits_80 : decode cX1_compareDigits 80 = .ok (.return_, 1) := by decide +kernel
set_option maxHeartbeats 4000000 in
set_option maxRecDepth 100000 in
theorem c_compareDigits (l : Launch) (dC : Nat → ClassId) (dI : Nat → Nat → Nat) (k : Nat → ClassId) (L : Nat) (lc : Nat) (le : Nat) (ll : Nat) (ld : Nat) (wl : Nat) (op : Nat) (dg : Nat) (T : Nat) (LN : Nat) (R : Nat) (P : Nat) (v : Int32) : Ct l dC dI k yX1_compareDigits (.code yX1_compareDigits cX1_compareDigits 3 none) ({ frames := 0, cells := 0, slots := 0, locals := 0 } : Room) [.ref L, .int 1365] [(L, .inr (1, [.ref T, .int v, .ref LN, .ref R, .ref P, .int 1, .int 0, .ref lc, .ref le, .ref ll, .ref ld, .ref wl, .ref op, .int 1, .int 0, .int 1365, .ref dg]))] (fun r w => (r = none ∧ w = [(L, .inr (1, [.ref T, .int v, .ref LN, .ref R, .ref P, .int 0, .int 0, .ref lc, .ref le, .ref ll, .ref ld, .ref wl, .ref op, .int 1, .int 1, .int 1365, .ref dg]))])) := by
  refine ct_of (by decide) (Nat.le_of_ble_eq_true rfl) ?_
  intro p e s m args below meth c H locs B hr hnm ls hl
  have hx := B.1.1
  have hb := B.1.2.1
  have hl : lv_has ls 3 [(0, .ref L), (1, .int 1365)] := hl
  refine lv_aload_n hx hb dX1_compareDigits_0 rfl (lv_at hl 0 rfl) ?_
  refine lv_iload_n hx hb dX1_compareDigits_1 rfl (lv_at hl 1 rfl) ?_
  refine lv_aload_n hx hb dX1_compareDigits_2 rfl (lv_at hl 0 rfl) ?_
  refine x_get (ci := 1) (C := RX1) (T := TX1) (N := 17) (v := .int 1365) B 0 rfl rfl in_X1 15 (by decide) mw_435 (fun _ h9 => h9) rfl dX1_compareDigits_3 ?_
  refine lv_icmp_ne (tgt := 13) hx hb dX1_compareDigits_6 (by decide) (fun c9 => absurd c9 (by decide)) (fun _ => ?_)
  refine lv_iconst (v := 1) hx hb dX1_compareDigits_9 (by decide) ?_
  refine lv_goto (tgt := 14) hx hb dX1_compareDigits_10 (by decide) ?_
  refine x_put (ci := 1) (C := RX1) (T := TX1) (N := 17) (ty := .boolean) (v := .int 1) B tyX1_ok nmX1 0 rfl rfl in_X1 14 (by decide) mw_433 (fun _ h9 => h9) rfl (by decide +kernel) (by decide) rfl (Nat.le_of_ble_eq_true rfl) dX1_compareDigits_14 (fun H locs B => ?_)
  have B := bd_to (ws' := [(L, .inr (1, [.ref T, .int v, .ref LN, .ref R, .ref P, .int 1, .int 0, .ref lc, .ref le, .ref ll, .ref ld, .ref wl, .ref op, .int 1, .int 1, .int 1365, .ref dg]))]) rfl B
  refine lv_aload_n hx hb dX1_compareDigits_17 rfl (lv_at hl 0 rfl) ?_
  refine lv_aload_n hx hb dX1_compareDigits_18 rfl (lv_at hl 0 rfl) ?_
  refine x_get (ci := 1) (C := RX1) (T := TX1) (N := 17) (v := .int 1) B 0 rfl rfl in_X1 14 (by decide) mw_433 (fun _ h9 => h9) rfl dX1_compareDigits_19 ?_
  refine lv_if_ne (tgt := 29) hx hb dX1_compareDigits_22 (by decide) (fun _ => ?_) (fun c9 => absurd c9 (by decide))
  refine lv_iconst (v := 0) hx hb dX1_compareDigits_29 (by decide) ?_
  refine x_put (ci := 1) (C := RX1) (T := TX1) (N := 17) (ty := .boolean) (v := .int 0) B tyX1_ok nmX1 0 rfl rfl in_X1 5 (by decide) mw_418 (fun _ h9 => h9) rfl (by decide +kernel) (by decide) rfl (Nat.le_of_ble_eq_true rfl) dX1_compareDigits_30 (fun H locs B => ?_)
  have B := bd_to (ws' := [(L, .inr (1, [.ref T, .int v, .ref LN, .ref R, .ref P, .int 0, .int 0, .ref lc, .ref le, .ref ll, .ref ld, .ref wl, .ref op, .int 1, .int 1, .int 1365, .ref dg]))]) rfl B
  refine lv_aload_n hx hb dX1_compareDigits_33 rfl (lv_at hl 0 rfl) ?_
  refine x_get (ci := 1) (C := RX1) (T := TX1) (N := 17) (v := .int 0) B 0 rfl rfl in_X1 5 (by decide) mw_418 (fun _ h9 => h9) rfl dX1_compareDigits_34 ?_
  refine lv_if_eq (tgt := 80) hx hb dX1_compareDigits_37 (by decide) (fun _ => ?_) (fun c9 => absurd (by decide) c9)
  have B := bd_sub (ws' := [(L, .inr (1, [.ref T, .int v, .ref LN, .ref R, .ref P, .int 0, .int 0, .ref lc, .ref le, .ref ll, .ref ld, .ref wl, .ref op, .int 1, .int 1, .int 1365, .ref dg]))]) [0] (by decide) rfl B
  exact x_vret B hr (⟨rfl, rfl⟩) (Nat.le_of_ble_eq_true rfl) (Nat.le_of_ble_eq_true rfl) dX1_compareDigits_80

theorem mw_78 : (Jvm.Cond.fieldLink "Galleyforge$Layout" (79 : Nat) "Galleyforge$Text" "blocks" "Ljava/util/ArrayList;") ∈ gt := gt_at 213 (by decide +kernel) (by decide +kernel)
theorem mw_420 : (Jvm.Cond.fieldLink "Galleyforge$Layout" (70 : Nat) "Galleyforge$Layout" "isLastRound" "Z") ∈ gt := gt_at 555 (by decide +kernel) (by decide +kernel)
theorem mw_431 : (Jvm.Cond.fieldLink "Galleyforge$Layout" (76 : Nat) "Galleyforge$Layout" "rounds" "I") ∈ gt := gt_at 566 (by decide +kernel) (by decide +kernel)
theorem mw_1374 : (Jvm.Cond.methodLink "Galleyforge$Layout" (85 : Nat) ({ cls := "java/util/ArrayList", name := "size", desc := "()I" } : Jvm.MethodName)) ∈ gt := gt_at 1509 (by decide +kernel) (by decide +kernel)
theorem mw_1461 : (Jvm.Cond.methodLink "Galleyforge$Layout" (95 : Nat) ({ cls := "Galleyforge$Rows", name := "make", desc := "(LGalleyforge$Text;I[I[I)V" } : Jvm.MethodName)) ∈ gt := gt_at 1596 (by decide +kernel) (by decide +kernel)
theorem mw_1462 : (Jvm.Cond.instanceMethod ({ cls := "Galleyforge$Rows", name := "make", desc := "(LGalleyforge$Text;I[I[I)V" } : Jvm.MethodName)) ∈ gt := gt_at 1597 (by decide +kernel) (by decide +kernel)
theorem mw_1463 : (Jvm.Cond.selects "Galleyforge$Rows" ({ cls := "Galleyforge$Rows", name := "make", desc := "(LGalleyforge$Text;I[I[I)V" } : Jvm.MethodName) ({ cls := "Galleyforge$Rows", name := "make", desc := "(LGalleyforge$Text;I[I[I)V" } : Jvm.MethodName)) ∈ gt := gt_at 1598 (by decide +kernel) (by decide +kernel)
theorem mw_1464 : (Jvm.Cond.code ({ cls := "Galleyforge$Rows", name := "make", desc := "(LGalleyforge$Text;I[I[I)V" } : Jvm.MethodName) prog_8_method_2_code (7 : Nat) (Option.none : Option Jvm.ClassFile.FieldType)) ∈ gt := gt_at 1599 (by decide +kernel) (by decide +kernel)
theorem mw_1522 : (Jvm.Cond.methodLink "Galleyforge$Layout" (99 : Nat) ({ cls := "Galleyforge$Pages", name := "make", desc := "()V" } : Jvm.MethodName)) ∈ gt := gt_at 1657 (by decide +kernel) (by decide +kernel)
theorem mw_1523 : (Jvm.Cond.instanceMethod ({ cls := "Galleyforge$Pages", name := "make", desc := "()V" } : Jvm.MethodName)) ∈ gt := gt_at 1658 (by decide +kernel) (by decide +kernel)
theorem mw_1524 : (Jvm.Cond.selects "Galleyforge$Pages" ({ cls := "Galleyforge$Pages", name := "make", desc := "()V" } : Jvm.MethodName) ({ cls := "Galleyforge$Pages", name := "make", desc := "()V" } : Jvm.MethodName)) ∈ gt := gt_at 1659 (by decide +kernel) (by decide +kernel)
theorem mw_1525 : (Jvm.Cond.code ({ cls := "Galleyforge$Pages", name := "make", desc := "()V" } : Jvm.MethodName) prog_6_method_3_code (4 : Nat) (Option.none : Option Jvm.ClassFile.FieldType)) ∈ gt := gt_at 1660 (by decide +kernel) (by decide +kernel)
theorem mw_1650 : (Jvm.Cond.methodLink "Galleyforge$Layout" (101 : Nat) ({ cls := "Galleyforge$Layout", name := "digitsOfPages", desc := "()I" } : Jvm.MethodName)) ∈ gt := gt_at 1785 (by decide +kernel) (by decide +kernel)
theorem mw_1652 : (Jvm.Cond.instanceMethod ({ cls := "Galleyforge$Layout", name := "digitsOfPages", desc := "()I" } : Jvm.MethodName)) ∈ gt := gt_at 1787 (by decide +kernel) (by decide +kernel)
theorem mw_1653 : (Jvm.Cond.code ({ cls := "Galleyforge$Layout", name := "digitsOfPages", desc := "()I" } : Jvm.MethodName) prog_3_method_7_code (5 : Nat) (Option.some Jvm.ClassFile.FieldType.int)) ∈ gt := gt_at 1788 (by decide +kernel) (by decide +kernel)
theorem mw_1662 : (Jvm.Cond.methodLink "Galleyforge$Layout" (104 : Nat) ({ cls := "Galleyforge$Layout", name := "compareDigits", desc := "(I)V" } : Jvm.MethodName)) ∈ gt := gt_at 1797 (by decide +kernel) (by decide +kernel)
theorem mw_1664 : (Jvm.Cond.instanceMethod ({ cls := "Galleyforge$Layout", name := "compareDigits", desc := "(I)V" } : Jvm.MethodName)) ∈ gt := gt_at 1799 (by decide +kernel) (by decide +kernel)
theorem mw_1665 : (Jvm.Cond.code ({ cls := "Galleyforge$Layout", name := "compareDigits", desc := "(I)V" } : Jvm.MethodName) prog_3_method_4_code (3 : Nat) (Option.none : Option Jvm.ClassFile.FieldType)) ∈ gt := gt_at 1800 (by decide +kernel) (by decide +kernel)
theorem ms_62 : Cond.selects "Galleyforge$Layout" (⟨"Galleyforge$Layout", "compareDigits", "(I)V"⟩ : MethodName) (⟨"Galleyforge$Layout", "compareDigits", "(I)V"⟩ : MethodName) ∈ gt := gt_at 62 (by decide +kernel) (by decide +kernel)
theorem mV_X1_compareDigits : mV yX1_compareDigits cX1_compareDigits 3 none 1 := ⟨⟨mw_1665, mw_8, by decide, by decide, by decide +kernel⟩, mw_1664, ms_62⟩
theorem ms_61 : Cond.selects "Galleyforge$Layout" (⟨"Galleyforge$Layout", "digitsOfPages", "()I"⟩ : MethodName) (⟨"Galleyforge$Layout", "digitsOfPages", "()I"⟩ : MethodName) ∈ gt := gt_at 61 (by decide +kernel) (by decide +kernel)
theorem mV_X1_digitsOfPages : mV yX1_digitsOfPages cX1_digitsOfPages 5 (some .int) 0 := ⟨⟨mw_1653, mw_8, by decide, by decide, by decide +kernel⟩, mw_1652, ms_61⟩
theorem mV_X4_make : mV yX4_make cX4_make 4 none 0 := ⟨⟨mw_1525, mw_10, by decide, by decide, by decide +kernel⟩, mw_1523, mw_1524⟩
theorem mV_X6_make : mV yX6_make cX6_make 7 none 4 := ⟨⟨mw_1464, mw_9, by decide, by decide, by decide +kernel⟩, mw_1462, mw_1463⟩
theorem dX1_makeRound_0 : decode cX1_makeRound 0 = .ok (.iconst 0, 1) := by decide +kernel
theorem dX1_makeRound_1 : decode cX1_makeRound 1 = .ok (.istore_n 1, 1) := by decide +kernel
theorem dX1_makeRound_2 : decode cX1_makeRound 2 = .ok (.iload_n 1, 1) := by decide +kernel
theorem dX1_makeRound_3 : decode cX1_makeRound 3 = .ok (.aload_n 0, 1) := by decide +kernel
theorem dX1_makeRound_4 : decode cX1_makeRound 4 = .ok (.getfield 43, 3) := by decide +kernel
theorem dX1_makeRound_7 : decode cX1_makeRound 7 = .ok (.getfield 79, 3) := by decide +kernel
theorem dX1_makeRound_10 : decode cX1_makeRound 10 = .ok (.invokevirtual 85, 3) := by decide +kernel
theorem dX1_makeRound_13 : decode cX1_makeRound 13 = .ok (.if_icmp .ge 14, 3) := by decide +kernel
theorem dX1_makeRound_27 : decode cX1_makeRound 27 = .ok (.aload_n 0, 1) := by decide +kernel
theorem dX1_makeRound_28 : decode cX1_makeRound 28 = .ok (.getfield 57, 3) := by decide +kernel
theorem dX1_makeRound_31 : decode cX1_makeRound 31 = .ok (.aload_n 0, 1) := by decide +kernel
theorem dX1_makeRound_32 : decode cX1_makeRound 32 = .ok (.getfield 43, 3) := by decide +kernel
theorem dX1_makeRound_35 : decode cX1_makeRound 35 = .ok (.aload_n 0, 1) := by decide +kernel
theorem dX1_makeRound_36 : decode cX1_makeRound 36 = .ok (.getfield 47, 3) := by decide +kernel
theorem dX1_makeRound_39 : decode cX1_makeRound 39 = .ok (.aload_n 0, 1) := by decide +kernel
theorem dX1_makeRound_40 : decode cX1_makeRound 40 = .ok (.getfield 15, 3) := by decide +kernel
theorem dX1_makeRound_43 : decode cX1_makeRound 43 = .ok (.aload_n 0, 1) := by decide +kernel
theorem dX1_makeRound_44 : decode cX1_makeRound 44 = .ok (.getfield 29, 3) := by decide +kernel
theorem dX1_makeRound_47 : decode cX1_makeRound 47 = .ok (.invokevirtual 95, 3) := by decide +kernel
theorem dX1_makeRound_50 : decode cX1_makeRound 50 = .ok (.aload_n 0, 1) := by decide +kernel
theorem dX1_makeRound_51 : decode cX1_makeRound 51 = .ok (.getfield 66, 3) := by decide +kernel
theorem dX1_makeRound_54 : decode cX1_makeRound 54 = .ok (.invokevirtual 99, 3) := by decide +kernel
theorem dX1_makeRound_57 : decode cX1_makeRound 57 = .ok (.aload_n 0, 1) := by decide +kernel
theorem dX1_makeRound_58 : decode cX1_makeRound 58 = .ok (.getfield 76, 3) := by decide +kernel
theorem dX1_makeRound_61 : decode cX1_makeRound 61 = .ok (.sipush 730, 3) := by decide +kernel
theorem dX1_makeRound_64 : decode cX1_makeRound 64 = .ok (.if_icmp .ge 16, 3) := by decide +kernel
theorem dX1_makeRound_67 : decode cX1_makeRound 67 = .ok (.aload_n 0, 1) := by decide +kernel
theorem dX1_makeRound_68 : decode cX1_makeRound 68 = .ok (.getfield 40, 3) := by decide +kernel
theorem dX1_makeRound_71 : decode cX1_makeRound 71 = .ok (.aload_n 0, 1) := by decide +kernel
theorem dX1_makeRound_72 : decode cX1_makeRound 72 = .ok (.getfield 76, 3) := by decide +kernel
theorem dX1_makeRound_75 : decode cX1_makeRound 75 = .ok (.aload_n 0, 1) := by decide +kernel
theorem dX1_makeRound_76 : decode cX1_makeRound 76 = .ok (.getfield 36, 3) := by decide +kernel
theorem dX1_makeRound_79 : decode cX1_makeRound 79 = .ok (.iastore, 1) := by decide +kernel
theorem dX1_makeRound_80 : decode cX1_makeRound 80 = .ok (.aload_n 0, 1) := by decide +kernel
theorem dX1_makeRound_81 : decode cX1_makeRound 81 = .ok (.dup, 1) := by decide +kernel
theorem dX1_makeRound_82 : decode cX1_makeRound 82 = .ok (.getfield 76, 3) := by decide +kernel
theorem dX1_makeRound_85 : decode cX1_makeRound 85 = .ok (.iconst 1, 1) := by decide +kernel
theorem dX1_makeRound_86 : decode cX1_makeRound 86 = .ok (.iadd, 1) := by decide +kernel
theorem dX1_makeRound_87 : decode cX1_makeRound 87 = .ok (.putfield 76, 3) := by decide +kernel
theorem dX1_makeRound_90 : decode cX1_makeRound 90 = .ok (.aload_n 0, 1) := by decide +kernel
theorem dX1_makeRound_91 : decode cX1_makeRound 91 = .ok (.aload_n 0, 1) := by decide +kernel
theorem dX1_makeRound_92 : decode cX1_makeRound 92 = .ok (.getfield 70, 3) := by decide +kernel
theorem dX1_makeRound_95 : decode cX1_makeRound 95 = .ok (.ifCond .ne 7, 3) := by decide +kernel
theorem dX1_makeRound_98 : decode cX1_makeRound 98 = .ok (.iconst 1, 1) := by decide +kernel
theorem dX1_makeRound_99 : decode cX1_makeRound 99 = .ok (.goto 4, 3) := by decide +kernel
theorem dX1_makeRound_103 : decode cX1_makeRound 103 = .ok (.putfield 9, 3) := by decide +kernel
theorem dX1_makeRound_106 : decode cX1_makeRound 106 = .ok (.aload_n 0, 1) := by decide +kernel
theorem dX1_makeRound_107 : decode cX1_makeRound 107 = .ok (.getfield 9, 3) := by decide +kernel
theorem dX1_makeRound_110 : decode cX1_makeRound 110 = .ok (.ifCond .eq 11, 3) := by decide +kernel
theorem dX1_makeRound_113 : decode cX1_makeRound 113 = .ok (.aload_n 0, 1) := by decide +kernel
theorem dX1_makeRound_114 : decode cX1_makeRound 114 = .ok (.aload_n 0, 1) := by decide +kernel
theorem dX1_makeRound_115 : decode cX1_makeRound 115 = .ok (.invokevirtual 101, 3) := by decide +kernel
theorem dX1_makeRound_118 : decode cX1_makeRound 118 = .ok (.invokevirtual 104, 3) := by decide +kernel
theorem dX1_makeRound_121 : decode cX1_makeRound 121 = .ok (.return_, 1) := by decide +kernel
set_option maxHeartbeats 4000000 in
set_option maxRecDepth 100000 in
theorem c_makeRound (l : Launch) (dC : Nat → ClassId) (dI : Nat → Nat → Nat) (k : Nat → ClassId) (L : Nat) (lc : Nat) (le : Nat) (ll : Nat) (ld : Nat) (wl : Nat) (op : Nat) (dg : Nat) (T : Nat) (LN : Nat) (R : Nat) (P : Nat) (v : Int32) (bl : Nat) (pt : Nat) (fk : Nat) (fh : Nat) (ky : Nat) (r0 : Nat) (r1 : Nat) (r2 : Nat) (r3 : Nat) (r4 : Nat) (r5 : Nat) (r6 : Nat) (r7 : Nat) (wr : Nat) (lr : Nat) (tt : Nat) (fr : Nat) (r8 : Nat) (r9 : Nat) (pg : Nat) (p0 : Nat) (p1 : Nat) (p2 : Nat) (p3 : Nat) (p4 : Nat) (p5 : Nat) (ST : Nat) : Ct l dC dI k yX1_makeRound (.code yX1_makeRound cX1_makeRound 2 none) ({ frames := 3, cells := 0, slots := 0, locals := 79 } : Room) [.ref L] [(L, .inr (1, [.ref T, .int v, .ref LN, .ref R, .ref P, .int 1, .int 0, .ref lc, .ref le, .ref ll, .ref ld, .ref wl, .ref op, .int 0, .int 0, .int 1365, .ref dg])), (T, .inr (8, [.ref bl, .ref pt, .ref fk, .ref fh, .int 0, .ref ky, .int 60, .int 12])), (bl, .inr (11, [.int 0, .ref (dI 99 1), .int 0])), (dg, .inl (k 0, 730, .inl (fun _ => 0))), (R, .inr (5, [.int 0, .ref r0, .ref r1, .ref r2, .ref r3, .ref r4, .ref r5, .ref r6, .ref r7, .ref wr, .ref lr, .ref tt, .int 0, .int 0, .ref fr, .ref r8, .ref r9, .int 0])), (wr, .inl (k 0, 192, .inl (fun _ => 0))), (lr, .inl (k 0, 6, .inl (fun _ => 0))), (tt, .inl (k 1, 8, .inl (fun _ => 0))), (fr, .inl (k 0, 5, .inl (fun _ => 0))), (P, .inr (4, [.ref T, .ref R, .ref pg, .ref ST, .int 0, .int 0, .ref p0, .ref p1, .ref p2, .ref p3, .ref p4, .ref p5])), (p5, .inl (k 0, 5, .inl (fun _ => 0)))] (fun r w => (∃ (gl : Nat → Int32), (∀ j, j < 6 → gl j = -1) ∧ r = none ∧ w = [(L, .inr (1, [.ref T, .int v, .ref LN, .ref R, .ref P, .int 0, .int 0, .ref lc, .ref le, .ref ll, .ref ld, .ref wl, .ref op, .int 1, .int 1, .int 1365, .ref dg])), (T, .inr (8, [.ref bl, .ref pt, .ref fk, .ref fh, .int 0, .ref ky, .int 60, .int 12])), (bl, .inr (11, [.int 0, .ref (dI 99 1), .int 0])), (R, .inr (5, [.int 0, .ref r0, .ref r1, .ref r2, .ref r3, .ref r4, .ref r5, .ref r6, .ref r7, .ref wr, .ref lr, .ref tt, .int 0, .int 0, .ref fr, .ref r8, .ref r9, .int 0])), (tt, .inl (k 1, 8, .inl (upd (upd (upd (upd (upd (upd (upd (upd (fun _ => 0) 0 0) 1 0) 2 0) 3 0) 4 0) 5 0) 6 0) 7 0))), (lr, .inl (k 0, 6, .inl gl)), (P, .inr (4, [.ref T, .ref R, .ref pg, .ref ST, .int 0, .int 0, .ref p0, .ref p1, .ref p2, .ref p3, .ref p4, .ref p5]))])) := by
  refine ct_of (by decide) (Nat.le_of_ble_eq_true rfl) ?_
  intro p e s m args below meth c H locs B hr hnm ls hl
  have hx := B.1.1
  have hb := B.1.2.1
  have hl : lv_has ls 2 [(0, .ref L)] := hl
  refine lv_iconst (v := 0) hx hb dX1_makeRound_0 (by decide) ?_
  refine lv_istore_n (lv' := [(1, .int 0), (0, .ref L)]) hx hb dX1_makeRound_1 rfl hl (by decide) rfl (fun ls hl => ?_)
  refine lv_iload_n hx hb dX1_makeRound_2 rfl (lv_at hl 0 rfl) ?_
  refine lv_aload_n hx hb dX1_makeRound_3 rfl (lv_at hl 1 rfl) ?_
  refine x_get (ci := 1) (C := RX1) (T := TX1) (N := 17) (v := .ref T) B 0 rfl rfl in_X1 0 (by decide) mw_411 (fun _ h9 => h9) rfl dX1_makeRound_4 ?_
  refine x_get (ci := 8) (C := RX9) (T := TX9) (N := 8) (v := .ref bl) B 1 rfl rfl in_X9 0 (by decide) mw_78 (fun _ h9 => h9) rfl dX1_makeRound_7 ?_
  refine x_callV (rest := [.int 0]) (wr := [(L, .inr (1, [.ref T, .int v, .ref LN, .ref R, .ref P, .int 1, .int 0, .ref lc, .ref le, .ref ll, .ref ld, .ref wl, .ref op, .int 0, .int 0, .int 1365, .ref dg])), (T, .inr (8, [.ref bl, .ref pt, .ref fk, .ref fh, .int 0, .ref ky, .int 60, .int 12])), (dg, .inl (k 0, 730, .inl (fun _ => 0))), (R, .inr (5, [.int 0, .ref r0, .ref r1, .ref r2, .ref r3, .ref r4, .ref r5, .ref r6, .ref r7, .ref wr, .ref lr, .ref tt, .int 0, .int 0, .ref fr, .ref r8, .ref r9, .int 0])), (wr, .inl (k 0, 192, .inl (fun _ => 0))), (lr, .inl (k 0, 6, .inl (fun _ => 0))), (tt, .inl (k 1, 8, .inl (fun _ => 0))), (fr, .inl (k 0, 5, .inl (fun _ => 0))), (P, .inr (4, [.ref T, .ref R, .ref pg, .ref ST, .int 0, .int 0, .ref p0, .ref p1, .ref p2, .ref p3, .ref p4, .ref p5])), (p5, .inl (k 0, 5, .inl (fun _ => 0)))]) (c_size l dC dI k bl (dI 99 1) 0 0) B mV_Jx4a65c_size_8abf5 mw_1374 hl [2] [0, 1, 3, 4, 5, 6, 7, 8, 9, 10] rfl rfl ⟨by decide, by decide⟩ (by decide) (q0 := 0) rfl rfl rfl ⟨Nat.le_of_ble_eq_true rfl, Nat.le_of_ble_eq_true rfl⟩ (Nat.le_of_ble_eq_true rfl) rfl dX1_makeRound_10 ⟨Nat.le_of_ble_eq_true rfl, Nat.le_of_ble_eq_true rfl⟩ (fun r w H locs hp B => ?_)
  obtain ⟨rfl, rfl⟩ := hp
  have B := bd_to (ws' := [(L, .inr (1, [.ref T, .int v, .ref LN, .ref R, .ref P, .int 1, .int 0, .ref lc, .ref le, .ref ll, .ref ld, .ref wl, .ref op, .int 0, .int 0, .int 1365, .ref dg])), (T, .inr (8, [.ref bl, .ref pt, .ref fk, .ref fh, .int 0, .ref ky, .int 60, .int 12])), (dg, .inl (k 0, 730, .inl (fun _ => 0))), (R, .inr (5, [.int 0, .ref r0, .ref r1, .ref r2, .ref r3, .ref r4, .ref r5, .ref r6, .ref r7, .ref wr, .ref lr, .ref tt, .int 0, .int 0, .ref fr, .ref r8, .ref r9, .int 0])), (wr, .inl (k 0, 192, .inl (fun _ => 0))), (lr, .inl (k 0, 6, .inl (fun _ => 0))), (tt, .inl (k 1, 8, .inl (fun _ => 0))), (fr, .inl (k 0, 5, .inl (fun _ => 0))), (P, .inr (4, [.ref T, .ref R, .ref pg, .ref ST, .int 0, .int 0, .ref p0, .ref p1, .ref p2, .ref p3, .ref p4, .ref p5])), (p5, .inl (k 0, 5, .inl (fun _ => 0))), (bl, .inr (11, [.int 0, .ref (dI 99 1), .int 0]))]) rfl B
  refine lv_icmp_ge (tgt := 27) hx hb dX1_makeRound_13 (by decide) (fun _ => ?_) (fun c9 => absurd (by decide) c9)
  refine lv_aload_n hx hb dX1_makeRound_27 rfl (lv_at hl 1 rfl) ?_
  refine x_get (ci := 1) (C := RX1) (T := TX1) (N := 17) (v := .ref R) B 0 rfl rfl in_X1 3 (by decide) mw_414 (fun _ h9 => h9) rfl dX1_makeRound_28 ?_
  refine lv_aload_n hx hb dX1_makeRound_31 rfl (lv_at hl 1 rfl) ?_
  refine x_get (ci := 1) (C := RX1) (T := TX1) (N := 17) (v := .ref T) B 0 rfl rfl in_X1 0 (by decide) mw_411 (fun _ h9 => h9) rfl dX1_makeRound_32 ?_
  refine lv_aload_n hx hb dX1_makeRound_35 rfl (lv_at hl 1 rfl) ?_
  refine x_get (ci := 1) (C := RX1) (T := TX1) (N := 17) (v := .int v) B 0 rfl rfl in_X1 1 (by decide) mw_412 (fun _ h9 => h9) rfl dX1_makeRound_36 ?_
  refine lv_aload_n hx hb dX1_makeRound_39 rfl (lv_at hl 1 rfl) ?_
  refine x_get (ci := 1) (C := RX1) (T := TX1) (N := 17) (v := .ref lc) B 0 rfl rfl in_X1 7 (by decide) mw_421 (fun _ h9 => h9) rfl dX1_makeRound_40 ?_
  refine lv_aload_n hx hb dX1_makeRound_43 rfl (lv_at hl 1 rfl) ?_
  refine x_get (ci := 1) (C := RX1) (T := TX1) (N := 17) (v := .ref wl) B 0 rfl rfl in_X1 11 (by decide) mw_429 (fun _ h9 => h9) rfl dX1_makeRound_44 ?_
  refine x_callV (rest := []) (wr := [(L, .inr (1, [.ref T, .int v, .ref LN, .ref R, .ref P, .int 1, .int 0, .ref lc, .ref le, .ref ll, .ref ld, .ref wl, .ref op, .int 0, .int 0, .int 1365, .ref dg])), (dg, .inl (k 0, 730, .inl (fun _ => 0))), (P, .inr (4, [.ref T, .ref R, .ref pg, .ref ST, .int 0, .int 0, .ref p0, .ref p1, .ref p2, .ref p3, .ref p4, .ref p5])), (p5, .inl (k 0, 5, .inl (fun _ => 0)))]) (c_Rows_make l dC dI k R r0 r1 r2 r3 r4 r5 r6 r7 wr lr tt fr r8 r9 T bl pt fk fh ky lc wl v) B mV_X6_make mw_1461 hl [3, 1, 10, 4, 5, 6, 7] [0, 2, 8, 9] rfl rfl ⟨by decide, by decide⟩ (by decide) (q0 := 0) rfl rfl rfl ⟨Nat.le_of_ble_eq_true rfl, Nat.le_of_ble_eq_true rfl⟩ (Nat.le_of_ble_eq_true rfl) rfl dX1_makeRound_47 ⟨Nat.le_of_ble_eq_true rfl, Nat.le_of_ble_eq_true rfl⟩ (fun r w H locs hp B => ?_)
  obtain ⟨gl_1, z_2, rfl, rfl⟩ := hp
  have B := bd_to (ws' := [(L, .inr (1, [.ref T, .int v, .ref LN, .ref R, .ref P, .int 1, .int 0, .ref lc, .ref le, .ref ll, .ref ld, .ref wl, .ref op, .int 0, .int 0, .int 1365, .ref dg])), (dg, .inl (k 0, 730, .inl (fun _ => 0))), (P, .inr (4, [.ref T, .ref R, .ref pg, .ref ST, .int 0, .int 0, .ref p0, .ref p1, .ref p2, .ref p3, .ref p4, .ref p5])), (p5, .inl (k 0, 5, .inl (fun _ => 0))), (R, .inr (5, [.int 0, .ref r0, .ref r1, .ref r2, .ref r3, .ref r4, .ref r5, .ref r6, .ref r7, .ref wr, .ref lr, .ref tt, .int 0, .int 0, .ref fr, .ref r8, .ref r9, .int 0])), (T, .inr (8, [.ref bl, .ref pt, .ref fk, .ref fh, .int 0, .ref ky, .int 60, .int 12])), (bl, .inr (11, [.int 0, .ref (dI 99 1), .int 0])), (tt, .inl (k 1, 8, .inl (upd (upd (upd (upd (upd (upd (upd (upd (fun _ => 0) 0 0) 1 0) 2 0) 3 0) 4 0) 5 0) 6 0) 7 0))), (lr, .inl (k 0, 6, .inl gl_1))]) rfl B
  refine lv_aload_n hx hb dX1_makeRound_50 rfl (lv_at hl 1 rfl) ?_
  refine x_get (ci := 1) (C := RX1) (T := TX1) (N := 17) (v := .ref P) B 0 rfl rfl in_X1 4 (by decide) mw_416 (fun _ h9 => h9) rfl dX1_makeRound_51 ?_
  refine x_callV (rest := []) (wr := [(L, .inr (1, [.ref T, .int v, .ref LN, .ref R, .ref P, .int 1, .int 0, .ref lc, .ref le, .ref ll, .ref ld, .ref wl, .ref op, .int 0, .int 0, .int 1365, .ref dg])), (dg, .inl (k 0, 730, .inl (fun _ => 0))), (T, .inr (8, [.ref bl, .ref pt, .ref fk, .ref fh, .int 0, .ref ky, .int 60, .int 12])), (bl, .inr (11, [.int 0, .ref (dI 99 1), .int 0])), (tt, .inl (k 1, 8, .inl (upd (upd (upd (upd (upd (upd (upd (upd (fun _ => 0) 0 0) 1 0) 2 0) 3 0) 4 0) 5 0) 6 0) 7 0))), (lr, .inl (k 0, 6, .inl gl_1))]) (c_Pages_make l dC dI k P pg p0 p1 p2 p3 p4 p5 R r0 r1 r2 r3 r4 r5 r6 r7 wr lr tt fr r8 r9 T ST) B mV_X4_make mw_1522 hl [2, 4, 3] [0, 1, 5, 6, 7, 8] rfl rfl ⟨by decide, by decide⟩ (by decide) (q0 := 0) rfl rfl rfl ⟨Nat.le_of_ble_eq_true rfl, Nat.le_of_ble_eq_true rfl⟩ (Nat.le_of_ble_eq_true rfl) rfl dX1_makeRound_54 ⟨Nat.le_of_ble_eq_true rfl, Nat.le_of_ble_eq_true rfl⟩ (fun r w H locs hp B => ?_)
  obtain ⟨rfl, rfl⟩ := hp
  have B := bd_to (ws' := [(L, .inr (1, [.ref T, .int v, .ref LN, .ref R, .ref P, .int 1, .int 0, .ref lc, .ref le, .ref ll, .ref ld, .ref wl, .ref op, .int 0, .int 0, .int 1365, .ref dg])), (dg, .inl (k 0, 730, .inl (fun _ => 0))), (T, .inr (8, [.ref bl, .ref pt, .ref fk, .ref fh, .int 0, .ref ky, .int 60, .int 12])), (bl, .inr (11, [.int 0, .ref (dI 99 1), .int 0])), (tt, .inl (k 1, 8, .inl (upd (upd (upd (upd (upd (upd (upd (upd (fun _ => 0) 0 0) 1 0) 2 0) 3 0) 4 0) 5 0) 6 0) 7 0))), (lr, .inl (k 0, 6, .inl gl_1)), (P, .inr (4, [.ref T, .ref R, .ref pg, .ref ST, .int 0, .int 0, .ref p0, .ref p1, .ref p2, .ref p3, .ref p4, .ref p5])), (R, .inr (5, [.int 0, .ref r0, .ref r1, .ref r2, .ref r3, .ref r4, .ref r5, .ref r6, .ref r7, .ref wr, .ref lr, .ref tt, .int 0, .int 0, .ref fr, .ref r8, .ref r9, .int 0]))]) rfl B
  refine lv_aload_n hx hb dX1_makeRound_57 rfl (lv_at hl 1 rfl) ?_
  refine x_get (ci := 1) (C := RX1) (T := TX1) (N := 17) (v := .int 0) B 0 rfl rfl in_X1 13 (by decide) mw_431 (fun _ h9 => h9) rfl dX1_makeRound_58 ?_
  refine lv_sipush (v := 730) hx hb dX1_makeRound_61 (by decide) ?_
  refine lv_icmp_ge (tgt := 80) hx hb dX1_makeRound_64 (by decide) (fun c9 => absurd c9 (by decide)) (fun _ => ?_)
  refine lv_aload_n hx hb dX1_makeRound_67 rfl (lv_at hl 1 rfl) ?_
  refine x_get (ci := 1) (C := RX1) (T := TX1) (N := 17) (v := .ref dg) B 0 rfl rfl in_X1 16 (by decide) mw_436 (fun _ h9 => h9) rfl dX1_makeRound_68 ?_
  refine lv_aload_n hx hb dX1_makeRound_71 rfl (lv_at hl 1 rfl) ?_
  refine x_get (ci := 1) (C := RX1) (T := TX1) (N := 17) (v := .int 0) B 0 rfl rfl in_X1 13 (by decide) mw_431 (fun _ h9 => h9) rfl dX1_makeRound_72 ?_
  refine lv_aload_n hx hb dX1_makeRound_75 rfl (lv_at hl 1 rfl) ?_
  refine x_get (ci := 1) (C := RX1) (T := TX1) (N := 17) (v := .int 1365) B 0 rfl rfl in_X1 15 (by decide) mw_435 (fun _ h9 => h9) rfl dX1_makeRound_76 ?_
  refine x_iast B 1 rfl (vpc (by decide)) dX1_makeRound_79 (j := 0) (by decide) (fun H locs B => ?_)
  have B := bd_to (ws' := [(L, .inr (1, [.ref T, .int v, .ref LN, .ref R, .ref P, .int 1, .int 0, .ref lc, .ref le, .ref ll, .ref ld, .ref wl, .ref op, .int 0, .int 0, .int 1365, .ref dg])), (dg, .inl (k 0, 730, .inl (upd (fun _ => 0) 0 1365))), (T, .inr (8, [.ref bl, .ref pt, .ref fk, .ref fh, .int 0, .ref ky, .int 60, .int 12])), (bl, .inr (11, [.int 0, .ref (dI 99 1), .int 0])), (tt, .inl (k 1, 8, .inl (upd (upd (upd (upd (upd (upd (upd (upd (fun _ => 0) 0 0) 1 0) 2 0) 3 0) 4 0) 5 0) 6 0) 7 0))), (lr, .inl (k 0, 6, .inl gl_1)), (P, .inr (4, [.ref T, .ref R, .ref pg, .ref ST, .int 0, .int 0, .ref p0, .ref p1, .ref p2, .ref p3, .ref p4, .ref p5])), (R, .inr (5, [.int 0, .ref r0, .ref r1, .ref r2, .ref r3, .ref r4, .ref r5, .ref r6, .ref r7, .ref wr, .ref lr, .ref tt, .int 0, .int 0, .ref fr, .ref r8, .ref r9, .int 0]))]) rfl B
  refine lv_aload_n hx hb dX1_makeRound_80 rfl (lv_at hl 1 rfl) ?_
  refine lv_dup hx hb dX1_makeRound_81 rfl ?_
  refine x_get (ci := 1) (C := RX1) (T := TX1) (N := 17) (v := .int 0) B 0 rfl rfl in_X1 13 (by decide) mw_431 (fun _ h9 => h9) rfl dX1_makeRound_82 ?_
  refine lv_iconst (v := 1) hx hb dX1_makeRound_85 (by decide) ?_
  refine lv_iadd hx hb dX1_makeRound_86 ?_
  refine lv_seti (y := 1) (by decide) ?_
  refine x_put (ci := 1) (C := RX1) (T := TX1) (N := 17) (ty := .int) (v := .int 1) B tyX1_ok nmX1 0 rfl rfl in_X1 13 (by decide) mw_431 (fun _ h9 => h9) rfl (by decide +kernel) rfl rfl (Nat.le_of_ble_eq_true rfl) dX1_makeRound_87 (fun H locs B => ?_)
  have B := bd_to (ws' := [(L, .inr (1, [.ref T, .int v, .ref LN, .ref R, .ref P, .int 1, .int 0, .ref lc, .ref le, .ref ll, .ref ld, .ref wl, .ref op, .int 1, .int 0, .int 1365, .ref dg])), (dg, .inl (k 0, 730, .inl (upd (fun _ => 0) 0 1365))), (T, .inr (8, [.ref bl, .ref pt, .ref fk, .ref fh, .int 0, .ref ky, .int 60, .int 12])), (bl, .inr (11, [.int 0, .ref (dI 99 1), .int 0])), (tt, .inl (k 1, 8, .inl (upd (upd (upd (upd (upd (upd (upd (upd (fun _ => 0) 0 0) 1 0) 2 0) 3 0) 4 0) 5 0) 6 0) 7 0))), (lr, .inl (k 0, 6, .inl gl_1)), (P, .inr (4, [.ref T, .ref R, .ref pg, .ref ST, .int 0, .int 0, .ref p0, .ref p1, .ref p2, .ref p3, .ref p4, .ref p5])), (R, .inr (5, [.int 0, .ref r0, .ref r1, .ref r2, .ref r3, .ref r4, .ref r5, .ref r6, .ref r7, .ref wr, .ref lr, .ref tt, .int 0, .int 0, .ref fr, .ref r8, .ref r9, .int 0]))]) rfl B
  refine lv_aload_n hx hb dX1_makeRound_90 rfl (lv_at hl 1 rfl) ?_
  refine lv_aload_n hx hb dX1_makeRound_91 rfl (lv_at hl 1 rfl) ?_
  refine x_get (ci := 1) (C := RX1) (T := TX1) (N := 17) (v := .int 0) B 0 rfl rfl in_X1 6 (by decide) mw_420 (fun _ h9 => h9) rfl dX1_makeRound_92 ?_
  refine lv_if_ne (tgt := 102) hx hb dX1_makeRound_95 (by decide) (fun c9 => absurd c9 (by decide)) (fun _ => ?_)
  refine lv_iconst (v := 1) hx hb dX1_makeRound_98 (by decide) ?_
  refine lv_goto (tgt := 103) hx hb dX1_makeRound_99 (by decide) ?_
  refine x_put (ci := 1) (C := RX1) (T := TX1) (N := 17) (ty := .boolean) (v := .int 1) B tyX1_ok nmX1 0 rfl rfl in_X1 5 (by decide) mw_418 (fun _ h9 => h9) rfl (by decide +kernel) (by decide) rfl (Nat.le_of_ble_eq_true rfl) dX1_makeRound_103 (fun H locs B => ?_)
  have B := bd_to (ws' := [(L, .inr (1, [.ref T, .int v, .ref LN, .ref R, .ref P, .int 1, .int 0, .ref lc, .ref le, .ref ll, .ref ld, .ref wl, .ref op, .int 1, .int 0, .int 1365, .ref dg])), (dg, .inl (k 0, 730, .inl (upd (fun _ => 0) 0 1365))), (T, .inr (8, [.ref bl, .ref pt, .ref fk, .ref fh, .int 0, .ref ky, .int 60, .int 12])), (bl, .inr (11, [.int 0, .ref (dI 99 1), .int 0])), (tt, .inl (k 1, 8, .inl (upd (upd (upd (upd (upd (upd (upd (upd (fun _ => 0) 0 0) 1 0) 2 0) 3 0) 4 0) 5 0) 6 0) 7 0))), (lr, .inl (k 0, 6, .inl gl_1)), (P, .inr (4, [.ref T, .ref R, .ref pg, .ref ST, .int 0, .int 0, .ref p0, .ref p1, .ref p2, .ref p3, .ref p4, .ref p5])), (R, .inr (5, [.int 0, .ref r0, .ref r1, .ref r2, .ref r3, .ref r4, .ref r5, .ref r6, .ref r7, .ref wr, .ref lr, .ref tt, .int 0, .int 0, .ref fr, .ref r8, .ref r9, .int 0]))]) rfl B
  refine lv_aload_n hx hb dX1_makeRound_106 rfl (lv_at hl 1 rfl) ?_
  refine x_get (ci := 1) (C := RX1) (T := TX1) (N := 17) (v := .int 1) B 0 rfl rfl in_X1 5 (by decide) mw_418 (fun _ h9 => h9) rfl dX1_makeRound_107 ?_
  refine lv_if_eq (tgt := 121) hx hb dX1_makeRound_110 (by decide) (fun c9 => absurd c9 (by decide)) (fun _ => ?_)
  refine lv_aload_n hx hb dX1_makeRound_113 rfl (lv_at hl 1 rfl) ?_
  refine lv_aload_n hx hb dX1_makeRound_114 rfl (lv_at hl 1 rfl) ?_
  refine x_callV (rest := [.ref L]) (wr := [(dg, .inl (k 0, 730, .inl (upd (fun _ => 0) 0 1365))), (T, .inr (8, [.ref bl, .ref pt, .ref fk, .ref fh, .int 0, .ref ky, .int 60, .int 12])), (bl, .inr (11, [.int 0, .ref (dI 99 1), .int 0])), (tt, .inl (k 1, 8, .inl (upd (upd (upd (upd (upd (upd (upd (upd (fun _ => 0) 0 0) 1 0) 2 0) 3 0) 4 0) 5 0) 6 0) 7 0))), (P, .inr (4, [.ref T, .ref R, .ref pg, .ref ST, .int 0, .int 0, .ref p0, .ref p1, .ref p2, .ref p3, .ref p4, .ref p5]))]) (c_digitsOfPages l dC dI k L lc le ll ld wl op dg T LN R P v r0 r1 r2 r3 r4 r5 r6 r7 wr lr tt fr r8 r9 gl_1 z_2) B mV_X1_digitsOfPages mw_1650 hl [0, 7, 5] [1, 2, 3, 4, 6] rfl rfl ⟨by decide, by decide⟩ (by decide) (q0 := 0) rfl rfl rfl ⟨Nat.le_of_ble_eq_true rfl, Nat.le_of_ble_eq_true rfl⟩ (Nat.le_of_ble_eq_true rfl) rfl dX1_makeRound_115 ⟨Nat.le_of_ble_eq_true rfl, Nat.le_of_ble_eq_true rfl⟩ (fun r w H locs hp B => ?_)
  obtain ⟨rfl, rfl⟩ := hp
  have B := bd_to (ws' := [(dg, .inl (k 0, 730, .inl (upd (fun _ => 0) 0 1365))), (T, .inr (8, [.ref bl, .ref pt, .ref fk, .ref fh, .int 0, .ref ky, .int 60, .int 12])), (bl, .inr (11, [.int 0, .ref (dI 99 1), .int 0])), (tt, .inl (k 1, 8, .inl (upd (upd (upd (upd (upd (upd (upd (upd (fun _ => 0) 0 0) 1 0) 2 0) 3 0) 4 0) 5 0) 6 0) 7 0))), (P, .inr (4, [.ref T, .ref R, .ref pg, .ref ST, .int 0, .int 0, .ref p0, .ref p1, .ref p2, .ref p3, .ref p4, .ref p5])), (L, .inr (1, [.ref T, .int v, .ref LN, .ref R, .ref P, .int 1, .int 0, .ref lc, .ref le, .ref ll, .ref ld, .ref wl, .ref op, .int 1, .int 0, .int 1365, .ref dg])), (R, .inr (5, [.int 0, .ref r0, .ref r1, .ref r2, .ref r3, .ref r4, .ref r5, .ref r6, .ref r7, .ref wr, .ref lr, .ref tt, .int 0, .int 0, .ref fr, .ref r8, .ref r9, .int 0])), (lr, .inl (k 0, 6, .inl gl_1))]) rfl B
  refine x_callV (rest := []) (wr := [(dg, .inl (k 0, 730, .inl (upd (fun _ => 0) 0 1365))), (T, .inr (8, [.ref bl, .ref pt, .ref fk, .ref fh, .int 0, .ref ky, .int 60, .int 12])), (bl, .inr (11, [.int 0, .ref (dI 99 1), .int 0])), (tt, .inl (k 1, 8, .inl (upd (upd (upd (upd (upd (upd (upd (upd (fun _ => 0) 0 0) 1 0) 2 0) 3 0) 4 0) 5 0) 6 0) 7 0))), (P, .inr (4, [.ref T, .ref R, .ref pg, .ref ST, .int 0, .int 0, .ref p0, .ref p1, .ref p2, .ref p3, .ref p4, .ref p5])), (R, .inr (5, [.int 0, .ref r0, .ref r1, .ref r2, .ref r3, .ref r4, .ref r5, .ref r6, .ref r7, .ref wr, .ref lr, .ref tt, .int 0, .int 0, .ref fr, .ref r8, .ref r9, .int 0])), (lr, .inl (k 0, 6, .inl gl_1))]) (c_compareDigits l dC dI k L lc le ll ld wl op dg T LN R P v) B mV_X1_compareDigits mw_1662 hl [5] [0, 1, 2, 3, 4, 6, 7] rfl rfl ⟨by decide, by decide⟩ (by decide) (q0 := 0) rfl rfl rfl ⟨Nat.le_of_ble_eq_true rfl, Nat.le_of_ble_eq_true rfl⟩ (Nat.le_of_ble_eq_true rfl) rfl dX1_makeRound_118 ⟨Nat.le_of_ble_eq_true rfl, Nat.le_of_ble_eq_true rfl⟩ (fun r w H locs hp B => ?_)
  obtain ⟨rfl, rfl⟩ := hp
  have B := bd_to (ws' := [(dg, .inl (k 0, 730, .inl (upd (fun _ => 0) 0 1365))), (T, .inr (8, [.ref bl, .ref pt, .ref fk, .ref fh, .int 0, .ref ky, .int 60, .int 12])), (bl, .inr (11, [.int 0, .ref (dI 99 1), .int 0])), (tt, .inl (k 1, 8, .inl (upd (upd (upd (upd (upd (upd (upd (upd (fun _ => 0) 0 0) 1 0) 2 0) 3 0) 4 0) 5 0) 6 0) 7 0))), (P, .inr (4, [.ref T, .ref R, .ref pg, .ref ST, .int 0, .int 0, .ref p0, .ref p1, .ref p2, .ref p3, .ref p4, .ref p5])), (R, .inr (5, [.int 0, .ref r0, .ref r1, .ref r2, .ref r3, .ref r4, .ref r5, .ref r6, .ref r7, .ref wr, .ref lr, .ref tt, .int 0, .int 0, .ref fr, .ref r8, .ref r9, .int 0])), (lr, .inl (k 0, 6, .inl gl_1)), (L, .inr (1, [.ref T, .int v, .ref LN, .ref R, .ref P, .int 0, .int 0, .ref lc, .ref le, .ref ll, .ref ld, .ref wl, .ref op, .int 1, .int 1, .int 1365, .ref dg]))]) rfl B
  have B := bd_sub (ws' := [(L, .inr (1, [.ref T, .int v, .ref LN, .ref R, .ref P, .int 0, .int 0, .ref lc, .ref le, .ref ll, .ref ld, .ref wl, .ref op, .int 1, .int 1, .int 1365, .ref dg])), (T, .inr (8, [.ref bl, .ref pt, .ref fk, .ref fh, .int 0, .ref ky, .int 60, .int 12])), (bl, .inr (11, [.int 0, .ref (dI 99 1), .int 0])), (R, .inr (5, [.int 0, .ref r0, .ref r1, .ref r2, .ref r3, .ref r4, .ref r5, .ref r6, .ref r7, .ref wr, .ref lr, .ref tt, .int 0, .int 0, .ref fr, .ref r8, .ref r9, .int 0])), (tt, .inl (k 1, 8, .inl (upd (upd (upd (upd (upd (upd (upd (upd (fun _ => 0) 0 0) 1 0) 2 0) 3 0) 4 0) 5 0) 6 0) 7 0))), (lr, .inl (k 0, 6, .inl gl_1)), (P, .inr (4, [.ref T, .ref R, .ref pg, .ref ST, .int 0, .int 0, .ref p0, .ref p1, .ref p2, .ref p3, .ref p4, .ref p5]))]) [7, 1, 2, 5, 3, 6, 4] (by decide) rfl B
  exact x_vret B hr (⟨gl_1, z_2, rfl, rfl⟩) (Nat.le_of_ble_eq_true rfl) (Nat.le_of_ble_eq_true rfl) dX1_makeRound_121

end
