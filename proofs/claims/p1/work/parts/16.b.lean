section
theorem mw_1932 : (Jvm.Cond.fieldLink "GalleyforgeModel" (426 : Nat) "GalleyforgeModel" "nodes" "I") ∈ gt := gt_at 2067 (by decide +kernel) (by decide +kernel)
theorem mw_1933 : (Jvm.Cond.fieldLink "GalleyforgeModel" (156 : Nat) "GalleyforgeModel" "nodeRow" "[I") ∈ gt := gt_at 2068 (by decide +kernel) (by decide +kernel)
theorem mw_1934 : (Jvm.Cond.fieldLink "GalleyforgeModel" (159 : Nat) "GalleyforgeModel" "nodeWait" "[I") ∈ gt := gt_at 2069 (by decide +kernel) (by decide +kernel)
theorem mw_1935 : (Jvm.Cond.fieldLink "GalleyforgeModel" (162 : Nat) "GalleyforgeModel" "nodeLeft" "[I") ∈ gt := gt_at 2070 (by decide +kernel) (by decide +kernel)
theorem mw_1936 : (Jvm.Cond.fieldLink "GalleyforgeModel" (165 : Nat) "GalleyforgeModel" "nodeCost" "[I") ∈ gt := gt_at 2071 (by decide +kernel) (by decide +kernel)
theorem mw_1937 : (Jvm.Cond.fieldLink "GalleyforgeModel" (168 : Nat) "GalleyforgeModel" "nodePages" "[I") ∈ gt := gt_at 2072 (by decide +kernel) (by decide +kernel)
theorem mw_1938 : (Jvm.Cond.fieldLink "GalleyforgeModel" (171 : Nat) "GalleyforgeModel" "nodeParent" "[I") ∈ gt := gt_at 2073 (by decide +kernel) (by decide +kernel)
theorem mw_1939 : (Jvm.Cond.fieldLink "GalleyforgeModel" (174 : Nat) "GalleyforgeModel" "nodeRows" "[I") ∈ gt := gt_at 2074 (by decide +kernel) (by decide +kernel)
theorem dX12_node_0 : decode cX12_node 0 = .ok (.aload_n 0, 1) := by decide +kernel
theorem dX12_node_1 : decode cX12_node 1 = .ok (.getfield 156, 3) := by decide +kernel
theorem dX12_node_4 : decode cX12_node 4 = .ok (.aload_n 0, 1) := by decide +kernel
theorem dX12_node_5 : decode cX12_node 5 = .ok (.getfield 426, 3) := by decide +kernel
theorem dX12_node_8 : decode cX12_node 8 = .ok (.iload_n 1, 1) := by decide +kernel
theorem dX12_node_9 : decode cX12_node 9 = .ok (.iastore, 1) := by decide +kernel
theorem dX12_node_10 : decode cX12_node 10 = .ok (.aload_n 0, 1) := by decide +kernel
theorem dX12_node_11 : decode cX12_node 11 = .ok (.getfield 159, 3) := by decide +kernel
theorem dX12_node_14 : decode cX12_node 14 = .ok (.aload_n 0, 1) := by decide +kernel
theorem dX12_node_15 : decode cX12_node 15 = .ok (.getfield 426, 3) := by decide +kernel
theorem dX12_node_18 : decode cX12_node 18 = .ok (.iload_n 2, 1) := by decide +kernel
theorem dX12_node_19 : decode cX12_node 19 = .ok (.iastore, 1) := by decide +kernel
theorem dX12_node_20 : decode cX12_node 20 = .ok (.aload_n 0, 1) := by decide +kernel
theorem dX12_node_21 : decode cX12_node 21 = .ok (.getfield 162, 3) := by decide +kernel
theorem dX12_node_24 : decode cX12_node 24 = .ok (.aload_n 0, 1) := by decide +kernel
theorem dX12_node_25 : decode cX12_node 25 = .ok (.getfield 426, 3) := by decide +kernel
theorem dX12_node_28 : decode cX12_node 28 = .ok (.iload_n 3, 1) := by decide +kernel
theorem dX12_node_29 : decode cX12_node 29 = .ok (.iastore, 1) := by decide +kernel
theorem dX12_node_30 : decode cX12_node 30 = .ok (.aload_n 0, 1) := by decide +kernel
theorem dX12_node_31 : decode cX12_node 31 = .ok (.getfield 165, 3) := by decide +kernel
theorem dX12_node_34 : decode cX12_node 34 = .ok (.aload_n 0, 1) := by decide +kernel
theorem dX12_node_35 : decode cX12_node 35 = .ok (.getfield 426, 3) := by decide +kernel
theorem dX12_node_38 : decode cX12_node 38 = .ok (.iload 4, 2) := by decide +kernel
theorem dX12_node_40 : decode cX12_node 40 = .ok (.iastore, 1) := by decide +kernel
theorem dX12_node_41 : decode cX12_node 41 = .ok (.aload_n 0, 1) := by decide +kernel
theorem dX12_node_42 : decode cX12_node 42 = .ok (.getfield 168, 3) := by decide +kernel
theorem dX12_node_45 : decode cX12_node 45 = .ok (.aload_n 0, 1) := by decide +kernel
theorem dX12_node_46 : decode cX12_node 46 = .ok (.getfield 426, 3) := by decide +kernel
theorem dX12_node_49 : decode cX12_node 49 = .ok (.iload 5, 2) := by decide +kernel
theorem dX12_node_51 : decode cX12_node 51 = .ok (.iconst (-1), 1) := by decide +kernel
theorem dX12_node_52 : decode cX12_node 52 = .ok (.if_icmp .ne 7, 3) := by decide +kernel
theorem dX12_node_55 : decode cX12_node 55 = .ok (.iconst 0, 1) := by decide +kernel
theorem dX12_node_56 : decode cX12_node 56 = .ok (.goto 12, 3) := by decide +kernel
theorem dX12_node_68 : decode cX12_node 68 = .ok (.iastore, 1) := by decide +kernel
theorem dX12_node_69 : decode cX12_node 69 = .ok (.aload_n 0, 1) := by decide +kernel
theorem dX12_node_70 : decode cX12_node 70 = .ok (.getfield 171, 3) := by decide +kernel
theorem dX12_node_73 : decode cX12_node 73 = .ok (.aload_n 0, 1) := by decide +kernel
theorem dX12_node_74 : decode cX12_node 74 = .ok (.getfield 426, 3) := by decide +kernel
theorem dX12_node_77 : decode cX12_node 77 = .ok (.iload 5, 2) := by decide +kernel
theorem dX12_node_79 : decode cX12_node 79 = .ok (.iastore, 1) := by decide +kernel
theorem dX12_node_80 : decode cX12_node 80 = .ok (.aload_n 0, 1) := by decide +kernel
theorem dX12_node_81 : decode cX12_node 81 = .ok (.getfield 174, 3) := by decide +kernel
theorem dX12_node_84 : decode cX12_node 84 = .ok (.aload_n 0, 1) := by decide +kernel
theorem dX12_node_85 : decode cX12_node 85 = .ok (.getfield 426, 3) := by decide +kernel
theorem dX12_node_88 : decode cX12_node 88 = .ok (.iload 6, 2) := by decide +kernel
theorem dX12_node_90 : decode cX12_node 90 = .ok (.iastore, 1) := by decide +kernel
theorem dX12_node_91 : decode cX12_node 91 = .ok (.aload_n 0, 1) := by decide +kernel
theorem dX12_node_92 : decode cX12_node 92 = .ok (.dup, 1) := by decide +kernel
theorem dX12_node_93 : decode cX12_node 93 = .ok (.getfield 426, 3) := by decide +kernel
theorem dX12_node_96 : decode cX12_node 96 = .ok (.iconst 1, 1) := by decide +kernel
theorem dX12_node_97 : decode cX12_node 97 = .ok (.iadd, 1) := by decide +kernel
theorem dX12_node_98 : decode cX12_node 98 = .ok (.putfield 426, 3) := by decide +kernel
theorem dX12_node_101 : decode cX12_node 101 = .ok (.aload_n 0, 1) := by decide +kernel
theorem dX12_node_102 : decode cX12_node 102 = .ok (.getfield 426, 3) := by decide +kernel
theorem dX12_node_105 : decode cX12_node 105 = .ok (.iconst 1, 1) := by decide +kernel
theorem dX12_node_106 : decode cX12_node 106 = .ok (.isub, 1) := by decide +kernel
theorem dX12_node_107 : decode cX12_node 107 = .ok (.ireturn, 1) := by decide +kernel
set_option maxHeartbeats 4000000 in
set_option maxRecDepth 100000 in
theorem m_node (l : Launch) (dC : Nat → ClassId) (dI : Nat → Nat → Nat) (k : Nat → ClassId) (mo : Nat) (V : Nat → Value) (aNr : Nat) (aNw : Nat) (aNl : Nat) (aNc : Nat) (aNp : Nat) (aNq : Nat) (aNs : Nat) (h68 : V 68 = .int 0) (h69 : V 69 = .ref aNr) (h70 : V 70 = .ref aNw) (h71 : V 71 = .ref aNl) (h72 : V 72 = .ref aNc) (h73 : V 73 = .ref aNp) (h74 : V 74 = .ref aNq) (h75 : V 75 = .ref aNs) : Ct l dC dI k yX12_node (.code yX12_node cX12_node 7 (some .int)) ({ frames := 0, cells := 0, slots := 0, locals := 0 } : Room) [.ref mo, .int 0, .int 0, .int 0, .int 0, .int (-1), .int 0] [(mo, .inr (10, fvM V)), (aNr, .inl (k 0, 16000, .inl (fun _ => 0))), (aNw, .inl (k 0, 16000, .inl (fun _ => 0))), (aNl, .inl (k 0, 16000, .inl (fun _ => 0))), (aNc, .inl (k 0, 16000, .inl (fun _ => 0))), (aNp, .inl (k 0, 16000, .inl (fun _ => 0))), (aNq, .inl (k 0, 16000, .inl (fun _ => 0))), (aNs, .inl (k 0, 16000, .inl (fun _ => 0)))] (fun r w => (∃ (V1 : Nat → Value), (∀ i, i ∉ ([68] : List Nat) → V1 i = V i) ∧ V1 68 = .int 1 ∧ r = some (.int 0) ∧ w = [(mo, .inr (10, fvM V1)), (aNr, .inl (k 0, 16000, .inl (upd (fun _ => 0) 0 0))), (aNw, .inl (k 0, 16000, .inl (upd (fun _ => 0) 0 0))), (aNl, .inl (k 0, 16000, .inl (upd (fun _ => 0) 0 0))), (aNc, .inl (k 0, 16000, .inl (upd (fun _ => 0) 0 0))), (aNp, .inl (k 0, 16000, .inl (upd (fun _ => 0) 0 0))), (aNq, .inl (k 0, 16000, .inl (upd (fun _ => 0) 0 (-1)))), (aNs, .inl (k 0, 16000, .inl (upd (fun _ => 0) 0 0)))])) := by
  refine ct_of (by decide) (Nat.le_of_ble_eq_true rfl) ?_
  intro p e s m args below meth c H locs B hr hnm ls hl
  have hx := B.1.1
  have hb := B.1.2.1
  have hl : lv_has ls 7 [(0, .ref mo), (1, .int 0), (2, .int 0), (3, .int 0), (4, .int 0), (5, .int (-1)), (6, .int 0)] := hl
  refine lv_aload_n hx hb dX12_node_0 rfl (lv_at hl 0 rfl) ?_
  refine x_get (ci := 10) (C := RX12) (T := TX12) (N := 93) (v := .ref aNr) B 0 rfl rfl in_X12 69 (by decide) mw_1933 (fun _ h9 => h9) (fvM_get (by decide) h69) dX12_node_1 ?_
  refine lv_aload_n hx hb dX12_node_4 rfl (lv_at hl 0 rfl) ?_
  refine x_get (ci := 10) (C := RX12) (T := TX12) (N := 93) (v := .int 0) B 0 rfl rfl in_X12 68 (by decide) mw_1932 (fun _ h9 => h9) (fvM_get (by decide) h68) dX12_node_5 ?_
  refine lv_iload_n hx hb dX12_node_8 rfl (lv_at hl 1 rfl) ?_
  refine x_iast B 1 rfl (vpc (by decide)) dX12_node_9 (j := 0) (by decide) (fun H locs B => ?_)
  have B := bd_to (ws' := [(mo, .inr (10, fvM V)), (aNr, .inl (k 0, 16000, .inl (upd (fun _ => 0) 0 0))), (aNw, .inl (k 0, 16000, .inl (fun _ => 0))), (aNl, .inl (k 0, 16000, .inl (fun _ => 0))), (aNc, .inl (k 0, 16000, .inl (fun _ => 0))), (aNp, .inl (k 0, 16000, .inl (fun _ => 0))), (aNq, .inl (k 0, 16000, .inl (fun _ => 0))), (aNs, .inl (k 0, 16000, .inl (fun _ => 0)))]) rfl B
  refine lv_aload_n hx hb dX12_node_10 rfl (lv_at hl 0 rfl) ?_
  refine x_get (ci := 10) (C := RX12) (T := TX12) (N := 93) (v := .ref aNw) B 0 rfl rfl in_X12 70 (by decide) mw_1934 (fun _ h9 => h9) (fvM_get (by decide) h70) dX12_node_11 ?_
  refine lv_aload_n hx hb dX12_node_14 rfl (lv_at hl 0 rfl) ?_
  refine x_get (ci := 10) (C := RX12) (T := TX12) (N := 93) (v := .int 0) B 0 rfl rfl in_X12 68 (by decide) mw_1932 (fun _ h9 => h9) (fvM_get (by decide) h68) dX12_node_15 ?_
  refine lv_iload_n hx hb dX12_node_18 rfl (lv_at hl 2 rfl) ?_
  refine x_iast B 2 rfl (vpc (by decide)) dX12_node_19 (j := 0) (by decide) (fun H locs B => ?_)
  have B := bd_to (ws' := [(mo, .inr (10, fvM V)), (aNr, .inl (k 0, 16000, .inl (upd (fun _ => 0) 0 0))), (aNw, .inl (k 0, 16000, .inl (upd (fun _ => 0) 0 0))), (aNl, .inl (k 0, 16000, .inl (fun _ => 0))), (aNc, .inl (k 0, 16000, .inl (fun _ => 0))), (aNp, .inl (k 0, 16000, .inl (fun _ => 0))), (aNq, .inl (k 0, 16000, .inl (fun _ => 0))), (aNs, .inl (k 0, 16000, .inl (fun _ => 0)))]) rfl B
  refine lv_aload_n hx hb dX12_node_20 rfl (lv_at hl 0 rfl) ?_
  refine x_get (ci := 10) (C := RX12) (T := TX12) (N := 93) (v := .ref aNl) B 0 rfl rfl in_X12 71 (by decide) mw_1935 (fun _ h9 => h9) (fvM_get (by decide) h71) dX12_node_21 ?_
  refine lv_aload_n hx hb dX12_node_24 rfl (lv_at hl 0 rfl) ?_
  refine x_get (ci := 10) (C := RX12) (T := TX12) (N := 93) (v := .int 0) B 0 rfl rfl in_X12 68 (by decide) mw_1932 (fun _ h9 => h9) (fvM_get (by decide) h68) dX12_node_25 ?_
  refine lv_iload_n hx hb dX12_node_28 rfl (lv_at hl 3 rfl) ?_
  refine x_iast B 3 rfl (vpc (by decide)) dX12_node_29 (j := 0) (by decide) (fun H locs B => ?_)
  have B := bd_to (ws' := [(mo, .inr (10, fvM V)), (aNr, .inl (k 0, 16000, .inl (upd (fun _ => 0) 0 0))), (aNw, .inl (k 0, 16000, .inl (upd (fun _ => 0) 0 0))), (aNl, .inl (k 0, 16000, .inl (upd (fun _ => 0) 0 0))), (aNc, .inl (k 0, 16000, .inl (fun _ => 0))), (aNp, .inl (k 0, 16000, .inl (fun _ => 0))), (aNq, .inl (k 0, 16000, .inl (fun _ => 0))), (aNs, .inl (k 0, 16000, .inl (fun _ => 0)))]) rfl B
  refine lv_aload_n hx hb dX12_node_30 rfl (lv_at hl 0 rfl) ?_
  refine x_get (ci := 10) (C := RX12) (T := TX12) (N := 93) (v := .ref aNc) B 0 rfl rfl in_X12 72 (by decide) mw_1936 (fun _ h9 => h9) (fvM_get (by decide) h72) dX12_node_31 ?_
  refine lv_aload_n hx hb dX12_node_34 rfl (lv_at hl 0 rfl) ?_
  refine x_get (ci := 10) (C := RX12) (T := TX12) (N := 93) (v := .int 0) B 0 rfl rfl in_X12 68 (by decide) mw_1932 (fun _ h9 => h9) (fvM_get (by decide) h68) dX12_node_35 ?_
  refine lv_iload hx hb dX12_node_38 (lv_at hl 4 rfl) ?_
  refine x_iast B 4 rfl (vpc (by decide)) dX12_node_40 (j := 0) (by decide) (fun H locs B => ?_)
  have B := bd_to (ws' := [(mo, .inr (10, fvM V)), (aNr, .inl (k 0, 16000, .inl (upd (fun _ => 0) 0 0))), (aNw, .inl (k 0, 16000, .inl (upd (fun _ => 0) 0 0))), (aNl, .inl (k 0, 16000, .inl (upd (fun _ => 0) 0 0))), (aNc, .inl (k 0, 16000, .inl (upd (fun _ => 0) 0 0))), (aNp, .inl (k 0, 16000, .inl (fun _ => 0))), (aNq, .inl (k 0, 16000, .inl (fun _ => 0))), (aNs, .inl (k 0, 16000, .inl (fun _ => 0)))]) rfl B
  refine lv_aload_n hx hb dX12_node_41 rfl (lv_at hl 0 rfl) ?_
  refine x_get (ci := 10) (C := RX12) (T := TX12) (N := 93) (v := .ref aNp) B 0 rfl rfl in_X12 73 (by decide) mw_1937 (fun _ h9 => h9) (fvM_get (by decide) h73) dX12_node_42 ?_
  refine lv_aload_n hx hb dX12_node_45 rfl (lv_at hl 0 rfl) ?_
  refine x_get (ci := 10) (C := RX12) (T := TX12) (N := 93) (v := .int 0) B 0 rfl rfl in_X12 68 (by decide) mw_1932 (fun _ h9 => h9) (fvM_get (by decide) h68) dX12_node_46 ?_
  refine lv_iload hx hb dX12_node_49 (lv_at hl 5 rfl) ?_
  refine lv_iconst (v := (-1)) hx hb dX12_node_51 (by decide) ?_
  refine lv_icmp_ne (tgt := 59) hx hb dX12_node_52 (by decide) (fun c9 => absurd c9 (by decide)) (fun _ => ?_)
  refine lv_iconst (v := 0) hx hb dX12_node_55 (by decide) ?_
  refine lv_goto (tgt := 68) hx hb dX12_node_56 (by decide) ?_
  refine x_iast B 5 rfl (vpc (by decide)) dX12_node_68 (j := 0) (by decide) (fun H locs B => ?_)
  have B := bd_to (ws' := [(mo, .inr (10, fvM V)), (aNr, .inl (k 0, 16000, .inl (upd (fun _ => 0) 0 0))), (aNw, .inl (k 0, 16000, .inl (upd (fun _ => 0) 0 0))), (aNl, .inl (k 0, 16000, .inl (upd (fun _ => 0) 0 0))), (aNc, .inl (k 0, 16000, .inl (upd (fun _ => 0) 0 0))), (aNp, .inl (k 0, 16000, .inl (upd (fun _ => 0) 0 0))), (aNq, .inl (k 0, 16000, .inl (fun _ => 0))), (aNs, .inl (k 0, 16000, .inl (fun _ => 0)))]) rfl B
  refine lv_aload_n hx hb dX12_node_69 rfl (lv_at hl 0 rfl) ?_
  refine x_get (ci := 10) (C := RX12) (T := TX12) (N := 93) (v := .ref aNq) B 0 rfl rfl in_X12 74 (by decide) mw_1938 (fun _ h9 => h9) (fvM_get (by decide) h74) dX12_node_70 ?_
  refine lv_aload_n hx hb dX12_node_73 rfl (lv_at hl 0 rfl) ?_
  refine x_get (ci := 10) (C := RX12) (T := TX12) (N := 93) (v := .int 0) B 0 rfl rfl in_X12 68 (by decide) mw_1932 (fun _ h9 => h9) (fvM_get (by decide) h68) dX12_node_74 ?_
  refine lv_iload hx hb dX12_node_77 (lv_at hl 5 rfl) ?_
  refine x_iast B 6 rfl (vpc (by decide)) dX12_node_79 (j := 0) (by decide) (fun H locs B => ?_)
  have B := bd_to (ws' := [(mo, .inr (10, fvM V)), (aNr, .inl (k 0, 16000, .inl (upd (fun _ => 0) 0 0))), (aNw, .inl (k 0, 16000, .inl (upd (fun _ => 0) 0 0))), (aNl, .inl (k 0, 16000, .inl (upd (fun _ => 0) 0 0))), (aNc, .inl (k 0, 16000, .inl (upd (fun _ => 0) 0 0))), (aNp, .inl (k 0, 16000, .inl (upd (fun _ => 0) 0 0))), (aNq, .inl (k 0, 16000, .inl (upd (fun _ => 0) 0 (-1)))), (aNs, .inl (k 0, 16000, .inl (fun _ => 0)))]) rfl B
  refine lv_aload_n hx hb dX12_node_80 rfl (lv_at hl 0 rfl) ?_
  refine x_get (ci := 10) (C := RX12) (T := TX12) (N := 93) (v := .ref aNs) B 0 rfl rfl in_X12 75 (by decide) mw_1939 (fun _ h9 => h9) (fvM_get (by decide) h75) dX12_node_81 ?_
  refine lv_aload_n hx hb dX12_node_84 rfl (lv_at hl 0 rfl) ?_
  refine x_get (ci := 10) (C := RX12) (T := TX12) (N := 93) (v := .int 0) B 0 rfl rfl in_X12 68 (by decide) mw_1932 (fun _ h9 => h9) (fvM_get (by decide) h68) dX12_node_85 ?_
  refine lv_iload hx hb dX12_node_88 (lv_at hl 6 rfl) ?_
  refine x_iast B 7 rfl (vpc (by decide)) dX12_node_90 (j := 0) (by decide) (fun H locs B => ?_)
  have B := bd_to (ws' := [(mo, .inr (10, fvM V)), (aNr, .inl (k 0, 16000, .inl (upd (fun _ => 0) 0 0))), (aNw, .inl (k 0, 16000, .inl (upd (fun _ => 0) 0 0))), (aNl, .inl (k 0, 16000, .inl (upd (fun _ => 0) 0 0))), (aNc, .inl (k 0, 16000, .inl (upd (fun _ => 0) 0 0))), (aNp, .inl (k 0, 16000, .inl (upd (fun _ => 0) 0 0))), (aNq, .inl (k 0, 16000, .inl (upd (fun _ => 0) 0 (-1)))), (aNs, .inl (k 0, 16000, .inl (upd (fun _ => 0) 0 0)))]) rfl B
  refine lv_aload_n hx hb dX12_node_91 rfl (lv_at hl 0 rfl) ?_
  refine lv_dup hx hb dX12_node_92 rfl ?_
  refine x_get (ci := 10) (C := RX12) (T := TX12) (N := 93) (v := .int 0) B 0 rfl rfl in_X12 68 (by decide) mw_1932 (fun _ h9 => h9) (fvM_get (by decide) h68) dX12_node_93 ?_
  refine lv_iconst (v := 1) hx hb dX12_node_96 (by decide) ?_
  refine lv_iadd hx hb dX12_node_97 ?_
  refine lv_seti (y := 1) (by decide) ?_
  refine x_put (ci := 10) (C := RX12) (T := TX12) (N := 93) (ty := .int) (v := .int 1) B tyX12_ok nmX12 0 rfl rfl in_X12 68 (by decide) mw_1932 (fun _ h9 => h9) rfl (by decide +kernel) rfl rfl (fvM_lt (by decide)) dX12_node_98 (fun H locs B => ?_)
  obtain ⟨V_1, hV_1, gV_1, eV_1⟩ := fvM_put V 68 (.int 1) (by decide)
  rw [eV_1] at B
  have B := bd_to (ws' := [(mo, .inr (10, fvM V_1)), (aNr, .inl (k 0, 16000, .inl (upd (fun _ => 0) 0 0))), (aNw, .inl (k 0, 16000, .inl (upd (fun _ => 0) 0 0))), (aNl, .inl (k 0, 16000, .inl (upd (fun _ => 0) 0 0))), (aNc, .inl (k 0, 16000, .inl (upd (fun _ => 0) 0 0))), (aNp, .inl (k 0, 16000, .inl (upd (fun _ => 0) 0 0))), (aNq, .inl (k 0, 16000, .inl (upd (fun _ => 0) 0 (-1)))), (aNs, .inl (k 0, 16000, .inl (upd (fun _ => 0) 0 0)))]) rfl B
  refine lv_aload_n hx hb dX12_node_101 rfl (lv_at hl 0 rfl) ?_
  refine x_get (ci := 10) (C := RX12) (T := TX12) (N := 93) (v := .int 1) B 0 rfl rfl in_X12 68 (by decide) mw_1932 (fun _ h9 => h9) (fvM_get (by decide) gV_1) dX12_node_102 ?_
  refine lv_iconst (v := 1) hx hb dX12_node_105 (by decide) ?_
  refine lv_isub hx hb dX12_node_106 ?_
  refine lv_seti (y := 0) (by decide) ?_
  have B := bd_sub (ws' := [(mo, .inr (10, fvM V_1)), (aNr, .inl (k 0, 16000, .inl (upd (fun _ => 0) 0 0))), (aNw, .inl (k 0, 16000, .inl (upd (fun _ => 0) 0 0))), (aNl, .inl (k 0, 16000, .inl (upd (fun _ => 0) 0 0))), (aNc, .inl (k 0, 16000, .inl (upd (fun _ => 0) 0 0))), (aNp, .inl (k 0, 16000, .inl (upd (fun _ => 0) 0 0))), (aNq, .inl (k 0, 16000, .inl (upd (fun _ => 0) 0 (-1)))), (aNs, .inl (k 0, 16000, .inl (upd (fun _ => 0) 0 0)))]) [0, 1, 2, 3, 4, 5, 6, 7] (by decide) rfl B
  exact x_iret B hr (⟨V_1, (fun i9 h9 => (hV_1 i9 (fun q9 => h9 (by rw [q9]; decide)))), gV_1, rfl, rfl⟩) (Nat.le_of_ble_eq_true rfl) (Nat.le_of_ble_eq_true rfl) dX12_node_107

theorem mw_1940 : (Jvm.Cond.fieldLink "GalleyforgeModel" (177 : Nat) "GalleyforgeModel" "nodeNext" "[I") ∈ gt := gt_at 2075 (by decide +kernel) (by decide +kernel)
theorem mw_1941 : (Jvm.Cond.fieldLink "GalleyforgeModel" (180 : Nat) "GalleyforgeModel" "rowNodes" "[I") ∈ gt := gt_at 2076 (by decide +kernel) (by decide +kernel)
theorem dX12_arrive_0 : decode cX12_arrive 0 = .ok (.iload_n 1, 1) := by decide +kernel
theorem dX12_arrive_1 : decode cX12_arrive 1 = .ok (.istore_n 2, 1) := by decide +kernel
theorem dX12_arrive_2 : decode cX12_arrive 2 = .ok (.aload_n 0, 1) := by decide +kernel
theorem dX12_arrive_3 : decode cX12_arrive 3 = .ok (.getfield 156, 3) := by decide +kernel
theorem dX12_arrive_6 : decode cX12_arrive 6 = .ok (.iload_n 2, 1) := by decide +kernel
theorem dX12_arrive_7 : decode cX12_arrive 7 = .ok (.iaload, 1) := by decide +kernel
theorem dX12_arrive_8 : decode cX12_arrive 8 = .ok (.aload_n 0, 1) := by decide +kernel
theorem dX12_arrive_9 : decode cX12_arrive 9 = .ok (.getfield 372, 3) := by decide +kernel
theorem dX12_arrive_12 : decode cX12_arrive 12 = .ok (.if_icmp .ge 84, 3) := by decide +kernel
theorem dX12_arrive_96 : decode cX12_arrive 96 = .ok (.aload_n 0, 1) := by decide +kernel
theorem dX12_arrive_97 : decode cX12_arrive 97 = .ok (.getfield 156, 3) := by decide +kernel
theorem dX12_arrive_100 : decode cX12_arrive 100 = .ok (.iload_n 2, 1) := by decide +kernel
theorem dX12_arrive_101 : decode cX12_arrive 101 = .ok (.iaload, 1) := by decide +kernel
theorem dX12_arrive_102 : decode cX12_arrive 102 = .ok (.istore_n 3, 1) := by decide +kernel
theorem dX12_arrive_103 : decode cX12_arrive 103 = .ok (.iconst (-1), 1) := by decide +kernel
theorem dX12_arrive_104 : decode cX12_arrive 104 = .ok (.istore 4, 2) := by decide +kernel
theorem dX12_arrive_106 : decode cX12_arrive 106 = .ok (.aload_n 0, 1) := by decide +kernel
theorem dX12_arrive_107 : decode cX12_arrive 107 = .ok (.getfield 180, 3) := by decide +kernel
theorem dX12_arrive_110 : decode cX12_arrive 110 = .ok (.iload_n 3, 1) := by decide +kernel
theorem dX12_arrive_111 : decode cX12_arrive 111 = .ok (.iaload, 1) := by decide +kernel
theorem dX12_arrive_112 : decode cX12_arrive 112 = .ok (.istore 5, 2) := by decide +kernel
theorem dX12_arrive_114 : decode cX12_arrive 114 = .ok (.iload 5, 2) := by decide +kernel
theorem dX12_arrive_116 : decode cX12_arrive 116 = .ok (.iconst (-1), 1) := by decide +kernel
theorem dX12_arrive_117 : decode cX12_arrive 117 = .ok (.if_icmp .eq 51, 3) := by decide +kernel
theorem dX12_arrive_168 : decode cX12_arrive 168 = .ok (.iload 5, 2) := by decide +kernel
theorem dX12_arrive_170 : decode cX12_arrive 170 = .ok (.iconst (-1), 1) := by decide +kernel
theorem dX12_arrive_171 : decode cX12_arrive 171 = .ok (.if_icmp .eq 19, 3) := by decide +kernel
theorem dX12_arrive_190 : decode cX12_arrive 190 = .ok (.aload_n 0, 1) := by decide +kernel
theorem dX12_arrive_191 : decode cX12_arrive 191 = .ok (.getfield 177, 3) := by decide +kernel
theorem dX12_arrive_194 : decode cX12_arrive 194 = .ok (.iload_n 2, 1) := by decide +kernel
theorem dX12_arrive_195 : decode cX12_arrive 195 = .ok (.iload 5, 2) := by decide +kernel
theorem dX12_arrive_197 : decode cX12_arrive 197 = .ok (.iconst (-1), 1) := by decide +kernel
theorem dX12_arrive_198 : decode cX12_arrive 198 = .ok (.if_icmp .ne 7, 3) := by decide +kernel
theorem dX12_arrive_201 : decode cX12_arrive 201 = .ok (.iconst (-1), 1) := by decide +kernel
theorem dX12_arrive_202 : decode cX12_arrive 202 = .ok (.goto 10, 3) := by decide +kernel
theorem dX12_arrive_212 : decode cX12_arrive 212 = .ok (.iastore, 1) := by decide +kernel
theorem dX12_arrive_213 : decode cX12_arrive 213 = .ok (.iload 4, 2) := by decide +kernel
theorem dX12_arrive_215 : decode cX12_arrive 215 = .ok (.iconst (-1), 1) := by decide +kernel
theorem dX12_arrive_216 : decode cX12_arrive 216 = .ok (.if_icmp .ne 13, 3) := by decide +kernel
theorem dX12_arrive_219 : decode cX12_arrive 219 = .ok (.aload_n 0, 1) := by decide +kernel
theorem dX12_arrive_220 : decode cX12_arrive 220 = .ok (.getfield 180, 3) := by decide +kernel
theorem dX12_arrive_223 : decode cX12_arrive 223 = .ok (.iload_n 3, 1) := by decide +kernel
theorem dX12_arrive_224 : decode cX12_arrive 224 = .ok (.iload_n 2, 1) := by decide +kernel
theorem dX12_arrive_225 : decode cX12_arrive 225 = .ok (.iastore, 1) := by decide +kernel
theorem dX12_arrive_226 : decode cX12_arrive 226 = .ok (.goto 11, 3) := by decide +kernel
theorem dX12_arrive_237 : decode cX12_arrive 237 = .ok (.return_, 1) := by decide +kernel
set_option maxHeartbeats 4000000 in
set_option maxRecDepth 100000 in
theorem m_arrive (l : Launch) (dC : Nat → ClassId) (dI : Nat → Nat → Nat) (k : Nat → ClassId) (mo : Nat) (V : Nat → Value) (aNr : Nat) (aNw : Nat) (aNl : Nat) (aNn : Nat) (aRn : Nat) (h48 : V 48 = .int 0) (h69 : V 69 = .ref aNr) (h70 : V 70 = .ref aNw) (h71 : V 71 = .ref aNl) (h76 : V 76 = .ref aNn) (h77 : V 77 = .ref aRn) : Ct l dC dI k yX12_arrive (.code yX12_arrive cX12_arrive 6 none) ({ frames := 0, cells := 0, slots := 0, locals := 0 } : Room) [.ref mo, .int 0] [(mo, .inr (10, fvM V)), (aNr, .inl (k 0, 16000, .inl (upd (fun _ => 0) 0 0))), (aNw, .inl (k 0, 16000, .inl (upd (fun _ => 0) 0 0))), (aNl, .inl (k 0, 16000, .inl (upd (fun _ => 0) 0 0))), (aNn, .inl (k 0, 16000, .inl (fun _ => 0))), (aRn, .inl (k 0, 769, .inl (upd (fun _ => 0) 0 (-1))))] (fun r w => (r = none ∧ w = [(mo, .inr (10, fvM V)), (aNr, .inl (k 0, 16000, .inl (upd (fun _ => 0) 0 0))), (aNw, .inl (k 0, 16000, .inl (upd (fun _ => 0) 0 0))), (aNl, .inl (k 0, 16000, .inl (upd (fun _ => 0) 0 0))), (aNn, .inl (k 0, 16000, .inl (upd (fun _ => 0) 0 (-1)))), (aRn, .inl (k 0, 769, .inl (upd (upd (fun _ => 0) 0 (-1)) 0 0)))])) := by
  refine ct_of (by decide) (Nat.le_of_ble_eq_true rfl) ?_
  intro p e s m args below meth c H locs B hr hnm ls hl
  have hx := B.1.1
  have hb := B.1.2.1
  have hl : lv_has ls 6 [(0, .ref mo), (1, .int 0)] := hl
  refine lv_iload_n hx hb dX12_arrive_0 rfl (lv_at hl 1 rfl) ?_
  refine lv_istore_n (lv' := [(2, .int 0), (0, .ref mo), (1, .int 0)]) hx hb dX12_arrive_1 rfl hl (by decide) rfl (fun ls hl => ?_)
  refine lv_aload_n hx hb dX12_arrive_2 rfl (lv_at hl 1 rfl) ?_
  refine x_get (ci := 10) (C := RX12) (T := TX12) (N := 93) (v := .ref aNr) B 0 rfl rfl in_X12 69 (by decide) mw_1933 (fun _ h9 => h9) (fvM_get (by decide) h69) dX12_arrive_3 ?_
  refine lv_iload_n hx hb dX12_arrive_6 rfl (lv_at hl 0 rfl) ?_
  refine x_iald (v := 0) B 1 rfl (vpc (by decide)) dX12_arrive_7 (by rfl) ?_
  refine lv_aload_n hx hb dX12_arrive_8 rfl (lv_at hl 1 rfl) ?_
  refine x_get (ci := 10) (C := RX12) (T := TX12) (N := 93) (v := .int 0) B 0 rfl rfl in_X12 48 (by decide) mw_1912 (fun _ h9 => h9) (fvM_get (by decide) h48) dX12_arrive_9 ?_
  refine lv_icmp_ge (tgt := 96) hx hb dX12_arrive_12 (by decide) (fun _ => ?_) (fun c9 => absurd (by decide) c9)
  refine lv_aload_n hx hb dX12_arrive_96 rfl (lv_at hl 1 rfl) ?_
  refine x_get (ci := 10) (C := RX12) (T := TX12) (N := 93) (v := .ref aNr) B 0 rfl rfl in_X12 69 (by decide) mw_1933 (fun _ h9 => h9) (fvM_get (by decide) h69) dX12_arrive_97 ?_
  refine lv_iload_n hx hb dX12_arrive_100 rfl (lv_at hl 0 rfl) ?_
  refine x_iald (v := 0) B 1 rfl (vpc (by decide)) dX12_arrive_101 (by rfl) ?_
  refine lv_istore_n (lv' := [(3, .int 0), (2, .int 0), (0, .ref mo), (1, .int 0)]) hx hb dX12_arrive_102 rfl hl (by decide) rfl (fun ls hl => ?_)
  refine lv_iconst (v := (-1)) hx hb dX12_arrive_103 (by decide) ?_
  refine lv_istore (lv' := [(4, .int (-1)), (3, .int 0), (2, .int 0), (0, .ref mo), (1, .int 0)]) hx hb dX12_arrive_104 hl (by decide) rfl (fun ls hl => ?_)
  refine lv_aload_n hx hb dX12_arrive_106 rfl (lv_at hl 3 rfl) ?_
  refine x_get (ci := 10) (C := RX12) (T := TX12) (N := 93) (v := .ref aRn) B 0 rfl rfl in_X12 77 (by decide) mw_1941 (fun _ h9 => h9) (fvM_get (by decide) h77) dX12_arrive_107 ?_
  refine lv_iload_n hx hb dX12_arrive_110 rfl (lv_at hl 1 rfl) ?_
  refine x_iald (v := (-1)) B 5 rfl (vpc (by decide)) dX12_arrive_111 (by rfl) ?_
  refine lv_istore (lv' := [(5, .int (-1)), (4, .int (-1)), (3, .int 0), (2, .int 0), (0, .ref mo), (1, .int 0)]) hx hb dX12_arrive_112 hl (by decide) rfl (fun ls hl => ?_)
  refine lv_iload hx hb dX12_arrive_114 (lv_at hl 0 rfl) ?_
  refine lv_iconst (v := (-1)) hx hb dX12_arrive_116 (by decide) ?_
  refine lv_icmp_eq (tgt := 168) hx hb dX12_arrive_117 (by decide) (fun _ => ?_) (fun c9 => absurd (by decide) c9)
  refine lv_iload hx hb dX12_arrive_168 (lv_at hl 0 rfl) ?_
  refine lv_iconst (v := (-1)) hx hb dX12_arrive_170 (by decide) ?_
  refine lv_icmp_eq (tgt := 190) hx hb dX12_arrive_171 (by decide) (fun _ => ?_) (fun c9 => absurd (by decide) c9)
  refine lv_aload_n hx hb dX12_arrive_190 rfl (lv_at hl 4 rfl) ?_
  refine x_get (ci := 10) (C := RX12) (T := TX12) (N := 93) (v := .ref aNn) B 0 rfl rfl in_X12 76 (by decide) mw_1940 (fun _ h9 => h9) (fvM_get (by decide) h76) dX12_arrive_191 ?_
  refine lv_iload_n hx hb dX12_arrive_194 rfl (lv_at hl 3 rfl) ?_
  refine lv_iload hx hb dX12_arrive_195 (lv_at hl 0 rfl) ?_
  refine lv_iconst (v := (-1)) hx hb dX12_arrive_197 (by decide) ?_
  refine lv_icmp_ne (tgt := 205) hx hb dX12_arrive_198 (by decide) (fun c9 => absurd c9 (by decide)) (fun _ => ?_)
  refine lv_iconst (v := (-1)) hx hb dX12_arrive_201 (by decide) ?_
  refine lv_goto (tgt := 212) hx hb dX12_arrive_202 (by decide) ?_
  refine x_iast B 4 rfl (vpc (by decide)) dX12_arrive_212 (j := 0) (by decide) (fun H locs B => ?_)
  have B := bd_to (ws' := [(mo, .inr (10, fvM V)), (aNr, .inl (k 0, 16000, .inl (upd (fun _ => 0) 0 0))), (aNw, .inl (k 0, 16000, .inl (upd (fun _ => 0) 0 0))), (aNl, .inl (k 0, 16000, .inl (upd (fun _ => 0) 0 0))), (aNn, .inl (k 0, 16000, .inl (upd (fun _ => 0) 0 (-1)))), (aRn, .inl (k 0, 769, .inl (upd (fun _ => 0) 0 (-1))))]) rfl B
  refine lv_iload hx hb dX12_arrive_213 (lv_at hl 1 rfl) ?_
  refine lv_iconst (v := (-1)) hx hb dX12_arrive_215 (by decide) ?_
  refine lv_icmp_ne (tgt := 229) hx hb dX12_arrive_216 (by decide) (fun c9 => absurd c9 (by decide)) (fun _ => ?_)
  refine lv_aload_n hx hb dX12_arrive_219 rfl (lv_at hl 4 rfl) ?_
  refine x_get (ci := 10) (C := RX12) (T := TX12) (N := 93) (v := .ref aRn) B 0 rfl rfl in_X12 77 (by decide) mw_1941 (fun _ h9 => h9) (fvM_get (by decide) h77) dX12_arrive_220 ?_
  refine lv_iload_n hx hb dX12_arrive_223 rfl (lv_at hl 2 rfl) ?_
  refine lv_iload_n hx hb dX12_arrive_224 rfl (lv_at hl 3 rfl) ?_
  refine x_iast B 5 rfl (vpc (by decide)) dX12_arrive_225 (j := 0) (by decide) (fun H locs B => ?_)
  have B := bd_to (ws' := [(mo, .inr (10, fvM V)), (aNr, .inl (k 0, 16000, .inl (upd (fun _ => 0) 0 0))), (aNw, .inl (k 0, 16000, .inl (upd (fun _ => 0) 0 0))), (aNl, .inl (k 0, 16000, .inl (upd (fun _ => 0) 0 0))), (aNn, .inl (k 0, 16000, .inl (upd (fun _ => 0) 0 (-1)))), (aRn, .inl (k 0, 769, .inl (upd (upd (fun _ => 0) 0 (-1)) 0 0)))]) rfl B
  refine lv_goto (tgt := 237) hx hb dX12_arrive_226 (by decide) ?_
  have B := bd_sub (ws' := [(mo, .inr (10, fvM V)), (aNr, .inl (k 0, 16000, .inl (upd (fun _ => 0) 0 0))), (aNw, .inl (k 0, 16000, .inl (upd (fun _ => 0) 0 0))), (aNl, .inl (k 0, 16000, .inl (upd (fun _ => 0) 0 0))), (aNn, .inl (k 0, 16000, .inl (upd (fun _ => 0) 0 (-1)))), (aRn, .inl (k 0, 769, .inl (upd (upd (fun _ => 0) 0 (-1)) 0 0)))]) [0, 1, 2, 3, 4, 5] (by decide) rfl B
  exact x_vret B hr (⟨rfl, rfl⟩) (Nat.le_of_ble_eq_true rfl) (Nat.le_of_ble_eq_true rfl) dX12_arrive_237

theorem mw_2428 : (Jvm.Cond.methodLink "GalleyforgeModel" (438 : Nat) ({ cls := "GalleyforgeModel", name := "node", desc := "(IIIIII)I" } : Jvm.MethodName)) ∈ gt := gt_at 2563 (by decide +kernel) (by decide +kernel)
theorem mw_2430 : (Jvm.Cond.instanceMethod ({ cls := "GalleyforgeModel", name := "node", desc := "(IIIIII)I" } : Jvm.MethodName)) ∈ gt := gt_at 2565 (by decide +kernel) (by decide +kernel)
theorem mw_2431 : (Jvm.Cond.code ({ cls := "GalleyforgeModel", name := "node", desc := "(IIIIII)I" } : Jvm.MethodName) prog_14_method_71_code (7 : Nat) (Option.some Jvm.ClassFile.FieldType.int)) ∈ gt := gt_at 2566 (by decide +kernel) (by decide +kernel)
theorem mw_2432 : (Jvm.Cond.methodLink "GalleyforgeModel" (445 : Nat) ({ cls := "GalleyforgeModel", name := "arrive", desc := "(I)V" } : Jvm.MethodName)) ∈ gt := gt_at 2567 (by decide +kernel) (by decide +kernel)
theorem mw_2434 : (Jvm.Cond.instanceMethod ({ cls := "GalleyforgeModel", name := "arrive", desc := "(I)V" } : Jvm.MethodName)) ∈ gt := gt_at 2569 (by decide +kernel) (by decide +kernel)
theorem mw_2435 : (Jvm.Cond.code ({ cls := "GalleyforgeModel", name := "arrive", desc := "(I)V" } : Jvm.MethodName) prog_14_method_75_code (6 : Nat) (Option.none : Option Jvm.ClassFile.FieldType)) ∈ gt := gt_at 2570 (by decide +kernel) (by decide +kernel)
theorem ms_115 : Cond.selects "GalleyforgeModel" (⟨"GalleyforgeModel", "arrive", "(I)V"⟩ : MethodName) (⟨"GalleyforgeModel", "arrive", "(I)V"⟩ : MethodName) ∈ gt := gt_at 115 (by decide +kernel) (by decide +kernel)
theorem mV_X12_arrive : mV yX12_arrive cX12_arrive 6 none 1 := ⟨⟨mw_2435, mw_13, by decide, by decide, by decide +kernel⟩, mw_2434, ms_115⟩
theorem ms_114 : Cond.selects "GalleyforgeModel" (⟨"GalleyforgeModel", "node", "(IIIIII)I"⟩ : MethodName) (⟨"GalleyforgeModel", "node", "(IIIIII)I"⟩ : MethodName) ∈ gt := gt_at 114 (by decide +kernel) (by decide +kernel)
theorem mV_X12_node : mV yX12_node cX12_node 7 (some .int) 6 := ⟨⟨mw_2431, mw_13, by decide, by decide, by decide +kernel⟩, mw_2430, ms_114⟩
theorem dX12_findPages_0 : decode cX12_findPages 0 = .ok (.aload_n 0, 1) := by decide +kernel
theorem dX12_findPages_1 : decode cX12_findPages 1 = .ok (.iconst 0, 1) := by decide +kernel
theorem dX12_findPages_2 : decode cX12_findPages 2 = .ok (.putfield 426, 3) := by decide +kernel
theorem dX12_findPages_5 : decode cX12_findPages 5 = .ok (.iconst 0, 1) := by decide +kernel
theorem dX12_findPages_6 : decode cX12_findPages 6 = .ok (.istore_n 1, 1) := by decide +kernel
theorem dX12_findPages_7 : decode cX12_findPages 7 = .ok (.iload_n 1, 1) := by decide +kernel
theorem dX12_findPages_8 : decode cX12_findPages 8 = .ok (.aload_n 0, 1) := by decide +kernel
theorem dX12_findPages_9 : decode cX12_findPages 9 = .ok (.getfield 372, 3) := by decide +kernel
theorem dX12_findPages_12 : decode cX12_findPages 12 = .ok (.if_icmp .gt 16, 3) := by decide +kernel
theorem dX12_findPages_15 : decode cX12_findPages 15 = .ok (.aload_n 0, 1) := by decide +kernel
theorem dX12_findPages_16 : decode cX12_findPages 16 = .ok (.getfield 180, 3) := by decide +kernel
theorem dX12_findPages_19 : decode cX12_findPages 19 = .ok (.iload_n 1, 1) := by decide +kernel
theorem dX12_findPages_20 : decode cX12_findPages 20 = .ok (.iconst (-1), 1) := by decide +kernel
theorem dX12_findPages_21 : decode cX12_findPages 21 = .ok (.iastore, 1) := by decide +kernel
theorem dX12_findPages_22 : decode cX12_findPages 22 = .ok (.iinc 1 1, 3) := by decide +kernel
theorem dX12_findPages_25 : decode cX12_findPages 25 = .ok (.goto (-18), 3) := by decide +kernel
theorem dX12_findPages_28 : decode cX12_findPages 28 = .ok (.aload_n 0, 1) := by decide +kernel
theorem dX12_findPages_29 : decode cX12_findPages 29 = .ok (.aload_n 0, 1) := by decide +kernel
theorem dX12_findPages_30 : decode cX12_findPages 30 = .ok (.iconst 0, 1) := by decide +kernel
theorem dX12_findPages_31 : decode cX12_findPages 31 = .ok (.iconst 0, 1) := by decide +kernel
theorem dX12_findPages_32 : decode cX12_findPages 32 = .ok (.iconst 0, 1) := by decide +kernel
theorem dX12_findPages_33 : decode cX12_findPages 33 = .ok (.iconst 0, 1) := by decide +kernel
theorem dX12_findPages_34 : decode cX12_findPages 34 = .ok (.iconst (-1), 1) := by decide +kernel
theorem dX12_findPages_35 : decode cX12_findPages 35 = .ok (.iconst 0, 1) := by decide +kernel
theorem dX12_findPages_36 : decode cX12_findPages 36 = .ok (.invokevirtual 438, 3) := by decide +kernel
theorem dX12_findPages_39 : decode cX12_findPages 39 = .ok (.invokevirtual 445, 3) := by decide +kernel
theorem dX12_findPages_42 : decode cX12_findPages 42 = .ok (.iconst 0, 1) := by decide +kernel
theorem dX12_findPages_43 : decode cX12_findPages 43 = .ok (.istore_n 1, 1) := by decide +kernel
theorem dX12_findPages_44 : decode cX12_findPages 44 = .ok (.iload_n 1, 1) := by decide +kernel
theorem dX12_findPages_45 : decode cX12_findPages 45 = .ok (.aload_n 0, 1) := by decide +kernel
theorem dX12_findPages_46 : decode cX12_findPages 46 = .ok (.getfield 372, 3) := by decide +kernel
theorem dX12_findPages_49 : decode cX12_findPages 49 = .ok (.if_icmp .ge 36, 3) := by decide +kernel
theorem dX12_findPages_85 : decode cX12_findPages 85 = .ok (.aload_n 0, 1) := by decide +kernel
theorem dX12_findPages_86 : decode cX12_findPages 86 = .ok (.getfield 180, 3) := by decide +kernel
theorem dX12_findPages_89 : decode cX12_findPages 89 = .ok (.aload_n 0, 1) := by decide +kernel
theorem dX12_findPages_90 : decode cX12_findPages 90 = .ok (.getfield 372, 3) := by decide +kernel
theorem dX12_findPages_93 : decode cX12_findPages 93 = .ok (.iaload, 1) := by decide +kernel
theorem dX12_findPages_94 : decode cX12_findPages 94 = .ok (.istore_n 1, 1) := by decide +kernel
theorem dX12_findPages_95 : decode cX12_findPages 95 = .ok (.iload_n 1, 1) := by decide +kernel
theorem dX12_findPages_96 : decode cX12_findPages 96 = .ok (.istore_n 2, 1) := by decide +kernel
theorem dX12_findPages_97 : decode cX12_findPages 97 = .ok (.iload_n 2, 1) := by decide +kernel
theorem dX12_findPages_98 : decode cX12_findPages 98 = .ok (.iconst (-1), 1) := by decide +kernel
theorem dX12_findPages_99 : decode cX12_findPages 99 = .ok (.if_icmp .eq 33, 3) := by decide +kernel
theorem dX12_findPages_102 : decode cX12_findPages 102 = .ok (.iload_n 2, 1) := by decide +kernel
theorem dX12_findPages_103 : decode cX12_findPages 103 = .ok (.iload_n 1, 1) := by decide +kernel
theorem dX12_findPages_104 : decode cX12_findPages 104 = .ok (.if_icmp .eq 16, 3) := by decide +kernel
theorem dX12_findPages_120 : decode cX12_findPages 120 = .ok (.iload_n 1, 1) := by decide +kernel
theorem dX12_findPages_121 : decode cX12_findPages 121 = .ok (.istore_n 1, 1) := by decide +kernel
theorem dX12_findPages_122 : decode cX12_findPages 122 = .ok (.aload_n 0, 1) := by decide +kernel
theorem dX12_findPages_123 : decode cX12_findPages 123 = .ok (.getfield 177, 3) := by decide +kernel
theorem dX12_findPages_126 : decode cX12_findPages 126 = .ok (.iload_n 2, 1) := by decide +kernel
theorem dX12_findPages_127 : decode cX12_findPages 127 = .ok (.iaload, 1) := by decide +kernel
theorem dX12_findPages_128 : decode cX12_findPages 128 = .ok (.istore_n 2, 1) := by decide +kernel
theorem dX12_findPages_129 : decode cX12_findPages 129 = .ok (.goto (-32), 3) := by decide +kernel
theorem dX12_findPages_132 : decode cX12_findPages 132 = .ok (.iload_n 1, 1) := by decide +kernel
theorem dX12_findPages_133 : decode cX12_findPages 133 = .ok (.ireturn, 1) := by decide +kernel
set_option maxHeartbeats 4000000 in
set_option maxRecDepth 100000 in
theorem m_findPages (l : Launch) (dC : Nat → ClassId) (dI : Nat → Nat → Nat) (k : Nat → ClassId) (mo : Nat) (V : Nat → Value) (aRn : Nat) (aNr : Nat) (aNw : Nat) (aNl : Nat) (aNc : Nat) (aNp : Nat) (aNq : Nat) (aNs : Nat) (aNn : Nat) (h48 : V 48 = .int 0) (h77 : V 77 = .ref aRn) (h69 : V 69 = .ref aNr) (h70 : V 70 = .ref aNw) (h71 : V 71 = .ref aNl) (h72 : V 72 = .ref aNc) (h73 : V 73 = .ref aNp) (h74 : V 74 = .ref aNq) (h75 : V 75 = .ref aNs) (h76 : V 76 = .ref aNn) : Ct l dC dI k yX12_findPages (.code yX12_findPages cX12_findPages 3 (some .int)) ({ frames := 1, cells := 0, slots := 0, locals := 26 } : Room) [.ref mo] [(mo, .inr (10, fvM V)), (aNr, .inl (k 0, 16000, .inl (fun _ => 0))), (aNw, .inl (k 0, 16000, .inl (fun _ => 0))), (aNl, .inl (k 0, 16000, .inl (fun _ => 0))), (aNc, .inl (k 0, 16000, .inl (fun _ => 0))), (aNp, .inl (k 0, 16000, .inl (fun _ => 0))), (aNq, .inl (k 0, 16000, .inl (fun _ => 0))), (aNs, .inl (k 0, 16000, .inl (fun _ => 0))), (aNn, .inl (k 0, 16000, .inl (fun _ => 0))), (aRn, .inl (k 0, 769, .inl (fun _ => 0)))] (fun r w => (∃ (V1 : Nat → Value), (∀ i, i ∉ ([68] : List Nat) → V1 i = V i) ∧ V1 68 = .int 1 ∧ r = some (.int 0) ∧ w = [(mo, .inr (10, fvM V1)), (aNw, .inl (k 0, 16000, .inl (upd (fun _ => 0) 0 0))), (aNl, .inl (k 0, 16000, .inl (upd (fun _ => 0) 0 0))), (aNc, .inl (k 0, 16000, .inl (upd (fun _ => 0) 0 0))), (aNq, .inl (k 0, 16000, .inl (upd (fun _ => 0) 0 (-1))))])) := by
  refine ct_of (by decide) (Nat.le_of_ble_eq_true rfl) ?_
  intro p e s m args below meth c H locs B hr hnm ls hl
  have hx := B.1.1
  have hb := B.1.2.1
  have hl : lv_has ls 3 [(0, .ref mo)] := hl
  refine lv_aload_n hx hb dX12_findPages_0 rfl (lv_at hl 0 rfl) ?_
  refine lv_iconst (v := 0) hx hb dX12_findPages_1 (by decide) ?_
  refine x_put (ci := 10) (C := RX12) (T := TX12) (N := 93) (ty := .int) (v := .int 0) B tyX12_ok nmX12 0 rfl rfl in_X12 68 (by decide) mw_1932 (fun _ h9 => h9) rfl (by decide +kernel) rfl rfl (fvM_lt (by decide)) dX12_findPages_2 (fun H locs B => ?_)
  obtain ⟨V_1, hV_1, gV_1, eV_1⟩ := fvM_put V 68 (.int 0) (by decide)
  rw [eV_1] at B
  have B := bd_to (ws' := [(mo, .inr (10, fvM V_1)), (aNr, .inl (k 0, 16000, .inl (fun _ => 0))), (aNw, .inl (k 0, 16000, .inl (fun _ => 0))), (aNl, .inl (k 0, 16000, .inl (fun _ => 0))), (aNc, .inl (k 0, 16000, .inl (fun _ => 0))), (aNp, .inl (k 0, 16000, .inl (fun _ => 0))), (aNq, .inl (k 0, 16000, .inl (fun _ => 0))), (aNs, .inl (k 0, 16000, .inl (fun _ => 0))), (aNn, .inl (k 0, 16000, .inl (fun _ => 0))), (aRn, .inl (k 0, 769, .inl (fun _ => 0)))]) rfl B
  refine lv_iconst (v := 0) hx hb dX12_findPages_5 (by decide) ?_
  refine lv_istore_n (lv' := [(1, .int 0), (0, .ref mo)]) hx hb dX12_findPages_6 rfl hl (by decide) rfl (fun ls hl => ?_)
  refine lv_iload_n hx hb dX12_findPages_7 rfl (lv_at hl 0 rfl) ?_
  refine lv_aload_n hx hb dX12_findPages_8 rfl (lv_at hl 1 rfl) ?_
  refine x_get (ci := 10) (C := RX12) (T := TX12) (N := 93) (v := .int 0) B 0 rfl rfl in_X12 48 (by decide) mw_1912 (fun _ h9 => h9) (fvM_get (by decide) ((hV_1 48 (by decide)).trans h48)) dX12_findPages_9 ?_
  refine lv_icmp_gt (tgt := 28) hx hb dX12_findPages_12 (by decide) (fun c9 => absurd c9 (by decide)) (fun _ => ?_)
  refine lv_aload_n hx hb dX12_findPages_15 rfl (lv_at hl 1 rfl) ?_
  refine x_get (ci := 10) (C := RX12) (T := TX12) (N := 93) (v := .ref aRn) B 0 rfl rfl in_X12 77 (by decide) mw_1941 (fun _ h9 => h9) (fvM_get (by decide) ((hV_1 77 (by decide)).trans h77)) dX12_findPages_16 ?_
  refine lv_iload_n hx hb dX12_findPages_19 rfl (lv_at hl 0 rfl) ?_
  refine lv_iconst (v := (-1)) hx hb dX12_findPages_20 (by decide) ?_
  refine x_iast B 9 rfl (vpc (by decide)) dX12_findPages_21 (j := 0) (by decide) (fun H locs B => ?_)
  have B := bd_to (ws' := [(mo, .inr (10, fvM V_1)), (aNr, .inl (k 0, 16000, .inl (fun _ => 0))), (aNw, .inl (k 0, 16000, .inl (fun _ => 0))), (aNl, .inl (k 0, 16000, .inl (fun _ => 0))), (aNc, .inl (k 0, 16000, .inl (fun _ => 0))), (aNp, .inl (k 0, 16000, .inl (fun _ => 0))), (aNq, .inl (k 0, 16000, .inl (fun _ => 0))), (aNs, .inl (k 0, 16000, .inl (fun _ => 0))), (aNn, .inl (k 0, 16000, .inl (fun _ => 0))), (aRn, .inl (k 0, 769, .inl (upd (fun _ => 0) 0 (-1))))]) rfl B
  refine lv_iinc (v := 1) (lv' := [(1, .int 1), (0, .ref mo)]) hx hb dX12_findPages_22 hl (k := 0) rfl (by decide) (by decide) rfl (fun ls hl => ?_)
  refine lv_goto (tgt := 7) hx hb dX12_findPages_25 (by decide) ?_
  refine lv_iload_n hx hb dX12_findPages_7 rfl (lv_at hl 0 rfl) ?_
  refine lv_aload_n hx hb dX12_findPages_8 rfl (lv_at hl 1 rfl) ?_
  refine x_get (ci := 10) (C := RX12) (T := TX12) (N := 93) (v := .int 0) B 0 rfl rfl in_X12 48 (by decide) mw_1912 (fun _ h9 => h9) (fvM_get (by decide) ((hV_1 48 (by decide)).trans h48)) dX12_findPages_9 ?_
  refine lv_icmp_gt (tgt := 28) hx hb dX12_findPages_12 (by decide) (fun _ => ?_) (fun c9 => absurd (by decide) c9)
  refine lv_aload_n hx hb dX12_findPages_28 rfl (lv_at hl 1 rfl) ?_
  refine lv_aload_n hx hb dX12_findPages_29 rfl (lv_at hl 1 rfl) ?_
  refine lv_iconst (v := 0) hx hb dX12_findPages_30 (by decide) ?_
  refine lv_iconst (v := 0) hx hb dX12_findPages_31 (by decide) ?_
  refine lv_iconst (v := 0) hx hb dX12_findPages_32 (by decide) ?_
  refine lv_iconst (v := 0) hx hb dX12_findPages_33 (by decide) ?_
  refine lv_iconst (v := (-1)) hx hb dX12_findPages_34 (by decide) ?_
  refine lv_iconst (v := 0) hx hb dX12_findPages_35 (by decide) ?_
  refine x_callV (rest := [.ref mo]) (wr := [(aNn, .inl (k 0, 16000, .inl (fun _ => 0))), (aRn, .inl (k 0, 769, .inl (upd (fun _ => 0) 0 (-1))))]) (m_node l dC dI k mo V_1 aNr aNw aNl aNc aNp aNq aNs gV_1 ((hV_1 69 (by decide)).trans h69) ((hV_1 70 (by decide)).trans h70) ((hV_1 71 (by decide)).trans h71) ((hV_1 72 (by decide)).trans h72) ((hV_1 73 (by decide)).trans h73) ((hV_1 74 (by decide)).trans h74) ((hV_1 75 (by decide)).trans h75)) B mV_X12_node mw_2428 hl [0, 1, 2, 3, 4, 5, 6, 7] [8, 9] rfl rfl ⟨by decide, by decide⟩ (by decide) (q0 := 0) rfl rfl rfl ⟨Nat.le_of_ble_eq_true rfl, Nat.le_of_ble_eq_true rfl⟩ (Nat.le_of_ble_eq_true rfl) rfl dX12_findPages_36 ⟨Nat.le_of_ble_eq_true rfl, Nat.le_of_ble_eq_true rfl⟩ (fun r w H locs hp B => ?_)
  obtain ⟨V1_2, z_3, z_4, rfl, rfl⟩ := hp
  have B := bd_to (ws' := [(aNn, .inl (k 0, 16000, .inl (fun _ => 0))), (aRn, .inl (k 0, 769, .inl (upd (fun _ => 0) 0 (-1)))), (mo, .inr (10, fvM V1_2)), (aNr, .inl (k 0, 16000, .inl (upd (fun _ => 0) 0 0))), (aNw, .inl (k 0, 16000, .inl (upd (fun _ => 0) 0 0))), (aNl, .inl (k 0, 16000, .inl (upd (fun _ => 0) 0 0))), (aNc, .inl (k 0, 16000, .inl (upd (fun _ => 0) 0 0))), (aNp, .inl (k 0, 16000, .inl (upd (fun _ => 0) 0 0))), (aNq, .inl (k 0, 16000, .inl (upd (fun _ => 0) 0 (-1)))), (aNs, .inl (k 0, 16000, .inl (upd (fun _ => 0) 0 0)))]) rfl B
  refine x_callV (rest := []) (wr := [(aNc, .inl (k 0, 16000, .inl (upd (fun _ => 0) 0 0))), (aNp, .inl (k 0, 16000, .inl (upd (fun _ => 0) 0 0))), (aNq, .inl (k 0, 16000, .inl (upd (fun _ => 0) 0 (-1)))), (aNs, .inl (k 0, 16000, .inl (upd (fun _ => 0) 0 0)))]) (m_arrive l dC dI k mo V1_2 aNr aNw aNl aNn aRn ((z_3 48 (by decide)).trans ((hV_1 48 (by decide)).trans h48)) ((z_3 69 (by decide)).trans ((hV_1 69 (by decide)).trans h69)) ((z_3 70 (by decide)).trans ((hV_1 70 (by decide)).trans h70)) ((z_3 71 (by decide)).trans ((hV_1 71 (by decide)).trans h71)) ((z_3 76 (by decide)).trans ((hV_1 76 (by decide)).trans h76)) ((z_3 77 (by decide)).trans ((hV_1 77 (by decide)).trans h77))) B mV_X12_arrive mw_2432 hl [2, 3, 4, 5, 0, 1] [6, 7, 8, 9] rfl rfl ⟨by decide, by decide⟩ (by decide) (q0 := 0) rfl rfl rfl ⟨Nat.le_of_ble_eq_true rfl, Nat.le_of_ble_eq_true rfl⟩ (Nat.le_of_ble_eq_true rfl) rfl dX12_findPages_39 ⟨Nat.le_of_ble_eq_true rfl, Nat.le_of_ble_eq_true rfl⟩ (fun r w H locs hp B => ?_)
  obtain ⟨rfl, rfl⟩ := hp
  have B := bd_to (ws' := [(aNc, .inl (k 0, 16000, .inl (upd (fun _ => 0) 0 0))), (aNp, .inl (k 0, 16000, .inl (upd (fun _ => 0) 0 0))), (aNq, .inl (k 0, 16000, .inl (upd (fun _ => 0) 0 (-1)))), (aNs, .inl (k 0, 16000, .inl (upd (fun _ => 0) 0 0))), (mo, .inr (10, fvM V1_2)), (aNr, .inl (k 0, 16000, .inl (upd (fun _ => 0) 0 0))), (aNw, .inl (k 0, 16000, .inl (upd (fun _ => 0) 0 0))), (aNl, .inl (k 0, 16000, .inl (upd (fun _ => 0) 0 0))), (aNn, .inl (k 0, 16000, .inl (upd (fun _ => 0) 0 (-1)))), (aRn, .inl (k 0, 769, .inl (upd (upd (fun _ => 0) 0 (-1)) 0 0)))]) rfl B
  refine lv_iconst (v := 0) hx hb dX12_findPages_42 (by decide) ?_
  refine lv_istore_n (lv' := [(1, .int 0), (0, .ref mo)]) hx hb dX12_findPages_43 rfl hl (by decide) rfl (fun ls hl => ?_)
  refine lv_iload_n hx hb dX12_findPages_44 rfl (lv_at hl 0 rfl) ?_
  refine lv_aload_n hx hb dX12_findPages_45 rfl (lv_at hl 1 rfl) ?_
  refine x_get (ci := 10) (C := RX12) (T := TX12) (N := 93) (v := .int 0) B 4 rfl rfl in_X12 48 (by decide) mw_1912 (fun _ h9 => h9) (fvM_get (by decide) ((z_3 48 (by decide)).trans ((hV_1 48 (by decide)).trans h48))) dX12_findPages_46 ?_
  refine lv_icmp_ge (tgt := 85) hx hb dX12_findPages_49 (by decide) (fun _ => ?_) (fun c9 => absurd (by decide) c9)
  refine lv_aload_n hx hb dX12_findPages_85 rfl (lv_at hl 1 rfl) ?_
  refine x_get (ci := 10) (C := RX12) (T := TX12) (N := 93) (v := .ref aRn) B 4 rfl rfl in_X12 77 (by decide) mw_1941 (fun _ h9 => h9) (fvM_get (by decide) ((z_3 77 (by decide)).trans ((hV_1 77 (by decide)).trans h77))) dX12_findPages_86 ?_
  refine lv_aload_n hx hb dX12_findPages_89 rfl (lv_at hl 1 rfl) ?_
  refine x_get (ci := 10) (C := RX12) (T := TX12) (N := 93) (v := .int 0) B 4 rfl rfl in_X12 48 (by decide) mw_1912 (fun _ h9 => h9) (fvM_get (by decide) ((z_3 48 (by decide)).trans ((hV_1 48 (by decide)).trans h48))) dX12_findPages_90 ?_
  refine x_iald (v := 0) B 9 rfl (vpc (by decide)) dX12_findPages_93 (by rfl) ?_
  refine lv_istore_n (lv' := [(1, .int 0), (0, .ref mo)]) hx hb dX12_findPages_94 rfl hl (by decide) rfl (fun ls hl => ?_)
  refine lv_iload_n hx hb dX12_findPages_95 rfl (lv_at hl 0 rfl) ?_
  refine lv_istore_n (lv' := [(2, .int 0), (1, .int 0), (0, .ref mo)]) hx hb dX12_findPages_96 rfl hl (by decide) rfl (fun ls hl => ?_)
  refine lv_iload_n hx hb dX12_findPages_97 rfl (lv_at hl 0 rfl) ?_
  refine lv_iconst (v := (-1)) hx hb dX12_findPages_98 (by decide) ?_
  refine lv_icmp_eq (tgt := 132) hx hb dX12_findPages_99 (by decide) (fun c9 => absurd c9 (by decide)) (fun _ => ?_)
  refine lv_iload_n hx hb dX12_findPages_102 rfl (lv_at hl 0 rfl) ?_
  refine lv_iload_n hx hb dX12_findPages_103 rfl (lv_at hl 1 rfl) ?_
  refine lv_icmp_eq (tgt := 120) hx hb dX12_findPages_104 (by decide) (fun _ => ?_) (fun c9 => absurd (by decide) c9)
  refine lv_iload_n hx hb dX12_findPages_120 rfl (lv_at hl 1 rfl) ?_
  refine lv_istore_n (lv' := [(1, .int 0), (2, .int 0), (0, .ref mo)]) hx hb dX12_findPages_121 rfl hl (by decide) rfl (fun ls hl => ?_)
  refine lv_aload_n hx hb dX12_findPages_122 rfl (lv_at hl 2 rfl) ?_
  refine x_get (ci := 10) (C := RX12) (T := TX12) (N := 93) (v := .ref aNn) B 4 rfl rfl in_X12 76 (by decide) mw_1940 (fun _ h9 => h9) (fvM_get (by decide) ((z_3 76 (by decide)).trans ((hV_1 76 (by decide)).trans h76))) dX12_findPages_123 ?_
  refine lv_iload_n hx hb dX12_findPages_126 rfl (lv_at hl 1 rfl) ?_
  refine x_iald (v := (-1)) B 8 rfl (vpc (by decide)) dX12_findPages_127 (by rfl) ?_
  refine lv_istore_n (lv' := [(2, .int (-1)), (1, .int 0), (0, .ref mo)]) hx hb dX12_findPages_128 rfl hl (by decide) rfl (fun ls hl => ?_)
  refine lv_goto (tgt := 97) hx hb dX12_findPages_129 (by decide) ?_
  refine lv_iload_n hx hb dX12_findPages_97 rfl (lv_at hl 0 rfl) ?_
  refine lv_iconst (v := (-1)) hx hb dX12_findPages_98 (by decide) ?_
  refine lv_icmp_eq (tgt := 132) hx hb dX12_findPages_99 (by decide) (fun _ => ?_) (fun c9 => absurd (by decide) c9)
  refine lv_iload_n hx hb dX12_findPages_132 rfl (lv_at hl 1 rfl) ?_
  have B := bd_sub (ws' := [(mo, .inr (10, fvM V1_2)), (aNw, .inl (k 0, 16000, .inl (upd (fun _ => 0) 0 0))), (aNl, .inl (k 0, 16000, .inl (upd (fun _ => 0) 0 0))), (aNc, .inl (k 0, 16000, .inl (upd (fun _ => 0) 0 0))), (aNq, .inl (k 0, 16000, .inl (upd (fun _ => 0) 0 (-1))))]) [4, 6, 7, 0, 2] (by decide) rfl B
  exact x_iret B hr (⟨V1_2, (fun i9 h9 => ((z_3 i9 (fun q9 => h9 ((by decide : ∀ x ∈ ([68] : List Nat), x ∈ ([68] : List Nat)) i9 q9))).trans (hV_1 i9 (fun q9 => h9 (by rw [q9]; decide))))), z_4, rfl, rfl⟩) (Nat.le_of_ble_eq_true rfl) (Nat.le_of_ble_eq_true rfl) dX12_findPages_133

theorem dX12_layTail_0 : decode cX12_layTail 0 = .ok (.iload_n 1, 1) := by decide +kernel
theorem dX12_layTail_1 : decode cX12_layTail 1 = .ok (.istore_n 3, 1) := by decide +kernel
theorem dX12_layTail_2 : decode cX12_layTail 2 = .ok (.iload_n 3, 1) := by decide +kernel
theorem dX12_layTail_3 : decode cX12_layTail 3 = .ok (.ifCond .eq 92, 3) := by decide +kernel
theorem dX12_layTail_95 : decode cX12_layTail 95 = .ok (.iload_n 2, 1) := by decide +kernel
theorem dX12_layTail_96 : decode cX12_layTail 96 = .ok (.istore 4, 2) := by decide +kernel
theorem dX12_layTail_98 : decode cX12_layTail 98 = .ok (.iload 4, 2) := by decide +kernel
theorem dX12_layTail_100 : decode cX12_layTail 100 = .ok (.ifCond .le 56, 3) := by decide +kernel
theorem dX12_layTail_156 : decode cX12_layTail 156 = .ok (.return_, 1) := by decide +kernel
set_option maxHeartbeats 4000000 in
set_option maxRecDepth 100000 in
theorem m_layTail (l : Launch) (dC : Nat → ClassId) (dI : Nat → Nat → Nat) (k : Nat → ClassId) (mo : Nat) (V : Nat → Value) : Ct l dC dI k yX12_layTail (.code yX12_layTail cX12_layTail 7 none) ({ frames := 0, cells := 0, slots := 0, locals := 0 } : Room) [.ref mo, .int 0, .int 0] [(mo, .inr (10, fvM V))] (fun r w => (r = none ∧ w = [(mo, .inr (10, fvM V))])) := by
  refine ct_of (by decide) (Nat.le_of_ble_eq_true rfl) ?_
  intro p e s m args below meth c H locs B hr hnm ls hl
  have hx := B.1.1
  have hb := B.1.2.1
  have hl : lv_has ls 7 [(0, .ref mo), (1, .int 0), (2, .int 0)] := hl
  refine lv_iload_n hx hb dX12_layTail_0 rfl (lv_at hl 1 rfl) ?_
  refine lv_istore_n (lv' := [(3, .int 0), (0, .ref mo), (1, .int 0), (2, .int 0)]) hx hb dX12_layTail_1 rfl hl (by decide) rfl (fun ls hl => ?_)
  refine lv_iload_n hx hb dX12_layTail_2 rfl (lv_at hl 0 rfl) ?_
  refine lv_if_eq (tgt := 95) hx hb dX12_layTail_3 (by decide) (fun _ => ?_) (fun c9 => absurd (by decide) c9)
  refine lv_iload_n hx hb dX12_layTail_95 rfl (lv_at hl 3 rfl) ?_
  refine lv_istore (lv' := [(4, .int 0), (3, .int 0), (0, .ref mo), (1, .int 0), (2, .int 0)]) hx hb dX12_layTail_96 hl (by decide) rfl (fun ls hl => ?_)
  refine lv_iload hx hb dX12_layTail_98 (lv_at hl 0 rfl) ?_
  refine lv_if_le (tgt := 156) hx hb dX12_layTail_100 (by decide) (fun _ => ?_) (fun c9 => absurd (by decide) c9)
  have B := bd_sub (ws' := [(mo, .inr (10, fvM V))]) [0] (by decide) rfl B
  exact x_vret B hr (⟨rfl, rfl⟩) (Nat.le_of_ble_eq_true rfl) (Nat.le_of_ble_eq_true rfl) dX12_layTail_156

theorem mw_1947 : (Jvm.Cond.fieldLink "GalleyforgeModel" (457 : Nat) "GalleyforgeModel" "pages" "I") ∈ gt := gt_at 2082 (by decide +kernel) (by decide +kernel)
theorem mw_1948 : (Jvm.Cond.fieldLink "GalleyforgeModel" (464 : Nat) "GalleyforgeModel" "costs" "I") ∈ gt := gt_at 2083 (by decide +kernel) (by decide +kernel)
theorem mw_1954 : (Jvm.Cond.fieldLink "GalleyforgeModel" (204 : Nat) "GalleyforgeModel" "standsOn" "[I") ∈ gt := gt_at 2089 (by decide +kernel) (by decide +kernel)
theorem mw_2424 : (Jvm.Cond.methodLink "GalleyforgeModel" (460 : Nat) ({ cls := "GalleyforgeModel", name := "findPages", desc := "()I" } : Jvm.MethodName)) ∈ gt := gt_at 2559 (by decide +kernel) (by decide +kernel)
theorem mw_2426 : (Jvm.Cond.instanceMethod ({ cls := "GalleyforgeModel", name := "findPages", desc := "()I" } : Jvm.MethodName)) ∈ gt := gt_at 2561 (by decide +kernel) (by decide +kernel)
theorem mw_2427 : (Jvm.Cond.code ({ cls := "GalleyforgeModel", name := "findPages", desc := "()I" } : Jvm.MethodName) prog_14_method_76_code (3 : Nat) (Option.some Jvm.ClassFile.FieldType.int)) ∈ gt := gt_at 2562 (by decide +kernel) (by decide +kernel)
theorem mw_2484 : (Jvm.Cond.methodLink "GalleyforgeModel" (474 : Nat) ({ cls := "GalleyforgeModel", name := "layTail", desc := "(II)V" } : Jvm.MethodName)) ∈ gt := gt_at 2619 (by decide +kernel) (by decide +kernel)
theorem mw_2486 : (Jvm.Cond.instanceMethod ({ cls := "GalleyforgeModel", name := "layTail", desc := "(II)V" } : Jvm.MethodName)) ∈ gt := gt_at 2621 (by decide +kernel) (by decide +kernel)
theorem mw_2487 : (Jvm.Cond.code ({ cls := "GalleyforgeModel", name := "layTail", desc := "(II)V" } : Jvm.MethodName) prog_14_method_81_code (7 : Nat) (Option.none : Option Jvm.ClassFile.FieldType)) ∈ gt := gt_at 2622 (by decide +kernel) (by decide +kernel)
theorem ms_113 : Cond.selects "GalleyforgeModel" (⟨"GalleyforgeModel", "findPages", "()I"⟩ : MethodName) (⟨"GalleyforgeModel", "findPages", "()I"⟩ : MethodName) ∈ gt := gt_at 113 (by decide +kernel) (by decide +kernel)
theorem mV_X12_findPages : mV yX12_findPages cX12_findPages 3 (some .int) 0 := ⟨⟨mw_2427, mw_13, by decide, by decide, by decide +kernel⟩, mw_2426, ms_113⟩
theorem ms_128 : Cond.selects "GalleyforgeModel" (⟨"GalleyforgeModel", "layTail", "(II)V"⟩ : MethodName) (⟨"GalleyforgeModel", "layTail", "(II)V"⟩ : MethodName) ∈ gt := gt_at 128 (by decide +kernel) (by decide +kernel)
theorem mV_X12_layTail : mV yX12_layTail cX12_layTail 7 none 2 := ⟨⟨mw_2487, mw_13, by decide, by decide, by decide +kernel⟩, mw_2486, ms_128⟩
theorem dX12_layPages_0 : decode cX12_layPages 0 = .ok (.iconst 0, 1) := by decide +kernel
theorem dX12_layPages_1 : decode cX12_layPages 1 = .ok (.istore_n 1, 1) := by decide +kernel
theorem dX12_layPages_2 : decode cX12_layPages 2 = .ok (.iload_n 1, 1) := by decide +kernel
theorem dX12_layPages_3 : decode cX12_layPages 3 = .ok (.iconst 5, 1) := by decide +kernel
theorem dX12_layPages_4 : decode cX12_layPages 4 = .ok (.if_icmp .ge 16, 3) := by decide +kernel
theorem dX12_layPages_7 : decode cX12_layPages 7 = .ok (.aload_n 0, 1) := by decide +kernel
theorem dX12_layPages_8 : decode cX12_layPages 8 = .ok (.getfield 204, 3) := by decide +kernel
theorem dX12_layPages_11 : decode cX12_layPages 11 = .ok (.iload_n 1, 1) := by decide +kernel
theorem dX12_layPages_12 : decode cX12_layPages 12 = .ok (.iconst (-1), 1) := by decide +kernel
theorem dX12_layPages_13 : decode cX12_layPages 13 = .ok (.iastore, 1) := by decide +kernel
theorem dX12_layPages_14 : decode cX12_layPages 14 = .ok (.iinc 1 1, 3) := by decide +kernel
theorem dX12_layPages_17 : decode cX12_layPages 17 = .ok (.goto (-15), 3) := by decide +kernel
theorem dX12_layPages_20 : decode cX12_layPages 20 = .ok (.aload_n 0, 1) := by decide +kernel
theorem dX12_layPages_21 : decode cX12_layPages 21 = .ok (.invokevirtual 460, 3) := by decide +kernel
theorem dX12_layPages_24 : decode cX12_layPages 24 = .ok (.istore_n 1, 1) := by decide +kernel
theorem dX12_layPages_25 : decode cX12_layPages 25 = .ok (.aload_n 0, 1) := by decide +kernel
theorem dX12_layPages_26 : decode cX12_layPages 26 = .ok (.aload_n 0, 1) := by decide +kernel
theorem dX12_layPages_27 : decode cX12_layPages 27 = .ok (.getfield 165, 3) := by decide +kernel
theorem dX12_layPages_30 : decode cX12_layPages 30 = .ok (.iload_n 1, 1) := by decide +kernel
theorem dX12_layPages_31 : decode cX12_layPages 31 = .ok (.iaload, 1) := by decide +kernel
theorem dX12_layPages_32 : decode cX12_layPages 32 = .ok (.putfield 464, 3) := by decide +kernel
theorem dX12_layPages_35 : decode cX12_layPages 35 = .ok (.aload_n 0, 1) := by decide +kernel
theorem dX12_layPages_36 : decode cX12_layPages 36 = .ok (.iconst 0, 1) := by decide +kernel
theorem dX12_layPages_37 : decode cX12_layPages 37 = .ok (.putfield 457, 3) := by decide +kernel
theorem dX12_layPages_40 : decode cX12_layPages 40 = .ok (.iconst 0, 1) := by decide +kernel
theorem dX12_layPages_41 : decode cX12_layPages 41 = .ok (.istore_n 2, 1) := by decide +kernel
theorem dX12_layPages_42 : decode cX12_layPages 42 = .ok (.iload_n 1, 1) := by decide +kernel
theorem dX12_layPages_43 : decode cX12_layPages 43 = .ok (.istore_n 3, 1) := by decide +kernel
theorem dX12_layPages_44 : decode cX12_layPages 44 = .ok (.aload_n 0, 1) := by decide +kernel
theorem dX12_layPages_45 : decode cX12_layPages 45 = .ok (.getfield 171, 3) := by decide +kernel
theorem dX12_layPages_48 : decode cX12_layPages 48 = .ok (.iload_n 3, 1) := by decide +kernel
theorem dX12_layPages_49 : decode cX12_layPages 49 = .ok (.iaload, 1) := by decide +kernel
theorem dX12_layPages_50 : decode cX12_layPages 50 = .ok (.iconst (-1), 1) := by decide +kernel
theorem dX12_layPages_51 : decode cX12_layPages 51 = .ok (.if_icmp .eq 23, 3) := by decide +kernel
theorem dX12_layPages_74 : decode cX12_layPages 74 = .ok (.iload_n 2, 1) := by decide +kernel
theorem dX12_layPages_75 : decode cX12_layPages 75 = .ok (.iconst 1, 1) := by decide +kernel
theorem dX12_layPages_76 : decode cX12_layPages 76 = .ok (.isub, 1) := by decide +kernel
theorem dX12_layPages_77 : decode cX12_layPages 77 = .ok (.istore_n 3, 1) := by decide +kernel
theorem dX12_layPages_78 : decode cX12_layPages 78 = .ok (.iload_n 3, 1) := by decide +kernel
theorem dX12_layPages_79 : decode cX12_layPages 79 = .ok (.ifCond .lt 186, 3) := by decide +kernel
theorem dX12_layPages_265 : decode cX12_layPages 265 = .ok (.aload_n 0, 1) := by decide +kernel
theorem dX12_layPages_266 : decode cX12_layPages 266 = .ok (.aload_n 0, 1) := by decide +kernel
theorem dX12_layPages_267 : decode cX12_layPages 267 = .ok (.getfield 159, 3) := by decide +kernel
theorem dX12_layPages_270 : decode cX12_layPages 270 = .ok (.iload_n 1, 1) := by decide +kernel
theorem dX12_layPages_271 : decode cX12_layPages 271 = .ok (.iaload, 1) := by decide +kernel
theorem dX12_layPages_272 : decode cX12_layPages 272 = .ok (.aload_n 0, 1) := by decide +kernel
theorem dX12_layPages_273 : decode cX12_layPages 273 = .ok (.getfield 162, 3) := by decide +kernel
theorem dX12_layPages_276 : decode cX12_layPages 276 = .ok (.iload_n 1, 1) := by decide +kernel
theorem dX12_layPages_277 : decode cX12_layPages 277 = .ok (.iaload, 1) := by decide +kernel
theorem dX12_layPages_278 : decode cX12_layPages 278 = .ok (.invokevirtual 474, 3) := by decide +kernel
theorem dX12_layPages_281 : decode cX12_layPages 281 = .ok (.return_, 1) := by decide +kernel
set_option maxHeartbeats 4000000 in
set_option maxRecDepth 100000 in
theorem m_layPages (l : Launch) (dC : Nat → ClassId) (dI : Nat → Nat → Nat) (k : Nat → ClassId) (mo : Nat) (V : Nat → Value) (aRn : Nat) (aSo : Nat) (aNr : Nat) (aNw : Nat) (aNl : Nat) (aNc : Nat) (aNp : Nat) (aNq : Nat) (aNs : Nat) (aNn : Nat) (h48 : V 48 = .int 0) (h77 : V 77 = .ref aRn) (h90 : V 90 = .ref aSo) (h69 : V 69 = .ref aNr) (h70 : V 70 = .ref aNw) (h71 : V 71 = .ref aNl) (h72 : V 72 = .ref aNc) (h73 : V 73 = .ref aNp) (h74 : V 74 = .ref aNq) (h75 : V 75 = .ref aNs) (h76 : V 76 = .ref aNn) : Ct l dC dI k yX12_layPages (.code yX12_layPages cX12_layPages 7 none) ({ frames := 2, cells := 0, slots := 0, locals := 48 } : Room) [.ref mo] [(mo, .inr (10, fvM V)), (aNr, .inl (k 0, 16000, .inl (fun _ => 0))), (aNw, .inl (k 0, 16000, .inl (fun _ => 0))), (aNl, .inl (k 0, 16000, .inl (fun _ => 0))), (aNc, .inl (k 0, 16000, .inl (fun _ => 0))), (aNp, .inl (k 0, 16000, .inl (fun _ => 0))), (aNq, .inl (k 0, 16000, .inl (fun _ => 0))), (aNs, .inl (k 0, 16000, .inl (fun _ => 0))), (aNn, .inl (k 0, 16000, .inl (fun _ => 0))), (aRn, .inl (k 0, 769, .inl (fun _ => 0))), (aSo, .inl (k 0, 5, .inl (fun _ => 0)))] (fun r w => (∃ (V1 : Nat → Value), (∀ i, i ∉ ([68, 83, 84] : List Nat) → V1 i = V i) ∧ V1 83 = .int 0 ∧ V1 84 = .int 0 ∧ r = none ∧ w = [(mo, .inr (10, fvM V1))])) := by
  refine ct_of (by decide) (Nat.le_of_ble_eq_true rfl) ?_
  intro p e s m args below meth c H locs B hr hnm ls hl
  have hx := B.1.1
  have hb := B.1.2.1
  have hl : lv_has ls 7 [(0, .ref mo)] := hl
  refine lv_iconst (v := 0) hx hb dX12_layPages_0 (by decide) ?_
  refine lv_istore_n (lv' := [(1, .int 0), (0, .ref mo)]) hx hb dX12_layPages_1 rfl hl (by decide) rfl (fun ls hl => ?_)
  refine lv_iload_n hx hb dX12_layPages_2 rfl (lv_at hl 0 rfl) ?_
  refine lv_iconst (v := 5) hx hb dX12_layPages_3 (by decide) ?_
  refine lv_icmp_ge (tgt := 20) hx hb dX12_layPages_4 (by decide) (fun c9 => absurd c9 (by decide)) (fun _ => ?_)
  refine lv_aload_n hx hb dX12_layPages_7 rfl (lv_at hl 1 rfl) ?_
  refine x_get (ci := 10) (C := RX12) (T := TX12) (N := 93) (v := .ref aSo) B 0 rfl rfl in_X12 90 (by decide) mw_1954 (fun _ h9 => h9) (fvM_get (by decide) h90) dX12_layPages_8 ?_
  refine lv_iload_n hx hb dX12_layPages_11 rfl (lv_at hl 0 rfl) ?_
  refine lv_iconst (v := (-1)) hx hb dX12_layPages_12 (by decide) ?_
  refine x_iast B 10 rfl (vpc (by decide)) dX12_layPages_13 (j := 0) (by decide) (fun H locs B => ?_)
  have B := bd_to (ws' := [(mo, .inr (10, fvM V)), (aNr, .inl (k 0, 16000, .inl (fun _ => 0))), (aNw, .inl (k 0, 16000, .inl (fun _ => 0))), (aNl, .inl (k 0, 16000, .inl (fun _ => 0))), (aNc, .inl (k 0, 16000, .inl (fun _ => 0))), (aNp, .inl (k 0, 16000, .inl (fun _ => 0))), (aNq, .inl (k 0, 16000, .inl (fun _ => 0))), (aNs, .inl (k 0, 16000, .inl (fun _ => 0))), (aNn, .inl (k 0, 16000, .inl (fun _ => 0))), (aRn, .inl (k 0, 769, .inl (fun _ => 0))), (aSo, .inl (k 0, 5, .inl (upd (fun _ => 0) 0 (-1))))]) rfl B
  refine lv_iinc (v := 1) (lv' := [(1, .int 1), (0, .ref mo)]) hx hb dX12_layPages_14 hl (k := 0) rfl (by decide) (by decide) rfl (fun ls hl => ?_)
  refine lv_goto (tgt := 2) hx hb dX12_layPages_17 (by decide) ?_
  refine lv_iload_n hx hb dX12_layPages_2 rfl (lv_at hl 0 rfl) ?_
  refine lv_iconst (v := 5) hx hb dX12_layPages_3 (by decide) ?_
  refine lv_icmp_ge (tgt := 20) hx hb dX12_layPages_4 (by decide) (fun c9 => absurd c9 (by decide)) (fun _ => ?_)
  refine lv_aload_n hx hb dX12_layPages_7 rfl (lv_at hl 1 rfl) ?_
  refine x_get (ci := 10) (C := RX12) (T := TX12) (N := 93) (v := .ref aSo) B 0 rfl rfl in_X12 90 (by decide) mw_1954 (fun _ h9 => h9) (fvM_get (by decide) h90) dX12_layPages_8 ?_
  refine lv_iload_n hx hb dX12_layPages_11 rfl (lv_at hl 0 rfl) ?_
  refine lv_iconst (v := (-1)) hx hb dX12_layPages_12 (by decide) ?_
  refine x_iast B 10 rfl (vpc (by decide)) dX12_layPages_13 (j := 1) (by decide) (fun H locs B => ?_)
  have B := bd_to (ws' := [(mo, .inr (10, fvM V)), (aNr, .inl (k 0, 16000, .inl (fun _ => 0))), (aNw, .inl (k 0, 16000, .inl (fun _ => 0))), (aNl, .inl (k 0, 16000, .inl (fun _ => 0))), (aNc, .inl (k 0, 16000, .inl (fun _ => 0))), (aNp, .inl (k 0, 16000, .inl (fun _ => 0))), (aNq, .inl (k 0, 16000, .inl (fun _ => 0))), (aNs, .inl (k 0, 16000, .inl (fun _ => 0))), (aNn, .inl (k 0, 16000, .inl (fun _ => 0))), (aRn, .inl (k 0, 769, .inl (fun _ => 0))), (aSo, .inl (k 0, 5, .inl (upd (upd (fun _ => 0) 0 (-1)) 1 (-1))))]) rfl B
  refine lv_iinc (v := 2) (lv' := [(1, .int 2), (0, .ref mo)]) hx hb dX12_layPages_14 hl (k := 0) rfl (by decide) (by decide) rfl (fun ls hl => ?_)
  refine lv_goto (tgt := 2) hx hb dX12_layPages_17 (by decide) ?_
  refine lv_iload_n hx hb dX12_layPages_2 rfl (lv_at hl 0 rfl) ?_
  refine lv_iconst (v := 5) hx hb dX12_layPages_3 (by decide) ?_
  refine lv_icmp_ge (tgt := 20) hx hb dX12_layPages_4 (by decide) (fun c9 => absurd c9 (by decide)) (fun _ => ?_)
  refine lv_aload_n hx hb dX12_layPages_7 rfl (lv_at hl 1 rfl) ?_
  refine x_get (ci := 10) (C := RX12) (T := TX12) (N := 93) (v := .ref aSo) B 0 rfl rfl in_X12 90 (by decide) mw_1954 (fun _ h9 => h9) (fvM_get (by decide) h90) dX12_layPages_8 ?_
  refine lv_iload_n hx hb dX12_layPages_11 rfl (lv_at hl 0 rfl) ?_
  refine lv_iconst (v := (-1)) hx hb dX12_layPages_12 (by decide) ?_
  refine x_iast B 10 rfl (vpc (by decide)) dX12_layPages_13 (j := 2) (by decide) (fun H locs B => ?_)
  have B := bd_to (ws' := [(mo, .inr (10, fvM V)), (aNr, .inl (k 0, 16000, .inl (fun _ => 0))), (aNw, .inl (k 0, 16000, .inl (fun _ => 0))), (aNl, .inl (k 0, 16000, .inl (fun _ => 0))), (aNc, .inl (k 0, 16000, .inl (fun _ => 0))), (aNp, .inl (k 0, 16000, .inl (fun _ => 0))), (aNq, .inl (k 0, 16000, .inl (fun _ => 0))), (aNs, .inl (k 0, 16000, .inl (fun _ => 0))), (aNn, .inl (k 0, 16000, .inl (fun _ => 0))), (aRn, .inl (k 0, 769, .inl (fun _ => 0))), (aSo, .inl (k 0, 5, .inl (upd (upd (upd (fun _ => 0) 0 (-1)) 1 (-1)) 2 (-1))))]) rfl B
  refine lv_iinc (v := 3) (lv' := [(1, .int 3), (0, .ref mo)]) hx hb dX12_layPages_14 hl (k := 0) rfl (by decide) (by decide) rfl (fun ls hl => ?_)
  refine lv_goto (tgt := 2) hx hb dX12_layPages_17 (by decide) ?_
  refine lv_iload_n hx hb dX12_layPages_2 rfl (lv_at hl 0 rfl) ?_
  refine lv_iconst (v := 5) hx hb dX12_layPages_3 (by decide) ?_
  refine lv_icmp_ge (tgt := 20) hx hb dX12_layPages_4 (by decide) (fun c9 => absurd c9 (by decide)) (fun _ => ?_)
  refine lv_aload_n hx hb dX12_layPages_7 rfl (lv_at hl 1 rfl) ?_
  refine x_get (ci := 10) (C := RX12) (T := TX12) (N := 93) (v := .ref aSo) B 0 rfl rfl in_X12 90 (by decide) mw_1954 (fun _ h9 => h9) (fvM_get (by decide) h90) dX12_layPages_8 ?_
  refine lv_iload_n hx hb dX12_layPages_11 rfl (lv_at hl 0 rfl) ?_
  refine lv_iconst (v := (-1)) hx hb dX12_layPages_12 (by decide) ?_
  refine x_iast B 10 rfl (vpc (by decide)) dX12_layPages_13 (j := 3) (by decide) (fun H locs B => ?_)
  have B := bd_to (ws' := [(mo, .inr (10, fvM V)), (aNr, .inl (k 0, 16000, .inl (fun _ => 0))), (aNw, .inl (k 0, 16000, .inl (fun _ => 0))), (aNl, .inl (k 0, 16000, .inl (fun _ => 0))), (aNc, .inl (k 0, 16000, .inl (fun _ => 0))), (aNp, .inl (k 0, 16000, .inl (fun _ => 0))), (aNq, .inl (k 0, 16000, .inl (fun _ => 0))), (aNs, .inl (k 0, 16000, .inl (fun _ => 0))), (aNn, .inl (k 0, 16000, .inl (fun _ => 0))), (aRn, .inl (k 0, 769, .inl (fun _ => 0))), (aSo, .inl (k 0, 5, .inl (upd (upd (upd (upd (fun _ => 0) 0 (-1)) 1 (-1)) 2 (-1)) 3 (-1))))]) rfl B
  refine lv_iinc (v := 4) (lv' := [(1, .int 4), (0, .ref mo)]) hx hb dX12_layPages_14 hl (k := 0) rfl (by decide) (by decide) rfl (fun ls hl => ?_)
  refine lv_goto (tgt := 2) hx hb dX12_layPages_17 (by decide) ?_
  refine lv_iload_n hx hb dX12_layPages_2 rfl (lv_at hl 0 rfl) ?_
  refine lv_iconst (v := 5) hx hb dX12_layPages_3 (by decide) ?_
  refine lv_icmp_ge (tgt := 20) hx hb dX12_layPages_4 (by decide) (fun c9 => absurd c9 (by decide)) (fun _ => ?_)
  refine lv_aload_n hx hb dX12_layPages_7 rfl (lv_at hl 1 rfl) ?_
  refine x_get (ci := 10) (C := RX12) (T := TX12) (N := 93) (v := .ref aSo) B 0 rfl rfl in_X12 90 (by decide) mw_1954 (fun _ h9 => h9) (fvM_get (by decide) h90) dX12_layPages_8 ?_
  refine lv_iload_n hx hb dX12_layPages_11 rfl (lv_at hl 0 rfl) ?_
  refine lv_iconst (v := (-1)) hx hb dX12_layPages_12 (by decide) ?_
  refine x_iast B 10 rfl (vpc (by decide)) dX12_layPages_13 (j := 4) (by decide) (fun H locs B => ?_)
  have B := bd_to (ws' := [(mo, .inr (10, fvM V)), (aNr, .inl (k 0, 16000, .inl (fun _ => 0))), (aNw, .inl (k 0, 16000, .inl (fun _ => 0))), (aNl, .inl (k 0, 16000, .inl (fun _ => 0))), (aNc, .inl (k 0, 16000, .inl (fun _ => 0))), (aNp, .inl (k 0, 16000, .inl (fun _ => 0))), (aNq, .inl (k 0, 16000, .inl (fun _ => 0))), (aNs, .inl (k 0, 16000, .inl (fun _ => 0))), (aNn, .inl (k 0, 16000, .inl (fun _ => 0))), (aRn, .inl (k 0, 769, .inl (fun _ => 0))), (aSo, .inl (k 0, 5, .inl (upd (upd (upd (upd (upd (fun _ => 0) 0 (-1)) 1 (-1)) 2 (-1)) 3 (-1)) 4 (-1))))]) rfl B
  refine lv_iinc (v := 5) (lv' := [(1, .int 5), (0, .ref mo)]) hx hb dX12_layPages_14 hl (k := 0) rfl (by decide) (by decide) rfl (fun ls hl => ?_)
  refine lv_goto (tgt := 2) hx hb dX12_layPages_17 (by decide) ?_
  refine lv_iload_n hx hb dX12_layPages_2 rfl (lv_at hl 0 rfl) ?_
  refine lv_iconst (v := 5) hx hb dX12_layPages_3 (by decide) ?_
  refine lv_icmp_ge (tgt := 20) hx hb dX12_layPages_4 (by decide) (fun _ => ?_) (fun c9 => absurd (by decide) c9)
  refine lv_aload_n hx hb dX12_layPages_20 rfl (lv_at hl 1 rfl) ?_
  refine x_callV (rest := []) (wr := [(aSo, .inl (k 0, 5, .inl (upd (upd (upd (upd (upd (fun _ => 0) 0 (-1)) 1 (-1)) 2 (-1)) 3 (-1)) 4 (-1))))]) (m_findPages l dC dI k mo V aRn aNr aNw aNl aNc aNp aNq aNs aNn h48 h77 h69 h70 h71 h72 h73 h74 h75 h76) B mV_X12_findPages mw_2424 hl [0, 1, 2, 3, 4, 5, 6, 7, 8, 9] [10] rfl rfl ⟨by decide, by decide⟩ (by decide) (q0 := 0) rfl rfl rfl ⟨Nat.le_of_ble_eq_true rfl, Nat.le_of_ble_eq_true rfl⟩ (Nat.le_of_ble_eq_true rfl) rfl dX12_layPages_21 ⟨Nat.le_of_ble_eq_true rfl, Nat.le_of_ble_eq_true rfl⟩ (fun r w H locs hp B => ?_)
  obtain ⟨V1_1, z_2, z_3, rfl, rfl⟩ := hp
  have B := bd_to (ws' := [(aSo, .inl (k 0, 5, .inl (upd (upd (upd (upd (upd (fun _ => 0) 0 (-1)) 1 (-1)) 2 (-1)) 3 (-1)) 4 (-1)))), (mo, .inr (10, fvM V1_1)), (aNw, .inl (k 0, 16000, .inl (upd (fun _ => 0) 0 0))), (aNl, .inl (k 0, 16000, .inl (upd (fun _ => 0) 0 0))), (aNc, .inl (k 0, 16000, .inl (upd (fun _ => 0) 0 0))), (aNq, .inl (k 0, 16000, .inl (upd (fun _ => 0) 0 (-1))))]) rfl B
  refine lv_istore_n (lv' := [(1, .int 0), (0, .ref mo)]) hx hb dX12_layPages_24 rfl hl (by decide) rfl (fun ls hl => ?_)
  refine lv_aload_n hx hb dX12_layPages_25 rfl (lv_at hl 1 rfl) ?_
  refine lv_aload_n hx hb dX12_layPages_26 rfl (lv_at hl 1 rfl) ?_
  refine x_get (ci := 10) (C := RX12) (T := TX12) (N := 93) (v := .ref aNc) B 1 rfl rfl in_X12 72 (by decide) mw_1936 (fun _ h9 => h9) (fvM_get (by decide) ((z_2 72 (by decide)).trans h72)) dX12_layPages_27 ?_
  refine lv_iload_n hx hb dX12_layPages_30 rfl (lv_at hl 0 rfl) ?_
  refine x_iald (v := 0) B 4 rfl (vpc (by decide)) dX12_layPages_31 (by rfl) ?_
  refine x_put (ci := 10) (C := RX12) (T := TX12) (N := 93) (ty := .int) (v := .int 0) B tyX12_ok nmX12 1 rfl rfl in_X12 84 (by decide) mw_1948 (fun _ h9 => h9) rfl (by decide +kernel) rfl rfl (fvM_lt (by decide)) dX12_layPages_32 (fun H locs B => ?_)
  obtain ⟨V_4, hV_4, gV_4, eV_4⟩ := fvM_put V1_1 84 (.int 0) (by decide)
  rw [eV_4] at B
  have B := bd_to (ws' := [(aSo, .inl (k 0, 5, .inl (upd (upd (upd (upd (upd (fun _ => 0) 0 (-1)) 1 (-1)) 2 (-1)) 3 (-1)) 4 (-1)))), (mo, .inr (10, fvM V_4)), (aNw, .inl (k 0, 16000, .inl (upd (fun _ => 0) 0 0))), (aNl, .inl (k 0, 16000, .inl (upd (fun _ => 0) 0 0))), (aNc, .inl (k 0, 16000, .inl (upd (fun _ => 0) 0 0))), (aNq, .inl (k 0, 16000, .inl (upd (fun _ => 0) 0 (-1))))]) rfl B
  refine lv_aload_n hx hb dX12_layPages_35 rfl (lv_at hl 1 rfl) ?_
  refine lv_iconst (v := 0) hx hb dX12_layPages_36 (by decide) ?_
  refine x_put (ci := 10) (C := RX12) (T := TX12) (N := 93) (ty := .int) (v := .int 0) B tyX12_ok nmX12 1 rfl rfl in_X12 83 (by decide) mw_1947 (fun _ h9 => h9) rfl (by decide +kernel) rfl rfl (fvM_lt (by decide)) dX12_layPages_37 (fun H locs B => ?_)
  obtain ⟨V_5, hV_5, gV_5, eV_5⟩ := fvM_put V_4 83 (.int 0) (by decide)
  rw [eV_5] at B
  have B := bd_to (ws' := [(aSo, .inl (k 0, 5, .inl (upd (upd (upd (upd (upd (fun _ => 0) 0 (-1)) 1 (-1)) 2 (-1)) 3 (-1)) 4 (-1)))), (mo, .inr (10, fvM V_5)), (aNw, .inl (k 0, 16000, .inl (upd (fun _ => 0) 0 0))), (aNl, .inl (k 0, 16000, .inl (upd (fun _ => 0) 0 0))), (aNc, .inl (k 0, 16000, .inl (upd (fun _ => 0) 0 0))), (aNq, .inl (k 0, 16000, .inl (upd (fun _ => 0) 0 (-1))))]) rfl B
  refine lv_iconst (v := 0) hx hb dX12_layPages_40 (by decide) ?_
  refine lv_istore_n (lv' := [(2, .int 0), (1, .int 0), (0, .ref mo)]) hx hb dX12_layPages_41 rfl hl (by decide) rfl (fun ls hl => ?_)
  refine lv_iload_n hx hb dX12_layPages_42 rfl (lv_at hl 1 rfl) ?_
  refine lv_istore_n (lv' := [(3, .int 0), (2, .int 0), (1, .int 0), (0, .ref mo)]) hx hb dX12_layPages_43 rfl hl (by decide) rfl (fun ls hl => ?_)
  refine lv_aload_n hx hb dX12_layPages_44 rfl (lv_at hl 3 rfl) ?_
  refine x_get (ci := 10) (C := RX12) (T := TX12) (N := 93) (v := .ref aNq) B 1 rfl rfl in_X12 74 (by decide) mw_1938 (fun _ h9 => h9) (fvM_get (by decide) ((hV_5 74 (by decide)).trans ((hV_4 74 (by decide)).trans ((z_2 74 (by decide)).trans h74)))) dX12_layPages_45 ?_
  refine lv_iload_n hx hb dX12_layPages_48 rfl (lv_at hl 0 rfl) ?_
  refine x_iald (v := (-1)) B 5 rfl (vpc (by decide)) dX12_layPages_49 (by rfl) ?_
  refine lv_iconst (v := (-1)) hx hb dX12_layPages_50 (by decide) ?_
  refine lv_icmp_eq (tgt := 74) hx hb dX12_layPages_51 (by decide) (fun _ => ?_) (fun c9 => absurd (by decide) c9)
  refine lv_iload_n hx hb dX12_layPages_74 rfl (lv_at hl 1 rfl) ?_
  refine lv_iconst (v := 1) hx hb dX12_layPages_75 (by decide) ?_
  refine lv_isub hx hb dX12_layPages_76 ?_
  refine lv_seti (y := (-1)) (by decide) ?_
  refine lv_istore_n (lv' := [(3, .int (-1)), (2, .int 0), (1, .int 0), (0, .ref mo)]) hx hb dX12_layPages_77 rfl hl (by decide) rfl (fun ls hl => ?_)
  refine lv_iload_n hx hb dX12_layPages_78 rfl (lv_at hl 0 rfl) ?_
  refine lv_if_lt (tgt := 265) hx hb dX12_layPages_79 (by decide) (fun _ => ?_) (fun c9 => absurd (by decide) c9)
  refine lv_aload_n hx hb dX12_layPages_265 rfl (lv_at hl 3 rfl) ?_
  refine lv_aload_n hx hb dX12_layPages_266 rfl (lv_at hl 3 rfl) ?_
  refine x_get (ci := 10) (C := RX12) (T := TX12) (N := 93) (v := .ref aNw) B 1 rfl rfl in_X12 70 (by decide) mw_1934 (fun _ h9 => h9) (fvM_get (by decide) ((hV_5 70 (by decide)).trans ((hV_4 70 (by decide)).trans ((z_2 70 (by decide)).trans h70)))) dX12_layPages_267 ?_
  refine lv_iload_n hx hb dX12_layPages_270 rfl (lv_at hl 2 rfl) ?_
  refine x_iald (v := 0) B 2 rfl (vpc (by decide)) dX12_layPages_271 (by rfl) ?_
  refine lv_aload_n hx hb dX12_layPages_272 rfl (lv_at hl 3 rfl) ?_
  refine x_get (ci := 10) (C := RX12) (T := TX12) (N := 93) (v := .ref aNl) B 1 rfl rfl in_X12 71 (by decide) mw_1935 (fun _ h9 => h9) (fvM_get (by decide) ((hV_5 71 (by decide)).trans ((hV_4 71 (by decide)).trans ((z_2 71 (by decide)).trans h71)))) dX12_layPages_273 ?_
  refine lv_iload_n hx hb dX12_layPages_276 rfl (lv_at hl 2 rfl) ?_
  refine x_iald (v := 0) B 3 rfl (vpc (by decide)) dX12_layPages_277 (by rfl) ?_
  refine x_callV (rest := []) (wr := [(aSo, .inl (k 0, 5, .inl (upd (upd (upd (upd (upd (fun _ => 0) 0 (-1)) 1 (-1)) 2 (-1)) 3 (-1)) 4 (-1)))), (aNw, .inl (k 0, 16000, .inl (upd (fun _ => 0) 0 0))), (aNl, .inl (k 0, 16000, .inl (upd (fun _ => 0) 0 0))), (aNc, .inl (k 0, 16000, .inl (upd (fun _ => 0) 0 0))), (aNq, .inl (k 0, 16000, .inl (upd (fun _ => 0) 0 (-1))))]) (m_layTail l dC dI k mo V_5) B mV_X12_layTail mw_2484 hl [1] [0, 2, 3, 4, 5] rfl rfl ⟨by decide, by decide⟩ (by decide) (q0 := 0) rfl rfl rfl ⟨Nat.le_of_ble_eq_true rfl, Nat.le_of_ble_eq_true rfl⟩ (Nat.le_of_ble_eq_true rfl) rfl dX12_layPages_278 ⟨Nat.le_of_ble_eq_true rfl, Nat.le_of_ble_eq_true rfl⟩ (fun r w H locs hp B => ?_)
  obtain ⟨rfl, rfl⟩ := hp
  have B := bd_to (ws' := [(aSo, .inl (k 0, 5, .inl (upd (upd (upd (upd (upd (fun _ => 0) 0 (-1)) 1 (-1)) 2 (-1)) 3 (-1)) 4 (-1)))), (aNw, .inl (k 0, 16000, .inl (upd (fun _ => 0) 0 0))), (aNl, .inl (k 0, 16000, .inl (upd (fun _ => 0) 0 0))), (aNc, .inl (k 0, 16000, .inl (upd (fun _ => 0) 0 0))), (aNq, .inl (k 0, 16000, .inl (upd (fun _ => 0) 0 (-1)))), (mo, .inr (10, fvM V_5))]) rfl B
  have B := bd_sub (ws' := [(mo, .inr (10, fvM V_5))]) [5] (by decide) rfl B
  exact x_vret B hr (⟨V_5, (fun i9 h9 => ((hV_5 i9 (fun q9 => h9 (by rw [q9]; decide))).trans ((hV_4 i9 (fun q9 => h9 (by rw [q9]; decide))).trans (z_2 i9 (fun q9 => h9 ((by decide : ∀ x ∈ ([68] : List Nat), x ∈ ([68, 83, 84] : List Nat)) i9 q9)))))), gV_5, ((hV_5 84 (by decide)).trans gV_4), rfl, rfl⟩) (Nat.le_of_ble_eq_true rfl) (Nat.le_of_ble_eq_true rfl) dX12_layPages_281

theorem mw_1945 : (Jvm.Cond.fieldLink "GalleyforgeModel" (486 : Nat) "GalleyforgeModel" "rounds" "I") ∈ gt := gt_at 2080 (by decide +kernel) (by decide +kernel)
theorem mw_2384 : (Jvm.Cond.methodLink "GalleyforgeModel" (480 : Nat) ({ cls := "GalleyforgeModel", name := "layRows", desc := "(I)V" } : Jvm.MethodName)) ∈ gt := gt_at 2519 (by decide +kernel) (by decide +kernel)
theorem mw_2386 : (Jvm.Cond.instanceMethod ({ cls := "GalleyforgeModel", name := "layRows", desc := "(I)V" } : Jvm.MethodName)) ∈ gt := gt_at 2521 (by decide +kernel) (by decide +kernel)
theorem mw_2387 : (Jvm.Cond.code ({ cls := "GalleyforgeModel", name := "layRows", desc := "(I)V" } : Jvm.MethodName) prog_14_method_62_code (5 : Nat) (Option.none : Option Jvm.ClassFile.FieldType)) ∈ gt := gt_at 2522 (by decide +kernel) (by decide +kernel)
theorem mw_2420 : (Jvm.Cond.methodLink "GalleyforgeModel" (483 : Nat) ({ cls := "GalleyforgeModel", name := "layPages", desc := "()V" } : Jvm.MethodName)) ∈ gt := gt_at 2555 (by decide +kernel) (by decide +kernel)
theorem mw_2422 : (Jvm.Cond.instanceMethod ({ cls := "GalleyforgeModel", name := "layPages", desc := "()V" } : Jvm.MethodName)) ∈ gt := gt_at 2557 (by decide +kernel) (by decide +kernel)
theorem mw_2423 : (Jvm.Cond.code ({ cls := "GalleyforgeModel", name := "layPages", desc := "()V" } : Jvm.MethodName) prog_14_method_80_code (7 : Nat) (Option.none : Option Jvm.ClassFile.FieldType)) ∈ gt := gt_at 2558 (by decide +kernel) (by decide +kernel)
theorem ms_112 : Cond.selects "GalleyforgeModel" (⟨"GalleyforgeModel", "layPages", "()V"⟩ : MethodName) (⟨"GalleyforgeModel", "layPages", "()V"⟩ : MethodName) ∈ gt := gt_at 112 (by decide +kernel) (by decide +kernel)
theorem mV_X12_layPages : mV yX12_layPages cX12_layPages 7 none 0 := ⟨⟨mw_2423, mw_13, by decide, by decide, by decide +kernel⟩, mw_2422, ms_112⟩
theorem ms_103 : Cond.selects "GalleyforgeModel" (⟨"GalleyforgeModel", "layRows", "(I)V"⟩ : MethodName) (⟨"GalleyforgeModel", "layRows", "(I)V"⟩ : MethodName) ∈ gt := gt_at 103 (by decide +kernel) (by decide +kernel)
theorem mV_X12_layRows : mV yX12_layRows cX12_layRows 5 none 1 := ⟨⟨mw_2387, mw_13, by decide, by decide, by decide +kernel⟩, mw_2386, ms_103⟩
theorem dX12_makeRound_0 : decode cX12_makeRound 0 = .ok (.iconst 0, 1) := by decide +kernel
theorem dX12_makeRound_1 : decode cX12_makeRound 1 = .ok (.istore_n 2, 1) := by decide +kernel
theorem dX12_makeRound_2 : decode cX12_makeRound 2 = .ok (.iload_n 2, 1) := by decide +kernel
theorem dX12_makeRound_3 : decode cX12_makeRound 3 = .ok (.aload_n 0, 1) := by decide +kernel
theorem dX12_makeRound_4 : decode cX12_makeRound 4 = .ok (.getfield 226, 3) := by decide +kernel
theorem dX12_makeRound_7 : decode cX12_makeRound 7 = .ok (.if_icmp .ge 15, 3) := by decide +kernel
theorem dX12_makeRound_22 : decode cX12_makeRound 22 = .ok (.aload_n 0, 1) := by decide +kernel
theorem dX12_makeRound_23 : decode cX12_makeRound 23 = .ok (.iload_n 1, 1) := by decide +kernel
theorem dX12_makeRound_24 : decode cX12_makeRound 24 = .ok (.invokevirtual 480, 3) := by decide +kernel
theorem dX12_makeRound_27 : decode cX12_makeRound 27 = .ok (.aload_n 0, 1) := by decide +kernel
theorem dX12_makeRound_28 : decode cX12_makeRound 28 = .ok (.invokevirtual 483, 3) := by decide +kernel
theorem dX12_makeRound_31 : decode cX12_makeRound 31 = .ok (.aload_n 0, 1) := by decide +kernel
theorem dX12_makeRound_32 : decode cX12_makeRound 32 = .ok (.dup, 1) := by decide +kernel
theorem dX12_makeRound_33 : decode cX12_makeRound 33 = .ok (.getfield 486, 3) := by decide +kernel
theorem dX12_makeRound_36 : decode cX12_makeRound 36 = .ok (.iconst 1, 1) := by decide +kernel
theorem dX12_makeRound_37 : decode cX12_makeRound 37 = .ok (.iadd, 1) := by decide +kernel
theorem dX12_makeRound_38 : decode cX12_makeRound 38 = .ok (.putfield 486, 3) := by decide +kernel
theorem dX12_makeRound_41 : decode cX12_makeRound 41 = .ok (.return_, 1) := by decide +kernel
set_option maxHeartbeats 4000000 in
set_option maxRecDepth 100000 in
theorem m_makeRound (l : Launch) (dC : Nat → ClassId) (dI : Nat → Nat → Nat) (k : Nat → ClassId) (mo : Nat) (V : Nat → Value) (aRn : Nat) (aSo : Nat) (aNr : Nat) (aNw : Nat) (aNl : Nat) (aNc : Nat) (aNp : Nat) (aNq : Nat) (aNs : Nat) (aNn : Nat) (v : Int32) (h9 : V 9 = .int 0) (h21 : V 21 = .int 0) (h77 : V 77 = .ref aRn) (h81 : V 81 = .int 0) (h90 : V 90 = .ref aSo) (h69 : V 69 = .ref aNr) (h70 : V 70 = .ref aNw) (h71 : V 71 = .ref aNl) (h72 : V 72 = .ref aNc) (h73 : V 73 = .ref aNp) (h74 : V 74 = .ref aNq) (h75 : V 75 = .ref aNs) (h76 : V 76 = .ref aNn) : Ct l dC dI k yX12_makeRound (.code yX12_makeRound cX12_makeRound 3 none) ({ frames := 3, cells := 0, slots := 0, locals := 74 } : Room) [.ref mo, .int v] [(mo, .inr (10, fvM V)), (aNr, .inl (k 0, 16000, .inl (fun _ => 0))), (aNw, .inl (k 0, 16000, .inl (fun _ => 0))), (aNl, .inl (k 0, 16000, .inl (fun _ => 0))), (aNc, .inl (k 0, 16000, .inl (fun _ => 0))), (aNp, .inl (k 0, 16000, .inl (fun _ => 0))), (aNq, .inl (k 0, 16000, .inl (fun _ => 0))), (aNs, .inl (k 0, 16000, .inl (fun _ => 0))), (aNn, .inl (k 0, 16000, .inl (fun _ => 0))), (aRn, .inl (k 0, 769, .inl (fun _ => 0))), (aSo, .inl (k 0, 5, .inl (fun _ => 0)))] (fun r w => (∃ (V1 : Nat → Value), (∀ i, i ∉ ([48, 57, 68, 81, 83, 84] : List Nat) → V1 i = V i) ∧ V1 81 = .int 1 ∧ V1 83 = .int 0 ∧ V1 84 = .int 0 ∧ r = none ∧ w = [(mo, .inr (10, fvM V1))])) := by
  refine ct_of (by decide) (Nat.le_of_ble_eq_true rfl) ?_
  intro p e s m args below meth c H locs B hr hnm ls hl
  have hx := B.1.1
  have hb := B.1.2.1
  have hl : lv_has ls 3 [(0, .ref mo), (1, .int v)] := hl
  refine lv_iconst (v := 0) hx hb dX12_makeRound_0 (by decide) ?_
  refine lv_istore_n (lv' := [(2, .int 0), (0, .ref mo), (1, .int v)]) hx hb dX12_makeRound_1 rfl hl (by decide) rfl (fun ls hl => ?_)
  refine lv_iload_n hx hb dX12_makeRound_2 rfl (lv_at hl 0 rfl) ?_
  refine lv_aload_n hx hb dX12_makeRound_3 rfl (lv_at hl 1 rfl) ?_
  refine x_get (ci := 10) (C := RX12) (T := TX12) (N := 93) (v := .int 0) B 0 rfl rfl in_X12 9 (by decide) mw_1873 (fun _ h9 => h9) (fvM_get (by decide) h9) dX12_makeRound_4 ?_
  refine lv_icmp_ge (tgt := 22) hx hb dX12_makeRound_7 (by decide) (fun _ => ?_) (fun c9 => absurd (by decide) c9)
  refine lv_aload_n hx hb dX12_makeRound_22 rfl (lv_at hl 1 rfl) ?_
  refine lv_iload_n hx hb dX12_makeRound_23 rfl (lv_at hl 2 rfl) ?_
  refine x_callV (rest := []) (wr := [(aNr, .inl (k 0, 16000, .inl (fun _ => 0))), (aNw, .inl (k 0, 16000, .inl (fun _ => 0))), (aNl, .inl (k 0, 16000, .inl (fun _ => 0))), (aNc, .inl (k 0, 16000, .inl (fun _ => 0))), (aNp, .inl (k 0, 16000, .inl (fun _ => 0))), (aNq, .inl (k 0, 16000, .inl (fun _ => 0))), (aNs, .inl (k 0, 16000, .inl (fun _ => 0))), (aNn, .inl (k 0, 16000, .inl (fun _ => 0))), (aRn, .inl (k 0, 769, .inl (fun _ => 0))), (aSo, .inl (k 0, 5, .inl (fun _ => 0)))]) (m_layRows l dC dI k mo V v h9 h21) B mV_X12_layRows mw_2384 hl [0] [1, 2, 3, 4, 5, 6, 7, 8, 9, 10] rfl rfl ⟨by decide, by decide⟩ (by decide) (q0 := 0) rfl rfl rfl ⟨Nat.le_of_ble_eq_true rfl, Nat.le_of_ble_eq_true rfl⟩ (Nat.le_of_ble_eq_true rfl) rfl dX12_makeRound_24 ⟨Nat.le_of_ble_eq_true rfl, Nat.le_of_ble_eq_true rfl⟩ (fun r w H locs hp B => ?_)
  obtain ⟨V1_1, z_2, z_3, z_4, rfl, rfl⟩ := hp
  have B := bd_to (ws' := [(aNr, .inl (k 0, 16000, .inl (fun _ => 0))), (aNw, .inl (k 0, 16000, .inl (fun _ => 0))), (aNl, .inl (k 0, 16000, .inl (fun _ => 0))), (aNc, .inl (k 0, 16000, .inl (fun _ => 0))), (aNp, .inl (k 0, 16000, .inl (fun _ => 0))), (aNq, .inl (k 0, 16000, .inl (fun _ => 0))), (aNs, .inl (k 0, 16000, .inl (fun _ => 0))), (aNn, .inl (k 0, 16000, .inl (fun _ => 0))), (aRn, .inl (k 0, 769, .inl (fun _ => 0))), (aSo, .inl (k 0, 5, .inl (fun _ => 0))), (mo, .inr (10, fvM V1_1))]) rfl B
  refine lv_aload_n hx hb dX12_makeRound_27 rfl (lv_at hl 1 rfl) ?_
  refine x_callV (rest := []) (wr := []) (m_layPages l dC dI k mo V1_1 aRn aSo aNr aNw aNl aNc aNp aNq aNs aNn z_3 ((z_2 77 (by decide)).trans h77) ((z_2 90 (by decide)).trans h90) ((z_2 69 (by decide)).trans h69) ((z_2 70 (by decide)).trans h70) ((z_2 71 (by decide)).trans h71) ((z_2 72 (by decide)).trans h72) ((z_2 73 (by decide)).trans h73) ((z_2 74 (by decide)).trans h74) ((z_2 75 (by decide)).trans h75) ((z_2 76 (by decide)).trans h76)) B mV_X12_layPages mw_2420 hl [10, 0, 1, 2, 3, 4, 5, 6, 7, 8, 9] [] rfl rfl ⟨by decide, by decide⟩ (by decide) (q0 := 0) rfl rfl rfl ⟨Nat.le_of_ble_eq_true rfl, Nat.le_of_ble_eq_true rfl⟩ (Nat.le_of_ble_eq_true rfl) rfl dX12_makeRound_28 ⟨Nat.le_of_ble_eq_true rfl, Nat.le_of_ble_eq_true rfl⟩ (fun r w H locs hp B => ?_)
  obtain ⟨V1_5, z_6, z_7, z_8, rfl, rfl⟩ := hp
  have B := bd_to (ws' := [(mo, .inr (10, fvM V1_5))]) rfl B
  refine lv_aload_n hx hb dX12_makeRound_31 rfl (lv_at hl 1 rfl) ?_
  refine lv_dup hx hb dX12_makeRound_32 rfl ?_
  refine x_get (ci := 10) (C := RX12) (T := TX12) (N := 93) (v := .int 0) B 0 rfl rfl in_X12 81 (by decide) mw_1945 (fun _ h9 => h9) (fvM_get (by decide) ((z_6 81 (by decide)).trans ((z_2 81 (by decide)).trans h81))) dX12_makeRound_33 ?_
  refine lv_iconst (v := 1) hx hb dX12_makeRound_36 (by decide) ?_
  refine lv_iadd hx hb dX12_makeRound_37 ?_
  refine lv_seti (y := 1) (by decide) ?_
  refine x_put (ci := 10) (C := RX12) (T := TX12) (N := 93) (ty := .int) (v := .int 1) B tyX12_ok nmX12 0 rfl rfl in_X12 81 (by decide) mw_1945 (fun _ h9 => h9) rfl (by decide +kernel) rfl rfl (fvM_lt (by decide)) dX12_makeRound_38 (fun H locs B => ?_)
  obtain ⟨V_9, hV_9, gV_9, eV_9⟩ := fvM_put V1_5 81 (.int 1) (by decide)
  rw [eV_9] at B
  have B := bd_to (ws' := [(mo, .inr (10, fvM V_9))]) rfl B
  have B := bd_sub (ws' := [(mo, .inr (10, fvM V_9))]) [0] (by decide) rfl B
  exact x_vret B hr (⟨V_9, (fun i9 h9 => ((hV_9 i9 (fun q9 => h9 (by rw [q9]; decide))).trans ((z_6 i9 (fun q9 => h9 ((by decide : ∀ x ∈ ([68, 83, 84] : List Nat), x ∈ ([48, 57, 68, 81, 83, 84] : List Nat)) i9 q9))).trans (z_2 i9 (fun q9 => h9 ((by decide : ∀ x ∈ ([48, 57] : List Nat), x ∈ ([48, 57, 68, 81, 83, 84] : List Nat)) i9 q9)))))), gV_9, ((hV_9 83 (by decide)).trans z_7), ((hV_9 84 (by decide)).trans z_8), rfl, rfl⟩) (Nat.le_of_ble_eq_true rfl) (Nat.le_of_ble_eq_true rfl) dX12_makeRound_41

end
