section
theorem dX12_isVariant_0 : decode cX12_isVariant 0 = .ok (.iload_n 0, 1) := by decide +kernel
theorem dX12_isVariant_1 : decode cX12_isVariant 1 = .ok (.iconst 0, 1) := by decide +kernel
theorem dX12_isVariant_2 : decode cX12_isVariant 2 = .ok (.iconst 1, 1) := by decide +kernel
theorem dX12_isVariant_3 : decode cX12_isVariant 3 = .ok (.invokestatic 229, 3) := by decide +kernel
theorem dX12_isVariant_6 : decode cX12_isVariant 6 = .ok (.ireturn, 1) := by decide +kernel
set_option maxHeartbeats 4000000 in
set_option maxRecDepth 100000 in
theorem m_isVariant (l : Launch) (dC : Nat → ClassId) (dI : Nat → Nat → Nat) (k : Nat → ClassId) (v : Int32) : Ct l dC dI k yX12_isVariant (.code yX12_isVariant cX12_isVariant 1 (some .boolean)) ({ frames := 1, cells := 0, slots := 0, locals := 22 } : Room) [.int v] [] (fun r w => ((0 ≤ v.toInt ∧ v.toInt ≤ 1) ∧ r = some (.int 1) ∧ w = []) ∨ (¬ (0 ≤ v.toInt ∧ v.toInt ≤ 1) ∧ r = some (.int 0) ∧ w = [])) := by
  refine ct_of (by decide) (Nat.le_of_ble_eq_true rfl) ?_
  intro p e s m args below meth c H locs B hr hnm ls hl
  have hx := B.1.1
  have hb := B.1.2.1
  have hl : lv_has ls 1 [(0, .int v)] := hl
  refine lv_iload_n hx hb dX12_isVariant_0 rfl (lv_at hl 0 rfl) ?_
  refine lv_iconst (v := 0) hx hb dX12_isVariant_1 (by decide) ?_
  refine lv_iconst (v := 1) hx hb dX12_isVariant_2 (by decide) ?_
  refine x_callS (rest := []) (wr := []) (m_in_0_1 l dC dI k v) B mS_X12_in mw_2152 hl [] [] rfl rfl ⟨by decide, by decide⟩ (by decide) ⟨Nat.le_of_ble_eq_true rfl, Nat.le_of_ble_eq_true rfl⟩ (Nat.le_of_ble_eq_true rfl) rfl dX12_isVariant_3 ⟨Nat.le_of_ble_eq_true rfl, Nat.le_of_ble_eq_true rfl⟩ (fun r w H locs hp B => ?_)
  rcases hp with ⟨z_1, rfl, rfl⟩ | ⟨z_2, rfl, rfl⟩
  · skip
    have B := bd_to (ws' := []) rfl B
    have B := bd_sub (ws' := []) [] (by decide) rfl B
    exact x_zret B hr (by decide) (Or.inl (⟨by omega, rfl, rfl⟩)) (Nat.le_of_ble_eq_true rfl) (Nat.le_of_ble_eq_true rfl) dX12_isVariant_6
  · skip
    have B := bd_to (ws' := []) rfl B
    have B := bd_sub (ws' := []) [] (by decide) rfl B
    exact x_zret B hr (by decide) (Or.inr (⟨by omega, rfl, rfl⟩)) (Nat.le_of_ble_eq_true rfl) (Nat.le_of_ble_eq_true rfl) dX12_isVariant_6

theorem dX12_isThere_0 : decode cX12_isThere 0 = .ok (.iload_n 2, 1) := by decide +kernel
theorem dX12_isThere_1 : decode cX12_isThere 1 = .ok (.bipush 12, 2) := by decide +kernel
theorem dX12_isThere_3 : decode cX12_isThere 3 = .ok (.idiv, 1) := by decide +kernel
theorem dX12_isThere_4 : decode cX12_isThere 4 = .ok (.aload_n 0, 1) := by decide +kernel
theorem dX12_isThere_5 : decode cX12_isThere 5 = .ok (.getfield 226, 3) := by decide +kernel
theorem dX12_isThere_8 : decode cX12_isThere 8 = .ok (.if_icmp .ge 44, 3) := by decide +kernel
theorem dX12_isThere_52 : decode cX12_isThere 52 = .ok (.iconst 0, 1) := by decide +kernel
theorem dX12_isThere_53 : decode cX12_isThere 53 = .ok (.ireturn, 1) := by decide +kernel
set_option maxHeartbeats 4000000 in
set_option maxRecDepth 100000 in
theorem m_isThere (l : Launch) (dC : Nat → ClassId) (dI : Nat → Nat → Nat) (k : Nat → ClassId) (mo : Nat) (V : Nat → Value) (v : Int32) (wd : Nat) (h9 : V 9 = .int 0) (hwd : wd < 192) : Ct l dC dI k yX12_isThere (.code yX12_isThere cX12_isThere 3 (some .boolean)) ({ frames := 0, cells := 0, slots := 0, locals := 0 } : Room) [.ref mo, .int v, .int (nI wd)] [(mo, .inr (10, fvM V))] (fun r w => (r = some (.int 0) ∧ w = [(mo, .inr (10, fvM V))])) := by
  refine ct_of (by decide) (Nat.le_of_ble_eq_true rfl) ?_
  intro p e s m args below meth c H locs B hr hnm ls hl
  have hx := B.1.1
  have hb := B.1.2.1
  have hl : lv_has ls 3 [(0, .ref mo), (1, .int v), (2, .int (nI wd))] := hl
  refine lv_iload_n hx hb dX12_isThere_0 rfl (lv_at hl 2 rfl) ?_
  refine lv_bipush (v := 12) hx hb dX12_isThere_1 (by decide) ?_
  refine lv_idiv hx hb dX12_isThere_3 (by decide) ?_
  refine lv_seti (y := nI (wd / 12)) (pk_div (by omega) (by decide) (by decide)) ?_
  have z_1 : 0 ≤ (nI (wd / 12)).toInt ∧ (nI (wd / 12)).toInt ≤ 15 := by have h9 := nI_toInt (n := wd / 12) (by omega); rw [h9]; omega
  refine lv_aload_n hx hb dX12_isThere_4 rfl (lv_at hl 0 rfl) ?_
  refine x_get (ci := 10) (C := RX12) (T := TX12) (N := 93) (v := .int 0) B 0 rfl rfl in_X12 9 (by decide) mw_1873 (fun _ h9 => h9) (fvM_get (by decide) h9) dX12_isThere_5 ?_
  refine lv_icmp_ge (tgt := 52) hx hb dX12_isThere_8 (by decide) (fun c_2 => ?_) (fun c9 => by have z9 : (nI (wd / 12)).toInt < 0 := znge c9; omega)
  refine lv_iconst (v := 0) hx hb dX12_isThere_52 (by decide) ?_
  have B := bd_sub (ws' := [(mo, .inr (10, fvM V))]) [0] (by decide) rfl B
  exact x_zret B hr (by decide) (⟨rfl, rfl⟩) (Nat.le_of_ble_eq_true rfl) (Nat.le_of_ble_eq_true rfl) dX12_isThere_53

theorem dX12_hasTerm_0 : decode cX12_hasTerm 0 = .ok (.iconst 0, 1) := by decide +kernel
theorem dX12_hasTerm_1 : decode cX12_hasTerm 1 = .ok (.istore_n 3, 1) := by decide +kernel
theorem dX12_hasTerm_2 : decode cX12_hasTerm 2 = .ok (.iconst 0, 1) := by decide +kernel
theorem dX12_hasTerm_3 : decode cX12_hasTerm 3 = .ok (.istore 4, 2) := by decide +kernel
theorem dX12_hasTerm_5 : decode cX12_hasTerm 5 = .ok (.iload 4, 2) := by decide +kernel
theorem dX12_hasTerm_7 : decode cX12_hasTerm 7 = .ok (.aload_n 0, 1) := by decide +kernel
theorem dX12_hasTerm_8 : decode cX12_hasTerm 8 = .ok (.getfield 226, 3) := by decide +kernel
theorem dX12_hasTerm_11 : decode cX12_hasTerm 11 = .ok (.bipush 12, 2) := by decide +kernel
theorem dX12_hasTerm_13 : decode cX12_hasTerm 13 = .ok (.imul, 1) := by decide +kernel
theorem dX12_hasTerm_14 : decode cX12_hasTerm 14 = .ok (.if_icmp .ge 83, 3) := by decide +kernel
theorem dX12_hasTerm_97 : decode cX12_hasTerm 97 = .ok (.iload_n 3, 1) := by decide +kernel
theorem dX12_hasTerm_98 : decode cX12_hasTerm 98 = .ok (.ireturn, 1) := by decide +kernel
set_option maxHeartbeats 4000000 in
set_option maxRecDepth 100000 in
theorem m_hasTerm (l : Launch) (dC : Nat → ClassId) (dI : Nat → Nat → Nat) (k : Nat → ClassId) (mo : Nat) (V : Nat → Value) (v : Int32) (x1 : Int32) (h9 : V 9 = .int 0) : Ct l dC dI k yX12_hasTerm (.code yX12_hasTerm cX12_hasTerm 6 (some .boolean)) ({ frames := 0, cells := 0, slots := 0, locals := 0 } : Room) [.ref mo, .int v, .int x1] [(mo, .inr (10, fvM V))] (fun r w => (r = some (.int 0) ∧ w = [(mo, .inr (10, fvM V))])) := by
  refine ct_of (by decide) (Nat.le_of_ble_eq_true rfl) ?_
  intro p e s m args below meth c H locs B hr hnm ls hl
  have hx := B.1.1
  have hb := B.1.2.1
  have hl : lv_has ls 6 [(0, .ref mo), (1, .int v), (2, .int x1)] := hl
  refine lv_iconst (v := 0) hx hb dX12_hasTerm_0 (by decide) ?_
  refine lv_istore_n (lv' := [(3, .int 0), (0, .ref mo), (1, .int v), (2, .int x1)]) hx hb dX12_hasTerm_1 rfl hl (by decide) rfl (fun ls hl => ?_)
  refine lv_iconst (v := 0) hx hb dX12_hasTerm_2 (by decide) ?_
  refine lv_istore (lv' := [(4, .int 0), (3, .int 0), (0, .ref mo), (1, .int v), (2, .int x1)]) hx hb dX12_hasTerm_3 hl (by decide) rfl (fun ls hl => ?_)
  refine lv_iload hx hb dX12_hasTerm_5 (lv_at hl 0 rfl) ?_
  refine lv_aload_n hx hb dX12_hasTerm_7 rfl (lv_at hl 2 rfl) ?_
  refine x_get (ci := 10) (C := RX12) (T := TX12) (N := 93) (v := .int 0) B 0 rfl rfl in_X12 9 (by decide) mw_1873 (fun _ h9 => h9) (fvM_get (by decide) h9) dX12_hasTerm_8 ?_
  refine lv_bipush (v := 12) hx hb dX12_hasTerm_11 (by decide) ?_
  refine lv_imul hx hb dX12_hasTerm_13 ?_
  refine lv_seti (y := 0) (by decide) ?_
  refine lv_icmp_ge (tgt := 97) hx hb dX12_hasTerm_14 (by decide) (fun _ => ?_) (fun c9 => absurd (by decide) c9)
  refine lv_iload_n hx hb dX12_hasTerm_97 rfl (lv_at hl 1 rfl) ?_
  have B := bd_sub (ws' := [(mo, .inr (10, fvM V))]) [0] (by decide) rfl B
  exact x_zret B hr (by decide) (⟨rfl, rfl⟩) (Nat.le_of_ble_eq_true rfl) (Nat.le_of_ble_eq_true rfl) dX12_hasTerm_98

theorem mw_2404 : (Jvm.Cond.methodLink "GalleyforgeModel" (378 : Nat) ({ cls := "GalleyforgeModel", name := "isThere", desc := "(II)Z" } : Jvm.MethodName)) ∈ gt := gt_at 2539 (by decide +kernel) (by decide +kernel)
theorem mw_2406 : (Jvm.Cond.instanceMethod ({ cls := "GalleyforgeModel", name := "isThere", desc := "(II)Z" } : Jvm.MethodName)) ∈ gt := gt_at 2541 (by decide +kernel) (by decide +kernel)
theorem mw_2407 : (Jvm.Cond.code ({ cls := "GalleyforgeModel", name := "isThere", desc := "(II)Z" } : Jvm.MethodName) prog_14_method_59_code (3 : Nat) (Option.some Jvm.ClassFile.FieldType.boolean)) ∈ gt := gt_at 2542 (by decide +kernel) (by decide +kernel)
theorem ms_108 : Cond.selects "GalleyforgeModel" (⟨"GalleyforgeModel", "isThere", "(II)Z"⟩ : MethodName) (⟨"GalleyforgeModel", "isThere", "(II)Z"⟩ : MethodName) ∈ gt := gt_at 108 (by decide +kernel) (by decide +kernel)
theorem mV_X12_isThere : mV yX12_isThere cX12_isThere 3 (some .boolean) 2 := ⟨⟨mw_2407, mw_13, by decide, by decide, by decide +kernel⟩, mw_2406, ms_108⟩
theorem dX12_pageOfLabel_0 : decode cX12_pageOfLabel 0 = .ok (.iconst (-1), 1) := by decide +kernel
theorem dX12_pageOfLabel_1 : decode cX12_pageOfLabel 1 = .ok (.istore_n 3, 1) := by decide +kernel
theorem dX12_pageOfLabel_2 : decode cX12_pageOfLabel 2 = .ok (.iconst 0, 1) := by decide +kernel
theorem dX12_pageOfLabel_3 : decode cX12_pageOfLabel 3 = .ok (.istore 4, 2) := by decide +kernel
theorem dX12_pageOfLabel_5 : decode cX12_pageOfLabel 5 = .ok (.iload 4, 2) := by decide +kernel
theorem dX12_pageOfLabel_7 : decode cX12_pageOfLabel 7 = .ok (.sipush 192, 3) := by decide +kernel
theorem dX12_pageOfLabel_10 : decode cX12_pageOfLabel 10 = .ok (.if_icmp .ge 56, 3) := by decide +kernel
theorem dX12_pageOfLabel_13 : decode cX12_pageOfLabel 13 = .ok (.aload_n 0, 1) := by decide +kernel
theorem dX12_pageOfLabel_14 : decode cX12_pageOfLabel 14 = .ok (.iload_n 1, 1) := by decide +kernel
theorem dX12_pageOfLabel_15 : decode cX12_pageOfLabel 15 = .ok (.iload 4, 2) := by decide +kernel
theorem dX12_pageOfLabel_17 : decode cX12_pageOfLabel 17 = .ok (.invokevirtual 378, 3) := by decide +kernel
theorem dX12_pageOfLabel_20 : decode cX12_pageOfLabel 20 = .ok (.ifCond .eq 40, 3) := by decide +kernel
theorem dX12_pageOfLabel_60 : decode cX12_pageOfLabel 60 = .ok (.iinc 4 1, 3) := by decide +kernel
theorem dX12_pageOfLabel_63 : decode cX12_pageOfLabel 63 = .ok (.goto (-58), 3) := by decide +kernel
theorem dX12_pageOfLabel_66 : decode cX12_pageOfLabel 66 = .ok (.iload_n 3, 1) := by decide +kernel
theorem dX12_pageOfLabel_67 : decode cX12_pageOfLabel 67 = .ok (.iconst (-1), 1) := by decide +kernel
theorem dX12_pageOfLabel_68 : decode cX12_pageOfLabel 68 = .ok (.if_icmp .ne 7, 3) := by decide +kernel
theorem dX12_pageOfLabel_71 : decode cX12_pageOfLabel 71 = .ok (.iconst (-1), 1) := by decide +kernel
theorem dX12_pageOfLabel_72 : decode cX12_pageOfLabel 72 = .ok (.goto 9, 3) := by decide +kernel
theorem dX12_pageOfLabel_81 : decode cX12_pageOfLabel 81 = .ok (.ireturn, 1) := by decide +kernel
set_option maxHeartbeats 4000000 in
set_option maxRecDepth 100000 in
theorem m_pageOfLabel (l : Launch) (dC : Nat → ClassId) (dI : Nat → Nat → Nat) (k : Nat → ClassId) (mo : Nat) (V : Nat → Value) (v : Int32) (lb : Int32) (h9 : V 9 = .int 0) : Ct l dC dI k yX12_pageOfLabel (.code yX12_pageOfLabel cX12_pageOfLabel 6 (some .int)) ({ frames := 1, cells := 0, slots := 0, locals := 22 } : Room) [.ref mo, .int v, .int lb] [(mo, .inr (10, fvM V))] (fun r w => (r = some (.int (-1)) ∧ w = [(mo, .inr (10, fvM V))])) := by
  refine ct_of (by decide) (Nat.le_of_ble_eq_true rfl) ?_
  intro p e s m args below meth c H locs B hr hnm ls hl
  have hx := B.1.1
  have hb := B.1.2.1
  have hl : lv_has ls 6 [(0, .ref mo), (1, .int v), (2, .int lb)] := hl
  refine lv_iconst (v := (-1)) hx hb dX12_pageOfLabel_0 (by decide) ?_
  refine lv_istore_n (lv' := [(3, .int (-1)), (0, .ref mo), (1, .int v), (2, .int lb)]) hx hb dX12_pageOfLabel_1 rfl hl (by decide) rfl (fun ls hl => ?_)
  refine lv_iconst (v := 0) hx hb dX12_pageOfLabel_2 (by decide) ?_
  refine lv_istore (lv' := [(4, .int 0), (3, .int (-1)), (0, .ref mo), (1, .int v), (2, .int lb)]) hx hb dX12_pageOfLabel_3 hl (by decide) rfl (fun ls hl => ?_)
  refine x_loop (M := fun i9 ls H locs => lv_has ls 6 [(4, .int (nI i9)), (3, .int (-1)), (0, .ref mo), (1, .int v), (2, .int lb)] ∧ bd p s m args meth c _ _ _ dC dI k _ [(mo, .inr (10, fvM V))] H locs) 192 (fun i_1 hi_1 ih_2 ls H locs hM => ?_) (fun ls H locs hM => ?_) 0 (by decide) ls H locs ⟨lv_sub hl [0, 1, 2, 3, 4] rfl, B⟩
  · obtain ⟨hl, B⟩ := hM
    have ei_1 : (nI i_1).toInt = i_1 := nI_toInt (by omega)
    refine lv_iload hx hb dX12_pageOfLabel_5 (lv_at hl 0 rfl) ?_
    refine lv_sipush (v := 192) hx hb dX12_pageOfLabel_7 (by decide) ?_
    refine lv_icmp_ge (tgt := 66) hx hb dX12_pageOfLabel_10 (by decide) (fun c9 => by have z9 : 192 ≤ (nI i_1).toInt := zge c9; omega) (fun c_3 => ?_)
    refine lv_aload_n hx hb dX12_pageOfLabel_13 rfl (lv_at hl 2 rfl) ?_
    refine lv_iload_n hx hb dX12_pageOfLabel_14 rfl (lv_at hl 3 rfl) ?_
    refine lv_iload hx hb dX12_pageOfLabel_15 (lv_at hl 0 rfl) ?_
    refine x_callV (rest := []) (wr := []) (m_isThere l dC dI k mo V v i_1 h9 (by first | omega | decide)) B mV_X12_isThere mw_2404 hl [0] [] rfl rfl ⟨by decide, by decide⟩ (by decide) (q0 := 0) rfl rfl rfl ⟨Nat.le_of_ble_eq_true rfl, Nat.le_of_ble_eq_true rfl⟩ (Nat.le_of_ble_eq_true rfl) rfl dX12_pageOfLabel_17 ⟨Nat.le_of_ble_eq_true rfl, Nat.le_of_ble_eq_true rfl⟩ (fun r w H locs hp B => ?_)
    obtain ⟨rfl, rfl⟩ := hp
    have B := bd_to (ws' := [(mo, .inr (10, fvM V))]) rfl B
    refine lv_if_eq (tgt := 60) hx hb dX12_pageOfLabel_20 (by decide) (fun _ => ?_) (fun c9 => absurd (by decide) c9)
    refine lv_iinc (v := (nI (i_1 + 1))) (lv' := [(4, .int (nI (i_1 + 1))), (3, .int (-1)), (0, .ref mo), (1, .int v), (2, .int lb)]) hx hb dX12_pageOfLabel_60 hl (k := 0) rfl (nI_1 _) (by decide) rfl (fun ls hl => ?_)
    refine lv_goto (tgt := 5) hx hb dX12_pageOfLabel_63 (by decide) ?_
    exact ih_2 _ _ _ ⟨lv_sub hl [0, 1, 2, 3, 4] rfl, B⟩
  · obtain ⟨hl, B⟩ := hM
    have hl : lv_has ls 6 [(4, .int 192), (3, .int (-1)), (0, .ref mo), (1, .int v), (2, .int lb)] := hl
    refine lv_iload hx hb dX12_pageOfLabel_5 (lv_at hl 0 rfl) ?_
    refine lv_sipush (v := 192) hx hb dX12_pageOfLabel_7 (by decide) ?_
    refine lv_icmp_ge (tgt := 66) hx hb dX12_pageOfLabel_10 (by decide) (fun _ => ?_) (fun c9 => absurd (by decide) c9)
    refine lv_iload_n hx hb dX12_pageOfLabel_66 rfl (lv_at hl 1 rfl) ?_
    refine lv_iconst (v := (-1)) hx hb dX12_pageOfLabel_67 (by decide) ?_
    refine lv_icmp_ne (tgt := 75) hx hb dX12_pageOfLabel_68 (by decide) (fun c9 => absurd c9 (by decide)) (fun _ => ?_)
    refine lv_iconst (v := (-1)) hx hb dX12_pageOfLabel_71 (by decide) ?_
    refine lv_goto (tgt := 81) hx hb dX12_pageOfLabel_72 (by decide) ?_
    have B := bd_sub (ws' := [(mo, .inr (10, fvM V))]) [0] (by decide) rfl B
    exact x_iret B hr (⟨rfl, rfl⟩) (Nat.le_of_ble_eq_true rfl) (Nat.le_of_ble_eq_true rfl) dX12_pageOfLabel_81

theorem mw_1921 : (Jvm.Cond.fieldLink "GalleyforgeModel" (387 : Nat) "GalleyforgeModel" "mentioned" "I") ∈ gt := gt_at 2056 (by decide +kernel) (by decide +kernel)
theorem dX12_orderFigures_0 : decode cX12_orderFigures 0 = .ok (.aload_n 0, 1) := by decide +kernel
theorem dX12_orderFigures_1 : decode cX12_orderFigures 1 = .ok (.iconst 0, 1) := by decide +kernel
theorem dX12_orderFigures_2 : decode cX12_orderFigures 2 = .ok (.putfield 387, 3) := by decide +kernel
theorem dX12_orderFigures_5 : decode cX12_orderFigures 5 = .ok (.iconst (-1), 1) := by decide +kernel
theorem dX12_orderFigures_6 : decode cX12_orderFigures 6 = .ok (.istore_n 2, 1) := by decide +kernel
theorem dX12_orderFigures_7 : decode cX12_orderFigures 7 = .ok (.iconst 1, 1) := by decide +kernel
theorem dX12_orderFigures_8 : decode cX12_orderFigures 8 = .ok (.istore_n 3, 1) := by decide +kernel
theorem dX12_orderFigures_9 : decode cX12_orderFigures 9 = .ok (.iload_n 3, 1) := by decide +kernel
theorem dX12_orderFigures_10 : decode cX12_orderFigures 10 = .ok (.ifCond .eq 121, 3) := by decide +kernel
theorem dX12_orderFigures_13 : decode cX12_orderFigures 13 = .ok (.iconst (-1), 1) := by decide +kernel
theorem dX12_orderFigures_14 : decode cX12_orderFigures 14 = .ok (.istore 4, 2) := by decide +kernel
theorem dX12_orderFigures_16 : decode cX12_orderFigures 16 = .ok (.iconst 0, 1) := by decide +kernel
theorem dX12_orderFigures_17 : decode cX12_orderFigures 17 = .ok (.istore 5, 2) := by decide +kernel
theorem dX12_orderFigures_19 : decode cX12_orderFigures 19 = .ok (.iconst 0, 1) := by decide +kernel
theorem dX12_orderFigures_20 : decode cX12_orderFigures 20 = .ok (.istore 6, 2) := by decide +kernel
theorem dX12_orderFigures_22 : decode cX12_orderFigures 22 = .ok (.iload 6, 2) := by decide +kernel
theorem dX12_orderFigures_24 : decode cX12_orderFigures 24 = .ok (.aload_n 0, 1) := by decide +kernel
theorem dX12_orderFigures_25 : decode cX12_orderFigures 25 = .ok (.getfield 247, 3) := by decide +kernel
theorem dX12_orderFigures_28 : decode cX12_orderFigures 28 = .ok (.if_icmp .ge 45, 3) := by decide +kernel
theorem dX12_orderFigures_73 : decode cX12_orderFigures 73 = .ok (.iload 4, 2) := by decide +kernel
theorem dX12_orderFigures_75 : decode cX12_orderFigures 75 = .ok (.iconst (-1), 1) := by decide +kernel
theorem dX12_orderFigures_76 : decode cX12_orderFigures 76 = .ok (.if_icmp .eq 7, 3) := by decide +kernel
theorem dX12_orderFigures_83 : decode cX12_orderFigures 83 = .ok (.iconst 0, 1) := by decide +kernel
theorem dX12_orderFigures_84 : decode cX12_orderFigures 84 = .ok (.istore_n 3, 1) := by decide +kernel
theorem dX12_orderFigures_85 : decode cX12_orderFigures 85 = .ok (.iload_n 3, 1) := by decide +kernel
theorem dX12_orderFigures_86 : decode cX12_orderFigures 86 = .ok (.ifCond .eq 42, 3) := by decide +kernel
theorem dX12_orderFigures_128 : decode cX12_orderFigures 128 = .ok (.goto (-119), 3) := by decide +kernel
theorem dX12_orderFigures_131 : decode cX12_orderFigures 131 = .ok (.return_, 1) := by decide +kernel
set_option maxHeartbeats 4000000 in
set_option maxRecDepth 100000 in
theorem m_orderFigures (l : Launch) (dC : Nat → ClassId) (dI : Nat → Nat → Nat) (k : Nat → ClassId) (mo : Nat) (V : Nat → Value) (v : Int32) (h21 : V 21 = .int 0) : Ct l dC dI k yX12_orderFigures (.code yX12_orderFigures cX12_orderFigures 8 none) ({ frames := 0, cells := 0, slots := 0, locals := 0 } : Room) [.ref mo, .int v] [(mo, .inr (10, fvM V))] (fun r w => (∃ (V1 : Nat → Value), (∀ i, i ∉ ([57] : List Nat) → V1 i = V i) ∧ V1 57 = .int 0 ∧ r = none ∧ w = [(mo, .inr (10, fvM V1))])) := by
  refine ct_of (by decide) (Nat.le_of_ble_eq_true rfl) ?_
  intro p e s m args below meth c H locs B hr hnm ls hl
  have hx := B.1.1
  have hb := B.1.2.1
  have hl : lv_has ls 8 [(0, .ref mo), (1, .int v)] := hl
  refine lv_aload_n hx hb dX12_orderFigures_0 rfl (lv_at hl 0 rfl) ?_
  refine lv_iconst (v := 0) hx hb dX12_orderFigures_1 (by decide) ?_
  refine x_put (ci := 10) (C := RX12) (T := TX12) (N := 93) (ty := .int) (v := .int 0) B tyX12_ok nmX12 0 rfl rfl in_X12 57 (by decide) mw_1921 (fun _ h9 => h9) rfl (by decide +kernel) rfl rfl (fvM_lt (by decide)) dX12_orderFigures_2 (fun H locs B => ?_)
  obtain ⟨V_1, hV_1, gV_1, eV_1⟩ := fvM_put V 57 (.int 0) (by decide)
  rw [eV_1] at B
  have B := bd_to (ws' := [(mo, .inr (10, fvM V_1))]) rfl B
  refine lv_iconst (v := (-1)) hx hb dX12_orderFigures_5 (by decide) ?_
  refine lv_istore_n (lv' := [(2, .int (-1)), (0, .ref mo), (1, .int v)]) hx hb dX12_orderFigures_6 rfl hl (by decide) rfl (fun ls hl => ?_)
  refine lv_iconst (v := 1) hx hb dX12_orderFigures_7 (by decide) ?_
  refine lv_istore_n (lv' := [(3, .int 1), (2, .int (-1)), (0, .ref mo), (1, .int v)]) hx hb dX12_orderFigures_8 rfl hl (by decide) rfl (fun ls hl => ?_)
  refine lv_iload_n hx hb dX12_orderFigures_9 rfl (lv_at hl 0 rfl) ?_
  refine lv_if_eq (tgt := 131) hx hb dX12_orderFigures_10 (by decide) (fun c9 => absurd c9 (by decide)) (fun _ => ?_)
  refine lv_iconst (v := (-1)) hx hb dX12_orderFigures_13 (by decide) ?_
  refine lv_istore (lv' := [(4, .int (-1)), (3, .int 1), (2, .int (-1)), (0, .ref mo), (1, .int v)]) hx hb dX12_orderFigures_14 hl (by decide) rfl (fun ls hl => ?_)
  refine lv_iconst (v := 0) hx hb dX12_orderFigures_16 (by decide) ?_
  refine lv_istore (lv' := [(5, .int 0), (4, .int (-1)), (3, .int 1), (2, .int (-1)), (0, .ref mo), (1, .int v)]) hx hb dX12_orderFigures_17 hl (by decide) rfl (fun ls hl => ?_)
  refine lv_iconst (v := 0) hx hb dX12_orderFigures_19 (by decide) ?_
  refine lv_istore (lv' := [(6, .int 0), (5, .int 0), (4, .int (-1)), (3, .int 1), (2, .int (-1)), (0, .ref mo), (1, .int v)]) hx hb dX12_orderFigures_20 hl (by decide) rfl (fun ls hl => ?_)
  refine lv_iload hx hb dX12_orderFigures_22 (lv_at hl 0 rfl) ?_
  refine lv_aload_n hx hb dX12_orderFigures_24 rfl (lv_at hl 5 rfl) ?_
  refine x_get (ci := 10) (C := RX12) (T := TX12) (N := 93) (v := .int 0) B 0 rfl rfl in_X12 21 (by decide) mw_1885 (fun _ h9 => h9) (fvM_get (by decide) ((hV_1 21 (by decide)).trans h21)) dX12_orderFigures_25 ?_
  refine lv_icmp_ge (tgt := 73) hx hb dX12_orderFigures_28 (by decide) (fun _ => ?_) (fun c9 => absurd (by decide) c9)
  refine lv_iload hx hb dX12_orderFigures_73 (lv_at hl 2 rfl) ?_
  refine lv_iconst (v := (-1)) hx hb dX12_orderFigures_75 (by decide) ?_
  refine lv_icmp_eq (tgt := 83) hx hb dX12_orderFigures_76 (by decide) (fun _ => ?_) (fun c9 => absurd (by decide) c9)
  refine lv_iconst (v := 0) hx hb dX12_orderFigures_83 (by decide) ?_
  refine lv_istore_n (lv' := [(3, .int 0), (6, .int 0), (5, .int 0), (4, .int (-1)), (2, .int (-1)), (0, .ref mo), (1, .int v)]) hx hb dX12_orderFigures_84 rfl hl (by decide) rfl (fun ls hl => ?_)
  refine lv_iload_n hx hb dX12_orderFigures_85 rfl (lv_at hl 0 rfl) ?_
  refine lv_if_eq (tgt := 128) hx hb dX12_orderFigures_86 (by decide) (fun _ => ?_) (fun c9 => absurd (by decide) c9)
  refine lv_goto (tgt := 9) hx hb dX12_orderFigures_128 (by decide) ?_
  refine lv_iload_n hx hb dX12_orderFigures_9 rfl (lv_at hl 0 rfl) ?_
  refine lv_if_eq (tgt := 131) hx hb dX12_orderFigures_10 (by decide) (fun _ => ?_) (fun c9 => absurd (by decide) c9)
  have B := bd_sub (ws' := [(mo, .inr (10, fvM V_1))]) [0] (by decide) rfl B
  exact x_vret B hr (⟨V_1, (fun i9 h9 => (hV_1 i9 (fun q9 => h9 (by rw [q9]; decide)))), gV_1, rfl, rfl⟩) (Nat.le_of_ble_eq_true rfl) (Nat.le_of_ble_eq_true rfl) dX12_orderFigures_131

theorem mw_1912 : (Jvm.Cond.fieldLink "GalleyforgeModel" (372 : Nat) "GalleyforgeModel" "rows" "I") ∈ gt := gt_at 2047 (by decide +kernel) (by decide +kernel)
theorem mw_2412 : (Jvm.Cond.methodLink "GalleyforgeModel" (384 : Nat) ({ cls := "GalleyforgeModel", name := "orderFigures", desc := "(I)V" } : Jvm.MethodName)) ∈ gt := gt_at 2547 (by decide +kernel) (by decide +kernel)
theorem mw_2414 : (Jvm.Cond.instanceMethod ({ cls := "GalleyforgeModel", name := "orderFigures", desc := "(I)V" } : Jvm.MethodName)) ∈ gt := gt_at 2549 (by decide +kernel) (by decide +kernel)
theorem mw_2415 : (Jvm.Cond.code ({ cls := "GalleyforgeModel", name := "orderFigures", desc := "(I)V" } : Jvm.MethodName) prog_14_method_63_code (8 : Nat) (Option.none : Option Jvm.ClassFile.FieldType)) ∈ gt := gt_at 2550 (by decide +kernel) (by decide +kernel)
theorem ms_110 : Cond.selects "GalleyforgeModel" (⟨"GalleyforgeModel", "orderFigures", "(I)V"⟩ : MethodName) (⟨"GalleyforgeModel", "orderFigures", "(I)V"⟩ : MethodName) ∈ gt := gt_at 110 (by decide +kernel) (by decide +kernel)
theorem mV_X12_orderFigures : mV yX12_orderFigures cX12_orderFigures 8 none 1 := ⟨⟨mw_2415, mw_13, by decide, by decide, by decide +kernel⟩, mw_2414, ms_110⟩
theorem dX12_layRows_0 : decode cX12_layRows 0 = .ok (.aload_n 0, 1) := by decide +kernel
theorem dX12_layRows_1 : decode cX12_layRows 1 = .ok (.iconst 0, 1) := by decide +kernel
theorem dX12_layRows_2 : decode cX12_layRows 2 = .ok (.putfield 372, 3) := by decide +kernel
theorem dX12_layRows_5 : decode cX12_layRows 5 = .ok (.iconst 0, 1) := by decide +kernel
theorem dX12_layRows_6 : decode cX12_layRows 6 = .ok (.istore_n 2, 1) := by decide +kernel
theorem dX12_layRows_7 : decode cX12_layRows 7 = .ok (.iload_n 2, 1) := by decide +kernel
theorem dX12_layRows_8 : decode cX12_layRows 8 = .ok (.aload_n 0, 1) := by decide +kernel
theorem dX12_layRows_9 : decode cX12_layRows 9 = .ok (.getfield 226, 3) := by decide +kernel
theorem dX12_layRows_12 : decode cX12_layRows 12 = .ok (.if_icmp .ge 200, 3) := by decide +kernel
theorem dX12_layRows_212 : decode cX12_layRows 212 = .ok (.iconst 0, 1) := by decide +kernel
theorem dX12_layRows_213 : decode cX12_layRows 213 = .ok (.istore_n 2, 1) := by decide +kernel
theorem dX12_layRows_214 : decode cX12_layRows 214 = .ok (.iload_n 2, 1) := by decide +kernel
theorem dX12_layRows_215 : decode cX12_layRows 215 = .ok (.sipush 192, 3) := by decide +kernel
theorem dX12_layRows_218 : decode cX12_layRows 218 = .ok (.if_icmp .ge 61, 3) := by decide +kernel
theorem dX12_layRows_221 : decode cX12_layRows 221 = .ok (.aload_n 0, 1) := by decide +kernel
theorem dX12_layRows_222 : decode cX12_layRows 222 = .ok (.iload_n 1, 1) := by decide +kernel
theorem dX12_layRows_223 : decode cX12_layRows 223 = .ok (.iload_n 2, 1) := by decide +kernel
theorem dX12_layRows_224 : decode cX12_layRows 224 = .ok (.invokevirtual 378, 3) := by decide +kernel
theorem dX12_layRows_227 : decode cX12_layRows 227 = .ok (.ifCond .eq 46, 3) := by decide +kernel
theorem dX12_layRows_273 : decode cX12_layRows 273 = .ok (.iinc 2 1, 3) := by decide +kernel
theorem dX12_layRows_276 : decode cX12_layRows 276 = .ok (.goto (-62), 3) := by decide +kernel
theorem dX12_layRows_279 : decode cX12_layRows 279 = .ok (.aload_n 0, 1) := by decide +kernel
theorem dX12_layRows_280 : decode cX12_layRows 280 = .ok (.iload_n 1, 1) := by decide +kernel
theorem dX12_layRows_281 : decode cX12_layRows 281 = .ok (.invokevirtual 384, 3) := by decide +kernel
theorem dX12_layRows_284 : decode cX12_layRows 284 = .ok (.return_, 1) := by decide +kernel
set_option maxHeartbeats 4000000 in
set_option maxRecDepth 100000 in
theorem m_layRows (l : Launch) (dC : Nat → ClassId) (dI : Nat → Nat → Nat) (k : Nat → ClassId) (mo : Nat) (V : Nat → Value) (v : Int32) (h9 : V 9 = .int 0) (h21 : V 21 = .int 0) : Ct l dC dI k yX12_layRows (.code yX12_layRows cX12_layRows 5 none) ({ frames := 1, cells := 0, slots := 0, locals := 27 } : Room) [.ref mo, .int v] [(mo, .inr (10, fvM V))] (fun r w => (∃ (V1 : Nat → Value), (∀ i, i ∉ ([48, 57] : List Nat) → V1 i = V i) ∧ V1 48 = .int 0 ∧ V1 57 = .int 0 ∧ r = none ∧ w = [(mo, .inr (10, fvM V1))])) := by
  refine ct_of (by decide) (Nat.le_of_ble_eq_true rfl) ?_
  intro p e s m args below meth c H locs B hr hnm ls hl
  have hx := B.1.1
  have hb := B.1.2.1
  have hl : lv_has ls 5 [(0, .ref mo), (1, .int v)] := hl
  refine lv_aload_n hx hb dX12_layRows_0 rfl (lv_at hl 0 rfl) ?_
  refine lv_iconst (v := 0) hx hb dX12_layRows_1 (by decide) ?_
  refine x_put (ci := 10) (C := RX12) (T := TX12) (N := 93) (ty := .int) (v := .int 0) B tyX12_ok nmX12 0 rfl rfl in_X12 48 (by decide) mw_1912 (fun _ h9 => h9) rfl (by decide +kernel) rfl rfl (fvM_lt (by decide)) dX12_layRows_2 (fun H locs B => ?_)
  obtain ⟨V_1, hV_1, gV_1, eV_1⟩ := fvM_put V 48 (.int 0) (by decide)
  rw [eV_1] at B
  have B := bd_to (ws' := [(mo, .inr (10, fvM V_1))]) rfl B
  refine lv_iconst (v := 0) hx hb dX12_layRows_5 (by decide) ?_
  refine lv_istore_n (lv' := [(2, .int 0), (0, .ref mo), (1, .int v)]) hx hb dX12_layRows_6 rfl hl (by decide) rfl (fun ls hl => ?_)
  refine lv_iload_n hx hb dX12_layRows_7 rfl (lv_at hl 0 rfl) ?_
  refine lv_aload_n hx hb dX12_layRows_8 rfl (lv_at hl 1 rfl) ?_
  refine x_get (ci := 10) (C := RX12) (T := TX12) (N := 93) (v := .int 0) B 0 rfl rfl in_X12 9 (by decide) mw_1873 (fun _ h9 => h9) (fvM_get (by decide) ((hV_1 9 (by decide)).trans h9)) dX12_layRows_9 ?_
  refine lv_icmp_ge (tgt := 212) hx hb dX12_layRows_12 (by decide) (fun _ => ?_) (fun c9 => absurd (by decide) c9)
  refine lv_iconst (v := 0) hx hb dX12_layRows_212 (by decide) ?_
  refine lv_istore_n (lv' := [(2, .int 0), (0, .ref mo), (1, .int v)]) hx hb dX12_layRows_213 rfl hl (by decide) rfl (fun ls hl => ?_)
  refine x_loop (M := fun i9 ls H locs => lv_has ls 5 [(2, .int (nI i9)), (0, .ref mo), (1, .int v)] ∧ bd p s m args meth c _ _ _ dC dI k _ [(mo, .inr (10, fvM V_1))] H locs) 192 (fun i_2 hi_2 ih_3 ls H locs hM => ?_) (fun ls H locs hM => ?_) 0 (by decide) ls H locs ⟨lv_sub hl [0, 1, 2] rfl, B⟩
  · obtain ⟨hl, B⟩ := hM
    have ei_2 : (nI i_2).toInt = i_2 := nI_toInt (by omega)
    refine lv_iload_n hx hb dX12_layRows_214 rfl (lv_at hl 0 rfl) ?_
    refine lv_sipush (v := 192) hx hb dX12_layRows_215 (by decide) ?_
    refine lv_icmp_ge (tgt := 279) hx hb dX12_layRows_218 (by decide) (fun c9 => by have z9 : 192 ≤ (nI i_2).toInt := zge c9; omega) (fun c_4 => ?_)
    refine lv_aload_n hx hb dX12_layRows_221 rfl (lv_at hl 1 rfl) ?_
    refine lv_iload_n hx hb dX12_layRows_222 rfl (lv_at hl 2 rfl) ?_
    refine lv_iload_n hx hb dX12_layRows_223 rfl (lv_at hl 0 rfl) ?_
    refine x_callV (rest := []) (wr := []) (m_isThere l dC dI k mo V_1 v i_2 ((hV_1 9 (by decide)).trans h9) (by first | omega | decide)) B mV_X12_isThere mw_2404 hl [0] [] rfl rfl ⟨by decide, by decide⟩ (by decide) (q0 := 0) rfl rfl rfl ⟨Nat.le_of_ble_eq_true rfl, Nat.le_of_ble_eq_true rfl⟩ (Nat.le_of_ble_eq_true rfl) rfl dX12_layRows_224 ⟨Nat.le_of_ble_eq_true rfl, Nat.le_of_ble_eq_true rfl⟩ (fun r w H locs hp B => ?_)
    obtain ⟨rfl, rfl⟩ := hp
    have B := bd_to (ws' := [(mo, .inr (10, fvM V_1))]) rfl B
    refine lv_if_eq (tgt := 273) hx hb dX12_layRows_227 (by decide) (fun _ => ?_) (fun c9 => absurd (by decide) c9)
    refine lv_iinc (v := (nI (i_2 + 1))) (lv' := [(2, .int (nI (i_2 + 1))), (0, .ref mo), (1, .int v)]) hx hb dX12_layRows_273 hl (k := 0) rfl (nI_1 _) (by decide) rfl (fun ls hl => ?_)
    refine lv_goto (tgt := 214) hx hb dX12_layRows_276 (by decide) ?_
    exact ih_3 _ _ _ ⟨lv_sub hl [0, 1, 2] rfl, B⟩
  · obtain ⟨hl, B⟩ := hM
    have hl : lv_has ls 5 [(2, .int 192), (0, .ref mo), (1, .int v)] := hl
    refine lv_iload_n hx hb dX12_layRows_214 rfl (lv_at hl 0 rfl) ?_
    refine lv_sipush (v := 192) hx hb dX12_layRows_215 (by decide) ?_
    refine lv_icmp_ge (tgt := 279) hx hb dX12_layRows_218 (by decide) (fun _ => ?_) (fun c9 => absurd (by decide) c9)
    refine lv_aload_n hx hb dX12_layRows_279 rfl (lv_at hl 1 rfl) ?_
    refine lv_iload_n hx hb dX12_layRows_280 rfl (lv_at hl 2 rfl) ?_
    refine x_callV (rest := []) (wr := []) (m_orderFigures l dC dI k mo V_1 v ((hV_1 21 (by decide)).trans h21)) B mV_X12_orderFigures mw_2412 hl [0] [] rfl rfl ⟨by decide, by decide⟩ (by decide) (q0 := 0) rfl rfl rfl ⟨Nat.le_of_ble_eq_true rfl, Nat.le_of_ble_eq_true rfl⟩ (Nat.le_of_ble_eq_true rfl) rfl dX12_layRows_281 ⟨Nat.le_of_ble_eq_true rfl, Nat.le_of_ble_eq_true rfl⟩ (fun r w H locs hp B => ?_)
    obtain ⟨V1_5, z_6, z_7, rfl, rfl⟩ := hp
    have B := bd_to (ws' := [(mo, .inr (10, fvM V1_5))]) rfl B
    have B := bd_sub (ws' := [(mo, .inr (10, fvM V1_5))]) [0] (by decide) rfl B
    exact x_vret B hr (⟨V1_5, (fun i9 h9 => ((z_6 i9 (fun q9 => h9 ((by decide : ∀ x ∈ ([57] : List Nat), x ∈ ([48, 57] : List Nat)) i9 q9))).trans (hV_1 i9 (fun q9 => h9 (by rw [q9]; decide))))), ((z_6 48 (by decide)).trans gV_1), z_7, rfl, rfl⟩) (Nat.le_of_ble_eq_true rfl) (Nat.le_of_ble_eq_true rfl) dX12_layRows_284

theorem mw_1911 : (Jvm.Cond.fieldLink "GalleyforgeModel" (122 : Nat) "GalleyforgeModel" "digits" "[I") ∈ gt := gt_at 2046 (by decide +kernel) (by decide +kernel)
theorem dX12_digitOf_0 : decode cX12_digitOf 0 = .ok (.iload_n 0, 1) := by decide +kernel
theorem dX12_digitOf_1 : decode cX12_digitOf 1 = .ok (.istore_n 2, 1) := by decide +kernel
theorem dX12_digitOf_2 : decode cX12_digitOf 2 = .ok (.iconst 0, 1) := by decide +kernel
theorem dX12_digitOf_3 : decode cX12_digitOf 3 = .ok (.istore_n 3, 1) := by decide +kernel
theorem dX12_digitOf_4 : decode cX12_digitOf 4 = .ok (.iload_n 3, 1) := by decide +kernel
theorem dX12_digitOf_5 : decode cX12_digitOf 5 = .ok (.iload_n 1, 1) := by decide +kernel
theorem dX12_digitOf_6 : decode cX12_digitOf 6 = .ok (.if_icmp .ge 13, 3) := by decide +kernel
theorem dX12_digitOf_19 : decode cX12_digitOf 19 = .ok (.iload_n 2, 1) := by decide +kernel
theorem dX12_digitOf_20 : decode cX12_digitOf 20 = .ok (.iconst 5, 1) := by decide +kernel
theorem dX12_digitOf_21 : decode cX12_digitOf 21 = .ok (.irem, 1) := by decide +kernel
theorem dX12_digitOf_22 : decode cX12_digitOf 22 = .ok (.ireturn, 1) := by decide +kernel
set_option maxHeartbeats 4000000 in
set_option maxRecDepth 100000 in
theorem m_digitOf0 (l : Launch) (dC : Nat → ClassId) (dI : Nat → Nat → Nat) (k : Nat → ClassId) : Ct l dC dI k yX12_digitOf (.code yX12_digitOf cX12_digitOf 4 (some .int)) ({ frames := 0, cells := 0, slots := 0, locals := 0 } : Room) [.int 3906, .int 0] [] (fun r w => (r = some (.int 1) ∧ w = [])) := by
  refine ct_of (by decide) (Nat.le_of_ble_eq_true rfl) ?_
  intro p e s m args below meth c H locs B hr hnm ls hl
  have hx := B.1.1
  have hb := B.1.2.1
  have hl : lv_has ls 4 [(0, .int 3906), (1, .int 0)] := hl
  refine lv_iload_n hx hb dX12_digitOf_0 rfl (lv_at hl 0 rfl) ?_
  refine lv_istore_n (lv' := [(2, .int 3906), (0, .int 3906), (1, .int 0)]) hx hb dX12_digitOf_1 rfl hl (by decide) rfl (fun ls hl => ?_)
  refine lv_iconst (v := 0) hx hb dX12_digitOf_2 (by decide) ?_
  refine lv_istore_n (lv' := [(3, .int 0), (2, .int 3906), (0, .int 3906), (1, .int 0)]) hx hb dX12_digitOf_3 rfl hl (by decide) rfl (fun ls hl => ?_)
  refine lv_iload_n hx hb dX12_digitOf_4 rfl (lv_at hl 0 rfl) ?_
  refine lv_iload_n hx hb dX12_digitOf_5 rfl (lv_at hl 3 rfl) ?_
  refine lv_icmp_ge (tgt := 19) hx hb dX12_digitOf_6 (by decide) (fun _ => ?_) (fun c9 => absurd (by decide) c9)
  refine lv_iload_n hx hb dX12_digitOf_19 rfl (lv_at hl 1 rfl) ?_
  refine lv_iconst (v := 5) hx hb dX12_digitOf_20 (by decide) ?_
  refine lv_irem hx hb dX12_digitOf_21 (by decide) ?_
  refine lv_seti (y := 1) (by decide) ?_
  have B := bd_sub (ws' := []) [] (by decide) rfl B
  exact x_iret B hr (⟨rfl, rfl⟩) (Nat.le_of_ble_eq_true rfl) (Nat.le_of_ble_eq_true rfl) dX12_digitOf_22

theorem mw_2337 : (Jvm.Cond.methodLink "GalleyforgeModel" (492 : Nat) ({ cls := "GalleyforgeModel", name := "digitOf", desc := "(II)I" } : Jvm.MethodName)) ∈ gt := gt_at 2472 (by decide +kernel) (by decide +kernel)
theorem mw_2338 : (Jvm.Cond.static ({ cls := "GalleyforgeModel", name := "digitOf", desc := "(II)I" } : Jvm.MethodName)) ∈ gt := gt_at 2473 (by decide +kernel) (by decide +kernel)
theorem mw_2339 : (Jvm.Cond.code ({ cls := "GalleyforgeModel", name := "digitOf", desc := "(II)I" } : Jvm.MethodName) prog_14_method_85_code (4 : Nat) (Option.some Jvm.ClassFile.FieldType.int)) ∈ gt := gt_at 2474 (by decide +kernel) (by decide +kernel)
theorem mS_X12_digitOf : mS yX12_digitOf cX12_digitOf 4 (some .int) 2 := ⟨⟨mw_2339, mw_13, by decide, by decide, by decide +kernel⟩, mw_2338⟩
theorem dX12_digitOf_9 : decode cX12_digitOf 9 = .ok (.iload_n 2, 1) := by decide +kernel
theorem dX12_digitOf_10 : decode cX12_digitOf 10 = .ok (.iconst 5, 1) := by decide +kernel
theorem dX12_digitOf_11 : decode cX12_digitOf 11 = .ok (.idiv, 1) := by decide +kernel
theorem dX12_digitOf_12 : decode cX12_digitOf 12 = .ok (.istore_n 2, 1) := by decide +kernel
theorem dX12_digitOf_13 : decode cX12_digitOf 13 = .ok (.iinc 3 1, 3) := by decide +kernel
theorem dX12_digitOf_16 : decode cX12_digitOf 16 = .ok (.goto (-12), 3) := by decide +kernel
set_option maxHeartbeats 4000000 in
set_option maxRecDepth 100000 in
theorem m_digitOf1 (l : Launch) (dC : Nat → ClassId) (dI : Nat → Nat → Nat) (k : Nat → ClassId) : Ct l dC dI k yX12_digitOf (.code yX12_digitOf cX12_digitOf 4 (some .int)) ({ frames := 0, cells := 0, slots := 0, locals := 0 } : Room) [.int 3906, .int 1] [] (fun r w => (r = some (.int 1) ∧ w = [])) := by
  refine ct_of (by decide) (Nat.le_of_ble_eq_true rfl) ?_
  intro p e s m args below meth c H locs B hr hnm ls hl
  have hx := B.1.1
  have hb := B.1.2.1
  have hl : lv_has ls 4 [(0, .int 3906), (1, .int 1)] := hl
  refine lv_iload_n hx hb dX12_digitOf_0 rfl (lv_at hl 0 rfl) ?_
  refine lv_istore_n (lv' := [(2, .int 3906), (0, .int 3906), (1, .int 1)]) hx hb dX12_digitOf_1 rfl hl (by decide) rfl (fun ls hl => ?_)
  refine lv_iconst (v := 0) hx hb dX12_digitOf_2 (by decide) ?_
  refine lv_istore_n (lv' := [(3, .int 0), (2, .int 3906), (0, .int 3906), (1, .int 1)]) hx hb dX12_digitOf_3 rfl hl (by decide) rfl (fun ls hl => ?_)
  refine lv_iload_n hx hb dX12_digitOf_4 rfl (lv_at hl 0 rfl) ?_
  refine lv_iload_n hx hb dX12_digitOf_5 rfl (lv_at hl 3 rfl) ?_
  refine lv_icmp_ge (tgt := 19) hx hb dX12_digitOf_6 (by decide) (fun c9 => absurd c9 (by decide)) (fun _ => ?_)
  refine lv_iload_n hx hb dX12_digitOf_9 rfl (lv_at hl 1 rfl) ?_
  refine lv_iconst (v := 5) hx hb dX12_digitOf_10 (by decide) ?_
  refine lv_idiv hx hb dX12_digitOf_11 (by decide) ?_
  refine lv_seti (y := 781) (by decide) ?_
  refine lv_istore_n (lv' := [(2, .int 781), (3, .int 0), (0, .int 3906), (1, .int 1)]) hx hb dX12_digitOf_12 rfl hl (by decide) rfl (fun ls hl => ?_)
  refine lv_iinc (v := 1) (lv' := [(3, .int 1), (2, .int 781), (0, .int 3906), (1, .int 1)]) hx hb dX12_digitOf_13 hl (k := 1) rfl (by decide) (by decide) rfl (fun ls hl => ?_)
  refine lv_goto (tgt := 4) hx hb dX12_digitOf_16 (by decide) ?_
  refine lv_iload_n hx hb dX12_digitOf_4 rfl (lv_at hl 0 rfl) ?_
  refine lv_iload_n hx hb dX12_digitOf_5 rfl (lv_at hl 3 rfl) ?_
  refine lv_icmp_ge (tgt := 19) hx hb dX12_digitOf_6 (by decide) (fun _ => ?_) (fun c9 => absurd (by decide) c9)
  refine lv_iload_n hx hb dX12_digitOf_19 rfl (lv_at hl 1 rfl) ?_
  refine lv_iconst (v := 5) hx hb dX12_digitOf_20 (by decide) ?_
  refine lv_irem hx hb dX12_digitOf_21 (by decide) ?_
  refine lv_seti (y := 1) (by decide) ?_
  have B := bd_sub (ws' := []) [] (by decide) rfl B
  exact x_iret B hr (⟨rfl, rfl⟩) (Nat.le_of_ble_eq_true rfl) (Nat.le_of_ble_eq_true rfl) dX12_digitOf_22

set_option maxHeartbeats 4000000 in
set_option maxRecDepth 100000 in
theorem m_digitOf2 (l : Launch) (dC : Nat → ClassId) (dI : Nat → Nat → Nat) (k : Nat → ClassId) : Ct l dC dI k yX12_digitOf (.code yX12_digitOf cX12_digitOf 4 (some .int)) ({ frames := 0, cells := 0, slots := 0, locals := 0 } : Room) [.int 3906, .int 2] [] (fun r w => (r = some (.int 1) ∧ w = [])) := by
  refine ct_of (by decide) (Nat.le_of_ble_eq_true rfl) ?_
  intro p e s m args below meth c H locs B hr hnm ls hl
  have hx := B.1.1
  have hb := B.1.2.1
  have hl : lv_has ls 4 [(0, .int 3906), (1, .int 2)] := hl
  refine lv_iload_n hx hb dX12_digitOf_0 rfl (lv_at hl 0 rfl) ?_
  refine lv_istore_n (lv' := [(2, .int 3906), (0, .int 3906), (1, .int 2)]) hx hb dX12_digitOf_1 rfl hl (by decide) rfl (fun ls hl => ?_)
  refine lv_iconst (v := 0) hx hb dX12_digitOf_2 (by decide) ?_
  refine lv_istore_n (lv' := [(3, .int 0), (2, .int 3906), (0, .int 3906), (1, .int 2)]) hx hb dX12_digitOf_3 rfl hl (by decide) rfl (fun ls hl => ?_)
  refine lv_iload_n hx hb dX12_digitOf_4 rfl (lv_at hl 0 rfl) ?_
  refine lv_iload_n hx hb dX12_digitOf_5 rfl (lv_at hl 3 rfl) ?_
  refine lv_icmp_ge (tgt := 19) hx hb dX12_digitOf_6 (by decide) (fun c9 => absurd c9 (by decide)) (fun _ => ?_)
  refine lv_iload_n hx hb dX12_digitOf_9 rfl (lv_at hl 1 rfl) ?_
  refine lv_iconst (v := 5) hx hb dX12_digitOf_10 (by decide) ?_
  refine lv_idiv hx hb dX12_digitOf_11 (by decide) ?_
  refine lv_seti (y := 781) (by decide) ?_
  refine lv_istore_n (lv' := [(2, .int 781), (3, .int 0), (0, .int 3906), (1, .int 2)]) hx hb dX12_digitOf_12 rfl hl (by decide) rfl (fun ls hl => ?_)
  refine lv_iinc (v := 1) (lv' := [(3, .int 1), (2, .int 781), (0, .int 3906), (1, .int 2)]) hx hb dX12_digitOf_13 hl (k := 1) rfl (by decide) (by decide) rfl (fun ls hl => ?_)
  refine lv_goto (tgt := 4) hx hb dX12_digitOf_16 (by decide) ?_
  refine lv_iload_n hx hb dX12_digitOf_4 rfl (lv_at hl 0 rfl) ?_
  refine lv_iload_n hx hb dX12_digitOf_5 rfl (lv_at hl 3 rfl) ?_
  refine lv_icmp_ge (tgt := 19) hx hb dX12_digitOf_6 (by decide) (fun c9 => absurd c9 (by decide)) (fun _ => ?_)
  refine lv_iload_n hx hb dX12_digitOf_9 rfl (lv_at hl 1 rfl) ?_
  refine lv_iconst (v := 5) hx hb dX12_digitOf_10 (by decide) ?_
  refine lv_idiv hx hb dX12_digitOf_11 (by decide) ?_
  refine lv_seti (y := 156) (by decide) ?_
  refine lv_istore_n (lv' := [(2, .int 156), (3, .int 1), (0, .int 3906), (1, .int 2)]) hx hb dX12_digitOf_12 rfl hl (by decide) rfl (fun ls hl => ?_)
  refine lv_iinc (v := 2) (lv' := [(3, .int 2), (2, .int 156), (0, .int 3906), (1, .int 2)]) hx hb dX12_digitOf_13 hl (k := 1) rfl (by decide) (by decide) rfl (fun ls hl => ?_)
  refine lv_goto (tgt := 4) hx hb dX12_digitOf_16 (by decide) ?_
  refine lv_iload_n hx hb dX12_digitOf_4 rfl (lv_at hl 0 rfl) ?_
  refine lv_iload_n hx hb dX12_digitOf_5 rfl (lv_at hl 3 rfl) ?_
  refine lv_icmp_ge (tgt := 19) hx hb dX12_digitOf_6 (by decide) (fun _ => ?_) (fun c9 => absurd (by decide) c9)
  refine lv_iload_n hx hb dX12_digitOf_19 rfl (lv_at hl 1 rfl) ?_
  refine lv_iconst (v := 5) hx hb dX12_digitOf_20 (by decide) ?_
  refine lv_irem hx hb dX12_digitOf_21 (by decide) ?_
  refine lv_seti (y := 1) (by decide) ?_
  have B := bd_sub (ws' := []) [] (by decide) rfl B
  exact x_iret B hr (⟨rfl, rfl⟩) (Nat.le_of_ble_eq_true rfl) (Nat.le_of_ble_eq_true rfl) dX12_digitOf_22

set_option maxHeartbeats 4000000 in
set_option maxRecDepth 100000 in
theorem m_digitOf3 (l : Launch) (dC : Nat → ClassId) (dI : Nat → Nat → Nat) (k : Nat → ClassId) : Ct l dC dI k yX12_digitOf (.code yX12_digitOf cX12_digitOf 4 (some .int)) ({ frames := 0, cells := 0, slots := 0, locals := 0 } : Room) [.int 3906, .int 3] [] (fun r w => (r = some (.int 1) ∧ w = [])) := by
  refine ct_of (by decide) (Nat.le_of_ble_eq_true rfl) ?_
  intro p e s m args below meth c H locs B hr hnm ls hl
  have hx := B.1.1
  have hb := B.1.2.1
  have hl : lv_has ls 4 [(0, .int 3906), (1, .int 3)] := hl
  refine lv_iload_n hx hb dX12_digitOf_0 rfl (lv_at hl 0 rfl) ?_
  refine lv_istore_n (lv' := [(2, .int 3906), (0, .int 3906), (1, .int 3)]) hx hb dX12_digitOf_1 rfl hl (by decide) rfl (fun ls hl => ?_)
  refine lv_iconst (v := 0) hx hb dX12_digitOf_2 (by decide) ?_
  refine lv_istore_n (lv' := [(3, .int 0), (2, .int 3906), (0, .int 3906), (1, .int 3)]) hx hb dX12_digitOf_3 rfl hl (by decide) rfl (fun ls hl => ?_)
  refine lv_iload_n hx hb dX12_digitOf_4 rfl (lv_at hl 0 rfl) ?_
  refine lv_iload_n hx hb dX12_digitOf_5 rfl (lv_at hl 3 rfl) ?_
  refine lv_icmp_ge (tgt := 19) hx hb dX12_digitOf_6 (by decide) (fun c9 => absurd c9 (by decide)) (fun _ => ?_)
  refine lv_iload_n hx hb dX12_digitOf_9 rfl (lv_at hl 1 rfl) ?_
  refine lv_iconst (v := 5) hx hb dX12_digitOf_10 (by decide) ?_
  refine lv_idiv hx hb dX12_digitOf_11 (by decide) ?_
  refine lv_seti (y := 781) (by decide) ?_
  refine lv_istore_n (lv' := [(2, .int 781), (3, .int 0), (0, .int 3906), (1, .int 3)]) hx hb dX12_digitOf_12 rfl hl (by decide) rfl (fun ls hl => ?_)
  refine lv_iinc (v := 1) (lv' := [(3, .int 1), (2, .int 781), (0, .int 3906), (1, .int 3)]) hx hb dX12_digitOf_13 hl (k := 1) rfl (by decide) (by decide) rfl (fun ls hl => ?_)
  refine lv_goto (tgt := 4) hx hb dX12_digitOf_16 (by decide) ?_
  refine lv_iload_n hx hb dX12_digitOf_4 rfl (lv_at hl 0 rfl) ?_
  refine lv_iload_n hx hb dX12_digitOf_5 rfl (lv_at hl 3 rfl) ?_
  refine lv_icmp_ge (tgt := 19) hx hb dX12_digitOf_6 (by decide) (fun c9 => absurd c9 (by decide)) (fun _ => ?_)
  refine lv_iload_n hx hb dX12_digitOf_9 rfl (lv_at hl 1 rfl) ?_
  refine lv_iconst (v := 5) hx hb dX12_digitOf_10 (by decide) ?_
  refine lv_idiv hx hb dX12_digitOf_11 (by decide) ?_
  refine lv_seti (y := 156) (by decide) ?_
  refine lv_istore_n (lv' := [(2, .int 156), (3, .int 1), (0, .int 3906), (1, .int 3)]) hx hb dX12_digitOf_12 rfl hl (by decide) rfl (fun ls hl => ?_)
  refine lv_iinc (v := 2) (lv' := [(3, .int 2), (2, .int 156), (0, .int 3906), (1, .int 3)]) hx hb dX12_digitOf_13 hl (k := 1) rfl (by decide) (by decide) rfl (fun ls hl => ?_)
  refine lv_goto (tgt := 4) hx hb dX12_digitOf_16 (by decide) ?_
  refine lv_iload_n hx hb dX12_digitOf_4 rfl (lv_at hl 0 rfl) ?_
  refine lv_iload_n hx hb dX12_digitOf_5 rfl (lv_at hl 3 rfl) ?_
  refine lv_icmp_ge (tgt := 19) hx hb dX12_digitOf_6 (by decide) (fun c9 => absurd c9 (by decide)) (fun _ => ?_)
  refine lv_iload_n hx hb dX12_digitOf_9 rfl (lv_at hl 1 rfl) ?_
  refine lv_iconst (v := 5) hx hb dX12_digitOf_10 (by decide) ?_
  refine lv_idiv hx hb dX12_digitOf_11 (by decide) ?_
  refine lv_seti (y := 31) (by decide) ?_
  refine lv_istore_n (lv' := [(2, .int 31), (3, .int 2), (0, .int 3906), (1, .int 3)]) hx hb dX12_digitOf_12 rfl hl (by decide) rfl (fun ls hl => ?_)
  refine lv_iinc (v := 3) (lv' := [(3, .int 3), (2, .int 31), (0, .int 3906), (1, .int 3)]) hx hb dX12_digitOf_13 hl (k := 1) rfl (by decide) (by decide) rfl (fun ls hl => ?_)
  refine lv_goto (tgt := 4) hx hb dX12_digitOf_16 (by decide) ?_
  refine lv_iload_n hx hb dX12_digitOf_4 rfl (lv_at hl 0 rfl) ?_
  refine lv_iload_n hx hb dX12_digitOf_5 rfl (lv_at hl 3 rfl) ?_
  refine lv_icmp_ge (tgt := 19) hx hb dX12_digitOf_6 (by decide) (fun _ => ?_) (fun c9 => absurd (by decide) c9)
  refine lv_iload_n hx hb dX12_digitOf_19 rfl (lv_at hl 1 rfl) ?_
  refine lv_iconst (v := 5) hx hb dX12_digitOf_20 (by decide) ?_
  refine lv_irem hx hb dX12_digitOf_21 (by decide) ?_
  refine lv_seti (y := 1) (by decide) ?_
  have B := bd_sub (ws' := []) [] (by decide) rfl B
  exact x_iret B hr (⟨rfl, rfl⟩) (Nat.le_of_ble_eq_true rfl) (Nat.le_of_ble_eq_true rfl) dX12_digitOf_22

set_option maxHeartbeats 4000000 in
set_option maxRecDepth 100000 in
theorem m_digitOf4 (l : Launch) (dC : Nat → ClassId) (dI : Nat → Nat → Nat) (k : Nat → ClassId) : Ct l dC dI k yX12_digitOf (.code yX12_digitOf cX12_digitOf 4 (some .int)) ({ frames := 0, cells := 0, slots := 0, locals := 0 } : Room) [.int 3906, .int 4] [] (fun r w => (r = some (.int 1) ∧ w = [])) := by
  refine ct_of (by decide) (Nat.le_of_ble_eq_true rfl) ?_
  intro p e s m args below meth c H locs B hr hnm ls hl
  have hx := B.1.1
  have hb := B.1.2.1
  have hl : lv_has ls 4 [(0, .int 3906), (1, .int 4)] := hl
  refine lv_iload_n hx hb dX12_digitOf_0 rfl (lv_at hl 0 rfl) ?_
  refine lv_istore_n (lv' := [(2, .int 3906), (0, .int 3906), (1, .int 4)]) hx hb dX12_digitOf_1 rfl hl (by decide) rfl (fun ls hl => ?_)
  refine lv_iconst (v := 0) hx hb dX12_digitOf_2 (by decide) ?_
  refine lv_istore_n (lv' := [(3, .int 0), (2, .int 3906), (0, .int 3906), (1, .int 4)]) hx hb dX12_digitOf_3 rfl hl (by decide) rfl (fun ls hl => ?_)
  refine lv_iload_n hx hb dX12_digitOf_4 rfl (lv_at hl 0 rfl) ?_
  refine lv_iload_n hx hb dX12_digitOf_5 rfl (lv_at hl 3 rfl) ?_
  refine lv_icmp_ge (tgt := 19) hx hb dX12_digitOf_6 (by decide) (fun c9 => absurd c9 (by decide)) (fun _ => ?_)
  refine lv_iload_n hx hb dX12_digitOf_9 rfl (lv_at hl 1 rfl) ?_
  refine lv_iconst (v := 5) hx hb dX12_digitOf_10 (by decide) ?_
  refine lv_idiv hx hb dX12_digitOf_11 (by decide) ?_
  refine lv_seti (y := 781) (by decide) ?_
  refine lv_istore_n (lv' := [(2, .int 781), (3, .int 0), (0, .int 3906), (1, .int 4)]) hx hb dX12_digitOf_12 rfl hl (by decide) rfl (fun ls hl => ?_)
  refine lv_iinc (v := 1) (lv' := [(3, .int 1), (2, .int 781), (0, .int 3906), (1, .int 4)]) hx hb dX12_digitOf_13 hl (k := 1) rfl (by decide) (by decide) rfl (fun ls hl => ?_)
  refine lv_goto (tgt := 4) hx hb dX12_digitOf_16 (by decide) ?_
  refine lv_iload_n hx hb dX12_digitOf_4 rfl (lv_at hl 0 rfl) ?_
  refine lv_iload_n hx hb dX12_digitOf_5 rfl (lv_at hl 3 rfl) ?_
  refine lv_icmp_ge (tgt := 19) hx hb dX12_digitOf_6 (by decide) (fun c9 => absurd c9 (by decide)) (fun _ => ?_)
  refine lv_iload_n hx hb dX12_digitOf_9 rfl (lv_at hl 1 rfl) ?_
  refine lv_iconst (v := 5) hx hb dX12_digitOf_10 (by decide) ?_
  refine lv_idiv hx hb dX12_digitOf_11 (by decide) ?_
  refine lv_seti (y := 156) (by decide) ?_
  refine lv_istore_n (lv' := [(2, .int 156), (3, .int 1), (0, .int 3906), (1, .int 4)]) hx hb dX12_digitOf_12 rfl hl (by decide) rfl (fun ls hl => ?_)
  refine lv_iinc (v := 2) (lv' := [(3, .int 2), (2, .int 156), (0, .int 3906), (1, .int 4)]) hx hb dX12_digitOf_13 hl (k := 1) rfl (by decide) (by decide) rfl (fun ls hl => ?_)
  refine lv_goto (tgt := 4) hx hb dX12_digitOf_16 (by decide) ?_
  refine lv_iload_n hx hb dX12_digitOf_4 rfl (lv_at hl 0 rfl) ?_
  refine lv_iload_n hx hb dX12_digitOf_5 rfl (lv_at hl 3 rfl) ?_
  refine lv_icmp_ge (tgt := 19) hx hb dX12_digitOf_6 (by decide) (fun c9 => absurd c9 (by decide)) (fun _ => ?_)
  refine lv_iload_n hx hb dX12_digitOf_9 rfl (lv_at hl 1 rfl) ?_
  refine lv_iconst (v := 5) hx hb dX12_digitOf_10 (by decide) ?_
  refine lv_idiv hx hb dX12_digitOf_11 (by decide) ?_
  refine lv_seti (y := 31) (by decide) ?_
  refine lv_istore_n (lv' := [(2, .int 31), (3, .int 2), (0, .int 3906), (1, .int 4)]) hx hb dX12_digitOf_12 rfl hl (by decide) rfl (fun ls hl => ?_)
  refine lv_iinc (v := 3) (lv' := [(3, .int 3), (2, .int 31), (0, .int 3906), (1, .int 4)]) hx hb dX12_digitOf_13 hl (k := 1) rfl (by decide) (by decide) rfl (fun ls hl => ?_)
  refine lv_goto (tgt := 4) hx hb dX12_digitOf_16 (by decide) ?_
  refine lv_iload_n hx hb dX12_digitOf_4 rfl (lv_at hl 0 rfl) ?_
  refine lv_iload_n hx hb dX12_digitOf_5 rfl (lv_at hl 3 rfl) ?_
  refine lv_icmp_ge (tgt := 19) hx hb dX12_digitOf_6 (by decide) (fun c9 => absurd c9 (by decide)) (fun _ => ?_)
  refine lv_iload_n hx hb dX12_digitOf_9 rfl (lv_at hl 1 rfl) ?_
  refine lv_iconst (v := 5) hx hb dX12_digitOf_10 (by decide) ?_
  refine lv_idiv hx hb dX12_digitOf_11 (by decide) ?_
  refine lv_seti (y := 6) (by decide) ?_
  refine lv_istore_n (lv' := [(2, .int 6), (3, .int 3), (0, .int 3906), (1, .int 4)]) hx hb dX12_digitOf_12 rfl hl (by decide) rfl (fun ls hl => ?_)
  refine lv_iinc (v := 4) (lv' := [(3, .int 4), (2, .int 6), (0, .int 3906), (1, .int 4)]) hx hb dX12_digitOf_13 hl (k := 1) rfl (by decide) (by decide) rfl (fun ls hl => ?_)
  refine lv_goto (tgt := 4) hx hb dX12_digitOf_16 (by decide) ?_
  refine lv_iload_n hx hb dX12_digitOf_4 rfl (lv_at hl 0 rfl) ?_
  refine lv_iload_n hx hb dX12_digitOf_5 rfl (lv_at hl 3 rfl) ?_
  refine lv_icmp_ge (tgt := 19) hx hb dX12_digitOf_6 (by decide) (fun _ => ?_) (fun c9 => absurd (by decide) c9)
  refine lv_iload_n hx hb dX12_digitOf_19 rfl (lv_at hl 1 rfl) ?_
  refine lv_iconst (v := 5) hx hb dX12_digitOf_20 (by decide) ?_
  refine lv_irem hx hb dX12_digitOf_21 (by decide) ?_
  refine lv_seti (y := 1) (by decide) ?_
  have B := bd_sub (ws' := []) [] (by decide) rfl B
  exact x_iret B hr (⟨rfl, rfl⟩) (Nat.le_of_ble_eq_true rfl) (Nat.le_of_ble_eq_true rfl) dX12_digitOf_22

set_option maxHeartbeats 4000000 in
set_option maxRecDepth 100000 in
theorem m_digitOf5 (l : Launch) (dC : Nat → ClassId) (dI : Nat → Nat → Nat) (k : Nat → ClassId) : Ct l dC dI k yX12_digitOf (.code yX12_digitOf cX12_digitOf 4 (some .int)) ({ frames := 0, cells := 0, slots := 0, locals := 0 } : Room) [.int 3906, .int 5] [] (fun r w => (r = some (.int 1) ∧ w = [])) := by
  refine ct_of (by decide) (Nat.le_of_ble_eq_true rfl) ?_
  intro p e s m args below meth c H locs B hr hnm ls hl
  have hx := B.1.1
  have hb := B.1.2.1
  have hl : lv_has ls 4 [(0, .int 3906), (1, .int 5)] := hl
  refine lv_iload_n hx hb dX12_digitOf_0 rfl (lv_at hl 0 rfl) ?_
  refine lv_istore_n (lv' := [(2, .int 3906), (0, .int 3906), (1, .int 5)]) hx hb dX12_digitOf_1 rfl hl (by decide) rfl (fun ls hl => ?_)
  refine lv_iconst (v := 0) hx hb dX12_digitOf_2 (by decide) ?_
  refine lv_istore_n (lv' := [(3, .int 0), (2, .int 3906), (0, .int 3906), (1, .int 5)]) hx hb dX12_digitOf_3 rfl hl (by decide) rfl (fun ls hl => ?_)
  refine lv_iload_n hx hb dX12_digitOf_4 rfl (lv_at hl 0 rfl) ?_
  refine lv_iload_n hx hb dX12_digitOf_5 rfl (lv_at hl 3 rfl) ?_
  refine lv_icmp_ge (tgt := 19) hx hb dX12_digitOf_6 (by decide) (fun c9 => absurd c9 (by decide)) (fun _ => ?_)
  refine lv_iload_n hx hb dX12_digitOf_9 rfl (lv_at hl 1 rfl) ?_
  refine lv_iconst (v := 5) hx hb dX12_digitOf_10 (by decide) ?_
  refine lv_idiv hx hb dX12_digitOf_11 (by decide) ?_
  refine lv_seti (y := 781) (by decide) ?_
  refine lv_istore_n (lv' := [(2, .int 781), (3, .int 0), (0, .int 3906), (1, .int 5)]) hx hb dX12_digitOf_12 rfl hl (by decide) rfl (fun ls hl => ?_)
  refine lv_iinc (v := 1) (lv' := [(3, .int 1), (2, .int 781), (0, .int 3906), (1, .int 5)]) hx hb dX12_digitOf_13 hl (k := 1) rfl (by decide) (by decide) rfl (fun ls hl => ?_)
  refine lv_goto (tgt := 4) hx hb dX12_digitOf_16 (by decide) ?_
  refine lv_iload_n hx hb dX12_digitOf_4 rfl (lv_at hl 0 rfl) ?_
  refine lv_iload_n hx hb dX12_digitOf_5 rfl (lv_at hl 3 rfl) ?_
  refine lv_icmp_ge (tgt := 19) hx hb dX12_digitOf_6 (by decide) (fun c9 => absurd c9 (by decide)) (fun _ => ?_)
  refine lv_iload_n hx hb dX12_digitOf_9 rfl (lv_at hl 1 rfl) ?_
  refine lv_iconst (v := 5) hx hb dX12_digitOf_10 (by decide) ?_
  refine lv_idiv hx hb dX12_digitOf_11 (by decide) ?_
  refine lv_seti (y := 156) (by decide) ?_
  refine lv_istore_n (lv' := [(2, .int 156), (3, .int 1), (0, .int 3906), (1, .int 5)]) hx hb dX12_digitOf_12 rfl hl (by decide) rfl (fun ls hl => ?_)
  refine lv_iinc (v := 2) (lv' := [(3, .int 2), (2, .int 156), (0, .int 3906), (1, .int 5)]) hx hb dX12_digitOf_13 hl (k := 1) rfl (by decide) (by decide) rfl (fun ls hl => ?_)
  refine lv_goto (tgt := 4) hx hb dX12_digitOf_16 (by decide) ?_
  refine lv_iload_n hx hb dX12_digitOf_4 rfl (lv_at hl 0 rfl) ?_
  refine lv_iload_n hx hb dX12_digitOf_5 rfl (lv_at hl 3 rfl) ?_
  refine lv_icmp_ge (tgt := 19) hx hb dX12_digitOf_6 (by decide) (fun c9 => absurd c9 (by decide)) (fun _ => ?_)
  refine lv_iload_n hx hb dX12_digitOf_9 rfl (lv_at hl 1 rfl) ?_
  refine lv_iconst (v := 5) hx hb dX12_digitOf_10 (by decide) ?_
  refine lv_idiv hx hb dX12_digitOf_11 (by decide) ?_
  refine lv_seti (y := 31) (by decide) ?_
  refine lv_istore_n (lv' := [(2, .int 31), (3, .int 2), (0, .int 3906), (1, .int 5)]) hx hb dX12_digitOf_12 rfl hl (by decide) rfl (fun ls hl => ?_)
  refine lv_iinc (v := 3) (lv' := [(3, .int 3), (2, .int 31), (0, .int 3906), (1, .int 5)]) hx hb dX12_digitOf_13 hl (k := 1) rfl (by decide) (by decide) rfl (fun ls hl => ?_)
  refine lv_goto (tgt := 4) hx hb dX12_digitOf_16 (by decide) ?_
  refine lv_iload_n hx hb dX12_digitOf_4 rfl (lv_at hl 0 rfl) ?_
  refine lv_iload_n hx hb dX12_digitOf_5 rfl (lv_at hl 3 rfl) ?_
  refine lv_icmp_ge (tgt := 19) hx hb dX12_digitOf_6 (by decide) (fun c9 => absurd c9 (by decide)) (fun _ => ?_)
  refine lv_iload_n hx hb dX12_digitOf_9 rfl (lv_at hl 1 rfl) ?_
  refine lv_iconst (v := 5) hx hb dX12_digitOf_10 (by decide) ?_
  refine lv_idiv hx hb dX12_digitOf_11 (by decide) ?_
  refine lv_seti (y := 6) (by decide) ?_
  refine lv_istore_n (lv' := [(2, .int 6), (3, .int 3), (0, .int 3906), (1, .int 5)]) hx hb dX12_digitOf_12 rfl hl (by decide) rfl (fun ls hl => ?_)
  refine lv_iinc (v := 4) (lv' := [(3, .int 4), (2, .int 6), (0, .int 3906), (1, .int 5)]) hx hb dX12_digitOf_13 hl (k := 1) rfl (by decide) (by decide) rfl (fun ls hl => ?_)
  refine lv_goto (tgt := 4) hx hb dX12_digitOf_16 (by decide) ?_
  refine lv_iload_n hx hb dX12_digitOf_4 rfl (lv_at hl 0 rfl) ?_
  refine lv_iload_n hx hb dX12_digitOf_5 rfl (lv_at hl 3 rfl) ?_
  refine lv_icmp_ge (tgt := 19) hx hb dX12_digitOf_6 (by decide) (fun c9 => absurd c9 (by decide)) (fun _ => ?_)
  refine lv_iload_n hx hb dX12_digitOf_9 rfl (lv_at hl 1 rfl) ?_
  refine lv_iconst (v := 5) hx hb dX12_digitOf_10 (by decide) ?_
  refine lv_idiv hx hb dX12_digitOf_11 (by decide) ?_
  refine lv_seti (y := 1) (by decide) ?_
  refine lv_istore_n (lv' := [(2, .int 1), (3, .int 4), (0, .int 3906), (1, .int 5)]) hx hb dX12_digitOf_12 rfl hl (by decide) rfl (fun ls hl => ?_)
  refine lv_iinc (v := 5) (lv' := [(3, .int 5), (2, .int 1), (0, .int 3906), (1, .int 5)]) hx hb dX12_digitOf_13 hl (k := 1) rfl (by decide) (by decide) rfl (fun ls hl => ?_)
  refine lv_goto (tgt := 4) hx hb dX12_digitOf_16 (by decide) ?_
  refine lv_iload_n hx hb dX12_digitOf_4 rfl (lv_at hl 0 rfl) ?_
  refine lv_iload_n hx hb dX12_digitOf_5 rfl (lv_at hl 3 rfl) ?_
  refine lv_icmp_ge (tgt := 19) hx hb dX12_digitOf_6 (by decide) (fun _ => ?_) (fun c9 => absurd (by decide) c9)
  refine lv_iload_n hx hb dX12_digitOf_19 rfl (lv_at hl 1 rfl) ?_
  refine lv_iconst (v := 5) hx hb dX12_digitOf_20 (by decide) ?_
  refine lv_irem hx hb dX12_digitOf_21 (by decide) ?_
  refine lv_seti (y := 1) (by decide) ?_
  have B := bd_sub (ws' := []) [] (by decide) rfl B
  exact x_iret B hr (⟨rfl, rfl⟩) (Nat.le_of_ble_eq_true rfl) (Nat.le_of_ble_eq_true rfl) dX12_digitOf_22

theorem dX12_setDigits_0 : decode cX12_setDigits 0 = .ok (.iconst 0, 1) := by decide +kernel
theorem dX12_setDigits_1 : decode cX12_setDigits 1 = .ok (.istore_n 2, 1) := by decide +kernel
theorem dX12_setDigits_2 : decode cX12_setDigits 2 = .ok (.iload_n 2, 1) := by decide +kernel
theorem dX12_setDigits_3 : decode cX12_setDigits 3 = .ok (.bipush 6, 2) := by decide +kernel
theorem dX12_setDigits_5 : decode cX12_setDigits 5 = .ok (.if_icmp .ge 20, 3) := by decide +kernel
theorem dX12_setDigits_8 : decode cX12_setDigits 8 = .ok (.aload_n 0, 1) := by decide +kernel
theorem dX12_setDigits_9 : decode cX12_setDigits 9 = .ok (.getfield 122, 3) := by decide +kernel
theorem dX12_setDigits_12 : decode cX12_setDigits 12 = .ok (.iload_n 2, 1) := by decide +kernel
theorem dX12_setDigits_13 : decode cX12_setDigits 13 = .ok (.iload_n 1, 1) := by decide +kernel
theorem dX12_setDigits_14 : decode cX12_setDigits 14 = .ok (.iload_n 2, 1) := by decide +kernel
theorem dX12_setDigits_15 : decode cX12_setDigits 15 = .ok (.invokestatic 492, 3) := by decide +kernel
theorem dX12_setDigits_18 : decode cX12_setDigits 18 = .ok (.iastore, 1) := by decide +kernel
theorem dX12_setDigits_19 : decode cX12_setDigits 19 = .ok (.iinc 2 1, 3) := by decide +kernel
theorem dX12_setDigits_22 : decode cX12_setDigits 22 = .ok (.goto (-20), 3) := by decide +kernel
theorem dX12_setDigits_25 : decode cX12_setDigits 25 = .ok (.return_, 1) := by decide +kernel
set_option maxHeartbeats 4000000 in
set_option maxRecDepth 100000 in
theorem m_setDigits (l : Launch) (dC : Nat → ClassId) (dI : Nat → Nat → Nat) (k : Nat → ClassId) (mo : Nat) (V : Nat → Value) (aDg : Nat) (h47 : V 47 = .ref aDg) : Ct l dC dI k yX12_setDigits (.code yX12_setDigits cX12_setDigits 3 none) ({ frames := 1, cells := 0, slots := 0, locals := 23 } : Room) [.ref mo, .int 3906] [(mo, .inr (10, fvM V)), (aDg, .inl (k 0, 6, .inl (fun _ => 0)))] (fun r w => (r = none ∧ w = [(mo, .inr (10, fvM V))])) := by
  refine ct_of (by decide) (Nat.le_of_ble_eq_true rfl) ?_
  intro p e s m args below meth c H locs B hr hnm ls hl
  have hx := B.1.1
  have hb := B.1.2.1
  have hl : lv_has ls 3 [(0, .ref mo), (1, .int 3906)] := hl
  refine lv_iconst (v := 0) hx hb dX12_setDigits_0 (by decide) ?_
  refine lv_istore_n (lv' := [(2, .int 0), (0, .ref mo), (1, .int 3906)]) hx hb dX12_setDigits_1 rfl hl (by decide) rfl (fun ls hl => ?_)
  refine lv_iload_n hx hb dX12_setDigits_2 rfl (lv_at hl 0 rfl) ?_
  refine lv_bipush (v := 6) hx hb dX12_setDigits_3 (by decide) ?_
  refine lv_icmp_ge (tgt := 25) hx hb dX12_setDigits_5 (by decide) (fun c9 => absurd c9 (by decide)) (fun _ => ?_)
  refine lv_aload_n hx hb dX12_setDigits_8 rfl (lv_at hl 1 rfl) ?_
  refine x_get (ci := 10) (C := RX12) (T := TX12) (N := 93) (v := .ref aDg) B 0 rfl rfl in_X12 47 (by decide) mw_1911 (fun _ h9 => h9) (fvM_get (by decide) h47) dX12_setDigits_9 ?_
  refine lv_iload_n hx hb dX12_setDigits_12 rfl (lv_at hl 0 rfl) ?_
  refine lv_iload_n hx hb dX12_setDigits_13 rfl (lv_at hl 2 rfl) ?_
  refine lv_iload_n hx hb dX12_setDigits_14 rfl (lv_at hl 0 rfl) ?_
  refine x_callS (rest := [.int 0, .ref aDg]) (wr := [(mo, .inr (10, fvM V)), (aDg, .inl (k 0, 6, .inl (fun _ => 0)))]) (m_digitOf0 l dC dI k) B mS_X12_digitOf mw_2337 hl [] [0, 1] rfl rfl ⟨by decide, by decide⟩ (by decide) ⟨Nat.le_of_ble_eq_true rfl, Nat.le_of_ble_eq_true rfl⟩ (Nat.le_of_ble_eq_true rfl) rfl dX12_setDigits_15 ⟨Nat.le_of_ble_eq_true rfl, Nat.le_of_ble_eq_true rfl⟩ (fun r w H locs hp B => ?_)
  obtain ⟨rfl, rfl⟩ := hp
  have B := bd_to (ws' := [(mo, .inr (10, fvM V)), (aDg, .inl (k 0, 6, .inl (fun _ => 0)))]) rfl B
  refine x_iast B 1 rfl (vpc (by decide)) dX12_setDigits_18 (j := 0) (by decide) (fun H locs B => ?_)
  have B := bd_to (ws' := [(mo, .inr (10, fvM V)), (aDg, .inl (k 0, 6, .inl (upd (fun _ => 0) 0 1)))]) rfl B
  refine lv_iinc (v := 1) (lv' := [(2, .int 1), (0, .ref mo), (1, .int 3906)]) hx hb dX12_setDigits_19 hl (k := 0) rfl (by decide) (by decide) rfl (fun ls hl => ?_)
  refine lv_goto (tgt := 2) hx hb dX12_setDigits_22 (by decide) ?_
  refine lv_iload_n hx hb dX12_setDigits_2 rfl (lv_at hl 0 rfl) ?_
  refine lv_bipush (v := 6) hx hb dX12_setDigits_3 (by decide) ?_
  refine lv_icmp_ge (tgt := 25) hx hb dX12_setDigits_5 (by decide) (fun c9 => absurd c9 (by decide)) (fun _ => ?_)
  refine lv_aload_n hx hb dX12_setDigits_8 rfl (lv_at hl 1 rfl) ?_
  refine x_get (ci := 10) (C := RX12) (T := TX12) (N := 93) (v := .ref aDg) B 0 rfl rfl in_X12 47 (by decide) mw_1911 (fun _ h9 => h9) (fvM_get (by decide) h47) dX12_setDigits_9 ?_
  refine lv_iload_n hx hb dX12_setDigits_12 rfl (lv_at hl 0 rfl) ?_
  refine lv_iload_n hx hb dX12_setDigits_13 rfl (lv_at hl 2 rfl) ?_
  refine lv_iload_n hx hb dX12_setDigits_14 rfl (lv_at hl 0 rfl) ?_
  refine x_callS (rest := [.int 1, .ref aDg]) (wr := [(mo, .inr (10, fvM V)), (aDg, .inl (k 0, 6, .inl (upd (fun _ => 0) 0 1)))]) (m_digitOf1 l dC dI k) B mS_X12_digitOf mw_2337 hl [] [0, 1] rfl rfl ⟨by decide, by decide⟩ (by decide) ⟨Nat.le_of_ble_eq_true rfl, Nat.le_of_ble_eq_true rfl⟩ (Nat.le_of_ble_eq_true rfl) rfl dX12_setDigits_15 ⟨Nat.le_of_ble_eq_true rfl, Nat.le_of_ble_eq_true rfl⟩ (fun r w H locs hp B => ?_)
  obtain ⟨rfl, rfl⟩ := hp
  have B := bd_to (ws' := [(mo, .inr (10, fvM V)), (aDg, .inl (k 0, 6, .inl (upd (fun _ => 0) 0 1)))]) rfl B
  refine x_iast B 1 rfl (vpc (by decide)) dX12_setDigits_18 (j := 1) (by decide) (fun H locs B => ?_)
  have B := bd_to (ws' := [(mo, .inr (10, fvM V)), (aDg, .inl (k 0, 6, .inl (upd (upd (fun _ => 0) 0 1) 1 1)))]) rfl B
  refine lv_iinc (v := 2) (lv' := [(2, .int 2), (0, .ref mo), (1, .int 3906)]) hx hb dX12_setDigits_19 hl (k := 0) rfl (by decide) (by decide) rfl (fun ls hl => ?_)
  refine lv_goto (tgt := 2) hx hb dX12_setDigits_22 (by decide) ?_
  refine lv_iload_n hx hb dX12_setDigits_2 rfl (lv_at hl 0 rfl) ?_
  refine lv_bipush (v := 6) hx hb dX12_setDigits_3 (by decide) ?_
  refine lv_icmp_ge (tgt := 25) hx hb dX12_setDigits_5 (by decide) (fun c9 => absurd c9 (by decide)) (fun _ => ?_)
  refine lv_aload_n hx hb dX12_setDigits_8 rfl (lv_at hl 1 rfl) ?_
  refine x_get (ci := 10) (C := RX12) (T := TX12) (N := 93) (v := .ref aDg) B 0 rfl rfl in_X12 47 (by decide) mw_1911 (fun _ h9 => h9) (fvM_get (by decide) h47) dX12_setDigits_9 ?_
  refine lv_iload_n hx hb dX12_setDigits_12 rfl (lv_at hl 0 rfl) ?_
  refine lv_iload_n hx hb dX12_setDigits_13 rfl (lv_at hl 2 rfl) ?_
  refine lv_iload_n hx hb dX12_setDigits_14 rfl (lv_at hl 0 rfl) ?_
  refine x_callS (rest := [.int 2, .ref aDg]) (wr := [(mo, .inr (10, fvM V)), (aDg, .inl (k 0, 6, .inl (upd (upd (fun _ => 0) 0 1) 1 1)))]) (m_digitOf2 l dC dI k) B mS_X12_digitOf mw_2337 hl [] [0, 1] rfl rfl ⟨by decide, by decide⟩ (by decide) ⟨Nat.le_of_ble_eq_true rfl, Nat.le_of_ble_eq_true rfl⟩ (Nat.le_of_ble_eq_true rfl) rfl dX12_setDigits_15 ⟨Nat.le_of_ble_eq_true rfl, Nat.le_of_ble_eq_true rfl⟩ (fun r w H locs hp B => ?_)
  obtain ⟨rfl, rfl⟩ := hp
  have B := bd_to (ws' := [(mo, .inr (10, fvM V)), (aDg, .inl (k 0, 6, .inl (upd (upd (fun _ => 0) 0 1) 1 1)))]) rfl B
  refine x_iast B 1 rfl (vpc (by decide)) dX12_setDigits_18 (j := 2) (by decide) (fun H locs B => ?_)
  have B := bd_to (ws' := [(mo, .inr (10, fvM V)), (aDg, .inl (k 0, 6, .inl (upd (upd (upd (fun _ => 0) 0 1) 1 1) 2 1)))]) rfl B
  refine lv_iinc (v := 3) (lv' := [(2, .int 3), (0, .ref mo), (1, .int 3906)]) hx hb dX12_setDigits_19 hl (k := 0) rfl (by decide) (by decide) rfl (fun ls hl => ?_)
  refine lv_goto (tgt := 2) hx hb dX12_setDigits_22 (by decide) ?_
  refine lv_iload_n hx hb dX12_setDigits_2 rfl (lv_at hl 0 rfl) ?_
  refine lv_bipush (v := 6) hx hb dX12_setDigits_3 (by decide) ?_
  refine lv_icmp_ge (tgt := 25) hx hb dX12_setDigits_5 (by decide) (fun c9 => absurd c9 (by decide)) (fun _ => ?_)
  refine lv_aload_n hx hb dX12_setDigits_8 rfl (lv_at hl 1 rfl) ?_
  refine x_get (ci := 10) (C := RX12) (T := TX12) (N := 93) (v := .ref aDg) B 0 rfl rfl in_X12 47 (by decide) mw_1911 (fun _ h9 => h9) (fvM_get (by decide) h47) dX12_setDigits_9 ?_
  refine lv_iload_n hx hb dX12_setDigits_12 rfl (lv_at hl 0 rfl) ?_
  refine lv_iload_n hx hb dX12_setDigits_13 rfl (lv_at hl 2 rfl) ?_
  refine lv_iload_n hx hb dX12_setDigits_14 rfl (lv_at hl 0 rfl) ?_
  refine x_callS (rest := [.int 3, .ref aDg]) (wr := [(mo, .inr (10, fvM V)), (aDg, .inl (k 0, 6, .inl (upd (upd (upd (fun _ => 0) 0 1) 1 1) 2 1)))]) (m_digitOf3 l dC dI k) B mS_X12_digitOf mw_2337 hl [] [0, 1] rfl rfl ⟨by decide, by decide⟩ (by decide) ⟨Nat.le_of_ble_eq_true rfl, Nat.le_of_ble_eq_true rfl⟩ (Nat.le_of_ble_eq_true rfl) rfl dX12_setDigits_15 ⟨Nat.le_of_ble_eq_true rfl, Nat.le_of_ble_eq_true rfl⟩ (fun r w H locs hp B => ?_)
  obtain ⟨rfl, rfl⟩ := hp
  have B := bd_to (ws' := [(mo, .inr (10, fvM V)), (aDg, .inl (k 0, 6, .inl (upd (upd (upd (fun _ => 0) 0 1) 1 1) 2 1)))]) rfl B
  refine x_iast B 1 rfl (vpc (by decide)) dX12_setDigits_18 (j := 3) (by decide) (fun H locs B => ?_)
  have B := bd_to (ws' := [(mo, .inr (10, fvM V)), (aDg, .inl (k 0, 6, .inl (upd (upd (upd (upd (fun _ => 0) 0 1) 1 1) 2 1) 3 1)))]) rfl B
  refine lv_iinc (v := 4) (lv' := [(2, .int 4), (0, .ref mo), (1, .int 3906)]) hx hb dX12_setDigits_19 hl (k := 0) rfl (by decide) (by decide) rfl (fun ls hl => ?_)
  refine lv_goto (tgt := 2) hx hb dX12_setDigits_22 (by decide) ?_
  refine lv_iload_n hx hb dX12_setDigits_2 rfl (lv_at hl 0 rfl) ?_
  refine lv_bipush (v := 6) hx hb dX12_setDigits_3 (by decide) ?_
  refine lv_icmp_ge (tgt := 25) hx hb dX12_setDigits_5 (by decide) (fun c9 => absurd c9 (by decide)) (fun _ => ?_)
  refine lv_aload_n hx hb dX12_setDigits_8 rfl (lv_at hl 1 rfl) ?_
  refine x_get (ci := 10) (C := RX12) (T := TX12) (N := 93) (v := .ref aDg) B 0 rfl rfl in_X12 47 (by decide) mw_1911 (fun _ h9 => h9) (fvM_get (by decide) h47) dX12_setDigits_9 ?_
  refine lv_iload_n hx hb dX12_setDigits_12 rfl (lv_at hl 0 rfl) ?_
  refine lv_iload_n hx hb dX12_setDigits_13 rfl (lv_at hl 2 rfl) ?_
  refine lv_iload_n hx hb dX12_setDigits_14 rfl (lv_at hl 0 rfl) ?_
  refine x_callS (rest := [.int 4, .ref aDg]) (wr := [(mo, .inr (10, fvM V)), (aDg, .inl (k 0, 6, .inl (upd (upd (upd (upd (fun _ => 0) 0 1) 1 1) 2 1) 3 1)))]) (m_digitOf4 l dC dI k) B mS_X12_digitOf mw_2337 hl [] [0, 1] rfl rfl ⟨by decide, by decide⟩ (by decide) ⟨Nat.le_of_ble_eq_true rfl, Nat.le_of_ble_eq_true rfl⟩ (Nat.le_of_ble_eq_true rfl) rfl dX12_setDigits_15 ⟨Nat.le_of_ble_eq_true rfl, Nat.le_of_ble_eq_true rfl⟩ (fun r w H locs hp B => ?_)
  obtain ⟨rfl, rfl⟩ := hp
  have B := bd_to (ws' := [(mo, .inr (10, fvM V)), (aDg, .inl (k 0, 6, .inl (upd (upd (upd (upd (fun _ => 0) 0 1) 1 1) 2 1) 3 1)))]) rfl B
  refine x_iast B 1 rfl (vpc (by decide)) dX12_setDigits_18 (j := 4) (by decide) (fun H locs B => ?_)
  have B := bd_to (ws' := [(mo, .inr (10, fvM V)), (aDg, .inl (k 0, 6, .inl (upd (upd (upd (upd (upd (fun _ => 0) 0 1) 1 1) 2 1) 3 1) 4 1)))]) rfl B
  refine lv_iinc (v := 5) (lv' := [(2, .int 5), (0, .ref mo), (1, .int 3906)]) hx hb dX12_setDigits_19 hl (k := 0) rfl (by decide) (by decide) rfl (fun ls hl => ?_)
  refine lv_goto (tgt := 2) hx hb dX12_setDigits_22 (by decide) ?_
  refine lv_iload_n hx hb dX12_setDigits_2 rfl (lv_at hl 0 rfl) ?_
  refine lv_bipush (v := 6) hx hb dX12_setDigits_3 (by decide) ?_
  refine lv_icmp_ge (tgt := 25) hx hb dX12_setDigits_5 (by decide) (fun c9 => absurd c9 (by decide)) (fun _ => ?_)
  refine lv_aload_n hx hb dX12_setDigits_8 rfl (lv_at hl 1 rfl) ?_
  refine x_get (ci := 10) (C := RX12) (T := TX12) (N := 93) (v := .ref aDg) B 0 rfl rfl in_X12 47 (by decide) mw_1911 (fun _ h9 => h9) (fvM_get (by decide) h47) dX12_setDigits_9 ?_
  refine lv_iload_n hx hb dX12_setDigits_12 rfl (lv_at hl 0 rfl) ?_
  refine lv_iload_n hx hb dX12_setDigits_13 rfl (lv_at hl 2 rfl) ?_
  refine lv_iload_n hx hb dX12_setDigits_14 rfl (lv_at hl 0 rfl) ?_
  refine x_callS (rest := [.int 5, .ref aDg]) (wr := [(mo, .inr (10, fvM V)), (aDg, .inl (k 0, 6, .inl (upd (upd (upd (upd (upd (fun _ => 0) 0 1) 1 1) 2 1) 3 1) 4 1)))]) (m_digitOf5 l dC dI k) B mS_X12_digitOf mw_2337 hl [] [0, 1] rfl rfl ⟨by decide, by decide⟩ (by decide) ⟨Nat.le_of_ble_eq_true rfl, Nat.le_of_ble_eq_true rfl⟩ (Nat.le_of_ble_eq_true rfl) rfl dX12_setDigits_15 ⟨Nat.le_of_ble_eq_true rfl, Nat.le_of_ble_eq_true rfl⟩ (fun r w H locs hp B => ?_)
  obtain ⟨rfl, rfl⟩ := hp
  have B := bd_to (ws' := [(mo, .inr (10, fvM V)), (aDg, .inl (k 0, 6, .inl (upd (upd (upd (upd (upd (fun _ => 0) 0 1) 1 1) 2 1) 3 1) 4 1)))]) rfl B
  refine x_iast B 1 rfl (vpc (by decide)) dX12_setDigits_18 (j := 5) (by decide) (fun H locs B => ?_)
  have B := bd_to (ws' := [(mo, .inr (10, fvM V)), (aDg, .inl (k 0, 6, .inl (upd (upd (upd (upd (upd (upd (fun _ => 0) 0 1) 1 1) 2 1) 3 1) 4 1) 5 1)))]) rfl B
  refine lv_iinc (v := 6) (lv' := [(2, .int 6), (0, .ref mo), (1, .int 3906)]) hx hb dX12_setDigits_19 hl (k := 0) rfl (by decide) (by decide) rfl (fun ls hl => ?_)
  refine lv_goto (tgt := 2) hx hb dX12_setDigits_22 (by decide) ?_
  refine lv_iload_n hx hb dX12_setDigits_2 rfl (lv_at hl 0 rfl) ?_
  refine lv_bipush (v := 6) hx hb dX12_setDigits_3 (by decide) ?_
  refine lv_icmp_ge (tgt := 25) hx hb dX12_setDigits_5 (by decide) (fun _ => ?_) (fun c9 => absurd (by decide) c9)
  have B := bd_sub (ws' := [(mo, .inr (10, fvM V))]) [0] (by decide) rfl B
  exact x_vret B hr (⟨rfl, rfl⟩) (Nat.le_of_ble_eq_true rfl) (Nat.le_of_ble_eq_true rfl) dX12_setDigits_25

theorem mw_2492 : (Jvm.Cond.methodLink "GalleyforgeModel" (489 : Nat) ({ cls := "GalleyforgeModel", name := "pageOfLabel", desc := "(II)I" } : Jvm.MethodName)) ∈ gt := gt_at 2627 (by decide +kernel) (by decide +kernel)
theorem mw_2494 : (Jvm.Cond.instanceMethod ({ cls := "GalleyforgeModel", name := "pageOfLabel", desc := "(II)I" } : Jvm.MethodName)) ∈ gt := gt_at 2629 (by decide +kernel) (by decide +kernel)
theorem mw_2495 : (Jvm.Cond.code ({ cls := "GalleyforgeModel", name := "pageOfLabel", desc := "(II)I" } : Jvm.MethodName) prog_14_method_82_code (6 : Nat) (Option.some Jvm.ClassFile.FieldType.int)) ∈ gt := gt_at 2630 (by decide +kernel) (by decide +kernel)
theorem ms_130 : Cond.selects "GalleyforgeModel" (⟨"GalleyforgeModel", "pageOfLabel", "(II)I"⟩ : MethodName) (⟨"GalleyforgeModel", "pageOfLabel", "(II)I"⟩ : MethodName) ∈ gt := gt_at 130 (by decide +kernel) (by decide +kernel)
theorem mV_X12_pageOfLabel : mV yX12_pageOfLabel cX12_pageOfLabel 6 (some .int) 2 := ⟨⟨mw_2495, mw_13, by decide, by decide, by decide +kernel⟩, mw_2494, ms_130⟩
theorem dX12_given_0 : decode cX12_given 0 = .ok (.iconst 0, 1) := by decide +kernel
theorem dX12_given_1 : decode cX12_given 1 = .ok (.istore_n 2, 1) := by decide +kernel
theorem dX12_given_2 : decode cX12_given 2 = .ok (.iconst 1, 1) := by decide +kernel
theorem dX12_given_3 : decode cX12_given 3 = .ok (.istore_n 3, 1) := by decide +kernel
theorem dX12_given_4 : decode cX12_given 4 = .ok (.iconst 0, 1) := by decide +kernel
theorem dX12_given_5 : decode cX12_given 5 = .ok (.istore 4, 2) := by decide +kernel
theorem dX12_given_7 : decode cX12_given 7 = .ok (.iload 4, 2) := by decide +kernel
theorem dX12_given_9 : decode cX12_given 9 = .ok (.bipush 6, 2) := by decide +kernel
theorem dX12_given_11 : decode cX12_given 11 = .ok (.if_icmp .ge 62, 3) := by decide +kernel
theorem dX12_given_14 : decode cX12_given 14 = .ok (.aload_n 0, 1) := by decide +kernel
theorem dX12_given_15 : decode cX12_given 15 = .ok (.iload_n 1, 1) := by decide +kernel
theorem dX12_given_16 : decode cX12_given 16 = .ok (.iload 4, 2) := by decide +kernel
theorem dX12_given_18 : decode cX12_given 18 = .ok (.invokevirtual 489, 3) := by decide +kernel
theorem dX12_given_21 : decode cX12_given 21 = .ok (.istore 5, 2) := by decide +kernel
theorem dX12_given_23 : decode cX12_given 23 = .ok (.iload_n 2, 1) := by decide +kernel
theorem dX12_given_24 : decode cX12_given 24 = .ok (.iload_n 3, 1) := by decide +kernel
theorem dX12_given_25 : decode cX12_given 25 = .ok (.iload 5, 2) := by decide +kernel
theorem dX12_given_27 : decode cX12_given 27 = .ok (.sipush 999, 3) := by decide +kernel
theorem dX12_given_30 : decode cX12_given 30 = .ok (.if_icmp .le 7, 3) := by decide +kernel
theorem dX12_given_37 : decode cX12_given 37 = .ok (.iload 5, 2) := by decide +kernel
theorem dX12_given_39 : decode cX12_given 39 = .ok (.bipush 99, 2) := by decide +kernel
theorem dX12_given_41 : decode cX12_given 41 = .ok (.if_icmp .le 7, 3) := by decide +kernel
theorem dX12_given_48 : decode cX12_given 48 = .ok (.iload 5, 2) := by decide +kernel
theorem dX12_given_50 : decode cX12_given 50 = .ok (.bipush 9, 2) := by decide +kernel
theorem dX12_given_52 : decode cX12_given 52 = .ok (.if_icmp .le 7, 3) := by decide +kernel
theorem dX12_given_59 : decode cX12_given 59 = .ok (.iconst 1, 1) := by decide +kernel
theorem dX12_given_60 : decode cX12_given 60 = .ok (.imul, 1) := by decide +kernel
theorem dX12_given_61 : decode cX12_given 61 = .ok (.iadd, 1) := by decide +kernel
theorem dX12_given_62 : decode cX12_given 62 = .ok (.istore_n 2, 1) := by decide +kernel
theorem dX12_given_63 : decode cX12_given 63 = .ok (.iload_n 3, 1) := by decide +kernel
theorem dX12_given_64 : decode cX12_given 64 = .ok (.iconst 5, 1) := by decide +kernel
theorem dX12_given_65 : decode cX12_given 65 = .ok (.imul, 1) := by decide +kernel
theorem dX12_given_66 : decode cX12_given 66 = .ok (.istore_n 3, 1) := by decide +kernel
theorem dX12_given_67 : decode cX12_given 67 = .ok (.iinc 4 1, 3) := by decide +kernel
theorem dX12_given_70 : decode cX12_given 70 = .ok (.goto (-63), 3) := by decide +kernel
theorem dX12_given_73 : decode cX12_given 73 = .ok (.iload_n 2, 1) := by decide +kernel
theorem dX12_given_74 : decode cX12_given 74 = .ok (.ireturn, 1) := by decide +kernel
set_option maxHeartbeats 4000000 in
set_option maxRecDepth 100000 in
theorem m_given (l : Launch) (dC : Nat → ClassId) (dI : Nat → Nat → Nat) (k : Nat → ClassId) (mo : Nat) (V : Nat → Value) (v : Int32) (h9 : V 9 = .int 0) : Ct l dC dI k yX12_given (.code yX12_given cX12_given 6 (some .int)) ({ frames := 2, cells := 0, slots := 0, locals := 47 } : Room) [.ref mo, .int v] [(mo, .inr (10, fvM V))] (fun r w => (r = some (.int 3906) ∧ w = [(mo, .inr (10, fvM V))])) := by
  refine ct_of (by decide) (Nat.le_of_ble_eq_true rfl) ?_
  intro p e s m args below meth c H locs B hr hnm ls hl
  have hx := B.1.1
  have hb := B.1.2.1
  have hl : lv_has ls 6 [(0, .ref mo), (1, .int v)] := hl
  refine lv_iconst (v := 0) hx hb dX12_given_0 (by decide) ?_
  refine lv_istore_n (lv' := [(2, .int 0), (0, .ref mo), (1, .int v)]) hx hb dX12_given_1 rfl hl (by decide) rfl (fun ls hl => ?_)
  refine lv_iconst (v := 1) hx hb dX12_given_2 (by decide) ?_
  refine lv_istore_n (lv' := [(3, .int 1), (2, .int 0), (0, .ref mo), (1, .int v)]) hx hb dX12_given_3 rfl hl (by decide) rfl (fun ls hl => ?_)
  refine lv_iconst (v := 0) hx hb dX12_given_4 (by decide) ?_
  refine lv_istore (lv' := [(4, .int 0), (3, .int 1), (2, .int 0), (0, .ref mo), (1, .int v)]) hx hb dX12_given_5 hl (by decide) rfl (fun ls hl => ?_)
  refine lv_iload hx hb dX12_given_7 (lv_at hl 0 rfl) ?_
  refine lv_bipush (v := 6) hx hb dX12_given_9 (by decide) ?_
  refine lv_icmp_ge (tgt := 73) hx hb dX12_given_11 (by decide) (fun c9 => absurd c9 (by decide)) (fun _ => ?_)
  refine lv_aload_n hx hb dX12_given_14 rfl (lv_at hl 3 rfl) ?_
  refine lv_iload_n hx hb dX12_given_15 rfl (lv_at hl 4 rfl) ?_
  refine lv_iload hx hb dX12_given_16 (lv_at hl 0 rfl) ?_
  refine x_callV (rest := []) (wr := []) (m_pageOfLabel l dC dI k mo V v 0 h9) B mV_X12_pageOfLabel mw_2492 hl [0] [] rfl rfl ⟨by decide, by decide⟩ (by decide) (q0 := 0) rfl rfl rfl ⟨Nat.le_of_ble_eq_true rfl, Nat.le_of_ble_eq_true rfl⟩ (Nat.le_of_ble_eq_true rfl) rfl dX12_given_18 ⟨Nat.le_of_ble_eq_true rfl, Nat.le_of_ble_eq_true rfl⟩ (fun r w H locs hp B => ?_)
  obtain ⟨rfl, rfl⟩ := hp
  have B := bd_to (ws' := [(mo, .inr (10, fvM V))]) rfl B
  refine lv_istore (lv' := [(5, .int (-1)), (4, .int 0), (3, .int 1), (2, .int 0), (0, .ref mo), (1, .int v)]) hx hb dX12_given_21 hl (by decide) rfl (fun ls hl => ?_)
  refine lv_iload_n hx hb dX12_given_23 rfl (lv_at hl 3 rfl) ?_
  refine lv_iload_n hx hb dX12_given_24 rfl (lv_at hl 2 rfl) ?_
  refine lv_iload hx hb dX12_given_25 (lv_at hl 0 rfl) ?_
  refine lv_sipush (v := 999) hx hb dX12_given_27 (by decide) ?_
  refine lv_icmp_le (tgt := 37) hx hb dX12_given_30 (by decide) (fun _ => ?_) (fun c9 => absurd (by decide) c9)
  refine lv_iload hx hb dX12_given_37 (lv_at hl 0 rfl) ?_
  refine lv_bipush (v := 99) hx hb dX12_given_39 (by decide) ?_
  refine lv_icmp_le (tgt := 48) hx hb dX12_given_41 (by decide) (fun _ => ?_) (fun c9 => absurd (by decide) c9)
  refine lv_iload hx hb dX12_given_48 (lv_at hl 0 rfl) ?_
  refine lv_bipush (v := 9) hx hb dX12_given_50 (by decide) ?_
  refine lv_icmp_le (tgt := 59) hx hb dX12_given_52 (by decide) (fun _ => ?_) (fun c9 => absurd (by decide) c9)
  refine lv_iconst (v := 1) hx hb dX12_given_59 (by decide) ?_
  refine lv_imul hx hb dX12_given_60 ?_
  refine lv_seti (y := 1) (by decide) ?_
  refine lv_iadd hx hb dX12_given_61 ?_
  refine lv_seti (y := 1) (by decide) ?_
  refine lv_istore_n (lv' := [(2, .int 1), (5, .int (-1)), (4, .int 0), (3, .int 1), (0, .ref mo), (1, .int v)]) hx hb dX12_given_62 rfl hl (by decide) rfl (fun ls hl => ?_)
  refine lv_iload_n hx hb dX12_given_63 rfl (lv_at hl 3 rfl) ?_
  refine lv_iconst (v := 5) hx hb dX12_given_64 (by decide) ?_
  refine lv_imul hx hb dX12_given_65 ?_
  refine lv_seti (y := 5) (by decide) ?_
  refine lv_istore_n (lv' := [(3, .int 5), (2, .int 1), (5, .int (-1)), (4, .int 0), (0, .ref mo), (1, .int v)]) hx hb dX12_given_66 rfl hl (by decide) rfl (fun ls hl => ?_)
  refine lv_iinc (v := 1) (lv' := [(4, .int 1), (3, .int 5), (2, .int 1), (5, .int (-1)), (0, .ref mo), (1, .int v)]) hx hb dX12_given_67 hl (k := 3) rfl (by decide) (by decide) rfl (fun ls hl => ?_)
  refine lv_goto (tgt := 7) hx hb dX12_given_70 (by decide) ?_
  refine lv_iload hx hb dX12_given_7 (lv_at hl 0 rfl) ?_
  refine lv_bipush (v := 6) hx hb dX12_given_9 (by decide) ?_
  refine lv_icmp_ge (tgt := 73) hx hb dX12_given_11 (by decide) (fun c9 => absurd c9 (by decide)) (fun _ => ?_)
  refine lv_aload_n hx hb dX12_given_14 rfl (lv_at hl 4 rfl) ?_
  refine lv_iload_n hx hb dX12_given_15 rfl (lv_at hl 5 rfl) ?_
  refine lv_iload hx hb dX12_given_16 (lv_at hl 0 rfl) ?_
  refine x_callV (rest := []) (wr := []) (m_pageOfLabel l dC dI k mo V v 1 h9) B mV_X12_pageOfLabel mw_2492 hl [0] [] rfl rfl ⟨by decide, by decide⟩ (by decide) (q0 := 0) rfl rfl rfl ⟨Nat.le_of_ble_eq_true rfl, Nat.le_of_ble_eq_true rfl⟩ (Nat.le_of_ble_eq_true rfl) rfl dX12_given_18 ⟨Nat.le_of_ble_eq_true rfl, Nat.le_of_ble_eq_true rfl⟩ (fun r w H locs hp B => ?_)
  obtain ⟨rfl, rfl⟩ := hp
  have B := bd_to (ws' := [(mo, .inr (10, fvM V))]) rfl B
  refine lv_istore (lv' := [(5, .int (-1)), (4, .int 1), (3, .int 5), (2, .int 1), (0, .ref mo), (1, .int v)]) hx hb dX12_given_21 hl (by decide) rfl (fun ls hl => ?_)
  refine lv_iload_n hx hb dX12_given_23 rfl (lv_at hl 3 rfl) ?_
  refine lv_iload_n hx hb dX12_given_24 rfl (lv_at hl 2 rfl) ?_
  refine lv_iload hx hb dX12_given_25 (lv_at hl 0 rfl) ?_
  refine lv_sipush (v := 999) hx hb dX12_given_27 (by decide) ?_
  refine lv_icmp_le (tgt := 37) hx hb dX12_given_30 (by decide) (fun _ => ?_) (fun c9 => absurd (by decide) c9)
  refine lv_iload hx hb dX12_given_37 (lv_at hl 0 rfl) ?_
  refine lv_bipush (v := 99) hx hb dX12_given_39 (by decide) ?_
  refine lv_icmp_le (tgt := 48) hx hb dX12_given_41 (by decide) (fun _ => ?_) (fun c9 => absurd (by decide) c9)
  refine lv_iload hx hb dX12_given_48 (lv_at hl 0 rfl) ?_
  refine lv_bipush (v := 9) hx hb dX12_given_50 (by decide) ?_
  refine lv_icmp_le (tgt := 59) hx hb dX12_given_52 (by decide) (fun _ => ?_) (fun c9 => absurd (by decide) c9)
  refine lv_iconst (v := 1) hx hb dX12_given_59 (by decide) ?_
  refine lv_imul hx hb dX12_given_60 ?_
  refine lv_seti (y := 5) (by decide) ?_
  refine lv_iadd hx hb dX12_given_61 ?_
  refine lv_seti (y := 6) (by decide) ?_
  refine lv_istore_n (lv' := [(2, .int 6), (5, .int (-1)), (4, .int 1), (3, .int 5), (0, .ref mo), (1, .int v)]) hx hb dX12_given_62 rfl hl (by decide) rfl (fun ls hl => ?_)
  refine lv_iload_n hx hb dX12_given_63 rfl (lv_at hl 3 rfl) ?_
  refine lv_iconst (v := 5) hx hb dX12_given_64 (by decide) ?_
  refine lv_imul hx hb dX12_given_65 ?_
  refine lv_seti (y := 25) (by decide) ?_
  refine lv_istore_n (lv' := [(3, .int 25), (2, .int 6), (5, .int (-1)), (4, .int 1), (0, .ref mo), (1, .int v)]) hx hb dX12_given_66 rfl hl (by decide) rfl (fun ls hl => ?_)
  refine lv_iinc (v := 2) (lv' := [(4, .int 2), (3, .int 25), (2, .int 6), (5, .int (-1)), (0, .ref mo), (1, .int v)]) hx hb dX12_given_67 hl (k := 3) rfl (by decide) (by decide) rfl (fun ls hl => ?_)
  refine lv_goto (tgt := 7) hx hb dX12_given_70 (by decide) ?_
  refine lv_iload hx hb dX12_given_7 (lv_at hl 0 rfl) ?_
  refine lv_bipush (v := 6) hx hb dX12_given_9 (by decide) ?_
  refine lv_icmp_ge (tgt := 73) hx hb dX12_given_11 (by decide) (fun c9 => absurd c9 (by decide)) (fun _ => ?_)
  refine lv_aload_n hx hb dX12_given_14 rfl (lv_at hl 4 rfl) ?_
  refine lv_iload_n hx hb dX12_given_15 rfl (lv_at hl 5 rfl) ?_
  refine lv_iload hx hb dX12_given_16 (lv_at hl 0 rfl) ?_
  refine x_callV (rest := []) (wr := []) (m_pageOfLabel l dC dI k mo V v 2 h9) B mV_X12_pageOfLabel mw_2492 hl [0] [] rfl rfl ⟨by decide, by decide⟩ (by decide) (q0 := 0) rfl rfl rfl ⟨Nat.le_of_ble_eq_true rfl, Nat.le_of_ble_eq_true rfl⟩ (Nat.le_of_ble_eq_true rfl) rfl dX12_given_18 ⟨Nat.le_of_ble_eq_true rfl, Nat.le_of_ble_eq_true rfl⟩ (fun r w H locs hp B => ?_)
  obtain ⟨rfl, rfl⟩ := hp
  have B := bd_to (ws' := [(mo, .inr (10, fvM V))]) rfl B
  refine lv_istore (lv' := [(5, .int (-1)), (4, .int 2), (3, .int 25), (2, .int 6), (0, .ref mo), (1, .int v)]) hx hb dX12_given_21 hl (by decide) rfl (fun ls hl => ?_)
  refine lv_iload_n hx hb dX12_given_23 rfl (lv_at hl 3 rfl) ?_
  refine lv_iload_n hx hb dX12_given_24 rfl (lv_at hl 2 rfl) ?_
  refine lv_iload hx hb dX12_given_25 (lv_at hl 0 rfl) ?_
  refine lv_sipush (v := 999) hx hb dX12_given_27 (by decide) ?_
  refine lv_icmp_le (tgt := 37) hx hb dX12_given_30 (by decide) (fun _ => ?_) (fun c9 => absurd (by decide) c9)
  refine lv_iload hx hb dX12_given_37 (lv_at hl 0 rfl) ?_
  refine lv_bipush (v := 99) hx hb dX12_given_39 (by decide) ?_
  refine lv_icmp_le (tgt := 48) hx hb dX12_given_41 (by decide) (fun _ => ?_) (fun c9 => absurd (by decide) c9)
  refine lv_iload hx hb dX12_given_48 (lv_at hl 0 rfl) ?_
  refine lv_bipush (v := 9) hx hb dX12_given_50 (by decide) ?_
  refine lv_icmp_le (tgt := 59) hx hb dX12_given_52 (by decide) (fun _ => ?_) (fun c9 => absurd (by decide) c9)
  refine lv_iconst (v := 1) hx hb dX12_given_59 (by decide) ?_
  refine lv_imul hx hb dX12_given_60 ?_
  refine lv_seti (y := 25) (by decide) ?_
  refine lv_iadd hx hb dX12_given_61 ?_
  refine lv_seti (y := 31) (by decide) ?_
  refine lv_istore_n (lv' := [(2, .int 31), (5, .int (-1)), (4, .int 2), (3, .int 25), (0, .ref mo), (1, .int v)]) hx hb dX12_given_62 rfl hl (by decide) rfl (fun ls hl => ?_)
  refine lv_iload_n hx hb dX12_given_63 rfl (lv_at hl 3 rfl) ?_
  refine lv_iconst (v := 5) hx hb dX12_given_64 (by decide) ?_
  refine lv_imul hx hb dX12_given_65 ?_
  refine lv_seti (y := 125) (by decide) ?_
  refine lv_istore_n (lv' := [(3, .int 125), (2, .int 31), (5, .int (-1)), (4, .int 2), (0, .ref mo), (1, .int v)]) hx hb dX12_given_66 rfl hl (by decide) rfl (fun ls hl => ?_)
  refine lv_iinc (v := 3) (lv' := [(4, .int 3), (3, .int 125), (2, .int 31), (5, .int (-1)), (0, .ref mo), (1, .int v)]) hx hb dX12_given_67 hl (k := 3) rfl (by decide) (by decide) rfl (fun ls hl => ?_)
  refine lv_goto (tgt := 7) hx hb dX12_given_70 (by decide) ?_
  refine lv_iload hx hb dX12_given_7 (lv_at hl 0 rfl) ?_
  refine lv_bipush (v := 6) hx hb dX12_given_9 (by decide) ?_
  refine lv_icmp_ge (tgt := 73) hx hb dX12_given_11 (by decide) (fun c9 => absurd c9 (by decide)) (fun _ => ?_)
  refine lv_aload_n hx hb dX12_given_14 rfl (lv_at hl 4 rfl) ?_
  refine lv_iload_n hx hb dX12_given_15 rfl (lv_at hl 5 rfl) ?_
  refine lv_iload hx hb dX12_given_16 (lv_at hl 0 rfl) ?_
  refine x_callV (rest := []) (wr := []) (m_pageOfLabel l dC dI k mo V v 3 h9) B mV_X12_pageOfLabel mw_2492 hl [0] [] rfl rfl ⟨by decide, by decide⟩ (by decide) (q0 := 0) rfl rfl rfl ⟨Nat.le_of_ble_eq_true rfl, Nat.le_of_ble_eq_true rfl⟩ (Nat.le_of_ble_eq_true rfl) rfl dX12_given_18 ⟨Nat.le_of_ble_eq_true rfl, Nat.le_of_ble_eq_true rfl⟩ (fun r w H locs hp B => ?_)
  obtain ⟨rfl, rfl⟩ := hp
  have B := bd_to (ws' := [(mo, .inr (10, fvM V))]) rfl B
  refine lv_istore (lv' := [(5, .int (-1)), (4, .int 3), (3, .int 125), (2, .int 31), (0, .ref mo), (1, .int v)]) hx hb dX12_given_21 hl (by decide) rfl (fun ls hl => ?_)
  refine lv_iload_n hx hb dX12_given_23 rfl (lv_at hl 3 rfl) ?_
  refine lv_iload_n hx hb dX12_given_24 rfl (lv_at hl 2 rfl) ?_
  refine lv_iload hx hb dX12_given_25 (lv_at hl 0 rfl) ?_
  refine lv_sipush (v := 999) hx hb dX12_given_27 (by decide) ?_
  refine lv_icmp_le (tgt := 37) hx hb dX12_given_30 (by decide) (fun _ => ?_) (fun c9 => absurd (by decide) c9)
  refine lv_iload hx hb dX12_given_37 (lv_at hl 0 rfl) ?_
  refine lv_bipush (v := 99) hx hb dX12_given_39 (by decide) ?_
  refine lv_icmp_le (tgt := 48) hx hb dX12_given_41 (by decide) (fun _ => ?_) (fun c9 => absurd (by decide) c9)
  refine lv_iload hx hb dX12_given_48 (lv_at hl 0 rfl) ?_
  refine lv_bipush (v := 9) hx hb dX12_given_50 (by decide) ?_
  refine lv_icmp_le (tgt := 59) hx hb dX12_given_52 (by decide) (fun _ => ?_) (fun c9 => absurd (by decide) c9)
  refine lv_iconst (v := 1) hx hb dX12_given_59 (by decide) ?_
  refine lv_imul hx hb dX12_given_60 ?_
  refine lv_seti (y := 125) (by decide) ?_
  refine lv_iadd hx hb dX12_given_61 ?_
  refine lv_seti (y := 156) (by decide) ?_
  refine lv_istore_n (lv' := [(2, .int 156), (5, .int (-1)), (4, .int 3), (3, .int 125), (0, .ref mo), (1, .int v)]) hx hb dX12_given_62 rfl hl (by decide) rfl (fun ls hl => ?_)
  refine lv_iload_n hx hb dX12_given_63 rfl (lv_at hl 3 rfl) ?_
  refine lv_iconst (v := 5) hx hb dX12_given_64 (by decide) ?_
  refine lv_imul hx hb dX12_given_65 ?_
  refine lv_seti (y := 625) (by decide) ?_
  refine lv_istore_n (lv' := [(3, .int 625), (2, .int 156), (5, .int (-1)), (4, .int 3), (0, .ref mo), (1, .int v)]) hx hb dX12_given_66 rfl hl (by decide) rfl (fun ls hl => ?_)
  refine lv_iinc (v := 4) (lv' := [(4, .int 4), (3, .int 625), (2, .int 156), (5, .int (-1)), (0, .ref mo), (1, .int v)]) hx hb dX12_given_67 hl (k := 3) rfl (by decide) (by decide) rfl (fun ls hl => ?_)
  refine lv_goto (tgt := 7) hx hb dX12_given_70 (by decide) ?_
  refine lv_iload hx hb dX12_given_7 (lv_at hl 0 rfl) ?_
  refine lv_bipush (v := 6) hx hb dX12_given_9 (by decide) ?_
  refine lv_icmp_ge (tgt := 73) hx hb dX12_given_11 (by decide) (fun c9 => absurd c9 (by decide)) (fun _ => ?_)
  refine lv_aload_n hx hb dX12_given_14 rfl (lv_at hl 4 rfl) ?_
  refine lv_iload_n hx hb dX12_given_15 rfl (lv_at hl 5 rfl) ?_
  refine lv_iload hx hb dX12_given_16 (lv_at hl 0 rfl) ?_
  refine x_callV (rest := []) (wr := []) (m_pageOfLabel l dC dI k mo V v 4 h9) B mV_X12_pageOfLabel mw_2492 hl [0] [] rfl rfl ⟨by decide, by decide⟩ (by decide) (q0 := 0) rfl rfl rfl ⟨Nat.le_of_ble_eq_true rfl, Nat.le_of_ble_eq_true rfl⟩ (Nat.le_of_ble_eq_true rfl) rfl dX12_given_18 ⟨Nat.le_of_ble_eq_true rfl, Nat.le_of_ble_eq_true rfl⟩ (fun r w H locs hp B => ?_)
  obtain ⟨rfl, rfl⟩ := hp
  have B := bd_to (ws' := [(mo, .inr (10, fvM V))]) rfl B
  refine lv_istore (lv' := [(5, .int (-1)), (4, .int 4), (3, .int 625), (2, .int 156), (0, .ref mo), (1, .int v)]) hx hb dX12_given_21 hl (by decide) rfl (fun ls hl => ?_)
  refine lv_iload_n hx hb dX12_given_23 rfl (lv_at hl 3 rfl) ?_
  refine lv_iload_n hx hb dX12_given_24 rfl (lv_at hl 2 rfl) ?_
  refine lv_iload hx hb dX12_given_25 (lv_at hl 0 rfl) ?_
  refine lv_sipush (v := 999) hx hb dX12_given_27 (by decide) ?_
  refine lv_icmp_le (tgt := 37) hx hb dX12_given_30 (by decide) (fun _ => ?_) (fun c9 => absurd (by decide) c9)
  refine lv_iload hx hb dX12_given_37 (lv_at hl 0 rfl) ?_
  refine lv_bipush (v := 99) hx hb dX12_given_39 (by decide) ?_
  refine lv_icmp_le (tgt := 48) hx hb dX12_given_41 (by decide) (fun _ => ?_) (fun c9 => absurd (by decide) c9)
  refine lv_iload hx hb dX12_given_48 (lv_at hl 0 rfl) ?_
  refine lv_bipush (v := 9) hx hb dX12_given_50 (by decide) ?_
  refine lv_icmp_le (tgt := 59) hx hb dX12_given_52 (by decide) (fun _ => ?_) (fun c9 => absurd (by decide) c9)
  refine lv_iconst (v := 1) hx hb dX12_given_59 (by decide) ?_
  refine lv_imul hx hb dX12_given_60 ?_
  refine lv_seti (y := 625) (by decide) ?_
  refine lv_iadd hx hb dX12_given_61 ?_
  refine lv_seti (y := 781) (by decide) ?_
  refine lv_istore_n (lv' := [(2, .int 781), (5, .int (-1)), (4, .int 4), (3, .int 625), (0, .ref mo), (1, .int v)]) hx hb dX12_given_62 rfl hl (by decide) rfl (fun ls hl => ?_)
  refine lv_iload_n hx hb dX12_given_63 rfl (lv_at hl 3 rfl) ?_
  refine lv_iconst (v := 5) hx hb dX12_given_64 (by decide) ?_
  refine lv_imul hx hb dX12_given_65 ?_
  refine lv_seti (y := 3125) (by decide) ?_
  refine lv_istore_n (lv' := [(3, .int 3125), (2, .int 781), (5, .int (-1)), (4, .int 4), (0, .ref mo), (1, .int v)]) hx hb dX12_given_66 rfl hl (by decide) rfl (fun ls hl => ?_)
  refine lv_iinc (v := 5) (lv' := [(4, .int 5), (3, .int 3125), (2, .int 781), (5, .int (-1)), (0, .ref mo), (1, .int v)]) hx hb dX12_given_67 hl (k := 3) rfl (by decide) (by decide) rfl (fun ls hl => ?_)
  refine lv_goto (tgt := 7) hx hb dX12_given_70 (by decide) ?_
  refine lv_iload hx hb dX12_given_7 (lv_at hl 0 rfl) ?_
  refine lv_bipush (v := 6) hx hb dX12_given_9 (by decide) ?_
  refine lv_icmp_ge (tgt := 73) hx hb dX12_given_11 (by decide) (fun c9 => absurd c9 (by decide)) (fun _ => ?_)
  refine lv_aload_n hx hb dX12_given_14 rfl (lv_at hl 4 rfl) ?_
  refine lv_iload_n hx hb dX12_given_15 rfl (lv_at hl 5 rfl) ?_
  refine lv_iload hx hb dX12_given_16 (lv_at hl 0 rfl) ?_
  refine x_callV (rest := []) (wr := []) (m_pageOfLabel l dC dI k mo V v 5 h9) B mV_X12_pageOfLabel mw_2492 hl [0] [] rfl rfl ⟨by decide, by decide⟩ (by decide) (q0 := 0) rfl rfl rfl ⟨Nat.le_of_ble_eq_true rfl, Nat.le_of_ble_eq_true rfl⟩ (Nat.le_of_ble_eq_true rfl) rfl dX12_given_18 ⟨Nat.le_of_ble_eq_true rfl, Nat.le_of_ble_eq_true rfl⟩ (fun r w H locs hp B => ?_)
  obtain ⟨rfl, rfl⟩ := hp
  have B := bd_to (ws' := [(mo, .inr (10, fvM V))]) rfl B
  refine lv_istore (lv' := [(5, .int (-1)), (4, .int 5), (3, .int 3125), (2, .int 781), (0, .ref mo), (1, .int v)]) hx hb dX12_given_21 hl (by decide) rfl (fun ls hl => ?_)
  refine lv_iload_n hx hb dX12_given_23 rfl (lv_at hl 3 rfl) ?_
  refine lv_iload_n hx hb dX12_given_24 rfl (lv_at hl 2 rfl) ?_
  refine lv_iload hx hb dX12_given_25 (lv_at hl 0 rfl) ?_
  refine lv_sipush (v := 999) hx hb dX12_given_27 (by decide) ?_
  refine lv_icmp_le (tgt := 37) hx hb dX12_given_30 (by decide) (fun _ => ?_) (fun c9 => absurd (by decide) c9)
  refine lv_iload hx hb dX12_given_37 (lv_at hl 0 rfl) ?_
  refine lv_bipush (v := 99) hx hb dX12_given_39 (by decide) ?_
  refine lv_icmp_le (tgt := 48) hx hb dX12_given_41 (by decide) (fun _ => ?_) (fun c9 => absurd (by decide) c9)
  refine lv_iload hx hb dX12_given_48 (lv_at hl 0 rfl) ?_
  refine lv_bipush (v := 9) hx hb dX12_given_50 (by decide) ?_
  refine lv_icmp_le (tgt := 59) hx hb dX12_given_52 (by decide) (fun _ => ?_) (fun c9 => absurd (by decide) c9)
  refine lv_iconst (v := 1) hx hb dX12_given_59 (by decide) ?_
  refine lv_imul hx hb dX12_given_60 ?_
  refine lv_seti (y := 3125) (by decide) ?_
  refine lv_iadd hx hb dX12_given_61 ?_
  refine lv_seti (y := 3906) (by decide) ?_
  refine lv_istore_n (lv' := [(2, .int 3906), (5, .int (-1)), (4, .int 5), (3, .int 3125), (0, .ref mo), (1, .int v)]) hx hb dX12_given_62 rfl hl (by decide) rfl (fun ls hl => ?_)
  refine lv_iload_n hx hb dX12_given_63 rfl (lv_at hl 3 rfl) ?_
  refine lv_iconst (v := 5) hx hb dX12_given_64 (by decide) ?_
  refine lv_imul hx hb dX12_given_65 ?_
  refine lv_seti (y := 15625) (by decide) ?_
  refine lv_istore_n (lv' := [(3, .int 15625), (2, .int 3906), (5, .int (-1)), (4, .int 5), (0, .ref mo), (1, .int v)]) hx hb dX12_given_66 rfl hl (by decide) rfl (fun ls hl => ?_)
  refine lv_iinc (v := 6) (lv' := [(4, .int 6), (3, .int 15625), (2, .int 3906), (5, .int (-1)), (0, .ref mo), (1, .int v)]) hx hb dX12_given_67 hl (k := 3) rfl (by decide) (by decide) rfl (fun ls hl => ?_)
  refine lv_goto (tgt := 7) hx hb dX12_given_70 (by decide) ?_
  refine lv_iload hx hb dX12_given_7 (lv_at hl 0 rfl) ?_
  refine lv_bipush (v := 6) hx hb dX12_given_9 (by decide) ?_
  refine lv_icmp_ge (tgt := 73) hx hb dX12_given_11 (by decide) (fun _ => ?_) (fun c9 => absurd (by decide) c9)
  refine lv_iload_n hx hb dX12_given_73 rfl (lv_at hl 2 rfl) ?_
  have B := bd_sub (ws' := [(mo, .inr (10, fvM V))]) [0] (by decide) rfl B
  exact x_iret B hr (⟨rfl, rfl⟩) (Nat.le_of_ble_eq_true rfl) (Nat.le_of_ble_eq_true rfl) dX12_given_74

end
