section
theorem mw_2179 : (Jvm.Cond.methodLink "GalleyforgeModel" (257 : Nat) ({ cls := "GalleyforgeModel", name := "isSpot", desc := "(II)Z" } : Jvm.MethodName)) ∈ gt := gt_at 2314 (by decide +kernel) (by decide +kernel)
theorem mw_2181 : (Jvm.Cond.instanceMethod ({ cls := "GalleyforgeModel", name := "isSpot", desc := "(II)Z" } : Jvm.MethodName)) ∈ gt := gt_at 2316 (by decide +kernel) (by decide +kernel)
theorem mw_2182 : (Jvm.Cond.code ({ cls := "GalleyforgeModel", name := "isSpot", desc := "(II)Z" } : Jvm.MethodName) prog_14_method_7_code (3 : Nat) (Option.some Jvm.ClassFile.FieldType.boolean)) ∈ gt := gt_at 2317 (by decide +kernel) (by decide +kernel)
theorem ms_72 : Cond.selects "GalleyforgeModel" (⟨"GalleyforgeModel", "isSpot", "(II)Z"⟩ : MethodName) (⟨"GalleyforgeModel", "isSpot", "(II)Z"⟩ : MethodName) ∈ gt := gt_at 72 (by decide +kernel) (by decide +kernel)
theorem mV_X12_isSpot : mV yX12_isSpot cX12_isSpot 3 (some .boolean) 2 := ⟨⟨mw_2182, mw_13, by decide, by decide, by decide +kernel⟩, mw_2181, ms_72⟩
theorem dX12_word_0 : decode cX12_word 0 = .ok (.aload_n 0, 1) := by decide +kernel
theorem dX12_word_1 : decode cX12_word 1 = .ok (.aload_n 0, 1) := by decide +kernel
theorem dX12_word_2 : decode cX12_word 2 = .ok (.iload_n 1, 1) := by decide +kernel
theorem dX12_word_3 : decode cX12_word 3 = .ok (.iload_n 2, 1) := by decide +kernel
theorem dX12_word_4 : decode cX12_word 4 = .ok (.invokevirtual 257, 3) := by decide +kernel
theorem dX12_word_7 : decode cX12_word 7 = .ok (.ifCond .ne 7, 3) := by decide +kernel
theorem dX12_word_10 : decode cX12_word 10 = .ok (.iconst 1, 1) := by decide +kernel
theorem dX12_word_11 : decode cX12_word 11 = .ok (.goto 23, 3) := by decide +kernel
theorem dX12_word_34 : decode cX12_word 34 = .ok (.invokevirtual 240, 3) := by decide +kernel
theorem dX12_word_37 : decode cX12_word 37 = .ok (.ifCond .eq 5, 3) := by decide +kernel
theorem dX12_word_40 : decode cX12_word 40 = .ok (.iconst 0, 1) := by decide +kernel
theorem dX12_word_41 : decode cX12_word 41 = .ok (.ireturn, 1) := by decide +kernel
set_option maxHeartbeats 4000000 in
set_option maxRecDepth 100000 in
theorem m_word (l : Launch) (dC : Nat → ClassId) (dI : Nat → Nat → Nat) (k : Nat → ClassId) (mo : Nat) (V : Nat → Value) (x1 : Int32) (x2 : Int32) (h9 : V 9 = .int 0) : Ct l dC dI k yX12_word (.code yX12_word cX12_word 5 (some .int)) ({ frames := 3, cells := 0, slots := 0, locals := 65 } : Room) [.ref mo, .int x1, .int x2] [(mo, .inr (10, fvM V))] (fun r w => (∃ (V1 : Nat → Value), V1 0 = .int 1 ∧ r = some (.int 0) ∧ w = [(mo, .inr (10, fvM V1))])) := by
  refine ct_of (by decide) (Nat.le_of_ble_eq_true rfl) ?_
  intro p e s m args below meth c H locs B hr hnm ls hl
  have hx := B.1.1
  have hb := B.1.2.1
  have hl : lv_has ls 5 [(0, .ref mo), (1, .int x1), (2, .int x2)] := hl
  refine lv_aload_n hx hb dX12_word_0 rfl (lv_at hl 0 rfl) ?_
  refine lv_aload_n hx hb dX12_word_1 rfl (lv_at hl 0 rfl) ?_
  refine lv_iload_n hx hb dX12_word_2 rfl (lv_at hl 1 rfl) ?_
  refine lv_iload_n hx hb dX12_word_3 rfl (lv_at hl 2 rfl) ?_
  refine x_callV (rest := [.ref mo]) (wr := []) (m_isSpot l dC dI k mo V x1 x2 h9) B mV_X12_isSpot mw_2179 hl [0] [] rfl rfl ⟨by decide, by decide⟩ (by decide) (q0 := 0) rfl rfl rfl ⟨Nat.le_of_ble_eq_true rfl, Nat.le_of_ble_eq_true rfl⟩ (Nat.le_of_ble_eq_true rfl) rfl dX12_word_4 ⟨Nat.le_of_ble_eq_true rfl, Nat.le_of_ble_eq_true rfl⟩ (fun r w H locs hp B => ?_)
  obtain ⟨rfl, rfl⟩ := hp
  have B := bd_to (ws' := [(mo, .inr (10, fvM V))]) rfl B
  refine lv_if_ne (tgt := 14) hx hb dX12_word_7 (by decide) (fun c9 => absurd c9 (by decide)) (fun _ => ?_)
  refine lv_iconst (v := 1) hx hb dX12_word_10 (by decide) ?_
  refine lv_goto (tgt := 34) hx hb dX12_word_11 (by decide) ?_
  refine x_callV (rest := []) (wr := []) (m_refused1 l dC dI k mo V) B mV_X12_refused mw_2155 hl [0] [] rfl rfl ⟨by decide, by decide⟩ (by decide) (q0 := 0) rfl rfl rfl ⟨Nat.le_of_ble_eq_true rfl, Nat.le_of_ble_eq_true rfl⟩ (Nat.le_of_ble_eq_true rfl) rfl dX12_word_34 ⟨Nat.le_of_ble_eq_true rfl, Nat.le_of_ble_eq_true rfl⟩ (fun r w H locs hp B => ?_)
  obtain ⟨V1_1, z_2, z_3, rfl, rfl⟩ := hp
  have B := bd_to (ws' := [(mo, .inr (10, fvM V1_1))]) rfl B
  refine lv_if_eq (tgt := 42) hx hb dX12_word_37 (by decide) (fun c9 => absurd c9 (by decide)) (fun _ => ?_)
  refine lv_iconst (v := 0) hx hb dX12_word_40 (by decide) ?_
  have B := bd_sub (ws' := [(mo, .inr (10, fvM V1_1))]) [0] (by decide) rfl B
  exact x_iret B hr (⟨V1_1, z_3, rfl, rfl⟩) (Nat.le_of_ble_eq_true rfl) (Nat.le_of_ble_eq_true rfl) dX12_word_41

theorem dX12_reference_0 : decode cX12_reference 0 = .ok (.aload_n 0, 1) := by decide +kernel
theorem dX12_reference_1 : decode cX12_reference 1 = .ok (.iload_n 1, 1) := by decide +kernel
theorem dX12_reference_2 : decode cX12_reference 2 = .ok (.iload_n 2, 1) := by decide +kernel
theorem dX12_reference_3 : decode cX12_reference 3 = .ok (.invokevirtual 257, 3) := by decide +kernel
theorem dX12_reference_6 : decode cX12_reference 6 = .ok (.ifCond .eq 16, 3) := by decide +kernel
theorem dX12_reference_22 : decode cX12_reference 22 = .ok (.iconst 0, 1) := by decide +kernel
theorem dX12_reference_23 : decode cX12_reference 23 = .ok (.istore 4, 2) := by decide +kernel
theorem dX12_reference_25 : decode cX12_reference 25 = .ok (.aload_n 0, 1) := by decide +kernel
theorem dX12_reference_26 : decode cX12_reference 26 = .ok (.iload 4, 2) := by decide +kernel
theorem dX12_reference_28 : decode cX12_reference 28 = .ok (.ifCond .ne 7, 3) := by decide +kernel
theorem dX12_reference_31 : decode cX12_reference 31 = .ok (.iconst 1, 1) := by decide +kernel
theorem dX12_reference_32 : decode cX12_reference 32 = .ok (.goto 16, 3) := by decide +kernel
theorem dX12_reference_48 : decode cX12_reference 48 = .ok (.invokevirtual 240, 3) := by decide +kernel
theorem dX12_reference_51 : decode cX12_reference 51 = .ok (.ifCond .eq 5, 3) := by decide +kernel
theorem dX12_reference_54 : decode cX12_reference 54 = .ok (.iconst 0, 1) := by decide +kernel
theorem dX12_reference_55 : decode cX12_reference 55 = .ok (.ireturn, 1) := by decide +kernel
set_option maxHeartbeats 4000000 in
set_option maxRecDepth 100000 in
theorem m_reference (l : Launch) (dC : Nat → ClassId) (dI : Nat → Nat → Nat) (k : Nat → ClassId) (mo : Nat) (V : Nat → Value) (x1 : Int32) (x2 : Int32) (x3 : Int32) (h9 : V 9 = .int 0) : Ct l dC dI k yX12_reference (.code yX12_reference cX12_reference 6 (some .int)) ({ frames := 3, cells := 0, slots := 0, locals := 65 } : Room) [.ref mo, .int x1, .int x2, .int x3] [(mo, .inr (10, fvM V))] (fun r w => (∃ (V1 : Nat → Value), V1 0 = .int 1 ∧ r = some (.int 0) ∧ w = [(mo, .inr (10, fvM V1))])) := by
  refine ct_of (by decide) (Nat.le_of_ble_eq_true rfl) ?_
  intro p e s m args below meth c H locs B hr hnm ls hl
  have hx := B.1.1
  have hb := B.1.2.1
  have hl : lv_has ls 6 [(0, .ref mo), (1, .int x1), (2, .int x2), (3, .int x3)] := hl
  refine lv_aload_n hx hb dX12_reference_0 rfl (lv_at hl 0 rfl) ?_
  refine lv_iload_n hx hb dX12_reference_1 rfl (lv_at hl 1 rfl) ?_
  refine lv_iload_n hx hb dX12_reference_2 rfl (lv_at hl 2 rfl) ?_
  refine x_callV (rest := []) (wr := []) (m_isSpot l dC dI k mo V x1 x2 h9) B mV_X12_isSpot mw_2179 hl [0] [] rfl rfl ⟨by decide, by decide⟩ (by decide) (q0 := 0) rfl rfl rfl ⟨Nat.le_of_ble_eq_true rfl, Nat.le_of_ble_eq_true rfl⟩ (Nat.le_of_ble_eq_true rfl) rfl dX12_reference_3 ⟨Nat.le_of_ble_eq_true rfl, Nat.le_of_ble_eq_true rfl⟩ (fun r w H locs hp B => ?_)
  obtain ⟨rfl, rfl⟩ := hp
  have B := bd_to (ws' := [(mo, .inr (10, fvM V))]) rfl B
  refine lv_if_eq (tgt := 22) hx hb dX12_reference_6 (by decide) (fun _ => ?_) (fun c9 => absurd (by decide) c9)
  refine lv_iconst (v := 0) hx hb dX12_reference_22 (by decide) ?_
  refine lv_istore (lv' := [(4, .int 0), (0, .ref mo), (1, .int x1), (2, .int x2), (3, .int x3)]) hx hb dX12_reference_23 hl (by decide) rfl (fun ls hl => ?_)
  refine lv_aload_n hx hb dX12_reference_25 rfl (lv_at hl 1 rfl) ?_
  refine lv_iload hx hb dX12_reference_26 (lv_at hl 0 rfl) ?_
  refine lv_if_ne (tgt := 35) hx hb dX12_reference_28 (by decide) (fun c9 => absurd c9 (by decide)) (fun _ => ?_)
  refine lv_iconst (v := 1) hx hb dX12_reference_31 (by decide) ?_
  refine lv_goto (tgt := 48) hx hb dX12_reference_32 (by decide) ?_
  refine x_callV (rest := []) (wr := []) (m_refused1 l dC dI k mo V) B mV_X12_refused mw_2155 hl [0] [] rfl rfl ⟨by decide, by decide⟩ (by decide) (q0 := 0) rfl rfl rfl ⟨Nat.le_of_ble_eq_true rfl, Nat.le_of_ble_eq_true rfl⟩ (Nat.le_of_ble_eq_true rfl) rfl dX12_reference_48 ⟨Nat.le_of_ble_eq_true rfl, Nat.le_of_ble_eq_true rfl⟩ (fun r w H locs hp B => ?_)
  obtain ⟨V1_1, z_2, z_3, rfl, rfl⟩ := hp
  have B := bd_to (ws' := [(mo, .inr (10, fvM V1_1))]) rfl B
  refine lv_if_eq (tgt := 56) hx hb dX12_reference_51 (by decide) (fun c9 => absurd c9 (by decide)) (fun _ => ?_)
  refine lv_iconst (v := 0) hx hb dX12_reference_54 (by decide) ?_
  have B := bd_sub (ws' := [(mo, .inr (10, fvM V1_1))]) [0] (by decide) rfl B
  exact x_iret B hr (⟨V1_1, z_3, rfl, rfl⟩) (Nat.le_of_ble_eq_true rfl) (Nat.le_of_ble_eq_true rfl) dX12_reference_55

theorem mw_2207 : (Jvm.Cond.methodLink "GalleyforgeModel" (268 : Nat) ({ cls := "GalleyforgeModel", name := "isWord", desc := "(II)Z" } : Jvm.MethodName)) ∈ gt := gt_at 2342 (by decide +kernel) (by decide +kernel)
theorem mw_2209 : (Jvm.Cond.instanceMethod ({ cls := "GalleyforgeModel", name := "isWord", desc := "(II)Z" } : Jvm.MethodName)) ∈ gt := gt_at 2344 (by decide +kernel) (by decide +kernel)
theorem mw_2210 : (Jvm.Cond.code ({ cls := "GalleyforgeModel", name := "isWord", desc := "(II)Z" } : Jvm.MethodName) prog_14_method_8_code (3 : Nat) (Option.some Jvm.ClassFile.FieldType.boolean)) ∈ gt := gt_at 2345 (by decide +kernel) (by decide +kernel)
theorem ms_77 : Cond.selects "GalleyforgeModel" (⟨"GalleyforgeModel", "isWord", "(II)Z"⟩ : MethodName) (⟨"GalleyforgeModel", "isWord", "(II)Z"⟩ : MethodName) ∈ gt := gt_at 77 (by decide +kernel) (by decide +kernel)
theorem mV_X12_isWord : mV yX12_isWord cX12_isWord 3 (some .boolean) 2 := ⟨⟨mw_2210, mw_13, by decide, by decide, by decide +kernel⟩, mw_2209, ms_77⟩
theorem dX12_take_0 : decode cX12_take 0 = .ok (.aload_n 0, 1) := by decide +kernel
theorem dX12_take_1 : decode cX12_take 1 = .ok (.aload_n 0, 1) := by decide +kernel
theorem dX12_take_2 : decode cX12_take 2 = .ok (.iload_n 1, 1) := by decide +kernel
theorem dX12_take_3 : decode cX12_take 3 = .ok (.iload_n 2, 1) := by decide +kernel
theorem dX12_take_4 : decode cX12_take 4 = .ok (.invokevirtual 268, 3) := by decide +kernel
theorem dX12_take_7 : decode cX12_take 7 = .ok (.ifCond .eq 7, 3) := by decide +kernel
theorem dX12_take_14 : decode cX12_take 14 = .ok (.iconst 1, 1) := by decide +kernel
theorem dX12_take_15 : decode cX12_take 15 = .ok (.invokevirtual 240, 3) := by decide +kernel
theorem dX12_take_18 : decode cX12_take 18 = .ok (.ifCond .eq 5, 3) := by decide +kernel
theorem dX12_take_21 : decode cX12_take 21 = .ok (.iconst 0, 1) := by decide +kernel
theorem dX12_take_22 : decode cX12_take 22 = .ok (.ireturn, 1) := by decide +kernel
set_option maxHeartbeats 4000000 in
set_option maxRecDepth 100000 in
theorem m_take (l : Launch) (dC : Nat → ClassId) (dI : Nat → Nat → Nat) (k : Nat → ClassId) (mo : Nat) (V : Nat → Value) (x1 : Int32) (x2 : Int32) (h9 : V 9 = .int 0) : Ct l dC dI k yX12_take (.code yX12_take cX12_take 5 (some .int)) ({ frames := 3, cells := 0, slots := 0, locals := 65 } : Room) [.ref mo, .int x1, .int x2] [(mo, .inr (10, fvM V))] (fun r w => (∃ (V1 : Nat → Value), V1 0 = .int 1 ∧ r = some (.int 0) ∧ w = [(mo, .inr (10, fvM V1))])) := by
  refine ct_of (by decide) (Nat.le_of_ble_eq_true rfl) ?_
  intro p e s m args below meth c H locs B hr hnm ls hl
  have hx := B.1.1
  have hb := B.1.2.1
  have hl : lv_has ls 5 [(0, .ref mo), (1, .int x1), (2, .int x2)] := hl
  refine lv_aload_n hx hb dX12_take_0 rfl (lv_at hl 0 rfl) ?_
  refine lv_aload_n hx hb dX12_take_1 rfl (lv_at hl 0 rfl) ?_
  refine lv_iload_n hx hb dX12_take_2 rfl (lv_at hl 1 rfl) ?_
  refine lv_iload_n hx hb dX12_take_3 rfl (lv_at hl 2 rfl) ?_
  refine x_callV (rest := [.ref mo]) (wr := []) (m_isWord l dC dI k mo V x1 x2 h9) B mV_X12_isWord mw_2207 hl [0] [] rfl rfl ⟨by decide, by decide⟩ (by decide) (q0 := 0) rfl rfl rfl ⟨Nat.le_of_ble_eq_true rfl, Nat.le_of_ble_eq_true rfl⟩ (Nat.le_of_ble_eq_true rfl) rfl dX12_take_4 ⟨Nat.le_of_ble_eq_true rfl, Nat.le_of_ble_eq_true rfl⟩ (fun r w H locs hp B => ?_)
  obtain ⟨rfl, rfl⟩ := hp
  have B := bd_to (ws' := [(mo, .inr (10, fvM V))]) rfl B
  refine lv_if_eq (tgt := 14) hx hb dX12_take_7 (by decide) (fun _ => ?_) (fun c9 => absurd (by decide) c9)
  refine lv_iconst (v := 1) hx hb dX12_take_14 (by decide) ?_
  refine x_callV (rest := []) (wr := []) (m_refused1 l dC dI k mo V) B mV_X12_refused mw_2155 hl [0] [] rfl rfl ⟨by decide, by decide⟩ (by decide) (q0 := 0) rfl rfl rfl ⟨Nat.le_of_ble_eq_true rfl, Nat.le_of_ble_eq_true rfl⟩ (Nat.le_of_ble_eq_true rfl) rfl dX12_take_15 ⟨Nat.le_of_ble_eq_true rfl, Nat.le_of_ble_eq_true rfl⟩ (fun r w H locs hp B => ?_)
  obtain ⟨V1_1, z_2, z_3, rfl, rfl⟩ := hp
  have B := bd_to (ws' := [(mo, .inr (10, fvM V1_1))]) rfl B
  refine lv_if_eq (tgt := 23) hx hb dX12_take_18 (by decide) (fun c9 => absurd c9 (by decide)) (fun _ => ?_)
  refine lv_iconst (v := 0) hx hb dX12_take_21 (by decide) ?_
  have B := bd_sub (ws' := [(mo, .inr (10, fvM V1_1))]) [0] (by decide) rfl B
  exact x_iret B hr (⟨V1_1, z_3, rfl, rfl⟩) (Nat.le_of_ble_eq_true rfl) (Nat.le_of_ble_eq_true rfl) dX12_take_22

theorem dX12_remove_0 : decode cX12_remove 0 = .ok (.aload_n 0, 1) := by decide +kernel
theorem dX12_remove_1 : decode cX12_remove 1 = .ok (.aload_n 0, 1) := by decide +kernel
theorem dX12_remove_2 : decode cX12_remove 2 = .ok (.iload_n 1, 1) := by decide +kernel
theorem dX12_remove_3 : decode cX12_remove 3 = .ok (.invokevirtual 233, 3) := by decide +kernel
theorem dX12_remove_6 : decode cX12_remove 6 = .ok (.ifCond .eq 7, 3) := by decide +kernel
theorem dX12_remove_13 : decode cX12_remove 13 = .ok (.iconst 1, 1) := by decide +kernel
theorem dX12_remove_14 : decode cX12_remove 14 = .ok (.invokevirtual 240, 3) := by decide +kernel
theorem dX12_remove_17 : decode cX12_remove 17 = .ok (.ifCond .eq 5, 3) := by decide +kernel
theorem dX12_remove_20 : decode cX12_remove 20 = .ok (.iconst 0, 1) := by decide +kernel
theorem dX12_remove_21 : decode cX12_remove 21 = .ok (.ireturn, 1) := by decide +kernel
set_option maxHeartbeats 4000000 in
set_option maxRecDepth 100000 in
theorem m_remove (l : Launch) (dC : Nat → ClassId) (dI : Nat → Nat → Nat) (k : Nat → ClassId) (mo : Nat) (V : Nat → Value) (x1 : Int32) (h9 : V 9 = .int 0) : Ct l dC dI k yX12_remove (.code yX12_remove cX12_remove 4 (some .int)) ({ frames := 2, cells := 0, slots := 0, locals := 43 } : Room) [.ref mo, .int x1] [(mo, .inr (10, fvM V))] (fun r w => (∃ (V1 : Nat → Value), V1 0 = .int 1 ∧ r = some (.int 0) ∧ w = [(mo, .inr (10, fvM V1))])) := by
  refine ct_of (by decide) (Nat.le_of_ble_eq_true rfl) ?_
  intro p e s m args below meth c H locs B hr hnm ls hl
  have hx := B.1.1
  have hb := B.1.2.1
  have hl : lv_has ls 4 [(0, .ref mo), (1, .int x1)] := hl
  refine lv_aload_n hx hb dX12_remove_0 rfl (lv_at hl 0 rfl) ?_
  refine lv_aload_n hx hb dX12_remove_1 rfl (lv_at hl 0 rfl) ?_
  refine lv_iload_n hx hb dX12_remove_2 rfl (lv_at hl 1 rfl) ?_
  refine x_callV (rest := [.ref mo]) (wr := []) (m_isBlock l dC dI k mo V x1 h9) B mV_X12_isBlock mw_2183 hl [0] [] rfl rfl ⟨by decide, by decide⟩ (by decide) (q0 := 0) rfl rfl rfl ⟨Nat.le_of_ble_eq_true rfl, Nat.le_of_ble_eq_true rfl⟩ (Nat.le_of_ble_eq_true rfl) rfl dX12_remove_3 ⟨Nat.le_of_ble_eq_true rfl, Nat.le_of_ble_eq_true rfl⟩ (fun r w H locs hp B => ?_)
  obtain ⟨rfl, rfl⟩ := hp
  have B := bd_to (ws' := [(mo, .inr (10, fvM V))]) rfl B
  refine lv_if_eq (tgt := 13) hx hb dX12_remove_6 (by decide) (fun _ => ?_) (fun c9 => absurd (by decide) c9)
  refine lv_iconst (v := 1) hx hb dX12_remove_13 (by decide) ?_
  refine x_callV (rest := []) (wr := []) (m_refused1 l dC dI k mo V) B mV_X12_refused mw_2155 hl [0] [] rfl rfl ⟨by decide, by decide⟩ (by decide) (q0 := 0) rfl rfl rfl ⟨Nat.le_of_ble_eq_true rfl, Nat.le_of_ble_eq_true rfl⟩ (Nat.le_of_ble_eq_true rfl) rfl dX12_remove_14 ⟨Nat.le_of_ble_eq_true rfl, Nat.le_of_ble_eq_true rfl⟩ (fun r w H locs hp B => ?_)
  obtain ⟨V1_1, z_2, z_3, rfl, rfl⟩ := hp
  have B := bd_to (ws' := [(mo, .inr (10, fvM V1_1))]) rfl B
  refine lv_if_eq (tgt := 22) hx hb dX12_remove_17 (by decide) (fun c9 => absurd c9 (by decide)) (fun _ => ?_)
  refine lv_iconst (v := 0) hx hb dX12_remove_20 (by decide) ?_
  have B := bd_sub (ws' := [(mo, .inr (10, fvM V1_1))]) [0] (by decide) rfl B
  exact x_iret B hr (⟨V1_1, z_3, rfl, rfl⟩) (Nat.le_of_ble_eq_true rfl) (Nat.le_of_ble_eq_true rfl) dX12_remove_21

theorem dX12_style_0 : decode cX12_style 0 = .ok (.aload_n 0, 1) := by decide +kernel
theorem dX12_style_1 : decode cX12_style 1 = .ok (.iload_n 1, 1) := by decide +kernel
theorem dX12_style_2 : decode cX12_style 2 = .ok (.invokevirtual 233, 3) := by decide +kernel
theorem dX12_style_5 : decode cX12_style 5 = .ok (.ifCond .eq 17, 3) := by decide +kernel
theorem dX12_style_22 : decode cX12_style 22 = .ok (.iconst 0, 1) := by decide +kernel
theorem dX12_style_23 : decode cX12_style 23 = .ok (.istore 4, 2) := by decide +kernel
theorem dX12_style_25 : decode cX12_style 25 = .ok (.iload_n 2, 1) := by decide +kernel
theorem dX12_style_26 : decode cX12_style 26 = .ok (.iconst 3, 1) := by decide +kernel
theorem dX12_style_27 : decode cX12_style 27 = .ok (.if_icmp .ne 7, 3) := by decide +kernel
theorem dX12_style_30 : decode cX12_style 30 = .ok (.iconst 1, 1) := by decide +kernel
theorem dX12_style_31 : decode cX12_style 31 = .ok (.goto 14, 3) := by decide +kernel
theorem dX12_style_34 : decode cX12_style 34 = .ok (.iload_n 2, 1) := by decide +kernel
theorem dX12_style_35 : decode cX12_style 35 = .ok (.bipush 6, 2) := by decide +kernel
theorem dX12_style_37 : decode cX12_style 37 = .ok (.if_icmp .ne 7, 3) := by decide +kernel
theorem dX12_style_40 : decode cX12_style 40 = .ok (.iconst (-1), 1) := by decide +kernel
theorem dX12_style_41 : decode cX12_style 41 = .ok (.goto 4, 3) := by decide +kernel
theorem dX12_style_44 : decode cX12_style 44 = .ok (.iconst 0, 1) := by decide +kernel
theorem dX12_style_45 : decode cX12_style 45 = .ok (.istore 5, 2) := by decide +kernel
theorem dX12_style_47 : decode cX12_style 47 = .ok (.iload_n 2, 1) := by decide +kernel
theorem dX12_style_48 : decode cX12_style 48 = .ok (.ifCond .eq 8, 3) := by decide +kernel
theorem dX12_style_51 : decode cX12_style 51 = .ok (.iload_n 2, 1) := by decide +kernel
theorem dX12_style_52 : decode cX12_style 52 = .ok (.iconst 3, 1) := by decide +kernel
theorem dX12_style_53 : decode cX12_style 53 = .ok (.if_icmp .ne 7, 3) := by decide +kernel
theorem dX12_style_56 : decode cX12_style 56 = .ok (.iconst 2, 1) := by decide +kernel
theorem dX12_style_57 : decode cX12_style 57 = .ok (.goto 23, 3) := by decide +kernel
theorem dX12_style_60 : decode cX12_style 60 = .ok (.iload_n 2, 1) := by decide +kernel
theorem dX12_style_61 : decode cX12_style 61 = .ok (.iconst 4, 1) := by decide +kernel
theorem dX12_style_62 : decode cX12_style 62 = .ok (.if_icmp .ne 8, 3) := by decide +kernel
theorem dX12_style_65 : decode cX12_style 65 = .ok (.bipush 30, 2) := by decide +kernel
theorem dX12_style_67 : decode cX12_style 67 = .ok (.goto 13, 3) := by decide +kernel
theorem dX12_style_70 : decode cX12_style 70 = .ok (.iload_n 2, 1) := by decide +kernel
theorem dX12_style_71 : decode cX12_style 71 = .ok (.iconst 5, 1) := by decide +kernel
theorem dX12_style_72 : decode cX12_style 72 = .ok (.if_icmp .ne 7, 3) := by decide +kernel
theorem dX12_style_75 : decode cX12_style 75 = .ok (.iconst 3, 1) := by decide +kernel
theorem dX12_style_76 : decode cX12_style 76 = .ok (.goto 4, 3) := by decide +kernel
theorem dX12_style_79 : decode cX12_style 79 = .ok (.iconst 1, 1) := by decide +kernel
theorem dX12_style_80 : decode cX12_style 80 = .ok (.istore 6, 2) := by decide +kernel
theorem dX12_style_82 : decode cX12_style 82 = .ok (.aload_n 0, 1) := by decide +kernel
theorem dX12_style_83 : decode cX12_style 83 = .ok (.iload 4, 2) := by decide +kernel
theorem dX12_style_85 : decode cX12_style 85 = .ok (.ifCond .ne 7, 3) := by decide +kernel
theorem dX12_style_88 : decode cX12_style 88 = .ok (.iconst 1, 1) := by decide +kernel
theorem dX12_style_89 : decode cX12_style 89 = .ok (.goto 19, 3) := by decide +kernel
theorem dX12_style_108 : decode cX12_style 108 = .ok (.invokevirtual 240, 3) := by decide +kernel
theorem dX12_style_111 : decode cX12_style 111 = .ok (.ifCond .eq 5, 3) := by decide +kernel
theorem dX12_style_114 : decode cX12_style 114 = .ok (.iconst 0, 1) := by decide +kernel
theorem dX12_style_115 : decode cX12_style 115 = .ok (.ireturn, 1) := by decide +kernel
set_option maxHeartbeats 4000000 in
set_option maxRecDepth 100000 in
theorem m_style (l : Launch) (dC : Nat → ClassId) (dI : Nat → Nat → Nat) (k : Nat → ClassId) (mo : Nat) (V : Nat → Value) (x1 : Int32) (x2 : Int32) (x3 : Int32) (h9 : V 9 = .int 0) : Ct l dC dI k yX12_style (.code yX12_style cX12_style 8 (some .int)) ({ frames := 2, cells := 0, slots := 0, locals := 43 } : Room) [.ref mo, .int x1, .int x2, .int x3] [(mo, .inr (10, fvM V))] (fun r w => (∃ (V1 : Nat → Value), V1 0 = .int 1 ∧ r = some (.int 0) ∧ w = [(mo, .inr (10, fvM V1))])) := by
  refine ct_of (by decide) (Nat.le_of_ble_eq_true rfl) ?_
  intro p e s m args below meth c H locs B hr hnm ls hl
  have hx := B.1.1
  have hb := B.1.2.1
  have hl : lv_has ls 8 [(0, .ref mo), (1, .int x1), (2, .int x2), (3, .int x3)] := hl
  refine lv_aload_n hx hb dX12_style_0 rfl (lv_at hl 0 rfl) ?_
  refine lv_iload_n hx hb dX12_style_1 rfl (lv_at hl 1 rfl) ?_
  refine x_callV (rest := []) (wr := []) (m_isBlock l dC dI k mo V x1 h9) B mV_X12_isBlock mw_2183 hl [0] [] rfl rfl ⟨by decide, by decide⟩ (by decide) (q0 := 0) rfl rfl rfl ⟨Nat.le_of_ble_eq_true rfl, Nat.le_of_ble_eq_true rfl⟩ (Nat.le_of_ble_eq_true rfl) rfl dX12_style_2 ⟨Nat.le_of_ble_eq_true rfl, Nat.le_of_ble_eq_true rfl⟩ (fun r w H locs hp B => ?_)
  obtain ⟨rfl, rfl⟩ := hp
  have B := bd_to (ws' := [(mo, .inr (10, fvM V))]) rfl B
  refine lv_if_eq (tgt := 22) hx hb dX12_style_5 (by decide) (fun _ => ?_) (fun c9 => absurd (by decide) c9)
  refine lv_iconst (v := 0) hx hb dX12_style_22 (by decide) ?_
  refine lv_istore (lv' := [(4, .int 0), (0, .ref mo), (1, .int x1), (2, .int x2), (3, .int x3)]) hx hb dX12_style_23 hl (by decide) rfl (fun ls hl => ?_)
  refine lv_iload_n hx hb dX12_style_25 rfl (lv_at hl 3 rfl) ?_
  refine lv_iconst (v := 3) hx hb dX12_style_26 (by decide) ?_
  refine lv_icmp_ne (tgt := 34) hx hb dX12_style_27 (by decide) (fun c_1 => ?_) (fun c_1 => ?_)
  · have zc_1 : x2.toInt ≠ 3 := zne c_1
    refine lv_iload_n hx hb dX12_style_34 rfl (lv_at hl 3 rfl) ?_
    refine lv_bipush (v := 6) hx hb dX12_style_35 (by decide) ?_
    refine lv_icmp_ne (tgt := 44) hx hb dX12_style_37 (by decide) (fun c_2 => ?_) (fun c_2 => ?_)
    · have zc_2 : x2.toInt ≠ 6 := zne c_2
      refine lv_iconst (v := 0) hx hb dX12_style_44 (by decide) ?_
      refine lv_istore (lv' := [(5, .int 0), (4, .int 0), (0, .ref mo), (1, .int x1), (2, .int x2), (3, .int x3)]) hx hb dX12_style_45 hl (by decide) rfl (fun ls hl => ?_)
      refine lv_iload_n hx hb dX12_style_47 rfl (lv_at hl 4 rfl) ?_
      refine lv_if_eq (tgt := 56) hx hb dX12_style_48 (by decide) (fun c_3 => ?_) (fun c_3 => ?_)
      · have zc_3 : x2.toInt = 0 := zeq c_3
        refine lv_iconst (v := 2) hx hb dX12_style_56 (by decide) ?_
        refine lv_goto (tgt := 80) hx hb dX12_style_57 (by decide) ?_
        refine lv_istore (lv' := [(6, .int 2), (5, .int 0), (4, .int 0), (0, .ref mo), (1, .int x1), (2, .int x2), (3, .int x3)]) hx hb dX12_style_80 hl (by decide) rfl (fun ls hl => ?_)
        refine lv_aload_n hx hb dX12_style_82 rfl (lv_at hl 3 rfl) ?_
        refine lv_iload hx hb dX12_style_83 (lv_at hl 2 rfl) ?_
        refine lv_if_ne (tgt := 92) hx hb dX12_style_85 (by decide) (fun c9 => absurd c9 (by decide)) (fun _ => ?_)
        refine lv_iconst (v := 1) hx hb dX12_style_88 (by decide) ?_
        refine lv_goto (tgt := 108) hx hb dX12_style_89 (by decide) ?_
        refine x_callV (rest := []) (wr := []) (m_refused1 l dC dI k mo V) B mV_X12_refused mw_2155 hl [0] [] rfl rfl ⟨by decide, by decide⟩ (by decide) (q0 := 0) rfl rfl rfl ⟨Nat.le_of_ble_eq_true rfl, Nat.le_of_ble_eq_true rfl⟩ (Nat.le_of_ble_eq_true rfl) rfl dX12_style_108 ⟨Nat.le_of_ble_eq_true rfl, Nat.le_of_ble_eq_true rfl⟩ (fun r w H locs hp B => ?_)
        obtain ⟨V1_4, z_5, z_6, rfl, rfl⟩ := hp
        have B := bd_to (ws' := [(mo, .inr (10, fvM V1_4))]) rfl B
        refine lv_if_eq (tgt := 116) hx hb dX12_style_111 (by decide) (fun c9 => absurd c9 (by decide)) (fun _ => ?_)
        refine lv_iconst (v := 0) hx hb dX12_style_114 (by decide) ?_
        have B := bd_sub (ws' := [(mo, .inr (10, fvM V1_4))]) [0] (by decide) rfl B
        exact x_iret B hr (⟨V1_4, z_6, rfl, rfl⟩) (Nat.le_of_ble_eq_true rfl) (Nat.le_of_ble_eq_true rfl) dX12_style_115
      · have zc_3 : x2.toInt ≠ 0 := zne c_3
        refine lv_iload_n hx hb dX12_style_51 rfl (lv_at hl 4 rfl) ?_
        refine lv_iconst (v := 3) hx hb dX12_style_52 (by decide) ?_
        refine lv_icmp_ne (tgt := 60) hx hb dX12_style_53 (by decide) (fun c_7 => ?_) (fun c_7 => ?_)
        · have zc_7 : x2.toInt ≠ 3 := zne c_7
          refine lv_iload_n hx hb dX12_style_60 rfl (lv_at hl 4 rfl) ?_
          refine lv_iconst (v := 4) hx hb dX12_style_61 (by decide) ?_
          refine lv_icmp_ne (tgt := 70) hx hb dX12_style_62 (by decide) (fun c_8 => ?_) (fun c_8 => ?_)
          · have zc_8 : x2.toInt ≠ 4 := zne c_8
            refine lv_iload_n hx hb dX12_style_70 rfl (lv_at hl 4 rfl) ?_
            refine lv_iconst (v := 5) hx hb dX12_style_71 (by decide) ?_
            refine lv_icmp_ne (tgt := 79) hx hb dX12_style_72 (by decide) (fun c_9 => ?_) (fun c_9 => ?_)
            · have zc_9 : x2.toInt ≠ 5 := zne c_9
              refine lv_iconst (v := 1) hx hb dX12_style_79 (by decide) ?_
              refine lv_istore (lv' := [(6, .int 1), (5, .int 0), (4, .int 0), (0, .ref mo), (1, .int x1), (2, .int x2), (3, .int x3)]) hx hb dX12_style_80 hl (by decide) rfl (fun ls hl => ?_)
              refine lv_aload_n hx hb dX12_style_82 rfl (lv_at hl 3 rfl) ?_
              refine lv_iload hx hb dX12_style_83 (lv_at hl 2 rfl) ?_
              refine lv_if_ne (tgt := 92) hx hb dX12_style_85 (by decide) (fun c9 => absurd c9 (by decide)) (fun _ => ?_)
              refine lv_iconst (v := 1) hx hb dX12_style_88 (by decide) ?_
              refine lv_goto (tgt := 108) hx hb dX12_style_89 (by decide) ?_
              refine x_callV (rest := []) (wr := []) (m_refused1 l dC dI k mo V) B mV_X12_refused mw_2155 hl [0] [] rfl rfl ⟨by decide, by decide⟩ (by decide) (q0 := 0) rfl rfl rfl ⟨Nat.le_of_ble_eq_true rfl, Nat.le_of_ble_eq_true rfl⟩ (Nat.le_of_ble_eq_true rfl) rfl dX12_style_108 ⟨Nat.le_of_ble_eq_true rfl, Nat.le_of_ble_eq_true rfl⟩ (fun r w H locs hp B => ?_)
              obtain ⟨V1_10, z_11, z_12, rfl, rfl⟩ := hp
              have B := bd_to (ws' := [(mo, .inr (10, fvM V1_10))]) rfl B
              refine lv_if_eq (tgt := 116) hx hb dX12_style_111 (by decide) (fun c9 => absurd c9 (by decide)) (fun _ => ?_)
              refine lv_iconst (v := 0) hx hb dX12_style_114 (by decide) ?_
              have B := bd_sub (ws' := [(mo, .inr (10, fvM V1_10))]) [0] (by decide) rfl B
              exact x_iret B hr (⟨V1_10, z_12, rfl, rfl⟩) (Nat.le_of_ble_eq_true rfl) (Nat.le_of_ble_eq_true rfl) dX12_style_115
            · have zc_9 : x2.toInt = 5 := znne c_9
              refine lv_iconst (v := 3) hx hb dX12_style_75 (by decide) ?_
              refine lv_goto (tgt := 80) hx hb dX12_style_76 (by decide) ?_
              refine lv_istore (lv' := [(6, .int 3), (5, .int 0), (4, .int 0), (0, .ref mo), (1, .int x1), (2, .int x2), (3, .int x3)]) hx hb dX12_style_80 hl (by decide) rfl (fun ls hl => ?_)
              refine lv_aload_n hx hb dX12_style_82 rfl (lv_at hl 3 rfl) ?_
              refine lv_iload hx hb dX12_style_83 (lv_at hl 2 rfl) ?_
              refine lv_if_ne (tgt := 92) hx hb dX12_style_85 (by decide) (fun c9 => absurd c9 (by decide)) (fun _ => ?_)
              refine lv_iconst (v := 1) hx hb dX12_style_88 (by decide) ?_
              refine lv_goto (tgt := 108) hx hb dX12_style_89 (by decide) ?_
              refine x_callV (rest := []) (wr := []) (m_refused1 l dC dI k mo V) B mV_X12_refused mw_2155 hl [0] [] rfl rfl ⟨by decide, by decide⟩ (by decide) (q0 := 0) rfl rfl rfl ⟨Nat.le_of_ble_eq_true rfl, Nat.le_of_ble_eq_true rfl⟩ (Nat.le_of_ble_eq_true rfl) rfl dX12_style_108 ⟨Nat.le_of_ble_eq_true rfl, Nat.le_of_ble_eq_true rfl⟩ (fun r w H locs hp B => ?_)
              obtain ⟨V1_13, z_14, z_15, rfl, rfl⟩ := hp
              have B := bd_to (ws' := [(mo, .inr (10, fvM V1_13))]) rfl B
              refine lv_if_eq (tgt := 116) hx hb dX12_style_111 (by decide) (fun c9 => absurd c9 (by decide)) (fun _ => ?_)
              refine lv_iconst (v := 0) hx hb dX12_style_114 (by decide) ?_
              have B := bd_sub (ws' := [(mo, .inr (10, fvM V1_13))]) [0] (by decide) rfl B
              exact x_iret B hr (⟨V1_13, z_15, rfl, rfl⟩) (Nat.le_of_ble_eq_true rfl) (Nat.le_of_ble_eq_true rfl) dX12_style_115
          · have zc_8 : x2.toInt = 4 := znne c_8
            refine lv_bipush (v := 30) hx hb dX12_style_65 (by decide) ?_
            refine lv_goto (tgt := 80) hx hb dX12_style_67 (by decide) ?_
            refine lv_istore (lv' := [(6, .int 30), (5, .int 0), (4, .int 0), (0, .ref mo), (1, .int x1), (2, .int x2), (3, .int x3)]) hx hb dX12_style_80 hl (by decide) rfl (fun ls hl => ?_)
            refine lv_aload_n hx hb dX12_style_82 rfl (lv_at hl 3 rfl) ?_
            refine lv_iload hx hb dX12_style_83 (lv_at hl 2 rfl) ?_
            refine lv_if_ne (tgt := 92) hx hb dX12_style_85 (by decide) (fun c9 => absurd c9 (by decide)) (fun _ => ?_)
            refine lv_iconst (v := 1) hx hb dX12_style_88 (by decide) ?_
            refine lv_goto (tgt := 108) hx hb dX12_style_89 (by decide) ?_
            refine x_callV (rest := []) (wr := []) (m_refused1 l dC dI k mo V) B mV_X12_refused mw_2155 hl [0] [] rfl rfl ⟨by decide, by decide⟩ (by decide) (q0 := 0) rfl rfl rfl ⟨Nat.le_of_ble_eq_true rfl, Nat.le_of_ble_eq_true rfl⟩ (Nat.le_of_ble_eq_true rfl) rfl dX12_style_108 ⟨Nat.le_of_ble_eq_true rfl, Nat.le_of_ble_eq_true rfl⟩ (fun r w H locs hp B => ?_)
            obtain ⟨V1_16, z_17, z_18, rfl, rfl⟩ := hp
            have B := bd_to (ws' := [(mo, .inr (10, fvM V1_16))]) rfl B
            refine lv_if_eq (tgt := 116) hx hb dX12_style_111 (by decide) (fun c9 => absurd c9 (by decide)) (fun _ => ?_)
            refine lv_iconst (v := 0) hx hb dX12_style_114 (by decide) ?_
            have B := bd_sub (ws' := [(mo, .inr (10, fvM V1_16))]) [0] (by decide) rfl B
            exact x_iret B hr (⟨V1_16, z_18, rfl, rfl⟩) (Nat.le_of_ble_eq_true rfl) (Nat.le_of_ble_eq_true rfl) dX12_style_115
        · have zc_7 : x2.toInt = 3 := znne c_7
          refine lv_iconst (v := 2) hx hb dX12_style_56 (by decide) ?_
          refine lv_goto (tgt := 80) hx hb dX12_style_57 (by decide) ?_
          refine lv_istore (lv' := [(6, .int 2), (5, .int 0), (4, .int 0), (0, .ref mo), (1, .int x1), (2, .int x2), (3, .int x3)]) hx hb dX12_style_80 hl (by decide) rfl (fun ls hl => ?_)
          refine lv_aload_n hx hb dX12_style_82 rfl (lv_at hl 3 rfl) ?_
          refine lv_iload hx hb dX12_style_83 (lv_at hl 2 rfl) ?_
          refine lv_if_ne (tgt := 92) hx hb dX12_style_85 (by decide) (fun c9 => absurd c9 (by decide)) (fun _ => ?_)
          refine lv_iconst (v := 1) hx hb dX12_style_88 (by decide) ?_
          refine lv_goto (tgt := 108) hx hb dX12_style_89 (by decide) ?_
          refine x_callV (rest := []) (wr := []) (m_refused1 l dC dI k mo V) B mV_X12_refused mw_2155 hl [0] [] rfl rfl ⟨by decide, by decide⟩ (by decide) (q0 := 0) rfl rfl rfl ⟨Nat.le_of_ble_eq_true rfl, Nat.le_of_ble_eq_true rfl⟩ (Nat.le_of_ble_eq_true rfl) rfl dX12_style_108 ⟨Nat.le_of_ble_eq_true rfl, Nat.le_of_ble_eq_true rfl⟩ (fun r w H locs hp B => ?_)
          obtain ⟨V1_19, z_20, z_21, rfl, rfl⟩ := hp
          have B := bd_to (ws' := [(mo, .inr (10, fvM V1_19))]) rfl B
          refine lv_if_eq (tgt := 116) hx hb dX12_style_111 (by decide) (fun c9 => absurd c9 (by decide)) (fun _ => ?_)
          refine lv_iconst (v := 0) hx hb dX12_style_114 (by decide) ?_
          have B := bd_sub (ws' := [(mo, .inr (10, fvM V1_19))]) [0] (by decide) rfl B
          exact x_iret B hr (⟨V1_19, z_21, rfl, rfl⟩) (Nat.le_of_ble_eq_true rfl) (Nat.le_of_ble_eq_true rfl) dX12_style_115
    · have zc_2 : x2.toInt = 6 := znne c_2
      refine lv_iconst (v := (-1)) hx hb dX12_style_40 (by decide) ?_
      refine lv_goto (tgt := 45) hx hb dX12_style_41 (by decide) ?_
      refine lv_istore (lv' := [(5, .int (-1)), (4, .int 0), (0, .ref mo), (1, .int x1), (2, .int x2), (3, .int x3)]) hx hb dX12_style_45 hl (by decide) rfl (fun ls hl => ?_)
      refine lv_iload_n hx hb dX12_style_47 rfl (lv_at hl 4 rfl) ?_
      refine lv_seti (y := 6) (zint (by rw [show (6 : Int32).toInt = 6 by decide]; omega)) ?_
      refine lv_if_eq (tgt := 56) hx hb dX12_style_48 (by decide) (fun c9 => absurd c9 (by decide)) (fun _ => ?_)
      refine lv_iload_n hx hb dX12_style_51 rfl (lv_at hl 4 rfl) ?_
      refine lv_seti (y := 6) (zint (by rw [show (6 : Int32).toInt = 6 by decide]; omega)) ?_
      refine lv_iconst (v := 3) hx hb dX12_style_52 (by decide) ?_
      refine lv_icmp_ne (tgt := 60) hx hb dX12_style_53 (by decide) (fun _ => ?_) (fun c9 => absurd c9 (by decide))
      refine lv_iload_n hx hb dX12_style_60 rfl (lv_at hl 4 rfl) ?_
      refine lv_seti (y := 6) (zint (by rw [show (6 : Int32).toInt = 6 by decide]; omega)) ?_
      refine lv_iconst (v := 4) hx hb dX12_style_61 (by decide) ?_
      refine lv_icmp_ne (tgt := 70) hx hb dX12_style_62 (by decide) (fun _ => ?_) (fun c9 => absurd c9 (by decide))
      refine lv_iload_n hx hb dX12_style_70 rfl (lv_at hl 4 rfl) ?_
      refine lv_seti (y := 6) (zint (by rw [show (6 : Int32).toInt = 6 by decide]; omega)) ?_
      refine lv_iconst (v := 5) hx hb dX12_style_71 (by decide) ?_
      refine lv_icmp_ne (tgt := 79) hx hb dX12_style_72 (by decide) (fun _ => ?_) (fun c9 => absurd c9 (by decide))
      refine lv_iconst (v := 1) hx hb dX12_style_79 (by decide) ?_
      refine lv_istore (lv' := [(6, .int 1), (5, .int (-1)), (4, .int 0), (0, .ref mo), (1, .int x1), (2, .int x2), (3, .int x3)]) hx hb dX12_style_80 hl (by decide) rfl (fun ls hl => ?_)
      refine lv_aload_n hx hb dX12_style_82 rfl (lv_at hl 3 rfl) ?_
      refine lv_iload hx hb dX12_style_83 (lv_at hl 2 rfl) ?_
      refine lv_if_ne (tgt := 92) hx hb dX12_style_85 (by decide) (fun c9 => absurd c9 (by decide)) (fun _ => ?_)
      refine lv_iconst (v := 1) hx hb dX12_style_88 (by decide) ?_
      refine lv_goto (tgt := 108) hx hb dX12_style_89 (by decide) ?_
      refine x_callV (rest := []) (wr := []) (m_refused1 l dC dI k mo V) B mV_X12_refused mw_2155 hl [0] [] rfl rfl ⟨by decide, by decide⟩ (by decide) (q0 := 0) rfl rfl rfl ⟨Nat.le_of_ble_eq_true rfl, Nat.le_of_ble_eq_true rfl⟩ (Nat.le_of_ble_eq_true rfl) rfl dX12_style_108 ⟨Nat.le_of_ble_eq_true rfl, Nat.le_of_ble_eq_true rfl⟩ (fun r w H locs hp B => ?_)
      obtain ⟨V1_22, z_23, z_24, rfl, rfl⟩ := hp
      have B := bd_to (ws' := [(mo, .inr (10, fvM V1_22))]) rfl B
      refine lv_if_eq (tgt := 116) hx hb dX12_style_111 (by decide) (fun c9 => absurd c9 (by decide)) (fun _ => ?_)
      refine lv_iconst (v := 0) hx hb dX12_style_114 (by decide) ?_
      have B := bd_sub (ws' := [(mo, .inr (10, fvM V1_22))]) [0] (by decide) rfl B
      exact x_iret B hr (⟨V1_22, z_24, rfl, rfl⟩) (Nat.le_of_ble_eq_true rfl) (Nat.le_of_ble_eq_true rfl) dX12_style_115
  · have zc_1 : x2.toInt = 3 := znne c_1
    refine lv_iconst (v := 1) hx hb dX12_style_30 (by decide) ?_
    refine lv_goto (tgt := 45) hx hb dX12_style_31 (by decide) ?_
    refine lv_istore (lv' := [(5, .int 1), (4, .int 0), (0, .ref mo), (1, .int x1), (2, .int x2), (3, .int x3)]) hx hb dX12_style_45 hl (by decide) rfl (fun ls hl => ?_)
    refine lv_iload_n hx hb dX12_style_47 rfl (lv_at hl 4 rfl) ?_
    refine lv_seti (y := 3) (zint (by rw [show (3 : Int32).toInt = 3 by decide]; omega)) ?_
    refine lv_if_eq (tgt := 56) hx hb dX12_style_48 (by decide) (fun c9 => absurd c9 (by decide)) (fun _ => ?_)
    refine lv_iload_n hx hb dX12_style_51 rfl (lv_at hl 4 rfl) ?_
    refine lv_seti (y := 3) (zint (by rw [show (3 : Int32).toInt = 3 by decide]; omega)) ?_
    refine lv_iconst (v := 3) hx hb dX12_style_52 (by decide) ?_
    refine lv_icmp_ne (tgt := 60) hx hb dX12_style_53 (by decide) (fun c9 => absurd c9 (by decide)) (fun _ => ?_)
    refine lv_iconst (v := 2) hx hb dX12_style_56 (by decide) ?_
    refine lv_goto (tgt := 80) hx hb dX12_style_57 (by decide) ?_
    refine lv_istore (lv' := [(6, .int 2), (5, .int 1), (4, .int 0), (0, .ref mo), (1, .int x1), (2, .int x2), (3, .int x3)]) hx hb dX12_style_80 hl (by decide) rfl (fun ls hl => ?_)
    refine lv_aload_n hx hb dX12_style_82 rfl (lv_at hl 3 rfl) ?_
    refine lv_iload hx hb dX12_style_83 (lv_at hl 2 rfl) ?_
    refine lv_if_ne (tgt := 92) hx hb dX12_style_85 (by decide) (fun c9 => absurd c9 (by decide)) (fun _ => ?_)
    refine lv_iconst (v := 1) hx hb dX12_style_88 (by decide) ?_
    refine lv_goto (tgt := 108) hx hb dX12_style_89 (by decide) ?_
    refine x_callV (rest := []) (wr := []) (m_refused1 l dC dI k mo V) B mV_X12_refused mw_2155 hl [0] [] rfl rfl ⟨by decide, by decide⟩ (by decide) (q0 := 0) rfl rfl rfl ⟨Nat.le_of_ble_eq_true rfl, Nat.le_of_ble_eq_true rfl⟩ (Nat.le_of_ble_eq_true rfl) rfl dX12_style_108 ⟨Nat.le_of_ble_eq_true rfl, Nat.le_of_ble_eq_true rfl⟩ (fun r w H locs hp B => ?_)
    obtain ⟨V1_25, z_26, z_27, rfl, rfl⟩ := hp
    have B := bd_to (ws' := [(mo, .inr (10, fvM V1_25))]) rfl B
    refine lv_if_eq (tgt := 116) hx hb dX12_style_111 (by decide) (fun c9 => absurd c9 (by decide)) (fun _ => ?_)
    refine lv_iconst (v := 0) hx hb dX12_style_114 (by decide) ?_
    have B := bd_sub (ws' := [(mo, .inr (10, fvM V1_25))]) [0] (by decide) rfl B
    exact x_iret B hr (⟨V1_25, z_27, rfl, rfl⟩) (Nat.le_of_ble_eq_true rfl) (Nat.le_of_ble_eq_true rfl) dX12_style_115

theorem dX12_words_0 : decode cX12_words 0 = .ok (.aload_n 0, 1) := by decide +kernel
theorem dX12_words_1 : decode cX12_words 1 = .ok (.aload_n 0, 1) := by decide +kernel
theorem dX12_words_2 : decode cX12_words 2 = .ok (.iload_n 1, 1) := by decide +kernel
theorem dX12_words_3 : decode cX12_words 3 = .ok (.invokevirtual 233, 3) := by decide +kernel
theorem dX12_words_6 : decode cX12_words 6 = .ok (.ifCond .eq 7, 3) := by decide +kernel
theorem dX12_words_13 : decode cX12_words 13 = .ok (.iconst 1, 1) := by decide +kernel
theorem dX12_words_14 : decode cX12_words 14 = .ok (.invokevirtual 240, 3) := by decide +kernel
theorem dX12_words_17 : decode cX12_words 17 = .ok (.ifCond .eq 7, 3) := by decide +kernel
theorem dX12_words_20 : decode cX12_words 20 = .ok (.iconst 0, 1) := by decide +kernel
theorem dX12_words_21 : decode cX12_words 21 = .ok (.goto 14, 3) := by decide +kernel
theorem dX12_words_35 : decode cX12_words 35 = .ok (.ireturn, 1) := by decide +kernel
set_option maxHeartbeats 4000000 in
set_option maxRecDepth 100000 in
theorem m_words (l : Launch) (dC : Nat → ClassId) (dI : Nat → Nat → Nat) (k : Nat → ClassId) (mo : Nat) (V : Nat → Value) (x1 : Int32) (h9 : V 9 = .int 0) : Ct l dC dI k yX12_words (.code yX12_words cX12_words 2 (some .int)) ({ frames := 2, cells := 0, slots := 0, locals := 43 } : Room) [.ref mo, .int x1] [(mo, .inr (10, fvM V))] (fun r w => (∃ (V1 : Nat → Value), V1 0 = .int 1 ∧ r = some (.int 0) ∧ w = [(mo, .inr (10, fvM V1))])) := by
  refine ct_of (by decide) (Nat.le_of_ble_eq_true rfl) ?_
  intro p e s m args below meth c H locs B hr hnm ls hl
  have hx := B.1.1
  have hb := B.1.2.1
  have hl : lv_has ls 2 [(0, .ref mo), (1, .int x1)] := hl
  refine lv_aload_n hx hb dX12_words_0 rfl (lv_at hl 0 rfl) ?_
  refine lv_aload_n hx hb dX12_words_1 rfl (lv_at hl 0 rfl) ?_
  refine lv_iload_n hx hb dX12_words_2 rfl (lv_at hl 1 rfl) ?_
  refine x_callV (rest := [.ref mo]) (wr := []) (m_isBlock l dC dI k mo V x1 h9) B mV_X12_isBlock mw_2183 hl [0] [] rfl rfl ⟨by decide, by decide⟩ (by decide) (q0 := 0) rfl rfl rfl ⟨Nat.le_of_ble_eq_true rfl, Nat.le_of_ble_eq_true rfl⟩ (Nat.le_of_ble_eq_true rfl) rfl dX12_words_3 ⟨Nat.le_of_ble_eq_true rfl, Nat.le_of_ble_eq_true rfl⟩ (fun r w H locs hp B => ?_)
  obtain ⟨rfl, rfl⟩ := hp
  have B := bd_to (ws' := [(mo, .inr (10, fvM V))]) rfl B
  refine lv_if_eq (tgt := 13) hx hb dX12_words_6 (by decide) (fun _ => ?_) (fun c9 => absurd (by decide) c9)
  refine lv_iconst (v := 1) hx hb dX12_words_13 (by decide) ?_
  refine x_callV (rest := []) (wr := []) (m_refused1 l dC dI k mo V) B mV_X12_refused mw_2155 hl [0] [] rfl rfl ⟨by decide, by decide⟩ (by decide) (q0 := 0) rfl rfl rfl ⟨Nat.le_of_ble_eq_true rfl, Nat.le_of_ble_eq_true rfl⟩ (Nat.le_of_ble_eq_true rfl) rfl dX12_words_14 ⟨Nat.le_of_ble_eq_true rfl, Nat.le_of_ble_eq_true rfl⟩ (fun r w H locs hp B => ?_)
  obtain ⟨V1_1, z_2, z_3, rfl, rfl⟩ := hp
  have B := bd_to (ws' := [(mo, .inr (10, fvM V1_1))]) rfl B
  refine lv_if_eq (tgt := 24) hx hb dX12_words_17 (by decide) (fun c9 => absurd c9 (by decide)) (fun _ => ?_)
  refine lv_iconst (v := 0) hx hb dX12_words_20 (by decide) ?_
  refine lv_goto (tgt := 35) hx hb dX12_words_21 (by decide) ?_
  have B := bd_sub (ws' := [(mo, .inr (10, fvM V1_1))]) [0] (by decide) rfl B
  exact x_iret B hr (⟨V1_1, z_3, rfl, rfl⟩) (Nat.le_of_ble_eq_true rfl) (Nat.le_of_ble_eq_true rfl) dX12_words_35

theorem dX12_gaps_0 : decode cX12_gaps 0 = .ok (.aload_n 0, 1) := by decide +kernel
theorem dX12_gaps_1 : decode cX12_gaps 1 = .ok (.aload_n 0, 1) := by decide +kernel
theorem dX12_gaps_2 : decode cX12_gaps 2 = .ok (.iload_n 1, 1) := by decide +kernel
theorem dX12_gaps_3 : decode cX12_gaps 3 = .ok (.iload_n 2, 1) := by decide +kernel
theorem dX12_gaps_4 : decode cX12_gaps 4 = .ok (.invokevirtual 268, 3) := by decide +kernel
theorem dX12_gaps_7 : decode cX12_gaps 7 = .ok (.ifCond .eq 7, 3) := by decide +kernel
theorem dX12_gaps_14 : decode cX12_gaps 14 = .ok (.iconst 1, 1) := by decide +kernel
theorem dX12_gaps_15 : decode cX12_gaps 15 = .ok (.invokevirtual 240, 3) := by decide +kernel
theorem dX12_gaps_18 : decode cX12_gaps 18 = .ok (.ifCond .eq 7, 3) := by decide +kernel
theorem dX12_gaps_21 : decode cX12_gaps 21 = .ok (.iconst 0, 1) := by decide +kernel
theorem dX12_gaps_22 : decode cX12_gaps 22 = .ok (.goto 18, 3) := by decide +kernel
theorem dX12_gaps_40 : decode cX12_gaps 40 = .ok (.ireturn, 1) := by decide +kernel
set_option maxHeartbeats 4000000 in
set_option maxRecDepth 100000 in
theorem m_gaps (l : Launch) (dC : Nat → ClassId) (dI : Nat → Nat → Nat) (k : Nat → ClassId) (mo : Nat) (V : Nat → Value) (x1 : Int32) (x2 : Int32) (h9 : V 9 = .int 0) : Ct l dC dI k yX12_gaps (.code yX12_gaps cX12_gaps 3 (some .int)) ({ frames := 3, cells := 0, slots := 0, locals := 65 } : Room) [.ref mo, .int x1, .int x2] [(mo, .inr (10, fvM V))] (fun r w => (∃ (V1 : Nat → Value), V1 0 = .int 1 ∧ r = some (.int 0) ∧ w = [(mo, .inr (10, fvM V1))])) := by
  refine ct_of (by decide) (Nat.le_of_ble_eq_true rfl) ?_
  intro p e s m args below meth c H locs B hr hnm ls hl
  have hx := B.1.1
  have hb := B.1.2.1
  have hl : lv_has ls 3 [(0, .ref mo), (1, .int x1), (2, .int x2)] := hl
  refine lv_aload_n hx hb dX12_gaps_0 rfl (lv_at hl 0 rfl) ?_
  refine lv_aload_n hx hb dX12_gaps_1 rfl (lv_at hl 0 rfl) ?_
  refine lv_iload_n hx hb dX12_gaps_2 rfl (lv_at hl 1 rfl) ?_
  refine lv_iload_n hx hb dX12_gaps_3 rfl (lv_at hl 2 rfl) ?_
  refine x_callV (rest := [.ref mo]) (wr := []) (m_isWord l dC dI k mo V x1 x2 h9) B mV_X12_isWord mw_2207 hl [0] [] rfl rfl ⟨by decide, by decide⟩ (by decide) (q0 := 0) rfl rfl rfl ⟨Nat.le_of_ble_eq_true rfl, Nat.le_of_ble_eq_true rfl⟩ (Nat.le_of_ble_eq_true rfl) rfl dX12_gaps_4 ⟨Nat.le_of_ble_eq_true rfl, Nat.le_of_ble_eq_true rfl⟩ (fun r w H locs hp B => ?_)
  obtain ⟨rfl, rfl⟩ := hp
  have B := bd_to (ws' := [(mo, .inr (10, fvM V))]) rfl B
  refine lv_if_eq (tgt := 14) hx hb dX12_gaps_7 (by decide) (fun _ => ?_) (fun c9 => absurd (by decide) c9)
  refine lv_iconst (v := 1) hx hb dX12_gaps_14 (by decide) ?_
  refine x_callV (rest := []) (wr := []) (m_refused1 l dC dI k mo V) B mV_X12_refused mw_2155 hl [0] [] rfl rfl ⟨by decide, by decide⟩ (by decide) (q0 := 0) rfl rfl rfl ⟨Nat.le_of_ble_eq_true rfl, Nat.le_of_ble_eq_true rfl⟩ (Nat.le_of_ble_eq_true rfl) rfl dX12_gaps_15 ⟨Nat.le_of_ble_eq_true rfl, Nat.le_of_ble_eq_true rfl⟩ (fun r w H locs hp B => ?_)
  obtain ⟨V1_1, z_2, z_3, rfl, rfl⟩ := hp
  have B := bd_to (ws' := [(mo, .inr (10, fvM V1_1))]) rfl B
  refine lv_if_eq (tgt := 25) hx hb dX12_gaps_18 (by decide) (fun c9 => absurd c9 (by decide)) (fun _ => ?_)
  refine lv_iconst (v := 0) hx hb dX12_gaps_21 (by decide) ?_
  refine lv_goto (tgt := 40) hx hb dX12_gaps_22 (by decide) ?_
  have B := bd_sub (ws' := [(mo, .inr (10, fvM V1_1))]) [0] (by decide) rfl B
  exact x_iret B hr (⟨V1_1, z_3, rfl, rfl⟩) (Nat.le_of_ble_eq_true rfl) (Nat.le_of_ble_eq_true rfl) dX12_gaps_40

theorem mw_2298 : (Jvm.Cond.methodLink "GalleyforgeModel" (312 : Nat) ({ cls := "GalleyforgeModel", name := "isTable", desc := "(I)Z" } : Jvm.MethodName)) ∈ gt := gt_at 2433 (by decide +kernel) (by decide +kernel)
theorem mw_2300 : (Jvm.Cond.instanceMethod ({ cls := "GalleyforgeModel", name := "isTable", desc := "(I)Z" } : Jvm.MethodName)) ∈ gt := gt_at 2435 (by decide +kernel) (by decide +kernel)
theorem mw_2301 : (Jvm.Cond.code ({ cls := "GalleyforgeModel", name := "isTable", desc := "(I)Z" } : Jvm.MethodName) prog_14_method_45_code (2 : Nat) (Option.some Jvm.ClassFile.FieldType.boolean)) ∈ gt := gt_at 2436 (by decide +kernel) (by decide +kernel)
theorem ms_87 : Cond.selects "GalleyforgeModel" (⟨"GalleyforgeModel", "isTable", "(I)Z"⟩ : MethodName) (⟨"GalleyforgeModel", "isTable", "(I)Z"⟩ : MethodName) ∈ gt := gt_at 87 (by decide +kernel) (by decide +kernel)
theorem mV_X12_isTable : mV yX12_isTable cX12_isTable 2 (some .boolean) 1 := ⟨⟨mw_2301, mw_13, by decide, by decide, by decide +kernel⟩, mw_2300, ms_87⟩
theorem dX12_columnWidth_0 : decode cX12_columnWidth 0 = .ok (.aload_n 0, 1) := by decide +kernel
theorem dX12_columnWidth_1 : decode cX12_columnWidth 1 = .ok (.iload_n 1, 1) := by decide +kernel
theorem dX12_columnWidth_2 : decode cX12_columnWidth 2 = .ok (.invokevirtual 312, 3) := by decide +kernel
theorem dX12_columnWidth_5 : decode cX12_columnWidth 5 = .ok (.ifCond .eq 22, 3) := by decide +kernel
theorem dX12_columnWidth_27 : decode cX12_columnWidth 27 = .ok (.iconst 0, 1) := by decide +kernel
theorem dX12_columnWidth_28 : decode cX12_columnWidth 28 = .ok (.istore_n 3, 1) := by decide +kernel
theorem dX12_columnWidth_29 : decode cX12_columnWidth 29 = .ok (.aload_n 0, 1) := by decide +kernel
theorem dX12_columnWidth_30 : decode cX12_columnWidth 30 = .ok (.iload_n 3, 1) := by decide +kernel
theorem dX12_columnWidth_31 : decode cX12_columnWidth 31 = .ok (.ifCond .eq 7, 3) := by decide +kernel
theorem dX12_columnWidth_38 : decode cX12_columnWidth 38 = .ok (.iconst 1, 1) := by decide +kernel
theorem dX12_columnWidth_39 : decode cX12_columnWidth 39 = .ok (.invokevirtual 240, 3) := by decide +kernel
theorem dX12_columnWidth_42 : decode cX12_columnWidth 42 = .ok (.ifCond .eq 5, 3) := by decide +kernel
theorem dX12_columnWidth_45 : decode cX12_columnWidth 45 = .ok (.iconst 0, 1) := by decide +kernel
theorem dX12_columnWidth_46 : decode cX12_columnWidth 46 = .ok (.ireturn, 1) := by decide +kernel
set_option maxHeartbeats 4000000 in
set_option maxRecDepth 100000 in
theorem m_columnWidth (l : Launch) (dC : Nat → ClassId) (dI : Nat → Nat → Nat) (k : Nat → ClassId) (mo : Nat) (V : Nat → Value) (x1 : Int32) (x2 : Int32) (h9 : V 9 = .int 0) : Ct l dC dI k yX12_columnWidth (.code yX12_columnWidth cX12_columnWidth 4 (some .int)) ({ frames := 3, cells := 0, slots := 0, locals := 64 } : Room) [.ref mo, .int x1, .int x2] [(mo, .inr (10, fvM V))] (fun r w => (∃ (V1 : Nat → Value), V1 0 = .int 1 ∧ r = some (.int 0) ∧ w = [(mo, .inr (10, fvM V1))])) := by
  refine ct_of (by decide) (Nat.le_of_ble_eq_true rfl) ?_
  intro p e s m args below meth c H locs B hr hnm ls hl
  have hx := B.1.1
  have hb := B.1.2.1
  have hl : lv_has ls 4 [(0, .ref mo), (1, .int x1), (2, .int x2)] := hl
  refine lv_aload_n hx hb dX12_columnWidth_0 rfl (lv_at hl 0 rfl) ?_
  refine lv_iload_n hx hb dX12_columnWidth_1 rfl (lv_at hl 1 rfl) ?_
  refine x_callV (rest := []) (wr := []) (m_isTable l dC dI k mo V x1 h9) B mV_X12_isTable mw_2298 hl [0] [] rfl rfl ⟨by decide, by decide⟩ (by decide) (q0 := 0) rfl rfl rfl ⟨Nat.le_of_ble_eq_true rfl, Nat.le_of_ble_eq_true rfl⟩ (Nat.le_of_ble_eq_true rfl) rfl dX12_columnWidth_2 ⟨Nat.le_of_ble_eq_true rfl, Nat.le_of_ble_eq_true rfl⟩ (fun r w H locs hp B => ?_)
  obtain ⟨rfl, rfl⟩ := hp
  have B := bd_to (ws' := [(mo, .inr (10, fvM V))]) rfl B
  refine lv_if_eq (tgt := 27) hx hb dX12_columnWidth_5 (by decide) (fun _ => ?_) (fun c9 => absurd (by decide) c9)
  refine lv_iconst (v := 0) hx hb dX12_columnWidth_27 (by decide) ?_
  refine lv_istore_n (lv' := [(3, .int 0), (0, .ref mo), (1, .int x1), (2, .int x2)]) hx hb dX12_columnWidth_28 rfl hl (by decide) rfl (fun ls hl => ?_)
  refine lv_aload_n hx hb dX12_columnWidth_29 rfl (lv_at hl 1 rfl) ?_
  refine lv_iload_n hx hb dX12_columnWidth_30 rfl (lv_at hl 0 rfl) ?_
  refine lv_if_eq (tgt := 38) hx hb dX12_columnWidth_31 (by decide) (fun _ => ?_) (fun c9 => absurd (by decide) c9)
  refine lv_iconst (v := 1) hx hb dX12_columnWidth_38 (by decide) ?_
  refine x_callV (rest := []) (wr := []) (m_refused1 l dC dI k mo V) B mV_X12_refused mw_2155 hl [0] [] rfl rfl ⟨by decide, by decide⟩ (by decide) (q0 := 0) rfl rfl rfl ⟨Nat.le_of_ble_eq_true rfl, Nat.le_of_ble_eq_true rfl⟩ (Nat.le_of_ble_eq_true rfl) rfl dX12_columnWidth_39 ⟨Nat.le_of_ble_eq_true rfl, Nat.le_of_ble_eq_true rfl⟩ (fun r w H locs hp B => ?_)
  obtain ⟨V1_1, z_2, z_3, rfl, rfl⟩ := hp
  have B := bd_to (ws' := [(mo, .inr (10, fvM V1_1))]) rfl B
  refine lv_if_eq (tgt := 47) hx hb dX12_columnWidth_42 (by decide) (fun c9 => absurd c9 (by decide)) (fun _ => ?_)
  refine lv_iconst (v := 0) hx hb dX12_columnWidth_45 (by decide) ?_
  have B := bd_sub (ws' := [(mo, .inr (10, fvM V1_1))]) [0] (by decide) rfl B
  exact x_iret B hr (⟨V1_1, z_3, rfl, rfl⟩) (Nat.le_of_ble_eq_true rfl) (Nat.le_of_ble_eq_true rfl) dX12_columnWidth_46

theorem dX12_rowHeight_0 : decode cX12_rowHeight 0 = .ok (.aload_n 0, 1) := by decide +kernel
theorem dX12_rowHeight_1 : decode cX12_rowHeight 1 = .ok (.iload_n 1, 1) := by decide +kernel
theorem dX12_rowHeight_2 : decode cX12_rowHeight 2 = .ok (.invokevirtual 312, 3) := by decide +kernel
theorem dX12_rowHeight_5 : decode cX12_rowHeight 5 = .ok (.ifCond .eq 22, 3) := by decide +kernel
theorem dX12_rowHeight_27 : decode cX12_rowHeight 27 = .ok (.iconst 0, 1) := by decide +kernel
theorem dX12_rowHeight_28 : decode cX12_rowHeight 28 = .ok (.istore_n 3, 1) := by decide +kernel
theorem dX12_rowHeight_29 : decode cX12_rowHeight 29 = .ok (.aload_n 0, 1) := by decide +kernel
theorem dX12_rowHeight_30 : decode cX12_rowHeight 30 = .ok (.iload_n 3, 1) := by decide +kernel
theorem dX12_rowHeight_31 : decode cX12_rowHeight 31 = .ok (.ifCond .eq 7, 3) := by decide +kernel
theorem dX12_rowHeight_38 : decode cX12_rowHeight 38 = .ok (.iconst 1, 1) := by decide +kernel
theorem dX12_rowHeight_39 : decode cX12_rowHeight 39 = .ok (.invokevirtual 240, 3) := by decide +kernel
theorem dX12_rowHeight_42 : decode cX12_rowHeight 42 = .ok (.ifCond .eq 7, 3) := by decide +kernel
theorem dX12_rowHeight_45 : decode cX12_rowHeight 45 = .ok (.iconst 0, 1) := by decide +kernel
theorem dX12_rowHeight_46 : decode cX12_rowHeight 46 = .ok (.goto 9, 3) := by decide +kernel
theorem dX12_rowHeight_55 : decode cX12_rowHeight 55 = .ok (.ireturn, 1) := by decide +kernel
set_option maxHeartbeats 4000000 in
set_option maxRecDepth 100000 in
theorem m_rowHeight (l : Launch) (dC : Nat → ClassId) (dI : Nat → Nat → Nat) (k : Nat → ClassId) (mo : Nat) (V : Nat → Value) (x1 : Int32) (x2 : Int32) (h9 : V 9 = .int 0) : Ct l dC dI k yX12_rowHeight (.code yX12_rowHeight cX12_rowHeight 4 (some .int)) ({ frames := 3, cells := 0, slots := 0, locals := 64 } : Room) [.ref mo, .int x1, .int x2] [(mo, .inr (10, fvM V))] (fun r w => (∃ (V1 : Nat → Value), V1 0 = .int 1 ∧ r = some (.int 0) ∧ w = [(mo, .inr (10, fvM V1))])) := by
  refine ct_of (by decide) (Nat.le_of_ble_eq_true rfl) ?_
  intro p e s m args below meth c H locs B hr hnm ls hl
  have hx := B.1.1
  have hb := B.1.2.1
  have hl : lv_has ls 4 [(0, .ref mo), (1, .int x1), (2, .int x2)] := hl
  refine lv_aload_n hx hb dX12_rowHeight_0 rfl (lv_at hl 0 rfl) ?_
  refine lv_iload_n hx hb dX12_rowHeight_1 rfl (lv_at hl 1 rfl) ?_
  refine x_callV (rest := []) (wr := []) (m_isTable l dC dI k mo V x1 h9) B mV_X12_isTable mw_2298 hl [0] [] rfl rfl ⟨by decide, by decide⟩ (by decide) (q0 := 0) rfl rfl rfl ⟨Nat.le_of_ble_eq_true rfl, Nat.le_of_ble_eq_true rfl⟩ (Nat.le_of_ble_eq_true rfl) rfl dX12_rowHeight_2 ⟨Nat.le_of_ble_eq_true rfl, Nat.le_of_ble_eq_true rfl⟩ (fun r w H locs hp B => ?_)
  obtain ⟨rfl, rfl⟩ := hp
  have B := bd_to (ws' := [(mo, .inr (10, fvM V))]) rfl B
  refine lv_if_eq (tgt := 27) hx hb dX12_rowHeight_5 (by decide) (fun _ => ?_) (fun c9 => absurd (by decide) c9)
  refine lv_iconst (v := 0) hx hb dX12_rowHeight_27 (by decide) ?_
  refine lv_istore_n (lv' := [(3, .int 0), (0, .ref mo), (1, .int x1), (2, .int x2)]) hx hb dX12_rowHeight_28 rfl hl (by decide) rfl (fun ls hl => ?_)
  refine lv_aload_n hx hb dX12_rowHeight_29 rfl (lv_at hl 1 rfl) ?_
  refine lv_iload_n hx hb dX12_rowHeight_30 rfl (lv_at hl 0 rfl) ?_
  refine lv_if_eq (tgt := 38) hx hb dX12_rowHeight_31 (by decide) (fun _ => ?_) (fun c9 => absurd (by decide) c9)
  refine lv_iconst (v := 1) hx hb dX12_rowHeight_38 (by decide) ?_
  refine x_callV (rest := []) (wr := []) (m_refused1 l dC dI k mo V) B mV_X12_refused mw_2155 hl [0] [] rfl rfl ⟨by decide, by decide⟩ (by decide) (q0 := 0) rfl rfl rfl ⟨Nat.le_of_ble_eq_true rfl, Nat.le_of_ble_eq_true rfl⟩ (Nat.le_of_ble_eq_true rfl) rfl dX12_rowHeight_39 ⟨Nat.le_of_ble_eq_true rfl, Nat.le_of_ble_eq_true rfl⟩ (fun r w H locs hp B => ?_)
  obtain ⟨V1_1, z_2, z_3, rfl, rfl⟩ := hp
  have B := bd_to (ws' := [(mo, .inr (10, fvM V1_1))]) rfl B
  refine lv_if_eq (tgt := 49) hx hb dX12_rowHeight_42 (by decide) (fun c9 => absurd c9 (by decide)) (fun _ => ?_)
  refine lv_iconst (v := 0) hx hb dX12_rowHeight_45 (by decide) ?_
  refine lv_goto (tgt := 55) hx hb dX12_rowHeight_46 (by decide) ?_
  have B := bd_sub (ws' := [(mo, .inr (10, fvM V1_1))]) [0] (by decide) rfl B
  exact x_iret B hr (⟨V1_1, z_3, rfl, rfl⟩) (Nat.le_of_ble_eq_true rfl) (Nat.le_of_ble_eq_true rfl) dX12_rowHeight_55

set_option maxHeartbeats 4000000 in
set_option maxRecDepth 100000 in
theorem m_in_0_2 (l : Launch) (dC : Nat → ClassId) (dI : Nat → Nat → Nat) (k : Nat → ClassId) (x1 : Int32) : Ct l dC dI k yX12_in (.code yX12_in cX12_in 3 (some .boolean)) ({ frames := 0, cells := 0, slots := 0, locals := 0 } : Room) [.int x1, .int 0, .int 2] [] (fun r w => ((0 ≤ x1.toInt ∧ x1.toInt ≤ 2) ∧ r = some (.int 1) ∧ w = []) ∨ (¬ (0 ≤ x1.toInt ∧ x1.toInt ≤ 2) ∧ r = some (.int 0) ∧ w = [])) := by
  refine ct_of (by decide) (Nat.le_of_ble_eq_true rfl) ?_
  intro p e s m args below meth c H locs B hr hnm ls hl
  have hx := B.1.1
  have hb := B.1.2.1
  have hl : lv_has ls 3 [(0, .int x1), (1, .int 0), (2, .int 2)] := hl
  refine lv_iload_n hx hb dX12_in_0 rfl (lv_at hl 0 rfl) ?_
  refine lv_iload_n hx hb dX12_in_1 rfl (lv_at hl 1 rfl) ?_
  refine lv_icmp_lt (tgt := 14) hx hb dX12_in_2 (by decide) (fun c_1 => ?_) (fun c_1 => ?_)
  · have zc_1 : x1.toInt < 0 := zlt c_1
    refine lv_iconst (v := 0) hx hb dX12_in_14 (by decide) ?_
    have B := bd_sub (ws' := []) [] (by decide) rfl B
    exact x_zret B hr (by decide) (Or.inr (⟨by omega, rfl, rfl⟩)) (Nat.le_of_ble_eq_true rfl) (Nat.le_of_ble_eq_true rfl) dX12_in_15
  · have zc_1 : 0 ≤ x1.toInt := znlt c_1
    refine lv_iload_n hx hb dX12_in_5 rfl (lv_at hl 0 rfl) ?_
    refine lv_iload_n hx hb dX12_in_6 rfl (lv_at hl 2 rfl) ?_
    refine lv_icmp_gt (tgt := 14) hx hb dX12_in_7 (by decide) (fun c_2 => ?_) (fun c_2 => ?_)
    · have zc_2 : 2 < x1.toInt := zgt c_2
      refine lv_iconst (v := 0) hx hb dX12_in_14 (by decide) ?_
      have B := bd_sub (ws' := []) [] (by decide) rfl B
      exact x_zret B hr (by decide) (Or.inr (⟨by omega, rfl, rfl⟩)) (Nat.le_of_ble_eq_true rfl) (Nat.le_of_ble_eq_true rfl) dX12_in_15
    · have zc_2 : x1.toInt ≤ 2 := zngt c_2
      refine lv_iconst (v := 1) hx hb dX12_in_10 (by decide) ?_
      refine lv_goto (tgt := 15) hx hb dX12_in_11 (by decide) ?_
      have B := bd_sub (ws' := []) [] (by decide) rfl B
      exact x_zret B hr (by decide) (Or.inl (⟨by omega, rfl, rfl⟩)) (Nat.le_of_ble_eq_true rfl) (Nat.le_of_ble_eq_true rfl) dX12_in_15

set_option maxHeartbeats 4000000 in
set_option maxRecDepth 100000 in
theorem m_in_0_60 (l : Launch) (dC : Nat → ClassId) (dI : Nat → Nat → Nat) (k : Nat → ClassId) (x1 : Int32) : Ct l dC dI k yX12_in (.code yX12_in cX12_in 3 (some .boolean)) ({ frames := 0, cells := 0, slots := 0, locals := 0 } : Room) [.int x1, .int 0, .int 60] [] (fun r w => ((0 ≤ x1.toInt ∧ x1.toInt ≤ 60) ∧ r = some (.int 1) ∧ w = []) ∨ (¬ (0 ≤ x1.toInt ∧ x1.toInt ≤ 60) ∧ r = some (.int 0) ∧ w = [])) := by
  refine ct_of (by decide) (Nat.le_of_ble_eq_true rfl) ?_
  intro p e s m args below meth c H locs B hr hnm ls hl
  have hx := B.1.1
  have hb := B.1.2.1
  have hl : lv_has ls 3 [(0, .int x1), (1, .int 0), (2, .int 60)] := hl
  refine lv_iload_n hx hb dX12_in_0 rfl (lv_at hl 0 rfl) ?_
  refine lv_iload_n hx hb dX12_in_1 rfl (lv_at hl 1 rfl) ?_
  refine lv_icmp_lt (tgt := 14) hx hb dX12_in_2 (by decide) (fun c_1 => ?_) (fun c_1 => ?_)
  · have zc_1 : x1.toInt < 0 := zlt c_1
    refine lv_iconst (v := 0) hx hb dX12_in_14 (by decide) ?_
    have B := bd_sub (ws' := []) [] (by decide) rfl B
    exact x_zret B hr (by decide) (Or.inr (⟨by omega, rfl, rfl⟩)) (Nat.le_of_ble_eq_true rfl) (Nat.le_of_ble_eq_true rfl) dX12_in_15
  · have zc_1 : 0 ≤ x1.toInt := znlt c_1
    refine lv_iload_n hx hb dX12_in_5 rfl (lv_at hl 0 rfl) ?_
    refine lv_iload_n hx hb dX12_in_6 rfl (lv_at hl 2 rfl) ?_
    refine lv_icmp_gt (tgt := 14) hx hb dX12_in_7 (by decide) (fun c_2 => ?_) (fun c_2 => ?_)
    · have zc_2 : 60 < x1.toInt := zgt c_2
      refine lv_iconst (v := 0) hx hb dX12_in_14 (by decide) ?_
      have B := bd_sub (ws' := []) [] (by decide) rfl B
      exact x_zret B hr (by decide) (Or.inr (⟨by omega, rfl, rfl⟩)) (Nat.le_of_ble_eq_true rfl) (Nat.le_of_ble_eq_true rfl) dX12_in_15
    · have zc_2 : x1.toInt ≤ 60 := zngt c_2
      refine lv_iconst (v := 1) hx hb dX12_in_10 (by decide) ?_
      refine lv_goto (tgt := 15) hx hb dX12_in_11 (by decide) ?_
      have B := bd_sub (ws' := []) [] (by decide) rfl B
      exact x_zret B hr (by decide) (Or.inl (⟨by omega, rfl, rfl⟩)) (Nat.le_of_ble_eq_true rfl) (Nat.le_of_ble_eq_true rfl) dX12_in_15

theorem dX12_cell_0 : decode cX12_cell 0 = .ok (.iload_n 2, 1) := by decide +kernel
theorem dX12_cell_1 : decode cX12_cell 1 = .ok (.iconst 0, 1) := by decide +kernel
theorem dX12_cell_2 : decode cX12_cell 2 = .ok (.iconst 3, 1) := by decide +kernel
theorem dX12_cell_3 : decode cX12_cell 3 = .ok (.invokestatic 229, 3) := by decide +kernel
theorem dX12_cell_6 : decode cX12_cell 6 = .ok (.ifCond .eq 52, 3) := by decide +kernel
theorem dX12_cell_9 : decode cX12_cell 9 = .ok (.iload_n 3, 1) := by decide +kernel
theorem dX12_cell_10 : decode cX12_cell 10 = .ok (.iconst 0, 1) := by decide +kernel
theorem dX12_cell_11 : decode cX12_cell 11 = .ok (.iconst 2, 1) := by decide +kernel
theorem dX12_cell_12 : decode cX12_cell 12 = .ok (.invokestatic 229, 3) := by decide +kernel
theorem dX12_cell_15 : decode cX12_cell 15 = .ok (.ifCond .eq 43, 3) := by decide +kernel
theorem dX12_cell_18 : decode cX12_cell 18 = .ok (.iload 4, 2) := by decide +kernel
theorem dX12_cell_20 : decode cX12_cell 20 = .ok (.iconst 1, 1) := by decide +kernel
theorem dX12_cell_21 : decode cX12_cell 21 = .ok (.iconst 3, 1) := by decide +kernel
theorem dX12_cell_22 : decode cX12_cell 22 = .ok (.iload_n 3, 1) := by decide +kernel
theorem dX12_cell_23 : decode cX12_cell 23 = .ok (.isub, 1) := by decide +kernel
theorem dX12_cell_24 : decode cX12_cell 24 = .ok (.invokestatic 229, 3) := by decide +kernel
theorem dX12_cell_27 : decode cX12_cell 27 = .ok (.ifCond .eq 31, 3) := by decide +kernel
theorem dX12_cell_30 : decode cX12_cell 30 = .ok (.iload 5, 2) := by decide +kernel
theorem dX12_cell_32 : decode cX12_cell 32 = .ok (.iconst 0, 1) := by decide +kernel
theorem dX12_cell_33 : decode cX12_cell 33 = .ok (.bipush 60, 2) := by decide +kernel
theorem dX12_cell_35 : decode cX12_cell 35 = .ok (.invokestatic 229, 3) := by decide +kernel
theorem dX12_cell_38 : decode cX12_cell 38 = .ok (.ifCond .eq 20, 3) := by decide +kernel
theorem dX12_cell_41 : decode cX12_cell 41 = .ok (.iload 6, 2) := by decide +kernel
theorem dX12_cell_43 : decode cX12_cell 43 = .ok (.iload 5, 2) := by decide +kernel
theorem dX12_cell_45 : decode cX12_cell 45 = .ok (.sipush 200, 3) := by decide +kernel
theorem dX12_cell_48 : decode cX12_cell 48 = .ok (.invokestatic 229, 3) := by decide +kernel
theorem dX12_cell_51 : decode cX12_cell 51 = .ok (.ifCond .eq 7, 3) := by decide +kernel
theorem dX12_cell_54 : decode cX12_cell 54 = .ok (.iconst 1, 1) := by decide +kernel
theorem dX12_cell_55 : decode cX12_cell 55 = .ok (.goto 4, 3) := by decide +kernel
theorem dX12_cell_58 : decode cX12_cell 58 = .ok (.iconst 0, 1) := by decide +kernel
theorem dX12_cell_59 : decode cX12_cell 59 = .ok (.istore 7, 2) := by decide +kernel
theorem dX12_cell_61 : decode cX12_cell 61 = .ok (.aload_n 0, 1) := by decide +kernel
theorem dX12_cell_62 : decode cX12_cell 62 = .ok (.iload_n 1, 1) := by decide +kernel
theorem dX12_cell_63 : decode cX12_cell 63 = .ok (.invokevirtual 233, 3) := by decide +kernel
theorem dX12_cell_66 : decode cX12_cell 66 = .ok (.ifCond .eq 22, 3) := by decide +kernel
theorem dX12_cell_88 : decode cX12_cell 88 = .ok (.iconst 0, 1) := by decide +kernel
theorem dX12_cell_89 : decode cX12_cell 89 = .ok (.istore 8, 2) := by decide +kernel
theorem dX12_cell_91 : decode cX12_cell 91 = .ok (.aload_n 0, 1) := by decide +kernel
theorem dX12_cell_92 : decode cX12_cell 92 = .ok (.aload_n 0, 1) := by decide +kernel
theorem dX12_cell_93 : decode cX12_cell 93 = .ok (.iload_n 1, 1) := by decide +kernel
theorem dX12_cell_94 : decode cX12_cell 94 = .ok (.invokevirtual 233, 3) := by decide +kernel
theorem dX12_cell_97 : decode cX12_cell 97 = .ok (.ifCond .ne 7, 3) := by decide +kernel
theorem dX12_cell_100 : decode cX12_cell 100 = .ok (.iconst 1, 1) := by decide +kernel
theorem dX12_cell_101 : decode cX12_cell 101 = .ok (.goto 22, 3) := by decide +kernel
theorem dX12_cell_123 : decode cX12_cell 123 = .ok (.invokevirtual 240, 3) := by decide +kernel
theorem dX12_cell_126 : decode cX12_cell 126 = .ok (.ifCond .eq 5, 3) := by decide +kernel
theorem dX12_cell_129 : decode cX12_cell 129 = .ok (.iconst 0, 1) := by decide +kernel
theorem dX12_cell_130 : decode cX12_cell 130 = .ok (.ireturn, 1) := by decide +kernel
set_option maxHeartbeats 4000000 in
set_option maxRecDepth 100000 in
theorem m_cell (l : Launch) (dC : Nat → ClassId) (dI : Nat → Nat → Nat) (k : Nat → ClassId) (mo : Nat) (V : Nat → Value) (x1 : Int32) (x2 : Int32) (x3 : Int32) (x4 : Int32) (x5 : Int32) (x6 : Int32) (h9 : V 9 = .int 0) : Ct l dC dI k yX12_cell (.code yX12_cell cX12_cell 10 (some .int)) ({ frames := 2, cells := 0, slots := 0, locals := 43 } : Room) [.ref mo, .int x1, .int x2, .int x3, .int x4, .int x5, .int x6] [(mo, .inr (10, fvM V))] (fun r w => (∃ (V1 : Nat → Value), V1 0 = .int 1 ∧ r = some (.int 0) ∧ w = [(mo, .inr (10, fvM V1))])) := by
  refine ct_of (by decide) (Nat.le_of_ble_eq_true rfl) ?_
  intro p e s m args below meth c H locs B hr hnm ls hl
  have hx := B.1.1
  have hb := B.1.2.1
  have hl : lv_has ls 10 [(0, .ref mo), (1, .int x1), (2, .int x2), (3, .int x3), (4, .int x4), (5, .int x5), (6, .int x6)] := hl
  refine lv_iload_n hx hb dX12_cell_0 rfl (lv_at hl 2 rfl) ?_
  refine lv_iconst (v := 0) hx hb dX12_cell_1 (by decide) ?_
  refine lv_iconst (v := 3) hx hb dX12_cell_2 (by decide) ?_
  refine x_callS (rest := []) (wr := [(mo, .inr (10, fvM V))]) (m_in_0_3 l dC dI k x2) B mS_X12_in mw_2152 hl [] [0] rfl rfl ⟨by decide, by decide⟩ (by decide) ⟨Nat.le_of_ble_eq_true rfl, Nat.le_of_ble_eq_true rfl⟩ (Nat.le_of_ble_eq_true rfl) rfl dX12_cell_3 ⟨Nat.le_of_ble_eq_true rfl, Nat.le_of_ble_eq_true rfl⟩ (fun r w H locs hp B => ?_)
  rcases hp with ⟨z_1, rfl, rfl⟩ | ⟨z_2, rfl, rfl⟩
  · skip
    have B := bd_to (ws' := [(mo, .inr (10, fvM V))]) rfl B
    refine lv_if_eq (tgt := 58) hx hb dX12_cell_6 (by decide) (fun c9 => absurd c9 (by decide)) (fun _ => ?_)
    refine lv_iload_n hx hb dX12_cell_9 rfl (lv_at hl 3 rfl) ?_
    refine lv_iconst (v := 0) hx hb dX12_cell_10 (by decide) ?_
    refine lv_iconst (v := 2) hx hb dX12_cell_11 (by decide) ?_
    refine x_callS (rest := []) (wr := [(mo, .inr (10, fvM V))]) (m_in_0_2 l dC dI k x3) B mS_X12_in mw_2152 hl [] [0] rfl rfl ⟨by decide, by decide⟩ (by decide) ⟨Nat.le_of_ble_eq_true rfl, Nat.le_of_ble_eq_true rfl⟩ (Nat.le_of_ble_eq_true rfl) rfl dX12_cell_12 ⟨Nat.le_of_ble_eq_true rfl, Nat.le_of_ble_eq_true rfl⟩ (fun r w H locs hp B => ?_)
    rcases hp with ⟨z_3, rfl, rfl⟩ | ⟨z_4, rfl, rfl⟩
    · skip
      have B := bd_to (ws' := [(mo, .inr (10, fvM V))]) rfl B
      refine lv_if_eq (tgt := 58) hx hb dX12_cell_15 (by decide) (fun c9 => absurd c9 (by decide)) (fun _ => ?_)
      refine lv_iload hx hb dX12_cell_18 (lv_at hl 4 rfl) ?_
      refine lv_iconst (v := 1) hx hb dX12_cell_20 (by decide) ?_
      refine lv_iconst (v := 3) hx hb dX12_cell_21 (by decide) ?_
      refine lv_iload_n hx hb dX12_cell_22 rfl (lv_at hl 3 rfl) ?_
      refine lv_isub hx hb dX12_cell_23 ?_
      refine lv_topi (fun x_5 ex_5 => ?_)
      have zx_5 : x_5.toInt = 3 - x3.toInt := by rw [ex_5]; exact zsub rfl rfl (by omega) (by omega)
      refine x_callS (rest := []) (wr := [(mo, .inr (10, fvM V))]) (m_in l dC dI k x4 1 x_5) B mS_X12_in mw_2152 hl [] [0] rfl rfl ⟨by decide, by decide⟩ (by decide) ⟨Nat.le_of_ble_eq_true rfl, Nat.le_of_ble_eq_true rfl⟩ (Nat.le_of_ble_eq_true rfl) rfl dX12_cell_24 ⟨Nat.le_of_ble_eq_true rfl, Nat.le_of_ble_eq_true rfl⟩ (fun r w H locs hp B => ?_)
      rcases hp with ⟨rfl, rfl⟩ | ⟨rfl, rfl⟩
      · skip
        have B := bd_to (ws' := [(mo, .inr (10, fvM V))]) rfl B
        refine lv_if_eq (tgt := 58) hx hb dX12_cell_27 (by decide) (fun c9 => absurd c9 (by decide)) (fun _ => ?_)
        refine lv_iload hx hb dX12_cell_30 (lv_at hl 5 rfl) ?_
        refine lv_iconst (v := 0) hx hb dX12_cell_32 (by decide) ?_
        refine lv_bipush (v := 60) hx hb dX12_cell_33 (by decide) ?_
        refine x_callS (rest := []) (wr := [(mo, .inr (10, fvM V))]) (m_in_0_60 l dC dI k x5) B mS_X12_in mw_2152 hl [] [0] rfl rfl ⟨by decide, by decide⟩ (by decide) ⟨Nat.le_of_ble_eq_true rfl, Nat.le_of_ble_eq_true rfl⟩ (Nat.le_of_ble_eq_true rfl) rfl dX12_cell_35 ⟨Nat.le_of_ble_eq_true rfl, Nat.le_of_ble_eq_true rfl⟩ (fun r w H locs hp B => ?_)
        rcases hp with ⟨z_6, rfl, rfl⟩ | ⟨z_7, rfl, rfl⟩
        · skip
          have B := bd_to (ws' := [(mo, .inr (10, fvM V))]) rfl B
          refine lv_if_eq (tgt := 58) hx hb dX12_cell_38 (by decide) (fun c9 => absurd c9 (by decide)) (fun _ => ?_)
          refine lv_iload hx hb dX12_cell_41 (lv_at hl 6 rfl) ?_
          refine lv_iload hx hb dX12_cell_43 (lv_at hl 5 rfl) ?_
          refine lv_sipush (v := 200) hx hb dX12_cell_45 (by decide) ?_
          refine x_callS (rest := []) (wr := [(mo, .inr (10, fvM V))]) (m_in l dC dI k x6 x5 200) B mS_X12_in mw_2152 hl [] [0] rfl rfl ⟨by decide, by decide⟩ (by decide) ⟨Nat.le_of_ble_eq_true rfl, Nat.le_of_ble_eq_true rfl⟩ (Nat.le_of_ble_eq_true rfl) rfl dX12_cell_48 ⟨Nat.le_of_ble_eq_true rfl, Nat.le_of_ble_eq_true rfl⟩ (fun r w H locs hp B => ?_)
          rcases hp with ⟨rfl, rfl⟩ | ⟨rfl, rfl⟩
          · skip
            have B := bd_to (ws' := [(mo, .inr (10, fvM V))]) rfl B
            refine lv_if_eq (tgt := 58) hx hb dX12_cell_51 (by decide) (fun c9 => absurd c9 (by decide)) (fun _ => ?_)
            refine lv_iconst (v := 1) hx hb dX12_cell_54 (by decide) ?_
            refine lv_goto (tgt := 59) hx hb dX12_cell_55 (by decide) ?_
            refine lv_istore (lv' := [(7, .int 1), (0, .ref mo), (1, .int x1), (2, .int x2), (3, .int x3), (4, .int x4), (5, .int x5), (6, .int x6)]) hx hb dX12_cell_59 hl (by decide) rfl (fun ls hl => ?_)
            refine lv_aload_n hx hb dX12_cell_61 rfl (lv_at hl 1 rfl) ?_
            refine lv_iload_n hx hb dX12_cell_62 rfl (lv_at hl 2 rfl) ?_
            refine x_callV (rest := []) (wr := []) (m_isBlock l dC dI k mo V x1 h9) B mV_X12_isBlock mw_2183 hl [0] [] rfl rfl ⟨by decide, by decide⟩ (by decide) (q0 := 0) rfl rfl rfl ⟨Nat.le_of_ble_eq_true rfl, Nat.le_of_ble_eq_true rfl⟩ (Nat.le_of_ble_eq_true rfl) rfl dX12_cell_63 ⟨Nat.le_of_ble_eq_true rfl, Nat.le_of_ble_eq_true rfl⟩ (fun r w H locs hp B => ?_)
            obtain ⟨rfl, rfl⟩ := hp
            have B := bd_to (ws' := [(mo, .inr (10, fvM V))]) rfl B
            refine lv_if_eq (tgt := 88) hx hb dX12_cell_66 (by decide) (fun _ => ?_) (fun c9 => absurd (by decide) c9)
            refine lv_iconst (v := 0) hx hb dX12_cell_88 (by decide) ?_
            refine lv_istore (lv' := [(8, .int 0), (7, .int 1), (0, .ref mo), (1, .int x1), (2, .int x2), (3, .int x3), (4, .int x4), (5, .int x5), (6, .int x6)]) hx hb dX12_cell_89 hl (by decide) rfl (fun ls hl => ?_)
            refine lv_aload_n hx hb dX12_cell_91 rfl (lv_at hl 2 rfl) ?_
            refine lv_aload_n hx hb dX12_cell_92 rfl (lv_at hl 2 rfl) ?_
            refine lv_iload_n hx hb dX12_cell_93 rfl (lv_at hl 3 rfl) ?_
            refine x_callV (rest := [.ref mo]) (wr := []) (m_isBlock l dC dI k mo V x1 h9) B mV_X12_isBlock mw_2183 hl [0] [] rfl rfl ⟨by decide, by decide⟩ (by decide) (q0 := 0) rfl rfl rfl ⟨Nat.le_of_ble_eq_true rfl, Nat.le_of_ble_eq_true rfl⟩ (Nat.le_of_ble_eq_true rfl) rfl dX12_cell_94 ⟨Nat.le_of_ble_eq_true rfl, Nat.le_of_ble_eq_true rfl⟩ (fun r w H locs hp B => ?_)
            obtain ⟨rfl, rfl⟩ := hp
            have B := bd_to (ws' := [(mo, .inr (10, fvM V))]) rfl B
            refine lv_if_ne (tgt := 104) hx hb dX12_cell_97 (by decide) (fun c9 => absurd c9 (by decide)) (fun _ => ?_)
            refine lv_iconst (v := 1) hx hb dX12_cell_100 (by decide) ?_
            refine lv_goto (tgt := 123) hx hb dX12_cell_101 (by decide) ?_
            refine x_callV (rest := []) (wr := []) (m_refused1 l dC dI k mo V) B mV_X12_refused mw_2155 hl [0] [] rfl rfl ⟨by decide, by decide⟩ (by decide) (q0 := 0) rfl rfl rfl ⟨Nat.le_of_ble_eq_true rfl, Nat.le_of_ble_eq_true rfl⟩ (Nat.le_of_ble_eq_true rfl) rfl dX12_cell_123 ⟨Nat.le_of_ble_eq_true rfl, Nat.le_of_ble_eq_true rfl⟩ (fun r w H locs hp B => ?_)
            obtain ⟨V1_8, z_9, z_10, rfl, rfl⟩ := hp
            have B := bd_to (ws' := [(mo, .inr (10, fvM V1_8))]) rfl B
            refine lv_if_eq (tgt := 131) hx hb dX12_cell_126 (by decide) (fun c9 => absurd c9 (by decide)) (fun _ => ?_)
            refine lv_iconst (v := 0) hx hb dX12_cell_129 (by decide) ?_
            have B := bd_sub (ws' := [(mo, .inr (10, fvM V1_8))]) [0] (by decide) rfl B
            exact x_iret B hr (⟨V1_8, z_10, rfl, rfl⟩) (Nat.le_of_ble_eq_true rfl) (Nat.le_of_ble_eq_true rfl) dX12_cell_130
          · skip
            have B := bd_to (ws' := [(mo, .inr (10, fvM V))]) rfl B
            refine lv_if_eq (tgt := 58) hx hb dX12_cell_51 (by decide) (fun _ => ?_) (fun c9 => absurd (by decide) c9)
            refine lv_iconst (v := 0) hx hb dX12_cell_58 (by decide) ?_
            refine lv_istore (lv' := [(7, .int 0), (0, .ref mo), (1, .int x1), (2, .int x2), (3, .int x3), (4, .int x4), (5, .int x5), (6, .int x6)]) hx hb dX12_cell_59 hl (by decide) rfl (fun ls hl => ?_)
            refine lv_aload_n hx hb dX12_cell_61 rfl (lv_at hl 1 rfl) ?_
            refine lv_iload_n hx hb dX12_cell_62 rfl (lv_at hl 2 rfl) ?_
            refine x_callV (rest := []) (wr := []) (m_isBlock l dC dI k mo V x1 h9) B mV_X12_isBlock mw_2183 hl [0] [] rfl rfl ⟨by decide, by decide⟩ (by decide) (q0 := 0) rfl rfl rfl ⟨Nat.le_of_ble_eq_true rfl, Nat.le_of_ble_eq_true rfl⟩ (Nat.le_of_ble_eq_true rfl) rfl dX12_cell_63 ⟨Nat.le_of_ble_eq_true rfl, Nat.le_of_ble_eq_true rfl⟩ (fun r w H locs hp B => ?_)
            obtain ⟨rfl, rfl⟩ := hp
            have B := bd_to (ws' := [(mo, .inr (10, fvM V))]) rfl B
            refine lv_if_eq (tgt := 88) hx hb dX12_cell_66 (by decide) (fun _ => ?_) (fun c9 => absurd (by decide) c9)
            refine lv_iconst (v := 0) hx hb dX12_cell_88 (by decide) ?_
            refine lv_istore (lv' := [(8, .int 0), (7, .int 0), (0, .ref mo), (1, .int x1), (2, .int x2), (3, .int x3), (4, .int x4), (5, .int x5), (6, .int x6)]) hx hb dX12_cell_89 hl (by decide) rfl (fun ls hl => ?_)
            refine lv_aload_n hx hb dX12_cell_91 rfl (lv_at hl 2 rfl) ?_
            refine lv_aload_n hx hb dX12_cell_92 rfl (lv_at hl 2 rfl) ?_
            refine lv_iload_n hx hb dX12_cell_93 rfl (lv_at hl 3 rfl) ?_
            refine x_callV (rest := [.ref mo]) (wr := []) (m_isBlock l dC dI k mo V x1 h9) B mV_X12_isBlock mw_2183 hl [0] [] rfl rfl ⟨by decide, by decide⟩ (by decide) (q0 := 0) rfl rfl rfl ⟨Nat.le_of_ble_eq_true rfl, Nat.le_of_ble_eq_true rfl⟩ (Nat.le_of_ble_eq_true rfl) rfl dX12_cell_94 ⟨Nat.le_of_ble_eq_true rfl, Nat.le_of_ble_eq_true rfl⟩ (fun r w H locs hp B => ?_)
            obtain ⟨rfl, rfl⟩ := hp
            have B := bd_to (ws' := [(mo, .inr (10, fvM V))]) rfl B
            refine lv_if_ne (tgt := 104) hx hb dX12_cell_97 (by decide) (fun c9 => absurd c9 (by decide)) (fun _ => ?_)
            refine lv_iconst (v := 1) hx hb dX12_cell_100 (by decide) ?_
            refine lv_goto (tgt := 123) hx hb dX12_cell_101 (by decide) ?_
            refine x_callV (rest := []) (wr := []) (m_refused1 l dC dI k mo V) B mV_X12_refused mw_2155 hl [0] [] rfl rfl ⟨by decide, by decide⟩ (by decide) (q0 := 0) rfl rfl rfl ⟨Nat.le_of_ble_eq_true rfl, Nat.le_of_ble_eq_true rfl⟩ (Nat.le_of_ble_eq_true rfl) rfl dX12_cell_123 ⟨Nat.le_of_ble_eq_true rfl, Nat.le_of_ble_eq_true rfl⟩ (fun r w H locs hp B => ?_)
            obtain ⟨V1_11, z_12, z_13, rfl, rfl⟩ := hp
            have B := bd_to (ws' := [(mo, .inr (10, fvM V1_11))]) rfl B
            refine lv_if_eq (tgt := 131) hx hb dX12_cell_126 (by decide) (fun c9 => absurd c9 (by decide)) (fun _ => ?_)
            refine lv_iconst (v := 0) hx hb dX12_cell_129 (by decide) ?_
            have B := bd_sub (ws' := [(mo, .inr (10, fvM V1_11))]) [0] (by decide) rfl B
            exact x_iret B hr (⟨V1_11, z_13, rfl, rfl⟩) (Nat.le_of_ble_eq_true rfl) (Nat.le_of_ble_eq_true rfl) dX12_cell_130
        · skip
          have B := bd_to (ws' := [(mo, .inr (10, fvM V))]) rfl B
          refine lv_if_eq (tgt := 58) hx hb dX12_cell_38 (by decide) (fun _ => ?_) (fun c9 => absurd (by decide) c9)
          refine lv_iconst (v := 0) hx hb dX12_cell_58 (by decide) ?_
          refine lv_istore (lv' := [(7, .int 0), (0, .ref mo), (1, .int x1), (2, .int x2), (3, .int x3), (4, .int x4), (5, .int x5), (6, .int x6)]) hx hb dX12_cell_59 hl (by decide) rfl (fun ls hl => ?_)
          refine lv_aload_n hx hb dX12_cell_61 rfl (lv_at hl 1 rfl) ?_
          refine lv_iload_n hx hb dX12_cell_62 rfl (lv_at hl 2 rfl) ?_
          refine x_callV (rest := []) (wr := []) (m_isBlock l dC dI k mo V x1 h9) B mV_X12_isBlock mw_2183 hl [0] [] rfl rfl ⟨by decide, by decide⟩ (by decide) (q0 := 0) rfl rfl rfl ⟨Nat.le_of_ble_eq_true rfl, Nat.le_of_ble_eq_true rfl⟩ (Nat.le_of_ble_eq_true rfl) rfl dX12_cell_63 ⟨Nat.le_of_ble_eq_true rfl, Nat.le_of_ble_eq_true rfl⟩ (fun r w H locs hp B => ?_)
          obtain ⟨rfl, rfl⟩ := hp
          have B := bd_to (ws' := [(mo, .inr (10, fvM V))]) rfl B
          refine lv_if_eq (tgt := 88) hx hb dX12_cell_66 (by decide) (fun _ => ?_) (fun c9 => absurd (by decide) c9)
          refine lv_iconst (v := 0) hx hb dX12_cell_88 (by decide) ?_
          refine lv_istore (lv' := [(8, .int 0), (7, .int 0), (0, .ref mo), (1, .int x1), (2, .int x2), (3, .int x3), (4, .int x4), (5, .int x5), (6, .int x6)]) hx hb dX12_cell_89 hl (by decide) rfl (fun ls hl => ?_)
          refine lv_aload_n hx hb dX12_cell_91 rfl (lv_at hl 2 rfl) ?_
          refine lv_aload_n hx hb dX12_cell_92 rfl (lv_at hl 2 rfl) ?_
          refine lv_iload_n hx hb dX12_cell_93 rfl (lv_at hl 3 rfl) ?_
          refine x_callV (rest := [.ref mo]) (wr := []) (m_isBlock l dC dI k mo V x1 h9) B mV_X12_isBlock mw_2183 hl [0] [] rfl rfl ⟨by decide, by decide⟩ (by decide) (q0 := 0) rfl rfl rfl ⟨Nat.le_of_ble_eq_true rfl, Nat.le_of_ble_eq_true rfl⟩ (Nat.le_of_ble_eq_true rfl) rfl dX12_cell_94 ⟨Nat.le_of_ble_eq_true rfl, Nat.le_of_ble_eq_true rfl⟩ (fun r w H locs hp B => ?_)
          obtain ⟨rfl, rfl⟩ := hp
          have B := bd_to (ws' := [(mo, .inr (10, fvM V))]) rfl B
          refine lv_if_ne (tgt := 104) hx hb dX12_cell_97 (by decide) (fun c9 => absurd c9 (by decide)) (fun _ => ?_)
          refine lv_iconst (v := 1) hx hb dX12_cell_100 (by decide) ?_
          refine lv_goto (tgt := 123) hx hb dX12_cell_101 (by decide) ?_
          refine x_callV (rest := []) (wr := []) (m_refused1 l dC dI k mo V) B mV_X12_refused mw_2155 hl [0] [] rfl rfl ⟨by decide, by decide⟩ (by decide) (q0 := 0) rfl rfl rfl ⟨Nat.le_of_ble_eq_true rfl, Nat.le_of_ble_eq_true rfl⟩ (Nat.le_of_ble_eq_true rfl) rfl dX12_cell_123 ⟨Nat.le_of_ble_eq_true rfl, Nat.le_of_ble_eq_true rfl⟩ (fun r w H locs hp B => ?_)
          obtain ⟨V1_14, z_15, z_16, rfl, rfl⟩ := hp
          have B := bd_to (ws' := [(mo, .inr (10, fvM V1_14))]) rfl B
          refine lv_if_eq (tgt := 131) hx hb dX12_cell_126 (by decide) (fun c9 => absurd c9 (by decide)) (fun _ => ?_)
          refine lv_iconst (v := 0) hx hb dX12_cell_129 (by decide) ?_
          have B := bd_sub (ws' := [(mo, .inr (10, fvM V1_14))]) [0] (by decide) rfl B
          exact x_iret B hr (⟨V1_14, z_16, rfl, rfl⟩) (Nat.le_of_ble_eq_true rfl) (Nat.le_of_ble_eq_true rfl) dX12_cell_130
      · skip
        have B := bd_to (ws' := [(mo, .inr (10, fvM V))]) rfl B
        refine lv_if_eq (tgt := 58) hx hb dX12_cell_27 (by decide) (fun _ => ?_) (fun c9 => absurd (by decide) c9)
        refine lv_iconst (v := 0) hx hb dX12_cell_58 (by decide) ?_
        refine lv_istore (lv' := [(7, .int 0), (0, .ref mo), (1, .int x1), (2, .int x2), (3, .int x3), (4, .int x4), (5, .int x5), (6, .int x6)]) hx hb dX12_cell_59 hl (by decide) rfl (fun ls hl => ?_)
        refine lv_aload_n hx hb dX12_cell_61 rfl (lv_at hl 1 rfl) ?_
        refine lv_iload_n hx hb dX12_cell_62 rfl (lv_at hl 2 rfl) ?_
        refine x_callV (rest := []) (wr := []) (m_isBlock l dC dI k mo V x1 h9) B mV_X12_isBlock mw_2183 hl [0] [] rfl rfl ⟨by decide, by decide⟩ (by decide) (q0 := 0) rfl rfl rfl ⟨Nat.le_of_ble_eq_true rfl, Nat.le_of_ble_eq_true rfl⟩ (Nat.le_of_ble_eq_true rfl) rfl dX12_cell_63 ⟨Nat.le_of_ble_eq_true rfl, Nat.le_of_ble_eq_true rfl⟩ (fun r w H locs hp B => ?_)
        obtain ⟨rfl, rfl⟩ := hp
        have B := bd_to (ws' := [(mo, .inr (10, fvM V))]) rfl B
        refine lv_if_eq (tgt := 88) hx hb dX12_cell_66 (by decide) (fun _ => ?_) (fun c9 => absurd (by decide) c9)
        refine lv_iconst (v := 0) hx hb dX12_cell_88 (by decide) ?_
        refine lv_istore (lv' := [(8, .int 0), (7, .int 0), (0, .ref mo), (1, .int x1), (2, .int x2), (3, .int x3), (4, .int x4), (5, .int x5), (6, .int x6)]) hx hb dX12_cell_89 hl (by decide) rfl (fun ls hl => ?_)
        refine lv_aload_n hx hb dX12_cell_91 rfl (lv_at hl 2 rfl) ?_
        refine lv_aload_n hx hb dX12_cell_92 rfl (lv_at hl 2 rfl) ?_
        refine lv_iload_n hx hb dX12_cell_93 rfl (lv_at hl 3 rfl) ?_
        refine x_callV (rest := [.ref mo]) (wr := []) (m_isBlock l dC dI k mo V x1 h9) B mV_X12_isBlock mw_2183 hl [0] [] rfl rfl ⟨by decide, by decide⟩ (by decide) (q0 := 0) rfl rfl rfl ⟨Nat.le_of_ble_eq_true rfl, Nat.le_of_ble_eq_true rfl⟩ (Nat.le_of_ble_eq_true rfl) rfl dX12_cell_94 ⟨Nat.le_of_ble_eq_true rfl, Nat.le_of_ble_eq_true rfl⟩ (fun r w H locs hp B => ?_)
        obtain ⟨rfl, rfl⟩ := hp
        have B := bd_to (ws' := [(mo, .inr (10, fvM V))]) rfl B
        refine lv_if_ne (tgt := 104) hx hb dX12_cell_97 (by decide) (fun c9 => absurd c9 (by decide)) (fun _ => ?_)
        refine lv_iconst (v := 1) hx hb dX12_cell_100 (by decide) ?_
        refine lv_goto (tgt := 123) hx hb dX12_cell_101 (by decide) ?_
        refine x_callV (rest := []) (wr := []) (m_refused1 l dC dI k mo V) B mV_X12_refused mw_2155 hl [0] [] rfl rfl ⟨by decide, by decide⟩ (by decide) (q0 := 0) rfl rfl rfl ⟨Nat.le_of_ble_eq_true rfl, Nat.le_of_ble_eq_true rfl⟩ (Nat.le_of_ble_eq_true rfl) rfl dX12_cell_123 ⟨Nat.le_of_ble_eq_true rfl, Nat.le_of_ble_eq_true rfl⟩ (fun r w H locs hp B => ?_)
        obtain ⟨V1_17, z_18, z_19, rfl, rfl⟩ := hp
        have B := bd_to (ws' := [(mo, .inr (10, fvM V1_17))]) rfl B
        refine lv_if_eq (tgt := 131) hx hb dX12_cell_126 (by decide) (fun c9 => absurd c9 (by decide)) (fun _ => ?_)
        refine lv_iconst (v := 0) hx hb dX12_cell_129 (by decide) ?_
        have B := bd_sub (ws' := [(mo, .inr (10, fvM V1_17))]) [0] (by decide) rfl B
        exact x_iret B hr (⟨V1_17, z_19, rfl, rfl⟩) (Nat.le_of_ble_eq_true rfl) (Nat.le_of_ble_eq_true rfl) dX12_cell_130
    · skip
      have B := bd_to (ws' := [(mo, .inr (10, fvM V))]) rfl B
      refine lv_if_eq (tgt := 58) hx hb dX12_cell_15 (by decide) (fun _ => ?_) (fun c9 => absurd (by decide) c9)
      refine lv_iconst (v := 0) hx hb dX12_cell_58 (by decide) ?_
      refine lv_istore (lv' := [(7, .int 0), (0, .ref mo), (1, .int x1), (2, .int x2), (3, .int x3), (4, .int x4), (5, .int x5), (6, .int x6)]) hx hb dX12_cell_59 hl (by decide) rfl (fun ls hl => ?_)
      refine lv_aload_n hx hb dX12_cell_61 rfl (lv_at hl 1 rfl) ?_
      refine lv_iload_n hx hb dX12_cell_62 rfl (lv_at hl 2 rfl) ?_
      refine x_callV (rest := []) (wr := []) (m_isBlock l dC dI k mo V x1 h9) B mV_X12_isBlock mw_2183 hl [0] [] rfl rfl ⟨by decide, by decide⟩ (by decide) (q0 := 0) rfl rfl rfl ⟨Nat.le_of_ble_eq_true rfl, Nat.le_of_ble_eq_true rfl⟩ (Nat.le_of_ble_eq_true rfl) rfl dX12_cell_63 ⟨Nat.le_of_ble_eq_true rfl, Nat.le_of_ble_eq_true rfl⟩ (fun r w H locs hp B => ?_)
      obtain ⟨rfl, rfl⟩ := hp
      have B := bd_to (ws' := [(mo, .inr (10, fvM V))]) rfl B
      refine lv_if_eq (tgt := 88) hx hb dX12_cell_66 (by decide) (fun _ => ?_) (fun c9 => absurd (by decide) c9)
      refine lv_iconst (v := 0) hx hb dX12_cell_88 (by decide) ?_
      refine lv_istore (lv' := [(8, .int 0), (7, .int 0), (0, .ref mo), (1, .int x1), (2, .int x2), (3, .int x3), (4, .int x4), (5, .int x5), (6, .int x6)]) hx hb dX12_cell_89 hl (by decide) rfl (fun ls hl => ?_)
      refine lv_aload_n hx hb dX12_cell_91 rfl (lv_at hl 2 rfl) ?_
      refine lv_aload_n hx hb dX12_cell_92 rfl (lv_at hl 2 rfl) ?_
      refine lv_iload_n hx hb dX12_cell_93 rfl (lv_at hl 3 rfl) ?_
      refine x_callV (rest := [.ref mo]) (wr := []) (m_isBlock l dC dI k mo V x1 h9) B mV_X12_isBlock mw_2183 hl [0] [] rfl rfl ⟨by decide, by decide⟩ (by decide) (q0 := 0) rfl rfl rfl ⟨Nat.le_of_ble_eq_true rfl, Nat.le_of_ble_eq_true rfl⟩ (Nat.le_of_ble_eq_true rfl) rfl dX12_cell_94 ⟨Nat.le_of_ble_eq_true rfl, Nat.le_of_ble_eq_true rfl⟩ (fun r w H locs hp B => ?_)
      obtain ⟨rfl, rfl⟩ := hp
      have B := bd_to (ws' := [(mo, .inr (10, fvM V))]) rfl B
      refine lv_if_ne (tgt := 104) hx hb dX12_cell_97 (by decide) (fun c9 => absurd c9 (by decide)) (fun _ => ?_)
      refine lv_iconst (v := 1) hx hb dX12_cell_100 (by decide) ?_
      refine lv_goto (tgt := 123) hx hb dX12_cell_101 (by decide) ?_
      refine x_callV (rest := []) (wr := []) (m_refused1 l dC dI k mo V) B mV_X12_refused mw_2155 hl [0] [] rfl rfl ⟨by decide, by decide⟩ (by decide) (q0 := 0) rfl rfl rfl ⟨Nat.le_of_ble_eq_true rfl, Nat.le_of_ble_eq_true rfl⟩ (Nat.le_of_ble_eq_true rfl) rfl dX12_cell_123 ⟨Nat.le_of_ble_eq_true rfl, Nat.le_of_ble_eq_true rfl⟩ (fun r w H locs hp B => ?_)
      obtain ⟨V1_20, z_21, z_22, rfl, rfl⟩ := hp
      have B := bd_to (ws' := [(mo, .inr (10, fvM V1_20))]) rfl B
      refine lv_if_eq (tgt := 131) hx hb dX12_cell_126 (by decide) (fun c9 => absurd c9 (by decide)) (fun _ => ?_)
      refine lv_iconst (v := 0) hx hb dX12_cell_129 (by decide) ?_
      have B := bd_sub (ws' := [(mo, .inr (10, fvM V1_20))]) [0] (by decide) rfl B
      exact x_iret B hr (⟨V1_20, z_22, rfl, rfl⟩) (Nat.le_of_ble_eq_true rfl) (Nat.le_of_ble_eq_true rfl) dX12_cell_130
  · skip
    have B := bd_to (ws' := [(mo, .inr (10, fvM V))]) rfl B
    refine lv_if_eq (tgt := 58) hx hb dX12_cell_6 (by decide) (fun _ => ?_) (fun c9 => absurd (by decide) c9)
    refine lv_iconst (v := 0) hx hb dX12_cell_58 (by decide) ?_
    refine lv_istore (lv' := [(7, .int 0), (0, .ref mo), (1, .int x1), (2, .int x2), (3, .int x3), (4, .int x4), (5, .int x5), (6, .int x6)]) hx hb dX12_cell_59 hl (by decide) rfl (fun ls hl => ?_)
    refine lv_aload_n hx hb dX12_cell_61 rfl (lv_at hl 1 rfl) ?_
    refine lv_iload_n hx hb dX12_cell_62 rfl (lv_at hl 2 rfl) ?_
    refine x_callV (rest := []) (wr := []) (m_isBlock l dC dI k mo V x1 h9) B mV_X12_isBlock mw_2183 hl [0] [] rfl rfl ⟨by decide, by decide⟩ (by decide) (q0 := 0) rfl rfl rfl ⟨Nat.le_of_ble_eq_true rfl, Nat.le_of_ble_eq_true rfl⟩ (Nat.le_of_ble_eq_true rfl) rfl dX12_cell_63 ⟨Nat.le_of_ble_eq_true rfl, Nat.le_of_ble_eq_true rfl⟩ (fun r w H locs hp B => ?_)
    obtain ⟨rfl, rfl⟩ := hp
    have B := bd_to (ws' := [(mo, .inr (10, fvM V))]) rfl B
    refine lv_if_eq (tgt := 88) hx hb dX12_cell_66 (by decide) (fun _ => ?_) (fun c9 => absurd (by decide) c9)
    refine lv_iconst (v := 0) hx hb dX12_cell_88 (by decide) ?_
    refine lv_istore (lv' := [(8, .int 0), (7, .int 0), (0, .ref mo), (1, .int x1), (2, .int x2), (3, .int x3), (4, .int x4), (5, .int x5), (6, .int x6)]) hx hb dX12_cell_89 hl (by decide) rfl (fun ls hl => ?_)
    refine lv_aload_n hx hb dX12_cell_91 rfl (lv_at hl 2 rfl) ?_
    refine lv_aload_n hx hb dX12_cell_92 rfl (lv_at hl 2 rfl) ?_
    refine lv_iload_n hx hb dX12_cell_93 rfl (lv_at hl 3 rfl) ?_
    refine x_callV (rest := [.ref mo]) (wr := []) (m_isBlock l dC dI k mo V x1 h9) B mV_X12_isBlock mw_2183 hl [0] [] rfl rfl ⟨by decide, by decide⟩ (by decide) (q0 := 0) rfl rfl rfl ⟨Nat.le_of_ble_eq_true rfl, Nat.le_of_ble_eq_true rfl⟩ (Nat.le_of_ble_eq_true rfl) rfl dX12_cell_94 ⟨Nat.le_of_ble_eq_true rfl, Nat.le_of_ble_eq_true rfl⟩ (fun r w H locs hp B => ?_)
    obtain ⟨rfl, rfl⟩ := hp
    have B := bd_to (ws' := [(mo, .inr (10, fvM V))]) rfl B
    refine lv_if_ne (tgt := 104) hx hb dX12_cell_97 (by decide) (fun c9 => absurd c9 (by decide)) (fun _ => ?_)
    refine lv_iconst (v := 1) hx hb dX12_cell_100 (by decide) ?_
    refine lv_goto (tgt := 123) hx hb dX12_cell_101 (by decide) ?_
    refine x_callV (rest := []) (wr := []) (m_refused1 l dC dI k mo V) B mV_X12_refused mw_2155 hl [0] [] rfl rfl ⟨by decide, by decide⟩ (by decide) (q0 := 0) rfl rfl rfl ⟨Nat.le_of_ble_eq_true rfl, Nat.le_of_ble_eq_true rfl⟩ (Nat.le_of_ble_eq_true rfl) rfl dX12_cell_123 ⟨Nat.le_of_ble_eq_true rfl, Nat.le_of_ble_eq_true rfl⟩ (fun r w H locs hp B => ?_)
    obtain ⟨V1_23, z_24, z_25, rfl, rfl⟩ := hp
    have B := bd_to (ws' := [(mo, .inr (10, fvM V1_23))]) rfl B
    refine lv_if_eq (tgt := 131) hx hb dX12_cell_126 (by decide) (fun c9 => absurd c9 (by decide)) (fun _ => ?_)
    refine lv_iconst (v := 0) hx hb dX12_cell_129 (by decide) ?_
    have B := bd_sub (ws' := [(mo, .inr (10, fvM V1_23))]) [0] (by decide) rfl B
    exact x_iret B hr (⟨V1_23, z_25, rfl, rfl⟩) (Nat.le_of_ble_eq_true rfl) (Nat.le_of_ble_eq_true rfl) dX12_cell_130

end
