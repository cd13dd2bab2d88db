section
theorem dX12_pages_0 : decode cX12_pages 0 = .ok (.aload_n 0, 1) := by decide +kernel
theorem dX12_pages_1 : decode cX12_pages 1 = .ok (.iload_n 1, 1) := by decide +kernel
theorem dX12_pages_2 : decode cX12_pages 2 = .ok (.invokevirtual 519, 3) := by decide +kernel
theorem dX12_pages_5 : decode cX12_pages 5 = .ok (.ifCond .eq 7, 3) := by decide +kernel
theorem dX12_pages_8 : decode cX12_pages 8 = .ok (.iconst 0, 1) := by decide +kernel
theorem dX12_pages_9 : decode cX12_pages 9 = .ok (.goto 7, 3) := by decide +kernel
theorem dX12_pages_12 : decode cX12_pages 12 = .ok (.aload_n 0, 1) := by decide +kernel
theorem dX12_pages_13 : decode cX12_pages 13 = .ok (.getfield 457, 3) := by decide +kernel
theorem dX12_pages_16 : decode cX12_pages 16 = .ok (.ireturn, 1) := by decide +kernel
set_option maxHeartbeats 4000000 in
set_option maxRecDepth 100000 in
theorem m_pages (l : Launch) (dC : Nat → ClassId) (dI : Nat → Nat → Nat) (k : Nat → ClassId) (mo : Nat) (V : Nat → Value) (aDg : Nat) (aRn : Nat) (aSo : Nat) (aHi : Nat) (aNr : Nat) (aNw : Nat) (aNl : Nat) (aNc : Nat) (aNp : Nat) (aNq : Nat) (aNs : Nat) (aNn : Nat) (v : Int32) (h9 : V 9 = .int 0) (h21 : V 21 = .int 0) (h47 : V 47 = .ref aDg) (h77 : V 77 = .ref aRn) (h80 : V 80 = .int (-1)) (h90 : V 90 = .ref aSo) (h92 : V 92 = .ref aHi) (h69 : V 69 = .ref aNr) (h70 : V 70 = .ref aNw) (h71 : V 71 = .ref aNl) (h72 : V 72 = .ref aNc) (h73 : V 73 = .ref aNp) (h74 : V 74 = .ref aNq) (h75 : V 75 = .ref aNs) (h76 : V 76 = .ref aNn) : Ct l dC dI k yX12_pages (.code yX12_pages cX12_pages 2 (some .int)) ({ frames := 6, cells := 0, slots := 0, locals := 146 } : Room) [.ref mo, .int v] [(mo, .inr (10, fvM V)), (aNr, .inl (k 0, 16000, .inl (fun _ => 0))), (aNw, .inl (k 0, 16000, .inl (fun _ => 0))), (aNl, .inl (k 0, 16000, .inl (fun _ => 0))), (aNc, .inl (k 0, 16000, .inl (fun _ => 0))), (aNp, .inl (k 0, 16000, .inl (fun _ => 0))), (aNq, .inl (k 0, 16000, .inl (fun _ => 0))), (aNs, .inl (k 0, 16000, .inl (fun _ => 0))), (aNn, .inl (k 0, 16000, .inl (fun _ => 0))), (aRn, .inl (k 0, 769, .inl (fun _ => 0))), (aSo, .inl (k 0, 5, .inl (fun _ => 0))), (aDg, .inl (k 0, 6, .inl (fun _ => 0))), (aHi, .inl (k 0, 800, .inl (fun _ => 0)))] (fun r w => (∃ (V1 : Nat → Value), (0 ≤ v.toInt ∧ v.toInt ≤ 1) ∧ V1 0 = .int 0 ∧ r = some (.int 0) ∧ w = [(mo, .inr (10, fvM V1))]) ∨ (∃ (V1 : Nat → Value), ¬ (0 ≤ v.toInt ∧ v.toInt ≤ 1) ∧ V1 0 = .int 1 ∧ r = some (.int 0) ∧ w = [(mo, .inr (10, fvM V1))])) := by
  refine ct_of (by decide) (Nat.le_of_ble_eq_true rfl) ?_
  intro p e s m args below meth c H locs B hr hnm ls hl
  have hx := B.1.1
  have hb := B.1.2.1
  have hl : lv_has ls 2 [(0, .ref mo), (1, .int v)] := hl
  refine lv_aload_n hx hb dX12_pages_0 rfl (lv_at hl 0 rfl) ?_
  refine lv_iload_n hx hb dX12_pages_1 rfl (lv_at hl 1 rfl) ?_
  refine x_callV (rest := []) (wr := []) (m_noVariant l dC dI k mo V aDg aRn aSo aHi aNr aNw aNl aNc aNp aNq aNs aNn v h9 h21 h47 h77 h80 h90 h92 h69 h70 h71 h72 h73 h74 h75 h76) B mV_X12_noVariant mw_2521 hl [0, 1, 2, 3, 4, 5, 6, 7, 8, 9, 10, 11, 12] [] rfl rfl ⟨by decide, by decide⟩ (by decide) (q0 := 0) rfl rfl rfl ⟨Nat.le_of_ble_eq_true rfl, Nat.le_of_ble_eq_true rfl⟩ (Nat.le_of_ble_eq_true rfl) rfl dX12_pages_2 ⟨Nat.le_of_ble_eq_true rfl, Nat.le_of_ble_eq_true rfl⟩ (fun r w H locs hp B => ?_)
  rcases hp with ⟨V1_1, z_2, z_3, z_4, z_5, z_6, z_7, z_8, rfl, rfl⟩ | ⟨V1_9, z_10, z_11, rfl, rfl⟩
  · skip
    have B := bd_to (ws' := [(mo, .inr (10, fvM V1_1))]) rfl B
    refine lv_if_eq (tgt := 12) hx hb dX12_pages_5 (by decide) (fun _ => ?_) (fun c9 => absurd (by decide) c9)
    refine lv_aload_n hx hb dX12_pages_12 rfl (lv_at hl 0 rfl) ?_
    refine x_get (ci := 10) (C := RX12) (T := TX12) (N := 93) (v := .int 0) B 0 rfl rfl in_X12 83 (by decide) mw_1947 (fun _ h9 => h9) (fvM_get (by decide) z_7) dX12_pages_13 ?_
    have B := bd_sub (ws' := [(mo, .inr (10, fvM V1_1))]) [0] (by decide) rfl B
    exact x_iret B hr (Or.inl (⟨V1_1, by omega, z_4, rfl, rfl⟩)) (Nat.le_of_ble_eq_true rfl) (Nat.le_of_ble_eq_true rfl) dX12_pages_16
  · skip
    have B := bd_to (ws' := [(mo, .inr (10, fvM V1_9))]) rfl B
    refine lv_if_eq (tgt := 12) hx hb dX12_pages_5 (by decide) (fun c9 => absurd c9 (by decide)) (fun _ => ?_)
    refine lv_iconst (v := 0) hx hb dX12_pages_8 (by decide) ?_
    refine lv_goto (tgt := 16) hx hb dX12_pages_9 (by decide) ?_
    have B := bd_sub (ws' := [(mo, .inr (10, fvM V1_9))]) [0] (by decide) rfl B
    exact x_iret B hr (Or.inr (⟨V1_9, by omega, z_11, rfl, rfl⟩)) (Nat.le_of_ble_eq_true rfl) (Nat.le_of_ble_eq_true rfl) dX12_pages_16

theorem dX12_cost_0 : decode cX12_cost 0 = .ok (.aload_n 0, 1) := by decide +kernel
theorem dX12_cost_1 : decode cX12_cost 1 = .ok (.iload_n 1, 1) := by decide +kernel
theorem dX12_cost_2 : decode cX12_cost 2 = .ok (.invokevirtual 519, 3) := by decide +kernel
theorem dX12_cost_5 : decode cX12_cost 5 = .ok (.ifCond .eq 7, 3) := by decide +kernel
theorem dX12_cost_8 : decode cX12_cost 8 = .ok (.iconst 0, 1) := by decide +kernel
theorem dX12_cost_9 : decode cX12_cost 9 = .ok (.goto 7, 3) := by decide +kernel
theorem dX12_cost_12 : decode cX12_cost 12 = .ok (.aload_n 0, 1) := by decide +kernel
theorem dX12_cost_13 : decode cX12_cost 13 = .ok (.getfield 464, 3) := by decide +kernel
theorem dX12_cost_16 : decode cX12_cost 16 = .ok (.ireturn, 1) := by decide +kernel
set_option maxHeartbeats 4000000 in
set_option maxRecDepth 100000 in
theorem m_cost (l : Launch) (dC : Nat → ClassId) (dI : Nat → Nat → Nat) (k : Nat → ClassId) (mo : Nat) (V : Nat → Value) (aDg : Nat) (aRn : Nat) (aSo : Nat) (aHi : Nat) (aNr : Nat) (aNw : Nat) (aNl : Nat) (aNc : Nat) (aNp : Nat) (aNq : Nat) (aNs : Nat) (aNn : Nat) (v : Int32) (h9 : V 9 = .int 0) (h21 : V 21 = .int 0) (h47 : V 47 = .ref aDg) (h77 : V 77 = .ref aRn) (h80 : V 80 = .int (-1)) (h90 : V 90 = .ref aSo) (h92 : V 92 = .ref aHi) (h69 : V 69 = .ref aNr) (h70 : V 70 = .ref aNw) (h71 : V 71 = .ref aNl) (h72 : V 72 = .ref aNc) (h73 : V 73 = .ref aNp) (h74 : V 74 = .ref aNq) (h75 : V 75 = .ref aNs) (h76 : V 76 = .ref aNn) : Ct l dC dI k yX12_cost (.code yX12_cost cX12_cost 2 (some .int)) ({ frames := 6, cells := 0, slots := 0, locals := 146 } : Room) [.ref mo, .int v] [(mo, .inr (10, fvM V)), (aNr, .inl (k 0, 16000, .inl (fun _ => 0))), (aNw, .inl (k 0, 16000, .inl (fun _ => 0))), (aNl, .inl (k 0, 16000, .inl (fun _ => 0))), (aNc, .inl (k 0, 16000, .inl (fun _ => 0))), (aNp, .inl (k 0, 16000, .inl (fun _ => 0))), (aNq, .inl (k 0, 16000, .inl (fun _ => 0))), (aNs, .inl (k 0, 16000, .inl (fun _ => 0))), (aNn, .inl (k 0, 16000, .inl (fun _ => 0))), (aRn, .inl (k 0, 769, .inl (fun _ => 0))), (aSo, .inl (k 0, 5, .inl (fun _ => 0))), (aDg, .inl (k 0, 6, .inl (fun _ => 0))), (aHi, .inl (k 0, 800, .inl (fun _ => 0)))] (fun r w => (∃ (V1 : Nat → Value), (0 ≤ v.toInt ∧ v.toInt ≤ 1) ∧ V1 0 = .int 0 ∧ r = some (.int 0) ∧ w = [(mo, .inr (10, fvM V1))]) ∨ (∃ (V1 : Nat → Value), ¬ (0 ≤ v.toInt ∧ v.toInt ≤ 1) ∧ V1 0 = .int 1 ∧ r = some (.int 0) ∧ w = [(mo, .inr (10, fvM V1))])) := by
  refine ct_of (by decide) (Nat.le_of_ble_eq_true rfl) ?_
  intro p e s m args below meth c H locs B hr hnm ls hl
  have hx := B.1.1
  have hb := B.1.2.1
  have hl : lv_has ls 2 [(0, .ref mo), (1, .int v)] := hl
  refine lv_aload_n hx hb dX12_cost_0 rfl (lv_at hl 0 rfl) ?_
  refine lv_iload_n hx hb dX12_cost_1 rfl (lv_at hl 1 rfl) ?_
  refine x_callV (rest := []) (wr := []) (m_noVariant l dC dI k mo V aDg aRn aSo aHi aNr aNw aNl aNc aNp aNq aNs aNn v h9 h21 h47 h77 h80 h90 h92 h69 h70 h71 h72 h73 h74 h75 h76) B mV_X12_noVariant mw_2521 hl [0, 1, 2, 3, 4, 5, 6, 7, 8, 9, 10, 11, 12] [] rfl rfl ⟨by decide, by decide⟩ (by decide) (q0 := 0) rfl rfl rfl ⟨Nat.le_of_ble_eq_true rfl, Nat.le_of_ble_eq_true rfl⟩ (Nat.le_of_ble_eq_true rfl) rfl dX12_cost_2 ⟨Nat.le_of_ble_eq_true rfl, Nat.le_of_ble_eq_true rfl⟩ (fun r w H locs hp B => ?_)
  rcases hp with ⟨V1_1, z_2, z_3, z_4, z_5, z_6, z_7, z_8, rfl, rfl⟩ | ⟨V1_9, z_10, z_11, rfl, rfl⟩
  · skip
    have B := bd_to (ws' := [(mo, .inr (10, fvM V1_1))]) rfl B
    refine lv_if_eq (tgt := 12) hx hb dX12_cost_5 (by decide) (fun _ => ?_) (fun c9 => absurd (by decide) c9)
    refine lv_aload_n hx hb dX12_cost_12 rfl (lv_at hl 0 rfl) ?_
    refine x_get (ci := 10) (C := RX12) (T := TX12) (N := 93) (v := .int 0) B 0 rfl rfl in_X12 84 (by decide) mw_1948 (fun _ h9 => h9) (fvM_get (by decide) z_8) dX12_cost_13 ?_
    have B := bd_sub (ws' := [(mo, .inr (10, fvM V1_1))]) [0] (by decide) rfl B
    exact x_iret B hr (Or.inl (⟨V1_1, by omega, z_4, rfl, rfl⟩)) (Nat.le_of_ble_eq_true rfl) (Nat.le_of_ble_eq_true rfl) dX12_cost_16
  · skip
    have B := bd_to (ws' := [(mo, .inr (10, fvM V1_9))]) rfl B
    refine lv_if_eq (tgt := 12) hx hb dX12_cost_5 (by decide) (fun c9 => absurd c9 (by decide)) (fun _ => ?_)
    refine lv_iconst (v := 0) hx hb dX12_cost_8 (by decide) ?_
    refine lv_goto (tgt := 16) hx hb dX12_cost_9 (by decide) ?_
    have B := bd_sub (ws' := [(mo, .inr (10, fvM V1_9))]) [0] (by decide) rfl B
    exact x_iret B hr (Or.inr (⟨V1_9, by omega, z_11, rfl, rfl⟩)) (Nat.le_of_ble_eq_true rfl) (Nat.le_of_ble_eq_true rfl) dX12_cost_16

theorem mw_2526 : (Jvm.Cond.instanceMethod ({ cls := "GalleyforgeModel", name := "cost", desc := "(I)I" } : Jvm.MethodName)) ∈ gt := gt_at 2661 (by decide +kernel) (by decide +kernel)
theorem mw_2527 : (Jvm.Cond.selects "GalleyforgeModel" ({ cls := "GalleyforgeModel", name := "cost", desc := "(I)I" } : Jvm.MethodName) ({ cls := "GalleyforgeModel", name := "cost", desc := "(I)I" } : Jvm.MethodName)) ∈ gt := gt_at 2662 (by decide +kernel) (by decide +kernel)
theorem mw_2528 : (Jvm.Cond.code ({ cls := "GalleyforgeModel", name := "cost", desc := "(I)I" } : Jvm.MethodName) prog_14_method_98_code (2 : Nat) (Option.some Jvm.ClassFile.FieldType.int)) ∈ gt := gt_at 2663 (by decide +kernel) (by decide +kernel)
theorem mw_2533 : (Jvm.Cond.methodLink "GalleyforgeModel" (522 : Nat) ({ cls := "GalleyforgeModel", name := "cost", desc := "(I)I" } : Jvm.MethodName)) ∈ gt := gt_at 2668 (by decide +kernel) (by decide +kernel)
theorem mV_X12_cost : mV yX12_cost cX12_cost 2 (some .int) 1 := ⟨⟨mw_2528, mw_13, by decide, by decide, by decide +kernel⟩, mw_2526, mw_2527⟩
theorem dX12_costAnew_0 : decode cX12_costAnew 0 = .ok (.aload_n 0, 1) := by decide +kernel
theorem dX12_costAnew_1 : decode cX12_costAnew 1 = .ok (.iload_n 1, 1) := by decide +kernel
theorem dX12_costAnew_2 : decode cX12_costAnew 2 = .ok (.invokevirtual 522, 3) := by decide +kernel
theorem dX12_costAnew_5 : decode cX12_costAnew 5 = .ok (.ireturn, 1) := by decide +kernel
set_option maxHeartbeats 4000000 in
set_option maxRecDepth 100000 in
theorem m_costAnew (l : Launch) (dC : Nat → ClassId) (dI : Nat → Nat → Nat) (k : Nat → ClassId) (mo : Nat) (V : Nat → Value) (aDg : Nat) (aRn : Nat) (aSo : Nat) (aHi : Nat) (aNr : Nat) (aNw : Nat) (aNl : Nat) (aNc : Nat) (aNp : Nat) (aNq : Nat) (aNs : Nat) (aNn : Nat) (v : Int32) (h9 : V 9 = .int 0) (h21 : V 21 = .int 0) (h47 : V 47 = .ref aDg) (h77 : V 77 = .ref aRn) (h80 : V 80 = .int (-1)) (h90 : V 90 = .ref aSo) (h92 : V 92 = .ref aHi) (h69 : V 69 = .ref aNr) (h70 : V 70 = .ref aNw) (h71 : V 71 = .ref aNl) (h72 : V 72 = .ref aNc) (h73 : V 73 = .ref aNp) (h74 : V 74 = .ref aNq) (h75 : V 75 = .ref aNs) (h76 : V 76 = .ref aNn) : Ct l dC dI k yX12_costAnew (.code yX12_costAnew cX12_costAnew 2 (some .int)) ({ frames := 7, cells := 0, slots := 0, locals := 167 } : Room) [.ref mo, .int v] [(mo, .inr (10, fvM V)), (aNr, .inl (k 0, 16000, .inl (fun _ => 0))), (aNw, .inl (k 0, 16000, .inl (fun _ => 0))), (aNl, .inl (k 0, 16000, .inl (fun _ => 0))), (aNc, .inl (k 0, 16000, .inl (fun _ => 0))), (aNp, .inl (k 0, 16000, .inl (fun _ => 0))), (aNq, .inl (k 0, 16000, .inl (fun _ => 0))), (aNs, .inl (k 0, 16000, .inl (fun _ => 0))), (aNn, .inl (k 0, 16000, .inl (fun _ => 0))), (aRn, .inl (k 0, 769, .inl (fun _ => 0))), (aSo, .inl (k 0, 5, .inl (fun _ => 0))), (aDg, .inl (k 0, 6, .inl (fun _ => 0))), (aHi, .inl (k 0, 800, .inl (fun _ => 0)))] (fun r w => (∃ (V1 : Nat → Value), (0 ≤ v.toInt ∧ v.toInt ≤ 1) ∧ V1 0 = .int 0 ∧ r = some (.int 0) ∧ w = [(mo, .inr (10, fvM V1))]) ∨ (∃ (V1 : Nat → Value), ¬ (0 ≤ v.toInt ∧ v.toInt ≤ 1) ∧ V1 0 = .int 1 ∧ r = some (.int 0) ∧ w = [(mo, .inr (10, fvM V1))])) := by
  refine ct_of (by decide) (Nat.le_of_ble_eq_true rfl) ?_
  intro p e s m args below meth c H locs B hr hnm ls hl
  have hx := B.1.1
  have hb := B.1.2.1
  have hl : lv_has ls 2 [(0, .ref mo), (1, .int v)] := hl
  refine lv_aload_n hx hb dX12_costAnew_0 rfl (lv_at hl 0 rfl) ?_
  refine lv_iload_n hx hb dX12_costAnew_1 rfl (lv_at hl 1 rfl) ?_
  refine x_callV (rest := []) (wr := []) (m_cost l dC dI k mo V aDg aRn aSo aHi aNr aNw aNl aNc aNp aNq aNs aNn v h9 h21 h47 h77 h80 h90 h92 h69 h70 h71 h72 h73 h74 h75 h76) B mV_X12_cost mw_2533 hl [0, 1, 2, 3, 4, 5, 6, 7, 8, 9, 10, 11, 12] [] rfl rfl ⟨by decide, by decide⟩ (by decide) (q0 := 0) rfl rfl rfl ⟨Nat.le_of_ble_eq_true rfl, Nat.le_of_ble_eq_true rfl⟩ (Nat.le_of_ble_eq_true rfl) rfl dX12_costAnew_2 ⟨Nat.le_of_ble_eq_true rfl, Nat.le_of_ble_eq_true rfl⟩ (fun r w H locs hp B => ?_)
  rcases hp with ⟨V1_1, z_2, z_3, rfl, rfl⟩ | ⟨V1_4, z_5, z_6, rfl, rfl⟩
  · skip
    have B := bd_to (ws' := [(mo, .inr (10, fvM V1_1))]) rfl B
    have B := bd_sub (ws' := [(mo, .inr (10, fvM V1_1))]) [0] (by decide) rfl B
    exact x_iret B hr (Or.inl (⟨V1_1, by omega, z_3, rfl, rfl⟩)) (Nat.le_of_ble_eq_true rfl) (Nat.le_of_ble_eq_true rfl) dX12_costAnew_5
  · skip
    have B := bd_to (ws' := [(mo, .inr (10, fvM V1_4))]) rfl B
    have B := bd_sub (ws' := [(mo, .inr (10, fvM V1_4))]) [0] (by decide) rfl B
    exact x_iret B hr (Or.inr (⟨V1_4, by omega, z_6, rfl, rfl⟩)) (Nat.le_of_ble_eq_true rfl) (Nat.le_of_ble_eq_true rfl) dX12_costAnew_5

theorem dX12_rounds_0 : decode cX12_rounds 0 = .ok (.aload_n 0, 1) := by decide +kernel
theorem dX12_rounds_1 : decode cX12_rounds 1 = .ok (.iload_n 1, 1) := by decide +kernel
theorem dX12_rounds_2 : decode cX12_rounds 2 = .ok (.invokevirtual 519, 3) := by decide +kernel
theorem dX12_rounds_5 : decode cX12_rounds 5 = .ok (.ifCond .eq 7, 3) := by decide +kernel
theorem dX12_rounds_8 : decode cX12_rounds 8 = .ok (.iconst 0, 1) := by decide +kernel
theorem dX12_rounds_9 : decode cX12_rounds 9 = .ok (.goto 7, 3) := by decide +kernel
theorem dX12_rounds_12 : decode cX12_rounds 12 = .ok (.aload_n 0, 1) := by decide +kernel
theorem dX12_rounds_13 : decode cX12_rounds 13 = .ok (.getfield 486, 3) := by decide +kernel
theorem dX12_rounds_16 : decode cX12_rounds 16 = .ok (.ireturn, 1) := by decide +kernel
set_option maxHeartbeats 4000000 in
set_option maxRecDepth 100000 in
theorem m_rounds (l : Launch) (dC : Nat → ClassId) (dI : Nat → Nat → Nat) (k : Nat → ClassId) (mo : Nat) (V : Nat → Value) (aDg : Nat) (aRn : Nat) (aSo : Nat) (aHi : Nat) (aNr : Nat) (aNw : Nat) (aNl : Nat) (aNc : Nat) (aNp : Nat) (aNq : Nat) (aNs : Nat) (aNn : Nat) (v : Int32) (h9 : V 9 = .int 0) (h21 : V 21 = .int 0) (h47 : V 47 = .ref aDg) (h77 : V 77 = .ref aRn) (h80 : V 80 = .int (-1)) (h90 : V 90 = .ref aSo) (h92 : V 92 = .ref aHi) (h69 : V 69 = .ref aNr) (h70 : V 70 = .ref aNw) (h71 : V 71 = .ref aNl) (h72 : V 72 = .ref aNc) (h73 : V 73 = .ref aNp) (h74 : V 74 = .ref aNq) (h75 : V 75 = .ref aNs) (h76 : V 76 = .ref aNn) : Ct l dC dI k yX12_rounds (.code yX12_rounds cX12_rounds 2 (some .int)) ({ frames := 6, cells := 0, slots := 0, locals := 146 } : Room) [.ref mo, .int v] [(mo, .inr (10, fvM V)), (aNr, .inl (k 0, 16000, .inl (fun _ => 0))), (aNw, .inl (k 0, 16000, .inl (fun _ => 0))), (aNl, .inl (k 0, 16000, .inl (fun _ => 0))), (aNc, .inl (k 0, 16000, .inl (fun _ => 0))), (aNp, .inl (k 0, 16000, .inl (fun _ => 0))), (aNq, .inl (k 0, 16000, .inl (fun _ => 0))), (aNs, .inl (k 0, 16000, .inl (fun _ => 0))), (aNn, .inl (k 0, 16000, .inl (fun _ => 0))), (aRn, .inl (k 0, 769, .inl (fun _ => 0))), (aSo, .inl (k 0, 5, .inl (fun _ => 0))), (aDg, .inl (k 0, 6, .inl (fun _ => 0))), (aHi, .inl (k 0, 800, .inl (fun _ => 0)))] (fun r w => (∃ (V1 : Nat → Value), (0 ≤ v.toInt ∧ v.toInt ≤ 1) ∧ V1 0 = .int 0 ∧ r = some (.int 1) ∧ w = [(mo, .inr (10, fvM V1))]) ∨ (∃ (V1 : Nat → Value), ¬ (0 ≤ v.toInt ∧ v.toInt ≤ 1) ∧ V1 0 = .int 1 ∧ r = some (.int 0) ∧ w = [(mo, .inr (10, fvM V1))])) := by
  refine ct_of (by decide) (Nat.le_of_ble_eq_true rfl) ?_
  intro p e s m args below meth c H locs B hr hnm ls hl
  have hx := B.1.1
  have hb := B.1.2.1
  have hl : lv_has ls 2 [(0, .ref mo), (1, .int v)] := hl
  refine lv_aload_n hx hb dX12_rounds_0 rfl (lv_at hl 0 rfl) ?_
  refine lv_iload_n hx hb dX12_rounds_1 rfl (lv_at hl 1 rfl) ?_
  refine x_callV (rest := []) (wr := []) (m_noVariant l dC dI k mo V aDg aRn aSo aHi aNr aNw aNl aNc aNp aNq aNs aNn v h9 h21 h47 h77 h80 h90 h92 h69 h70 h71 h72 h73 h74 h75 h76) B mV_X12_noVariant mw_2521 hl [0, 1, 2, 3, 4, 5, 6, 7, 8, 9, 10, 11, 12] [] rfl rfl ⟨by decide, by decide⟩ (by decide) (q0 := 0) rfl rfl rfl ⟨Nat.le_of_ble_eq_true rfl, Nat.le_of_ble_eq_true rfl⟩ (Nat.le_of_ble_eq_true rfl) rfl dX12_rounds_2 ⟨Nat.le_of_ble_eq_true rfl, Nat.le_of_ble_eq_true rfl⟩ (fun r w H locs hp B => ?_)
  rcases hp with ⟨V1_1, z_2, z_3, z_4, z_5, z_6, z_7, z_8, rfl, rfl⟩ | ⟨V1_9, z_10, z_11, rfl, rfl⟩
  · skip
    have B := bd_to (ws' := [(mo, .inr (10, fvM V1_1))]) rfl B
    refine lv_if_eq (tgt := 12) hx hb dX12_rounds_5 (by decide) (fun _ => ?_) (fun c9 => absurd (by decide) c9)
    refine lv_aload_n hx hb dX12_rounds_12 rfl (lv_at hl 0 rfl) ?_
    refine x_get (ci := 10) (C := RX12) (T := TX12) (N := 93) (v := .int 1) B 0 rfl rfl in_X12 81 (by decide) mw_1945 (fun _ h9 => h9) (fvM_get (by decide) z_5) dX12_rounds_13 ?_
    have B := bd_sub (ws' := [(mo, .inr (10, fvM V1_1))]) [0] (by decide) rfl B
    exact x_iret B hr (Or.inl (⟨V1_1, by omega, z_4, rfl, rfl⟩)) (Nat.le_of_ble_eq_true rfl) (Nat.le_of_ble_eq_true rfl) dX12_rounds_16
  · skip
    have B := bd_to (ws' := [(mo, .inr (10, fvM V1_9))]) rfl B
    refine lv_if_eq (tgt := 12) hx hb dX12_rounds_5 (by decide) (fun c9 => absurd c9 (by decide)) (fun _ => ?_)
    refine lv_iconst (v := 0) hx hb dX12_rounds_8 (by decide) ?_
    refine lv_goto (tgt := 16) hx hb dX12_rounds_9 (by decide) ?_
    have B := bd_sub (ws' := [(mo, .inr (10, fvM V1_9))]) [0] (by decide) rfl B
    exact x_iret B hr (Or.inr (⟨V1_9, by omega, z_11, rfl, rfl⟩)) (Nat.le_of_ble_eq_true rfl) (Nat.le_of_ble_eq_true rfl) dX12_rounds_16

theorem dX12_isSettled_0 : decode cX12_isSettled 0 = .ok (.aload_n 0, 1) := by decide +kernel
theorem dX12_isSettled_1 : decode cX12_isSettled 1 = .ok (.iload_n 1, 1) := by decide +kernel
theorem dX12_isSettled_2 : decode cX12_isSettled 2 = .ok (.invokevirtual 519, 3) := by decide +kernel
theorem dX12_isSettled_5 : decode cX12_isSettled 5 = .ok (.ifCond .ne 14, 3) := by decide +kernel
theorem dX12_isSettled_8 : decode cX12_isSettled 8 = .ok (.aload_n 0, 1) := by decide +kernel
theorem dX12_isSettled_9 : decode cX12_isSettled 9 = .ok (.getfield 495, 3) := by decide +kernel
theorem dX12_isSettled_12 : decode cX12_isSettled 12 = .ok (.ifCond .eq 7, 3) := by decide +kernel
theorem dX12_isSettled_15 : decode cX12_isSettled 15 = .ok (.iconst 1, 1) := by decide +kernel
theorem dX12_isSettled_16 : decode cX12_isSettled 16 = .ok (.goto 4, 3) := by decide +kernel
theorem dX12_isSettled_19 : decode cX12_isSettled 19 = .ok (.iconst 0, 1) := by decide +kernel
theorem dX12_isSettled_20 : decode cX12_isSettled 20 = .ok (.ireturn, 1) := by decide +kernel
set_option maxHeartbeats 4000000 in
set_option maxRecDepth 100000 in
theorem m_isSettled (l : Launch) (dC : Nat → ClassId) (dI : Nat → Nat → Nat) (k : Nat → ClassId) (mo : Nat) (V : Nat → Value) (aDg : Nat) (aRn : Nat) (aSo : Nat) (aHi : Nat) (aNr : Nat) (aNw : Nat) (aNl : Nat) (aNc : Nat) (aNp : Nat) (aNq : Nat) (aNs : Nat) (aNn : Nat) (v : Int32) (h9 : V 9 = .int 0) (h21 : V 21 = .int 0) (h47 : V 47 = .ref aDg) (h77 : V 77 = .ref aRn) (h80 : V 80 = .int (-1)) (h90 : V 90 = .ref aSo) (h92 : V 92 = .ref aHi) (h69 : V 69 = .ref aNr) (h70 : V 70 = .ref aNw) (h71 : V 71 = .ref aNl) (h72 : V 72 = .ref aNc) (h73 : V 73 = .ref aNp) (h74 : V 74 = .ref aNq) (h75 : V 75 = .ref aNs) (h76 : V 76 = .ref aNn) : Ct l dC dI k yX12_isSettled (.code yX12_isSettled cX12_isSettled 2 (some .boolean)) ({ frames := 6, cells := 0, slots := 0, locals := 146 } : Room) [.ref mo, .int v] [(mo, .inr (10, fvM V)), (aNr, .inl (k 0, 16000, .inl (fun _ => 0))), (aNw, .inl (k 0, 16000, .inl (fun _ => 0))), (aNl, .inl (k 0, 16000, .inl (fun _ => 0))), (aNc, .inl (k 0, 16000, .inl (fun _ => 0))), (aNp, .inl (k 0, 16000, .inl (fun _ => 0))), (aNq, .inl (k 0, 16000, .inl (fun _ => 0))), (aNs, .inl (k 0, 16000, .inl (fun _ => 0))), (aNn, .inl (k 0, 16000, .inl (fun _ => 0))), (aRn, .inl (k 0, 769, .inl (fun _ => 0))), (aSo, .inl (k 0, 5, .inl (fun _ => 0))), (aDg, .inl (k 0, 6, .inl (fun _ => 0))), (aHi, .inl (k 0, 800, .inl (fun _ => 0)))] (fun r w => (∃ (V1 : Nat → Value), (0 ≤ v.toInt ∧ v.toInt ≤ 1) ∧ V1 0 = .int 0 ∧ r = some (.int 1) ∧ w = [(mo, .inr (10, fvM V1))]) ∨ (∃ (V1 : Nat → Value), ¬ (0 ≤ v.toInt ∧ v.toInt ≤ 1) ∧ V1 0 = .int 1 ∧ r = some (.int 0) ∧ w = [(mo, .inr (10, fvM V1))])) := by
  refine ct_of (by decide) (Nat.le_of_ble_eq_true rfl) ?_
  intro p e s m args below meth c H locs B hr hnm ls hl
  have hx := B.1.1
  have hb := B.1.2.1
  have hl : lv_has ls 2 [(0, .ref mo), (1, .int v)] := hl
  refine lv_aload_n hx hb dX12_isSettled_0 rfl (lv_at hl 0 rfl) ?_
  refine lv_iload_n hx hb dX12_isSettled_1 rfl (lv_at hl 1 rfl) ?_
  refine x_callV (rest := []) (wr := []) (m_noVariant l dC dI k mo V aDg aRn aSo aHi aNr aNw aNl aNc aNp aNq aNs aNn v h9 h21 h47 h77 h80 h90 h92 h69 h70 h71 h72 h73 h74 h75 h76) B mV_X12_noVariant mw_2521 hl [0, 1, 2, 3, 4, 5, 6, 7, 8, 9, 10, 11, 12] [] rfl rfl ⟨by decide, by decide⟩ (by decide) (q0 := 0) rfl rfl rfl ⟨Nat.le_of_ble_eq_true rfl, Nat.le_of_ble_eq_true rfl⟩ (Nat.le_of_ble_eq_true rfl) rfl dX12_isSettled_2 ⟨Nat.le_of_ble_eq_true rfl, Nat.le_of_ble_eq_true rfl⟩ (fun r w H locs hp B => ?_)
  rcases hp with ⟨V1_1, z_2, z_3, z_4, z_5, z_6, z_7, z_8, rfl, rfl⟩ | ⟨V1_9, z_10, z_11, rfl, rfl⟩
  · skip
    have B := bd_to (ws' := [(mo, .inr (10, fvM V1_1))]) rfl B
    refine lv_if_ne (tgt := 19) hx hb dX12_isSettled_5 (by decide) (fun c9 => absurd c9 (by decide)) (fun _ => ?_)
    refine lv_aload_n hx hb dX12_isSettled_8 rfl (lv_at hl 0 rfl) ?_
    refine x_get (ci := 10) (C := RX12) (T := TX12) (N := 93) (v := .int 1) B 0 rfl rfl in_X12 82 (by decide) mw_1946 (fun _ h9 => h9) (fvM_get (by decide) z_6) dX12_isSettled_9 ?_
    refine lv_if_eq (tgt := 19) hx hb dX12_isSettled_12 (by decide) (fun c9 => absurd c9 (by decide)) (fun _ => ?_)
    refine lv_iconst (v := 1) hx hb dX12_isSettled_15 (by decide) ?_
    refine lv_goto (tgt := 20) hx hb dX12_isSettled_16 (by decide) ?_
    have B := bd_sub (ws' := [(mo, .inr (10, fvM V1_1))]) [0] (by decide) rfl B
    exact x_zret B hr (by decide) (Or.inl (⟨V1_1, by omega, z_4, rfl, rfl⟩)) (Nat.le_of_ble_eq_true rfl) (Nat.le_of_ble_eq_true rfl) dX12_isSettled_20
  · skip
    have B := bd_to (ws' := [(mo, .inr (10, fvM V1_9))]) rfl B
    refine lv_if_ne (tgt := 19) hx hb dX12_isSettled_5 (by decide) (fun _ => ?_) (fun c9 => absurd c9 (by decide))
    refine lv_iconst (v := 0) hx hb dX12_isSettled_19 (by decide) ?_
    have B := bd_sub (ws' := [(mo, .inr (10, fvM V1_9))]) [0] (by decide) rfl B
    exact x_zret B hr (by decide) (Or.inr (⟨V1_9, by omega, z_11, rfl, rfl⟩)) (Nat.le_of_ble_eq_true rfl) (Nat.le_of_ble_eq_true rfl) dX12_isSettled_20

theorem dX12_number_0 : decode cX12_number 0 = .ok (.aload_n 0, 1) := by decide +kernel
theorem dX12_number_1 : decode cX12_number 1 = .ok (.iload_n 1, 1) := by decide +kernel
theorem dX12_number_2 : decode cX12_number 2 = .ok (.invokestatic 292, 3) := by decide +kernel
theorem dX12_number_5 : decode cX12_number 5 = .ok (.ifCond .eq 15, 3) := by decide +kernel
theorem dX12_number_8 : decode cX12_number 8 = .ok (.aload_n 0, 1) := by decide +kernel
theorem dX12_number_9 : decode cX12_number 9 = .ok (.iload_n 2, 1) := by decide +kernel
theorem dX12_number_10 : decode cX12_number 10 = .ok (.invokevirtual 233, 3) := by decide +kernel
theorem dX12_number_13 : decode cX12_number 13 = .ok (.ifCond .eq 7, 3) := by decide +kernel
theorem dX12_number_20 : decode cX12_number 20 = .ok (.iconst 1, 1) := by decide +kernel
theorem dX12_number_21 : decode cX12_number 21 = .ok (.invokevirtual 240, 3) := by decide +kernel
theorem dX12_number_24 : decode cX12_number 24 = .ok (.ifCond .eq 5, 3) := by decide +kernel
theorem dX12_number_27 : decode cX12_number 27 = .ok (.iconst 0, 1) := by decide +kernel
theorem dX12_number_28 : decode cX12_number 28 = .ok (.ireturn, 1) := by decide +kernel
set_option maxHeartbeats 4000000 in
set_option maxRecDepth 100000 in
theorem m_number (l : Launch) (dC : Nat → ClassId) (dI : Nat → Nat → Nat) (k : Nat → ClassId) (mo : Nat) (V : Nat → Value) (v : Int32) (x1 : Int32) (h9 : V 9 = .int 0) : Ct l dC dI k yX12_number (.code yX12_number cX12_number 3 (some .int)) ({ frames := 2, cells := 0, slots := 0, locals := 43 } : Room) [.ref mo, .int v, .int x1] [(mo, .inr (10, fvM V))] (fun r w => (∃ (V1 : Nat → Value), V1 0 = .int 1 ∧ r = some (.int 0) ∧ w = [(mo, .inr (10, fvM V1))])) := by
  refine ct_of (by decide) (Nat.le_of_ble_eq_true rfl) ?_
  intro p e s m args below meth c H locs B hr hnm ls hl
  have hx := B.1.1
  have hb := B.1.2.1
  have hl : lv_has ls 3 [(0, .ref mo), (1, .int v), (2, .int x1)] := hl
  refine lv_aload_n hx hb dX12_number_0 rfl (lv_at hl 0 rfl) ?_
  refine lv_iload_n hx hb dX12_number_1 rfl (lv_at hl 1 rfl) ?_
  refine x_callS (rest := [.ref mo]) (wr := [(mo, .inr (10, fvM V))]) (m_isVariant l dC dI k v) B mS_X12_isVariant mw_2271 hl [] [0] rfl rfl ⟨by decide, by decide⟩ (by decide) ⟨Nat.le_of_ble_eq_true rfl, Nat.le_of_ble_eq_true rfl⟩ (Nat.le_of_ble_eq_true rfl) rfl dX12_number_2 ⟨Nat.le_of_ble_eq_true rfl, Nat.le_of_ble_eq_true rfl⟩ (fun r w H locs hp B => ?_)
  rcases hp with ⟨z_1, rfl, rfl⟩ | ⟨z_2, rfl, rfl⟩
  · skip
    have B := bd_to (ws' := [(mo, .inr (10, fvM V))]) rfl B
    refine lv_if_eq (tgt := 20) hx hb dX12_number_5 (by decide) (fun c9 => absurd c9 (by decide)) (fun _ => ?_)
    refine lv_aload_n hx hb dX12_number_8 rfl (lv_at hl 0 rfl) ?_
    refine lv_iload_n hx hb dX12_number_9 rfl (lv_at hl 2 rfl) ?_
    refine x_callV (rest := [.ref mo]) (wr := []) (m_isBlock l dC dI k mo V x1 h9) B mV_X12_isBlock mw_2183 hl [0] [] rfl rfl ⟨by decide, by decide⟩ (by decide) (q0 := 0) rfl rfl rfl ⟨Nat.le_of_ble_eq_true rfl, Nat.le_of_ble_eq_true rfl⟩ (Nat.le_of_ble_eq_true rfl) rfl dX12_number_10 ⟨Nat.le_of_ble_eq_true rfl, Nat.le_of_ble_eq_true rfl⟩ (fun r w H locs hp B => ?_)
    obtain ⟨rfl, rfl⟩ := hp
    have B := bd_to (ws' := [(mo, .inr (10, fvM V))]) rfl B
    refine lv_if_eq (tgt := 20) hx hb dX12_number_13 (by decide) (fun _ => ?_) (fun c9 => absurd (by decide) c9)
    refine lv_iconst (v := 1) hx hb dX12_number_20 (by decide) ?_
    refine x_callV (rest := []) (wr := []) (m_refused1 l dC dI k mo V) B mV_X12_refused mw_2155 hl [0] [] rfl rfl ⟨by decide, by decide⟩ (by decide) (q0 := 0) rfl rfl rfl ⟨Nat.le_of_ble_eq_true rfl, Nat.le_of_ble_eq_true rfl⟩ (Nat.le_of_ble_eq_true rfl) rfl dX12_number_21 ⟨Nat.le_of_ble_eq_true rfl, Nat.le_of_ble_eq_true rfl⟩ (fun r w H locs hp B => ?_)
    obtain ⟨V1_3, z_4, z_5, rfl, rfl⟩ := hp
    have B := bd_to (ws' := [(mo, .inr (10, fvM V1_3))]) rfl B
    refine lv_if_eq (tgt := 29) hx hb dX12_number_24 (by decide) (fun c9 => absurd c9 (by decide)) (fun _ => ?_)
    refine lv_iconst (v := 0) hx hb dX12_number_27 (by decide) ?_
    have B := bd_sub (ws' := [(mo, .inr (10, fvM V1_3))]) [0] (by decide) rfl B
    exact x_iret B hr (⟨V1_3, z_5, rfl, rfl⟩) (Nat.le_of_ble_eq_true rfl) (Nat.le_of_ble_eq_true rfl) dX12_number_28
  · skip
    have B := bd_to (ws' := [(mo, .inr (10, fvM V))]) rfl B
    refine lv_if_eq (tgt := 20) hx hb dX12_number_5 (by decide) (fun _ => ?_) (fun c9 => absurd (by decide) c9)
    refine lv_iconst (v := 1) hx hb dX12_number_20 (by decide) ?_
    refine x_callV (rest := []) (wr := []) (m_refused1 l dC dI k mo V) B mV_X12_refused mw_2155 hl [0] [] rfl rfl ⟨by decide, by decide⟩ (by decide) (q0 := 0) rfl rfl rfl ⟨Nat.le_of_ble_eq_true rfl, Nat.le_of_ble_eq_true rfl⟩ (Nat.le_of_ble_eq_true rfl) rfl dX12_number_21 ⟨Nat.le_of_ble_eq_true rfl, Nat.le_of_ble_eq_true rfl⟩ (fun r w H locs hp B => ?_)
    obtain ⟨V1_6, z_7, z_8, rfl, rfl⟩ := hp
    have B := bd_to (ws' := [(mo, .inr (10, fvM V1_6))]) rfl B
    refine lv_if_eq (tgt := 29) hx hb dX12_number_24 (by decide) (fun c9 => absurd c9 (by decide)) (fun _ => ?_)
    refine lv_iconst (v := 0) hx hb dX12_number_27 (by decide) ?_
    have B := bd_sub (ws' := [(mo, .inr (10, fvM V1_6))]) [0] (by decide) rfl B
    exact x_iret B hr (⟨V1_6, z_8, rfl, rfl⟩) (Nat.le_of_ble_eq_true rfl) (Nat.le_of_ble_eq_true rfl) dX12_number_28

theorem dX12_lines_0 : decode cX12_lines 0 = .ok (.aload_n 0, 1) := by decide +kernel
theorem dX12_lines_1 : decode cX12_lines 1 = .ok (.iload_n 1, 1) := by decide +kernel
theorem dX12_lines_2 : decode cX12_lines 2 = .ok (.iload_n 2, 1) := by decide +kernel
theorem dX12_lines_3 : decode cX12_lines 3 = .ok (.invokevirtual 511, 3) := by decide +kernel
theorem dX12_lines_6 : decode cX12_lines 6 = .ok (.ifCond .eq 7, 3) := by decide +kernel
theorem dX12_lines_9 : decode cX12_lines 9 = .ok (.iconst 0, 1) := by decide +kernel
theorem dX12_lines_10 : decode cX12_lines 10 = .ok (.goto 9, 3) := by decide +kernel
theorem dX12_lines_19 : decode cX12_lines 19 = .ok (.ireturn, 1) := by decide +kernel
set_option maxHeartbeats 4000000 in
set_option maxRecDepth 100000 in
theorem m_lines (l : Launch) (dC : Nat → ClassId) (dI : Nat → Nat → Nat) (k : Nat → ClassId) (mo : Nat) (V : Nat → Value) (v : Int32) (x1 : Int32) (h9 : V 9 = .int 0) : Ct l dC dI k yX12_lines (.code yX12_lines cX12_lines 3 (some .int)) ({ frames := 3, cells := 0, slots := 0, locals := 65 } : Room) [.ref mo, .int v, .int x1] [(mo, .inr (10, fvM V))] (fun r w => (∃ (V1 : Nat → Value), V1 0 = .int 1 ∧ r = some (.int 0) ∧ w = [(mo, .inr (10, fvM V1))])) := by
  refine ct_of (by decide) (Nat.le_of_ble_eq_true rfl) ?_
  intro p e s m args below meth c H locs B hr hnm ls hl
  have hx := B.1.1
  have hb := B.1.2.1
  have hl : lv_has ls 3 [(0, .ref mo), (1, .int v), (2, .int x1)] := hl
  refine lv_aload_n hx hb dX12_lines_0 rfl (lv_at hl 0 rfl) ?_
  refine lv_iload_n hx hb dX12_lines_1 rfl (lv_at hl 1 rfl) ?_
  refine lv_iload_n hx hb dX12_lines_2 rfl (lv_at hl 2 rfl) ?_
  refine x_callV (rest := []) (wr := []) (m_noBlock l dC dI k mo V v x1 h9) B mV_X12_noBlock mw_2325 hl [0] [] rfl rfl ⟨by decide, by decide⟩ (by decide) (q0 := 0) rfl rfl rfl ⟨Nat.le_of_ble_eq_true rfl, Nat.le_of_ble_eq_true rfl⟩ (Nat.le_of_ble_eq_true rfl) rfl dX12_lines_3 ⟨Nat.le_of_ble_eq_true rfl, Nat.le_of_ble_eq_true rfl⟩ (fun r w H locs hp B => ?_)
  obtain ⟨V1_1, z_2, rfl, rfl⟩ := hp
  have B := bd_to (ws' := [(mo, .inr (10, fvM V1_1))]) rfl B
  refine lv_if_eq (tgt := 13) hx hb dX12_lines_6 (by decide) (fun c9 => absurd c9 (by decide)) (fun _ => ?_)
  refine lv_iconst (v := 0) hx hb dX12_lines_9 (by decide) ?_
  refine lv_goto (tgt := 19) hx hb dX12_lines_10 (by decide) ?_
  have B := bd_sub (ws' := [(mo, .inr (10, fvM V1_1))]) [0] (by decide) rfl B
  exact x_iret B hr (⟨V1_1, z_2, rfl, rfl⟩) (Nat.le_of_ble_eq_true rfl) (Nat.le_of_ble_eq_true rfl) dX12_lines_19

theorem dX12_demerits_0 : decode cX12_demerits 0 = .ok (.aload_n 0, 1) := by decide +kernel
theorem dX12_demerits_1 : decode cX12_demerits 1 = .ok (.iload_n 1, 1) := by decide +kernel
theorem dX12_demerits_2 : decode cX12_demerits 2 = .ok (.iload_n 2, 1) := by decide +kernel
theorem dX12_demerits_3 : decode cX12_demerits 3 = .ok (.invokevirtual 511, 3) := by decide +kernel
theorem dX12_demerits_6 : decode cX12_demerits 6 = .ok (.ifCond .eq 7, 3) := by decide +kernel
theorem dX12_demerits_9 : decode cX12_demerits 9 = .ok (.lconst 0, 1) := by decide +kernel
theorem dX12_demerits_10 : decode cX12_demerits 10 = .ok (.goto 9, 3) := by decide +kernel
theorem dX12_demerits_19 : decode cX12_demerits 19 = .ok (.lreturn, 1) := by decide +kernel
set_option maxHeartbeats 4000000 in
set_option maxRecDepth 100000 in
theorem m_demerits (l : Launch) (dC : Nat → ClassId) (dI : Nat → Nat → Nat) (k : Nat → ClassId) (mo : Nat) (V : Nat → Value) (v : Int32) (x1 : Int32) (h9 : V 9 = .int 0) : Ct l dC dI k yX12_demerits (.code yX12_demerits cX12_demerits 3 (some .long)) ({ frames := 3, cells := 0, slots := 0, locals := 65 } : Room) [.ref mo, .int v, .int x1] [(mo, .inr (10, fvM V))] (fun r w => (∃ (V1 : Nat → Value), V1 0 = .int 1 ∧ r = some (.long 0) ∧ w = [(mo, .inr (10, fvM V1))])) := by
  refine ct_of (by decide) (Nat.le_of_ble_eq_true rfl) ?_
  intro p e s m args below meth c H locs B hr hnm ls hl
  have hx := B.1.1
  have hb := B.1.2.1
  have hl : lv_has ls 3 [(0, .ref mo), (1, .int v), (2, .int x1)] := hl
  refine lv_aload_n hx hb dX12_demerits_0 rfl (lv_at hl 0 rfl) ?_
  refine lv_iload_n hx hb dX12_demerits_1 rfl (lv_at hl 1 rfl) ?_
  refine lv_iload_n hx hb dX12_demerits_2 rfl (lv_at hl 2 rfl) ?_
  refine x_callV (rest := []) (wr := []) (m_noBlock l dC dI k mo V v x1 h9) B mV_X12_noBlock mw_2325 hl [0] [] rfl rfl ⟨by decide, by decide⟩ (by decide) (q0 := 0) rfl rfl rfl ⟨Nat.le_of_ble_eq_true rfl, Nat.le_of_ble_eq_true rfl⟩ (Nat.le_of_ble_eq_true rfl) rfl dX12_demerits_3 ⟨Nat.le_of_ble_eq_true rfl, Nat.le_of_ble_eq_true rfl⟩ (fun r w H locs hp B => ?_)
  obtain ⟨V1_1, z_2, rfl, rfl⟩ := hp
  have B := bd_to (ws' := [(mo, .inr (10, fvM V1_1))]) rfl B
  refine lv_if_eq (tgt := 13) hx hb dX12_demerits_6 (by decide) (fun c9 => absurd c9 (by decide)) (fun _ => ?_)
  refine lv_lconst (v := 0) hx hb dX12_demerits_9 (by decide) ?_
  refine lv_goto (tgt := 19) hx hb dX12_demerits_10 (by decide) ?_
  have B := bd_sub (ws' := [(mo, .inr (10, fvM V1_1))]) [0] (by decide) rfl B
  exact x_lret B hr (⟨V1_1, z_2, rfl, rfl⟩) (Nat.le_of_ble_eq_true rfl) (Nat.le_of_ble_eq_true rfl) dX12_demerits_19

theorem dX12_demeritsByAll_0 : decode cX12_demeritsByAll 0 = .ok (.aload_n 0, 1) := by decide +kernel
theorem dX12_demeritsByAll_1 : decode cX12_demeritsByAll 1 = .ok (.iload_n 1, 1) := by decide +kernel
theorem dX12_demeritsByAll_2 : decode cX12_demeritsByAll 2 = .ok (.iload_n 2, 1) := by decide +kernel
theorem dX12_demeritsByAll_3 : decode cX12_demeritsByAll 3 = .ok (.invokevirtual 511, 3) := by decide +kernel
theorem dX12_demeritsByAll_6 : decode cX12_demeritsByAll 6 = .ok (.ifCond .eq 7, 3) := by decide +kernel
theorem dX12_demeritsByAll_9 : decode cX12_demeritsByAll 9 = .ok (.lconst 0, 1) := by decide +kernel
theorem dX12_demeritsByAll_10 : decode cX12_demeritsByAll 10 = .ok (.goto 26, 3) := by decide +kernel
theorem dX12_demeritsByAll_36 : decode cX12_demeritsByAll 36 = .ok (.lreturn, 1) := by decide +kernel
set_option maxHeartbeats 4000000 in
set_option maxRecDepth 100000 in
theorem m_demeritsByAll (l : Launch) (dC : Nat → ClassId) (dI : Nat → Nat → Nat) (k : Nat → ClassId) (mo : Nat) (V : Nat → Value) (v : Int32) (x1 : Int32) (h9 : V 9 = .int 0) : Ct l dC dI k yX12_demeritsByAll (.code yX12_demeritsByAll cX12_demeritsByAll 3 (some .long)) ({ frames := 3, cells := 0, slots := 0, locals := 65 } : Room) [.ref mo, .int v, .int x1] [(mo, .inr (10, fvM V))] (fun r w => (∃ (V1 : Nat → Value), V1 0 = .int 1 ∧ r = some (.long 0) ∧ w = [(mo, .inr (10, fvM V1))])) := by
  refine ct_of (by decide) (Nat.le_of_ble_eq_true rfl) ?_
  intro p e s m args below meth c H locs B hr hnm ls hl
  have hx := B.1.1
  have hb := B.1.2.1
  have hl : lv_has ls 3 [(0, .ref mo), (1, .int v), (2, .int x1)] := hl
  refine lv_aload_n hx hb dX12_demeritsByAll_0 rfl (lv_at hl 0 rfl) ?_
  refine lv_iload_n hx hb dX12_demeritsByAll_1 rfl (lv_at hl 1 rfl) ?_
  refine lv_iload_n hx hb dX12_demeritsByAll_2 rfl (lv_at hl 2 rfl) ?_
  refine x_callV (rest := []) (wr := []) (m_noBlock l dC dI k mo V v x1 h9) B mV_X12_noBlock mw_2325 hl [0] [] rfl rfl ⟨by decide, by decide⟩ (by decide) (q0 := 0) rfl rfl rfl ⟨Nat.le_of_ble_eq_true rfl, Nat.le_of_ble_eq_true rfl⟩ (Nat.le_of_ble_eq_true rfl) rfl dX12_demeritsByAll_3 ⟨Nat.le_of_ble_eq_true rfl, Nat.le_of_ble_eq_true rfl⟩ (fun r w H locs hp B => ?_)
  obtain ⟨V1_1, z_2, rfl, rfl⟩ := hp
  have B := bd_to (ws' := [(mo, .inr (10, fvM V1_1))]) rfl B
  refine lv_if_eq (tgt := 13) hx hb dX12_demeritsByAll_6 (by decide) (fun c9 => absurd c9 (by decide)) (fun _ => ?_)
  refine lv_lconst (v := 0) hx hb dX12_demeritsByAll_9 (by decide) ?_
  refine lv_goto (tgt := 36) hx hb dX12_demeritsByAll_10 (by decide) ?_
  have B := bd_sub (ws' := [(mo, .inr (10, fvM V1_1))]) [0] (by decide) rfl B
  exact x_lret B hr (⟨V1_1, z_2, rfl, rfl⟩) (Nat.le_of_ble_eq_true rfl) (Nat.le_of_ble_eq_true rfl) dX12_demeritsByAll_36

theorem mw_2500 : (Jvm.Cond.methodLink "GalleyforgeModel" (514 : Nat) ({ cls := "GalleyforgeModel", name := "noLine", desc := "(III)Z" } : Jvm.MethodName)) ∈ gt := gt_at 2635 (by decide +kernel) (by decide +kernel)
theorem mw_2502 : (Jvm.Cond.instanceMethod ({ cls := "GalleyforgeModel", name := "noLine", desc := "(III)Z" } : Jvm.MethodName)) ∈ gt := gt_at 2637 (by decide +kernel) (by decide +kernel)
theorem mw_2503 : (Jvm.Cond.code ({ cls := "GalleyforgeModel", name := "noLine", desc := "(III)Z" } : Jvm.MethodName) prog_14_method_89_code (4 : Nat) (Option.some Jvm.ClassFile.FieldType.boolean)) ∈ gt := gt_at 2638 (by decide +kernel) (by decide +kernel)
theorem ms_131 : Cond.selects "GalleyforgeModel" (⟨"GalleyforgeModel", "noLine", "(III)Z"⟩ : MethodName) (⟨"GalleyforgeModel", "noLine", "(III)Z"⟩ : MethodName) ∈ gt := gt_at 131 (by decide +kernel) (by decide +kernel)
theorem mV_X12_noLine : mV yX12_noLine cX12_noLine 4 (some .boolean) 3 := ⟨⟨mw_2503, mw_13, by decide, by decide, by decide +kernel⟩, mw_2502, ms_131⟩
theorem dX12_lineEnd_0 : decode cX12_lineEnd 0 = .ok (.aload_n 0, 1) := by decide +kernel
theorem dX12_lineEnd_1 : decode cX12_lineEnd 1 = .ok (.iload_n 1, 1) := by decide +kernel
theorem dX12_lineEnd_2 : decode cX12_lineEnd 2 = .ok (.iload_n 2, 1) := by decide +kernel
theorem dX12_lineEnd_3 : decode cX12_lineEnd 3 = .ok (.iload_n 3, 1) := by decide +kernel
theorem dX12_lineEnd_4 : decode cX12_lineEnd 4 = .ok (.invokevirtual 514, 3) := by decide +kernel
theorem dX12_lineEnd_7 : decode cX12_lineEnd 7 = .ok (.ifCond .eq 7, 3) := by decide +kernel
theorem dX12_lineEnd_10 : decode cX12_lineEnd 10 = .ok (.iconst 0, 1) := by decide +kernel
theorem dX12_lineEnd_11 : decode cX12_lineEnd 11 = .ok (.goto 29, 3) := by decide +kernel
theorem dX12_lineEnd_40 : decode cX12_lineEnd 40 = .ok (.ireturn, 1) := by decide +kernel
set_option maxHeartbeats 4000000 in
set_option maxRecDepth 100000 in
theorem m_lineEnd (l : Launch) (dC : Nat → ClassId) (dI : Nat → Nat → Nat) (k : Nat → ClassId) (mo : Nat) (V : Nat → Value) (v : Int32) (x1 : Int32) (x2 : Int32) (h9 : V 9 = .int 0) : Ct l dC dI k yX12_lineEnd (.code yX12_lineEnd cX12_lineEnd 4 (some .int)) ({ frames := 4, cells := 0, slots := 0, locals := 88 } : Room) [.ref mo, .int v, .int x1, .int x2] [(mo, .inr (10, fvM V))] (fun r w => (∃ (V1 : Nat → Value), V1 0 = .int 1 ∧ r = some (.int 0) ∧ w = [(mo, .inr (10, fvM V1))])) := by
  refine ct_of (by decide) (Nat.le_of_ble_eq_true rfl) ?_
  intro p e s m args below meth c H locs B hr hnm ls hl
  have hx := B.1.1
  have hb := B.1.2.1
  have hl : lv_has ls 4 [(0, .ref mo), (1, .int v), (2, .int x1), (3, .int x2)] := hl
  refine lv_aload_n hx hb dX12_lineEnd_0 rfl (lv_at hl 0 rfl) ?_
  refine lv_iload_n hx hb dX12_lineEnd_1 rfl (lv_at hl 1 rfl) ?_
  refine lv_iload_n hx hb dX12_lineEnd_2 rfl (lv_at hl 2 rfl) ?_
  refine lv_iload_n hx hb dX12_lineEnd_3 rfl (lv_at hl 3 rfl) ?_
  refine x_callV (rest := []) (wr := []) (m_noLine l dC dI k mo V v x1 x2 h9) B mV_X12_noLine mw_2500 hl [0] [] rfl rfl ⟨by decide, by decide⟩ (by decide) (q0 := 0) rfl rfl rfl ⟨Nat.le_of_ble_eq_true rfl, Nat.le_of_ble_eq_true rfl⟩ (Nat.le_of_ble_eq_true rfl) rfl dX12_lineEnd_4 ⟨Nat.le_of_ble_eq_true rfl, Nat.le_of_ble_eq_true rfl⟩ (fun r w H locs hp B => ?_)
  obtain ⟨V1_1, z_2, rfl, rfl⟩ := hp
  have B := bd_to (ws' := [(mo, .inr (10, fvM V1_1))]) rfl B
  refine lv_if_eq (tgt := 14) hx hb dX12_lineEnd_7 (by decide) (fun c9 => absurd c9 (by decide)) (fun _ => ?_)
  refine lv_iconst (v := 0) hx hb dX12_lineEnd_10 (by decide) ?_
  refine lv_goto (tgt := 40) hx hb dX12_lineEnd_11 (by decide) ?_
  have B := bd_sub (ws' := [(mo, .inr (10, fvM V1_1))]) [0] (by decide) rfl B
  exact x_iret B hr (⟨V1_1, z_2, rfl, rfl⟩) (Nat.le_of_ble_eq_true rfl) (Nat.le_of_ble_eq_true rfl) dX12_lineEnd_40

theorem dX12_tightness_0 : decode cX12_tightness 0 = .ok (.aload_n 0, 1) := by decide +kernel
theorem dX12_tightness_1 : decode cX12_tightness 1 = .ok (.iload_n 1, 1) := by decide +kernel
theorem dX12_tightness_2 : decode cX12_tightness 2 = .ok (.iload_n 2, 1) := by decide +kernel
theorem dX12_tightness_3 : decode cX12_tightness 3 = .ok (.iload_n 3, 1) := by decide +kernel
theorem dX12_tightness_4 : decode cX12_tightness 4 = .ok (.invokevirtual 514, 3) := by decide +kernel
theorem dX12_tightness_7 : decode cX12_tightness 7 = .ok (.ifCond .eq 7, 3) := by decide +kernel
theorem dX12_tightness_10 : decode cX12_tightness 10 = .ok (.iconst 0, 1) := by decide +kernel
theorem dX12_tightness_11 : decode cX12_tightness 11 = .ok (.goto 14, 3) := by decide +kernel
theorem dX12_tightness_25 : decode cX12_tightness 25 = .ok (.ireturn, 1) := by decide +kernel
set_option maxHeartbeats 4000000 in
set_option maxRecDepth 100000 in
theorem m_tightness (l : Launch) (dC : Nat → ClassId) (dI : Nat → Nat → Nat) (k : Nat → ClassId) (mo : Nat) (V : Nat → Value) (v : Int32) (x1 : Int32) (x2 : Int32) (h9 : V 9 = .int 0) : Ct l dC dI k yX12_tightness (.code yX12_tightness cX12_tightness 4 (some .int)) ({ frames := 4, cells := 0, slots := 0, locals := 88 } : Room) [.ref mo, .int v, .int x1, .int x2] [(mo, .inr (10, fvM V))] (fun r w => (∃ (V1 : Nat → Value), V1 0 = .int 1 ∧ r = some (.int 0) ∧ w = [(mo, .inr (10, fvM V1))])) := by
  refine ct_of (by decide) (Nat.le_of_ble_eq_true rfl) ?_
  intro p e s m args below meth c H locs B hr hnm ls hl
  have hx := B.1.1
  have hb := B.1.2.1
  have hl : lv_has ls 4 [(0, .ref mo), (1, .int v), (2, .int x1), (3, .int x2)] := hl
  refine lv_aload_n hx hb dX12_tightness_0 rfl (lv_at hl 0 rfl) ?_
  refine lv_iload_n hx hb dX12_tightness_1 rfl (lv_at hl 1 rfl) ?_
  refine lv_iload_n hx hb dX12_tightness_2 rfl (lv_at hl 2 rfl) ?_
  refine lv_iload_n hx hb dX12_tightness_3 rfl (lv_at hl 3 rfl) ?_
  refine x_callV (rest := []) (wr := []) (m_noLine l dC dI k mo V v x1 x2 h9) B mV_X12_noLine mw_2500 hl [0] [] rfl rfl ⟨by decide, by decide⟩ (by decide) (q0 := 0) rfl rfl rfl ⟨Nat.le_of_ble_eq_true rfl, Nat.le_of_ble_eq_true rfl⟩ (Nat.le_of_ble_eq_true rfl) rfl dX12_tightness_4 ⟨Nat.le_of_ble_eq_true rfl, Nat.le_of_ble_eq_true rfl⟩ (fun r w H locs hp B => ?_)
  obtain ⟨V1_1, z_2, rfl, rfl⟩ := hp
  have B := bd_to (ws' := [(mo, .inr (10, fvM V1_1))]) rfl B
  refine lv_if_eq (tgt := 14) hx hb dX12_tightness_7 (by decide) (fun c9 => absurd c9 (by decide)) (fun _ => ?_)
  refine lv_iconst (v := 0) hx hb dX12_tightness_10 (by decide) ?_
  refine lv_goto (tgt := 25) hx hb dX12_tightness_11 (by decide) ?_
  have B := bd_sub (ws' := [(mo, .inr (10, fvM V1_1))]) [0] (by decide) rfl B
  exact x_iret B hr (⟨V1_1, z_2, rfl, rfl⟩) (Nat.le_of_ble_eq_true rfl) (Nat.le_of_ble_eq_true rfl) dX12_tightness_25

theorem dX12_whereIs_0 : decode cX12_whereIs 0 = .ok (.iload_n 1, 1) := by decide +kernel
theorem dX12_whereIs_1 : decode cX12_whereIs 1 = .ok (.invokestatic 292, 3) := by decide +kernel
theorem dX12_whereIs_4 : decode cX12_whereIs 4 = .ok (.ifCond .eq 16, 3) := by decide +kernel
theorem dX12_whereIs_7 : decode cX12_whereIs 7 = .ok (.aload_n 0, 1) := by decide +kernel
theorem dX12_whereIs_8 : decode cX12_whereIs 8 = .ok (.iload_n 2, 1) := by decide +kernel
theorem dX12_whereIs_9 : decode cX12_whereIs 9 = .ok (.iload_n 3, 1) := by decide +kernel
theorem dX12_whereIs_10 : decode cX12_whereIs 10 = .ok (.invokevirtual 268, 3) := by decide +kernel
theorem dX12_whereIs_13 : decode cX12_whereIs 13 = .ok (.ifCond .eq 7, 3) := by decide +kernel
theorem dX12_whereIs_20 : decode cX12_whereIs 20 = .ok (.iconst 0, 1) := by decide +kernel
theorem dX12_whereIs_21 : decode cX12_whereIs 21 = .ok (.istore 4, 2) := by decide +kernel
theorem dX12_whereIs_23 : decode cX12_whereIs 23 = .ok (.aload_n 0, 1) := by decide +kernel
theorem dX12_whereIs_24 : decode cX12_whereIs 24 = .ok (.iload 4, 2) := by decide +kernel
theorem dX12_whereIs_26 : decode cX12_whereIs 26 = .ok (.ifCond .eq 7, 3) := by decide +kernel
theorem dX12_whereIs_33 : decode cX12_whereIs 33 = .ok (.iconst 1, 1) := by decide +kernel
theorem dX12_whereIs_34 : decode cX12_whereIs 34 = .ok (.invokevirtual 240, 3) := by decide +kernel
theorem dX12_whereIs_37 : decode cX12_whereIs 37 = .ok (.ifCond .eq 5, 3) := by decide +kernel
theorem dX12_whereIs_40 : decode cX12_whereIs 40 = .ok (.iconst 0, 1) := by decide +kernel
theorem dX12_whereIs_41 : decode cX12_whereIs 41 = .ok (.ireturn, 1) := by decide +kernel
set_option maxHeartbeats 4000000 in
set_option maxRecDepth 100000 in
theorem m_whereIs (l : Launch) (dC : Nat → ClassId) (dI : Nat → Nat → Nat) (k : Nat → ClassId) (mo : Nat) (V : Nat → Value) (v : Int32) (x1 : Int32) (x2 : Int32) (h9 : V 9 = .int 0) : Ct l dC dI k yX12_whereIs (.code yX12_whereIs cX12_whereIs 6 (some .int)) ({ frames := 3, cells := 0, slots := 0, locals := 65 } : Room) [.ref mo, .int v, .int x1, .int x2] [(mo, .inr (10, fvM V))] (fun r w => (∃ (V1 : Nat → Value), V1 0 = .int 1 ∧ r = some (.int 0) ∧ w = [(mo, .inr (10, fvM V1))])) := by
  refine ct_of (by decide) (Nat.le_of_ble_eq_true rfl) ?_
  intro p e s m args below meth c H locs B hr hnm ls hl
  have hx := B.1.1
  have hb := B.1.2.1
  have hl : lv_has ls 6 [(0, .ref mo), (1, .int v), (2, .int x1), (3, .int x2)] := hl
  refine lv_iload_n hx hb dX12_whereIs_0 rfl (lv_at hl 1 rfl) ?_
  refine x_callS (rest := []) (wr := [(mo, .inr (10, fvM V))]) (m_isVariant l dC dI k v) B mS_X12_isVariant mw_2271 hl [] [0] rfl rfl ⟨by decide, by decide⟩ (by decide) ⟨Nat.le_of_ble_eq_true rfl, Nat.le_of_ble_eq_true rfl⟩ (Nat.le_of_ble_eq_true rfl) rfl dX12_whereIs_1 ⟨Nat.le_of_ble_eq_true rfl, Nat.le_of_ble_eq_true rfl⟩ (fun r w H locs hp B => ?_)
  rcases hp with ⟨z_1, rfl, rfl⟩ | ⟨z_2, rfl, rfl⟩
  · skip
    have B := bd_to (ws' := [(mo, .inr (10, fvM V))]) rfl B
    refine lv_if_eq (tgt := 20) hx hb dX12_whereIs_4 (by decide) (fun c9 => absurd c9 (by decide)) (fun _ => ?_)
    refine lv_aload_n hx hb dX12_whereIs_7 rfl (lv_at hl 0 rfl) ?_
    refine lv_iload_n hx hb dX12_whereIs_8 rfl (lv_at hl 2 rfl) ?_
    refine lv_iload_n hx hb dX12_whereIs_9 rfl (lv_at hl 3 rfl) ?_
    refine x_callV (rest := []) (wr := []) (m_isWord l dC dI k mo V x1 x2 h9) B mV_X12_isWord mw_2207 hl [0] [] rfl rfl ⟨by decide, by decide⟩ (by decide) (q0 := 0) rfl rfl rfl ⟨Nat.le_of_ble_eq_true rfl, Nat.le_of_ble_eq_true rfl⟩ (Nat.le_of_ble_eq_true rfl) rfl dX12_whereIs_10 ⟨Nat.le_of_ble_eq_true rfl, Nat.le_of_ble_eq_true rfl⟩ (fun r w H locs hp B => ?_)
    obtain ⟨rfl, rfl⟩ := hp
    have B := bd_to (ws' := [(mo, .inr (10, fvM V))]) rfl B
    refine lv_if_eq (tgt := 20) hx hb dX12_whereIs_13 (by decide) (fun _ => ?_) (fun c9 => absurd (by decide) c9)
    refine lv_iconst (v := 0) hx hb dX12_whereIs_20 (by decide) ?_
    refine lv_istore (lv' := [(4, .int 0), (0, .ref mo), (1, .int v), (2, .int x1), (3, .int x2)]) hx hb dX12_whereIs_21 hl (by decide) rfl (fun ls hl => ?_)
    refine lv_aload_n hx hb dX12_whereIs_23 rfl (lv_at hl 1 rfl) ?_
    refine lv_iload hx hb dX12_whereIs_24 (lv_at hl 0 rfl) ?_
    refine lv_if_eq (tgt := 33) hx hb dX12_whereIs_26 (by decide) (fun _ => ?_) (fun c9 => absurd (by decide) c9)
    refine lv_iconst (v := 1) hx hb dX12_whereIs_33 (by decide) ?_
    refine x_callV (rest := []) (wr := []) (m_refused1 l dC dI k mo V) B mV_X12_refused mw_2155 hl [0] [] rfl rfl ⟨by decide, by decide⟩ (by decide) (q0 := 0) rfl rfl rfl ⟨Nat.le_of_ble_eq_true rfl, Nat.le_of_ble_eq_true rfl⟩ (Nat.le_of_ble_eq_true rfl) rfl dX12_whereIs_34 ⟨Nat.le_of_ble_eq_true rfl, Nat.le_of_ble_eq_true rfl⟩ (fun r w H locs hp B => ?_)
    obtain ⟨V1_3, z_4, z_5, rfl, rfl⟩ := hp
    have B := bd_to (ws' := [(mo, .inr (10, fvM V1_3))]) rfl B
    refine lv_if_eq (tgt := 42) hx hb dX12_whereIs_37 (by decide) (fun c9 => absurd c9 (by decide)) (fun _ => ?_)
    refine lv_iconst (v := 0) hx hb dX12_whereIs_40 (by decide) ?_
    have B := bd_sub (ws' := [(mo, .inr (10, fvM V1_3))]) [0] (by decide) rfl B
    exact x_iret B hr (⟨V1_3, z_5, rfl, rfl⟩) (Nat.le_of_ble_eq_true rfl) (Nat.le_of_ble_eq_true rfl) dX12_whereIs_41
  · skip
    have B := bd_to (ws' := [(mo, .inr (10, fvM V))]) rfl B
    refine lv_if_eq (tgt := 20) hx hb dX12_whereIs_4 (by decide) (fun _ => ?_) (fun c9 => absurd (by decide) c9)
    refine lv_iconst (v := 0) hx hb dX12_whereIs_20 (by decide) ?_
    refine lv_istore (lv' := [(4, .int 0), (0, .ref mo), (1, .int v), (2, .int x1), (3, .int x2)]) hx hb dX12_whereIs_21 hl (by decide) rfl (fun ls hl => ?_)
    refine lv_aload_n hx hb dX12_whereIs_23 rfl (lv_at hl 1 rfl) ?_
    refine lv_iload hx hb dX12_whereIs_24 (lv_at hl 0 rfl) ?_
    refine lv_if_eq (tgt := 33) hx hb dX12_whereIs_26 (by decide) (fun _ => ?_) (fun c9 => absurd (by decide) c9)
    refine lv_iconst (v := 1) hx hb dX12_whereIs_33 (by decide) ?_
    refine x_callV (rest := []) (wr := []) (m_refused1 l dC dI k mo V) B mV_X12_refused mw_2155 hl [0] [] rfl rfl ⟨by decide, by decide⟩ (by decide) (q0 := 0) rfl rfl rfl ⟨Nat.le_of_ble_eq_true rfl, Nat.le_of_ble_eq_true rfl⟩ (Nat.le_of_ble_eq_true rfl) rfl dX12_whereIs_34 ⟨Nat.le_of_ble_eq_true rfl, Nat.le_of_ble_eq_true rfl⟩ (fun r w H locs hp B => ?_)
    obtain ⟨V1_6, z_7, z_8, rfl, rfl⟩ := hp
    have B := bd_to (ws' := [(mo, .inr (10, fvM V1_6))]) rfl B
    refine lv_if_eq (tgt := 42) hx hb dX12_whereIs_37 (by decide) (fun c9 => absurd c9 (by decide)) (fun _ => ?_)
    refine lv_iconst (v := 0) hx hb dX12_whereIs_40 (by decide) ?_
    have B := bd_sub (ws' := [(mo, .inr (10, fvM V1_6))]) [0] (by decide) rfl B
    exact x_iret B hr (⟨V1_6, z_8, rfl, rfl⟩) (Nat.le_of_ble_eq_true rfl) (Nat.le_of_ble_eq_true rfl) dX12_whereIs_41

theorem mw_2546 : (Jvm.Cond.methodLink "GalleyforgeModel" (525 : Nat) ({ cls := "GalleyforgeModel", name := "noPage", desc := "(II)Z" } : Jvm.MethodName)) ∈ gt := gt_at 2681 (by decide +kernel) (by decide +kernel)
theorem mw_2548 : (Jvm.Cond.instanceMethod ({ cls := "GalleyforgeModel", name := "noPage", desc := "(II)Z" } : Jvm.MethodName)) ∈ gt := gt_at 2683 (by decide +kernel) (by decide +kernel)
theorem mw_2549 : (Jvm.Cond.code ({ cls := "GalleyforgeModel", name := "noPage", desc := "(II)Z" } : Jvm.MethodName) prog_14_method_96_code (3 : Nat) (Option.some Jvm.ClassFile.FieldType.boolean)) ∈ gt := gt_at 2684 (by decide +kernel) (by decide +kernel)
theorem ms_133 : Cond.selects "GalleyforgeModel" (⟨"GalleyforgeModel", "noPage", "(II)Z"⟩ : MethodName) (⟨"GalleyforgeModel", "noPage", "(II)Z"⟩ : MethodName) ∈ gt := gt_at 133 (by decide +kernel) (by decide +kernel)
theorem mV_X12_noPage : mV yX12_noPage cX12_noPage 3 (some .boolean) 2 := ⟨⟨mw_2549, mw_13, by decide, by decide, by decide +kernel⟩, mw_2548, ms_133⟩
theorem dX12_on_0 : decode cX12_on 0 = .ok (.aload_n 0, 1) := by decide +kernel
theorem dX12_on_1 : decode cX12_on 1 = .ok (.iload_n 1, 1) := by decide +kernel
theorem dX12_on_2 : decode cX12_on 2 = .ok (.iload_n 2, 1) := by decide +kernel
theorem dX12_on_3 : decode cX12_on 3 = .ok (.invokevirtual 525, 3) := by decide +kernel
theorem dX12_on_6 : decode cX12_on 6 = .ok (.ifCond .ne 24, 3) := by decide +kernel
theorem dX12_on_30 : decode cX12_on 30 = .ok (.iconst 0, 1) := by decide +kernel
theorem dX12_on_31 : decode cX12_on 31 = .ok (.ireturn, 1) := by decide +kernel
set_option maxHeartbeats 4000000 in
set_option maxRecDepth 100000 in
theorem m_on (l : Launch) (dC : Nat → ClassId) (dI : Nat → Nat → Nat) (k : Nat → ClassId) (mo : Nat) (V : Nat → Value) (aDg : Nat) (aRn : Nat) (aSo : Nat) (aHi : Nat) (aNr : Nat) (aNw : Nat) (aNl : Nat) (aNc : Nat) (aNp : Nat) (aNq : Nat) (aNs : Nat) (aNn : Nat) (v : Int32) (x1 : Int32) (x2 : Int32) (h9 : V 9 = .int 0) (h21 : V 21 = .int 0) (h47 : V 47 = .ref aDg) (h77 : V 77 = .ref aRn) (h80 : V 80 = .int (-1)) (h90 : V 90 = .ref aSo) (h92 : V 92 = .ref aHi) (h69 : V 69 = .ref aNr) (h70 : V 70 = .ref aNw) (h71 : V 71 = .ref aNl) (h72 : V 72 = .ref aNc) (h73 : V 73 = .ref aNp) (h74 : V 74 = .ref aNq) (h75 : V 75 = .ref aNs) (h76 : V 76 = .ref aNn) : Ct l dC dI k yX12_on (.code yX12_on cX12_on 4 (some .int)) ({ frames := 7, cells := 0, slots := 0, locals := 168 } : Room) [.ref mo, .int v, .int x1, .int x2] [(mo, .inr (10, fvM V)), (aNr, .inl (k 0, 16000, .inl (fun _ => 0))), (aNw, .inl (k 0, 16000, .inl (fun _ => 0))), (aNl, .inl (k 0, 16000, .inl (fun _ => 0))), (aNc, .inl (k 0, 16000, .inl (fun _ => 0))), (aNp, .inl (k 0, 16000, .inl (fun _ => 0))), (aNq, .inl (k 0, 16000, .inl (fun _ => 0))), (aNs, .inl (k 0, 16000, .inl (fun _ => 0))), (aNn, .inl (k 0, 16000, .inl (fun _ => 0))), (aRn, .inl (k 0, 769, .inl (fun _ => 0))), (aSo, .inl (k 0, 5, .inl (fun _ => 0))), (aDg, .inl (k 0, 6, .inl (fun _ => 0))), (aHi, .inl (k 0, 800, .inl (fun _ => 0)))] (fun r w => (∃ (V1 : Nat → Value), V1 0 = .int 1 ∧ r = some (.int 0) ∧ w = [(mo, .inr (10, fvM V1))])) := by
  refine ct_of (by decide) (Nat.le_of_ble_eq_true rfl) ?_
  intro p e s m args below meth c H locs B hr hnm ls hl
  have hx := B.1.1
  have hb := B.1.2.1
  have hl : lv_has ls 4 [(0, .ref mo), (1, .int v), (2, .int x1), (3, .int x2)] := hl
  refine lv_aload_n hx hb dX12_on_0 rfl (lv_at hl 0 rfl) ?_
  refine lv_iload_n hx hb dX12_on_1 rfl (lv_at hl 1 rfl) ?_
  refine lv_iload_n hx hb dX12_on_2 rfl (lv_at hl 2 rfl) ?_
  refine x_callV (rest := []) (wr := []) (m_noPage l dC dI k mo V aDg aRn aSo aHi aNr aNw aNl aNc aNp aNq aNs aNn v x1 h9 h21 h47 h77 h80 h90 h92 h69 h70 h71 h72 h73 h74 h75 h76) B mV_X12_noPage mw_2546 hl [0, 1, 2, 3, 4, 5, 6, 7, 8, 9, 10, 11, 12] [] rfl rfl ⟨by decide, by decide⟩ (by decide) (q0 := 0) rfl rfl rfl ⟨Nat.le_of_ble_eq_true rfl, Nat.le_of_ble_eq_true rfl⟩ (Nat.le_of_ble_eq_true rfl) rfl dX12_on_3 ⟨Nat.le_of_ble_eq_true rfl, Nat.le_of_ble_eq_true rfl⟩ (fun r w H locs hp B => ?_)
  obtain ⟨V1_1, z_2, rfl, rfl⟩ := hp
  have B := bd_to (ws' := [(mo, .inr (10, fvM V1_1))]) rfl B
  refine lv_if_ne (tgt := 30) hx hb dX12_on_6 (by decide) (fun _ => ?_) (fun c9 => absurd c9 (by decide))
  refine lv_iconst (v := 0) hx hb dX12_on_30 (by decide) ?_
  have B := bd_sub (ws' := [(mo, .inr (10, fvM V1_1))]) [0] (by decide) rfl B
  exact x_iret B hr (⟨V1_1, z_2, rfl, rfl⟩) (Nat.le_of_ble_eq_true rfl) (Nat.le_of_ble_eq_true rfl) dX12_on_31

theorem dX12_head_0 : decode cX12_head 0 = .ok (.aload_n 0, 1) := by decide +kernel
theorem dX12_head_1 : decode cX12_head 1 = .ok (.iload_n 1, 1) := by decide +kernel
theorem dX12_head_2 : decode cX12_head 2 = .ok (.iload_n 2, 1) := by decide +kernel
theorem dX12_head_3 : decode cX12_head 3 = .ok (.invokevirtual 525, 3) := by decide +kernel
theorem dX12_head_6 : decode cX12_head 6 = .ok (.ifCond .eq 5, 3) := by decide +kernel
theorem dX12_head_9 : decode cX12_head 9 = .ok (.iconst 0, 1) := by decide +kernel
theorem dX12_head_10 : decode cX12_head 10 = .ok (.ireturn, 1) := by decide +kernel
set_option maxHeartbeats 4000000 in
set_option maxRecDepth 100000 in
theorem m_head (l : Launch) (dC : Nat → ClassId) (dI : Nat → Nat → Nat) (k : Nat → ClassId) (mo : Nat) (V : Nat → Value) (aDg : Nat) (aRn : Nat) (aSo : Nat) (aHi : Nat) (aNr : Nat) (aNw : Nat) (aNl : Nat) (aNc : Nat) (aNp : Nat) (aNq : Nat) (aNs : Nat) (aNn : Nat) (v : Int32) (x1 : Int32) (h9 : V 9 = .int 0) (h21 : V 21 = .int 0) (h47 : V 47 = .ref aDg) (h77 : V 77 = .ref aRn) (h80 : V 80 = .int (-1)) (h90 : V 90 = .ref aSo) (h92 : V 92 = .ref aHi) (h69 : V 69 = .ref aNr) (h70 : V 70 = .ref aNw) (h71 : V 71 = .ref aNl) (h72 : V 72 = .ref aNc) (h73 : V 73 = .ref aNp) (h74 : V 74 = .ref aNq) (h75 : V 75 = .ref aNs) (h76 : V 76 = .ref aNn) : Ct l dC dI k yX12_head (.code yX12_head cX12_head 7 (some .int)) ({ frames := 7, cells := 0, slots := 0, locals := 168 } : Room) [.ref mo, .int v, .int x1] [(mo, .inr (10, fvM V)), (aNr, .inl (k 0, 16000, .inl (fun _ => 0))), (aNw, .inl (k 0, 16000, .inl (fun _ => 0))), (aNl, .inl (k 0, 16000, .inl (fun _ => 0))), (aNc, .inl (k 0, 16000, .inl (fun _ => 0))), (aNp, .inl (k 0, 16000, .inl (fun _ => 0))), (aNq, .inl (k 0, 16000, .inl (fun _ => 0))), (aNs, .inl (k 0, 16000, .inl (fun _ => 0))), (aNn, .inl (k 0, 16000, .inl (fun _ => 0))), (aRn, .inl (k 0, 769, .inl (fun _ => 0))), (aSo, .inl (k 0, 5, .inl (fun _ => 0))), (aDg, .inl (k 0, 6, .inl (fun _ => 0))), (aHi, .inl (k 0, 800, .inl (fun _ => 0)))] (fun r w => (∃ (V1 : Nat → Value), V1 0 = .int 1 ∧ r = some (.int 0) ∧ w = [(mo, .inr (10, fvM V1))])) := by
  refine ct_of (by decide) (Nat.le_of_ble_eq_true rfl) ?_
  intro p e s m args below meth c H locs B hr hnm ls hl
  have hx := B.1.1
  have hb := B.1.2.1
  have hl : lv_has ls 7 [(0, .ref mo), (1, .int v), (2, .int x1)] := hl
  refine lv_aload_n hx hb dX12_head_0 rfl (lv_at hl 0 rfl) ?_
  refine lv_iload_n hx hb dX12_head_1 rfl (lv_at hl 1 rfl) ?_
  refine lv_iload_n hx hb dX12_head_2 rfl (lv_at hl 2 rfl) ?_
  refine x_callV (rest := []) (wr := []) (m_noPage l dC dI k mo V aDg aRn aSo aHi aNr aNw aNl aNc aNp aNq aNs aNn v x1 h9 h21 h47 h77 h80 h90 h92 h69 h70 h71 h72 h73 h74 h75 h76) B mV_X12_noPage mw_2546 hl [0, 1, 2, 3, 4, 5, 6, 7, 8, 9, 10, 11, 12] [] rfl rfl ⟨by decide, by decide⟩ (by decide) (q0 := 0) rfl rfl rfl ⟨Nat.le_of_ble_eq_true rfl, Nat.le_of_ble_eq_true rfl⟩ (Nat.le_of_ble_eq_true rfl) rfl dX12_head_3 ⟨Nat.le_of_ble_eq_true rfl, Nat.le_of_ble_eq_true rfl⟩ (fun r w H locs hp B => ?_)
  obtain ⟨V1_1, z_2, rfl, rfl⟩ := hp
  have B := bd_to (ws' := [(mo, .inr (10, fvM V1_1))]) rfl B
  refine lv_if_eq (tgt := 11) hx hb dX12_head_6 (by decide) (fun c9 => absurd c9 (by decide)) (fun _ => ?_)
  refine lv_iconst (v := 0) hx hb dX12_head_9 (by decide) ?_
  have B := bd_sub (ws' := [(mo, .inr (10, fvM V1_1))]) [0] (by decide) rfl B
  exact x_iret B hr (⟨V1_1, z_2, rfl, rfl⟩) (Nat.le_of_ble_eq_true rfl) (Nat.le_of_ble_eq_true rfl) dX12_head_10

theorem dX12_textAt_0 : decode cX12_textAt 0 = .ok (.aload_n 0, 1) := by decide +kernel
theorem dX12_textAt_1 : decode cX12_textAt 1 = .ok (.iload_n 1, 1) := by decide +kernel
theorem dX12_textAt_2 : decode cX12_textAt 2 = .ok (.iload_n 2, 1) := by decide +kernel
theorem dX12_textAt_3 : decode cX12_textAt 3 = .ok (.invokevirtual 525, 3) := by decide +kernel
theorem dX12_textAt_6 : decode cX12_textAt 6 = .ok (.ifCond .ne 33, 3) := by decide +kernel
theorem dX12_textAt_39 : decode cX12_textAt 39 = .ok (.iconst 0, 1) := by decide +kernel
theorem dX12_textAt_40 : decode cX12_textAt 40 = .ok (.ireturn, 1) := by decide +kernel
set_option maxHeartbeats 4000000 in
set_option maxRecDepth 100000 in
theorem m_textAt (l : Launch) (dC : Nat → ClassId) (dI : Nat → Nat → Nat) (k : Nat → ClassId) (mo : Nat) (V : Nat → Value) (aDg : Nat) (aRn : Nat) (aSo : Nat) (aHi : Nat) (aNr : Nat) (aNw : Nat) (aNl : Nat) (aNc : Nat) (aNp : Nat) (aNq : Nat) (aNs : Nat) (aNn : Nat) (v : Int32) (x1 : Int32) (x2 : Int32) (h9 : V 9 = .int 0) (h21 : V 21 = .int 0) (h47 : V 47 = .ref aDg) (h77 : V 77 = .ref aRn) (h80 : V 80 = .int (-1)) (h90 : V 90 = .ref aSo) (h92 : V 92 = .ref aHi) (h69 : V 69 = .ref aNr) (h70 : V 70 = .ref aNw) (h71 : V 71 = .ref aNl) (h72 : V 72 = .ref aNc) (h73 : V 73 = .ref aNp) (h74 : V 74 = .ref aNq) (h75 : V 75 = .ref aNs) (h76 : V 76 = .ref aNn) : Ct l dC dI k yX12_textAt (.code yX12_textAt cX12_textAt 5 (some .int)) ({ frames := 7, cells := 0, slots := 0, locals := 168 } : Room) [.ref mo, .int v, .int x1, .int x2] [(mo, .inr (10, fvM V)), (aNr, .inl (k 0, 16000, .inl (fun _ => 0))), (aNw, .inl (k 0, 16000, .inl (fun _ => 0))), (aNl, .inl (k 0, 16000, .inl (fun _ => 0))), (aNc, .inl (k 0, 16000, .inl (fun _ => 0))), (aNp, .inl (k 0, 16000, .inl (fun _ => 0))), (aNq, .inl (k 0, 16000, .inl (fun _ => 0))), (aNs, .inl (k 0, 16000, .inl (fun _ => 0))), (aNn, .inl (k 0, 16000, .inl (fun _ => 0))), (aRn, .inl (k 0, 769, .inl (fun _ => 0))), (aSo, .inl (k 0, 5, .inl (fun _ => 0))), (aDg, .inl (k 0, 6, .inl (fun _ => 0))), (aHi, .inl (k 0, 800, .inl (fun _ => 0)))] (fun r w => (∃ (V1 : Nat → Value), V1 0 = .int 1 ∧ r = some (.int 0) ∧ w = [(mo, .inr (10, fvM V1))])) := by
  refine ct_of (by decide) (Nat.le_of_ble_eq_true rfl) ?_
  intro p e s m args below meth c H locs B hr hnm ls hl
  have hx := B.1.1
  have hb := B.1.2.1
  have hl : lv_has ls 5 [(0, .ref mo), (1, .int v), (2, .int x1), (3, .int x2)] := hl
  refine lv_aload_n hx hb dX12_textAt_0 rfl (lv_at hl 0 rfl) ?_
  refine lv_iload_n hx hb dX12_textAt_1 rfl (lv_at hl 1 rfl) ?_
  refine lv_iload_n hx hb dX12_textAt_2 rfl (lv_at hl 2 rfl) ?_
  refine x_callV (rest := []) (wr := []) (m_noPage l dC dI k mo V aDg aRn aSo aHi aNr aNw aNl aNc aNp aNq aNs aNn v x1 h9 h21 h47 h77 h80 h90 h92 h69 h70 h71 h72 h73 h74 h75 h76) B mV_X12_noPage mw_2546 hl [0, 1, 2, 3, 4, 5, 6, 7, 8, 9, 10, 11, 12] [] rfl rfl ⟨by decide, by decide⟩ (by decide) (q0 := 0) rfl rfl rfl ⟨Nat.le_of_ble_eq_true rfl, Nat.le_of_ble_eq_true rfl⟩ (Nat.le_of_ble_eq_true rfl) rfl dX12_textAt_3 ⟨Nat.le_of_ble_eq_true rfl, Nat.le_of_ble_eq_true rfl⟩ (fun r w H locs hp B => ?_)
  obtain ⟨V1_1, z_2, rfl, rfl⟩ := hp
  have B := bd_to (ws' := [(mo, .inr (10, fvM V1_1))]) rfl B
  refine lv_if_ne (tgt := 39) hx hb dX12_textAt_6 (by decide) (fun _ => ?_) (fun c9 => absurd c9 (by decide))
  refine lv_iconst (v := 0) hx hb dX12_textAt_39 (by decide) ?_
  have B := bd_sub (ws' := [(mo, .inr (10, fvM V1_1))]) [0] (by decide) rfl B
  exact x_iret B hr (⟨V1_1, z_2, rfl, rfl⟩) (Nat.le_of_ble_eq_true rfl) (Nat.le_of_ble_eq_true rfl) dX12_textAt_40

end
