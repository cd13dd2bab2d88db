section
set_option maxHeartbeats 4000000 in
set_option maxRecDepth 100000 in
theorem m_in_0_3 (l : Launch) (dC : Nat → ClassId) (dI : Nat → Nat → Nat) (k : Nat → ClassId) (x1 : Int32) : Ct l dC dI k yX12_in (.code yX12_in cX12_in 3 (some .boolean)) ({ frames := 0, cells := 0, slots := 0, locals := 0 } : Room) [.int x1, .int 0, .int 3] [] (fun r w => ((0 ≤ x1.toInt ∧ x1.toInt ≤ 3) ∧ r = some (.int 1) ∧ w = []) ∨ (¬ (0 ≤ x1.toInt ∧ x1.toInt ≤ 3) ∧ r = some (.int 0) ∧ w = [])) := by
  refine ct_of (by decide) (Nat.le_of_ble_eq_true rfl) ?_
  intro p e s m args below meth c H locs B hr hnm ls hl
  have hx := B.1.1
  have hb := B.1.2.1
  have hl : lv_has ls 3 [(0, .int x1), (1, .int 0), (2, .int 3)] := hl
  refine lv_iload_n hx hb dX12_in_0 rfl (lv_at hl 0 rfl) ?_
  refine lv_iload_n hx hb dX12_in_1 rfl (lv_at hl 1 rfl) ?_
  refine lv_icmp_lt (tgt := 14) hx hb dX12_in_2 (by decide) (fun c_1 => ?_) (fun c_1 => ?_)
  · have zc_1 : x1.toInt < 0 := zlt c_1
    refine lv_iconst (v := 0) hx hb dX12_in_14 (by decide) ?_
    have B := bd_sub (ws' := []) [] (by decide) rfl B
    exact x_zret B hr (by decide) (Or.inr (⟨by omega, rfl, rfl⟩)) (Nat.le_of_ble_eq_true rfl) (Nat.le_of_ble_eq_true rfl) dX12_in_15
  · have zc_1 : 0 ≤ x1.toInt := znlt c_1
    refine lv_iload_n hx hb dX12_in_5 rfl (lv_at hl 0 rfl) ?_
    refine lv_iload_n hx hb dX12_in_6 rfl (lv_at hl 2 rfl) ?_
    refine lv_icmp_gt (tgt := 14) hx hb dX12_in_7 (by decide) (fun c_2 => ?_) (fun c_2 => ?_)
    · have zc_2 : 3 < x1.toInt := zgt c_2
      refine lv_iconst (v := 0) hx hb dX12_in_14 (by decide) ?_
      have B := bd_sub (ws' := []) [] (by decide) rfl B
      exact x_zret B hr (by decide) (Or.inr (⟨by omega, rfl, rfl⟩)) (Nat.le_of_ble_eq_true rfl) (Nat.le_of_ble_eq_true rfl) dX12_in_15
    · have zc_2 : x1.toInt ≤ 3 := zngt c_2
      refine lv_iconst (v := 1) hx hb dX12_in_10 (by decide) ?_
      refine lv_goto (tgt := 15) hx hb dX12_in_11 (by decide) ?_
      have B := bd_sub (ws' := []) [] (by decide) rfl B
      exact x_zret B hr (by decide) (Or.inl (⟨by omega, rfl, rfl⟩)) (Nat.le_of_ble_eq_true rfl) (Nat.le_of_ble_eq_true rfl) dX12_in_15

theorem mw_1865 : (Jvm.Cond.fieldLink "GalleyforgeModel" (237 : Nat) "GalleyforgeModel" "spelled" "I") ∈ gt := gt_at 2000 (by decide +kernel) (by decide +kernel)
theorem mw_1866 : (Jvm.Cond.fieldLink "GalleyforgeModel" (7 : Nat) "GalleyforgeModel" "spelling" "[I") ∈ gt := gt_at 2001 (by decide +kernel) (by decide +kernel)
theorem mw_2155 : (Jvm.Cond.methodLink "GalleyforgeModel" (240 : Nat) ({ cls := "GalleyforgeModel", name := "refused", desc := "(I)Z" } : Jvm.MethodName)) ∈ gt := gt_at 2290 (by decide +kernel) (by decide +kernel)
theorem mw_2157 : (Jvm.Cond.instanceMethod ({ cls := "GalleyforgeModel", name := "refused", desc := "(I)Z" } : Jvm.MethodName)) ∈ gt := gt_at 2292 (by decide +kernel) (by decide +kernel)
theorem mw_2158 : (Jvm.Cond.code ({ cls := "GalleyforgeModel", name := "refused", desc := "(I)Z" } : Jvm.MethodName) prog_14_method_3_code (2 : Nat) (Option.some Jvm.ClassFile.FieldType.boolean)) ∈ gt := gt_at 2293 (by decide +kernel) (by decide +kernel)
theorem ms_70 : Cond.selects "GalleyforgeModel" (⟨"GalleyforgeModel", "refused", "(I)Z"⟩ : MethodName) (⟨"GalleyforgeModel", "refused", "(I)Z"⟩ : MethodName) ∈ gt := gt_at 70 (by decide +kernel) (by decide +kernel)
theorem mV_X12_refused : mV yX12_refused cX12_refused 2 (some .boolean) 1 := ⟨⟨mw_2158, mw_13, by decide, by decide, by decide +kernel⟩, mw_2157, ms_70⟩
theorem dX12_spell_0 : decode cX12_spell 0 = .ok (.aload_n 0, 1) := by decide +kernel
theorem dX12_spell_1 : decode cX12_spell 1 = .ok (.iload_n 1, 1) := by decide +kernel
theorem dX12_spell_2 : decode cX12_spell 2 = .ok (.iconst 0, 1) := by decide +kernel
theorem dX12_spell_3 : decode cX12_spell 3 = .ok (.iconst 3, 1) := by decide +kernel
theorem dX12_spell_4 : decode cX12_spell 4 = .ok (.invokestatic 229, 3) := by decide +kernel
theorem dX12_spell_7 : decode cX12_spell 7 = .ok (.ifCond .ne 7, 3) := by decide +kernel
theorem dX12_spell_10 : decode cX12_spell 10 = .ok (.iconst 1, 1) := by decide +kernel
theorem dX12_spell_11 : decode cX12_spell 11 = .ok (.goto 17, 3) := by decide +kernel
theorem dX12_spell_14 : decode cX12_spell 14 = .ok (.aload_n 0, 1) := by decide +kernel
theorem dX12_spell_15 : decode cX12_spell 15 = .ok (.getfield 237, 3) := by decide +kernel
theorem dX12_spell_18 : decode cX12_spell 18 = .ok (.bipush 6, 2) := by decide +kernel
theorem dX12_spell_20 : decode cX12_spell 20 = .ok (.if_icmp .ne 7, 3) := by decide +kernel
theorem dX12_spell_27 : decode cX12_spell 27 = .ok (.iconst 0, 1) := by decide +kernel
theorem dX12_spell_28 : decode cX12_spell 28 = .ok (.invokevirtual 240, 3) := by decide +kernel
theorem dX12_spell_31 : decode cX12_spell 31 = .ok (.ifCond .eq 5, 3) := by decide +kernel
theorem dX12_spell_34 : decode cX12_spell 34 = .ok (.iconst 0, 1) := by decide +kernel
theorem dX12_spell_35 : decode cX12_spell 35 = .ok (.ireturn, 1) := by decide +kernel
theorem dX12_spell_36 : decode cX12_spell 36 = .ok (.aload_n 0, 1) := by decide +kernel
theorem dX12_spell_37 : decode cX12_spell 37 = .ok (.getfield 7, 3) := by decide +kernel
theorem dX12_spell_40 : decode cX12_spell 40 = .ok (.aload_n 0, 1) := by decide +kernel
theorem dX12_spell_41 : decode cX12_spell 41 = .ok (.getfield 237, 3) := by decide +kernel
theorem dX12_spell_44 : decode cX12_spell 44 = .ok (.iload_n 1, 1) := by decide +kernel
theorem dX12_spell_45 : decode cX12_spell 45 = .ok (.iastore, 1) := by decide +kernel
theorem dX12_spell_46 : decode cX12_spell 46 = .ok (.aload_n 0, 1) := by decide +kernel
theorem dX12_spell_47 : decode cX12_spell 47 = .ok (.dup, 1) := by decide +kernel
theorem dX12_spell_48 : decode cX12_spell 48 = .ok (.getfield 237, 3) := by decide +kernel
theorem dX12_spell_51 : decode cX12_spell 51 = .ok (.iconst 1, 1) := by decide +kernel
theorem dX12_spell_52 : decode cX12_spell 52 = .ok (.iadd, 1) := by decide +kernel
theorem dX12_spell_53 : decode cX12_spell 53 = .ok (.putfield 237, 3) := by decide +kernel
theorem dX12_spell_56 : decode cX12_spell 56 = .ok (.aload_n 0, 1) := by decide +kernel
theorem dX12_spell_57 : decode cX12_spell 57 = .ok (.getfield 237, 3) := by decide +kernel
theorem dX12_spell_60 : decode cX12_spell 60 = .ok (.ireturn, 1) := by decide +kernel
set_option maxHeartbeats 4000000 in
set_option maxRecDepth 100000 in
theorem m_spell (l : Launch) (dC : Nat → ClassId) (dI : Nat → Nat → Nat) (k : Nat → ClassId) (mo : Nat) (V : Nat → Value) (aSp : Nat) (x1 : Int32) (h1 : V 1 = .int 0) (h2 : V 2 = .ref aSp) : Ct l dC dI k yX12_spell (.code yX12_spell cX12_spell 2 (some .int)) ({ frames := 1, cells := 0, slots := 0, locals := 22 } : Room) [.ref mo, .int x1] [(mo, .inr (10, fvM V)), (aSp, .inl (k 0, 6, .inl (fun _ => 0)))] (fun r w => (∃ (V1 : Nat → Value), (0 ≤ x1.toInt ∧ x1.toInt ≤ 3) ∧ V1 0 = .int 0 ∧ r = some (.int 1) ∧ w = [(mo, .inr (10, fvM V1))]) ∨ (∃ (V1 : Nat → Value), ¬ (0 ≤ x1.toInt ∧ x1.toInt ≤ 3) ∧ V1 0 = .int 1 ∧ r = some (.int 0) ∧ w = [(mo, .inr (10, fvM V1))])) := by
  refine ct_of (by decide) (Nat.le_of_ble_eq_true rfl) ?_
  intro p e s m args below meth c H locs B hr hnm ls hl
  have hx := B.1.1
  have hb := B.1.2.1
  have hl : lv_has ls 2 [(0, .ref mo), (1, .int x1)] := hl
  refine lv_aload_n hx hb dX12_spell_0 rfl (lv_at hl 0 rfl) ?_
  refine lv_iload_n hx hb dX12_spell_1 rfl (lv_at hl 1 rfl) ?_
  refine lv_iconst (v := 0) hx hb dX12_spell_2 (by decide) ?_
  refine lv_iconst (v := 3) hx hb dX12_spell_3 (by decide) ?_
  refine x_callS (rest := [.ref mo]) (wr := [(mo, .inr (10, fvM V)), (aSp, .inl (k 0, 6, .inl (fun _ => 0)))]) (m_in_0_3 l dC dI k x1) B mS_X12_in mw_2152 hl [] [0, 1] rfl rfl ⟨by decide, by decide⟩ (by decide) ⟨Nat.le_of_ble_eq_true rfl, Nat.le_of_ble_eq_true rfl⟩ (Nat.le_of_ble_eq_true rfl) rfl dX12_spell_4 ⟨Nat.le_of_ble_eq_true rfl, Nat.le_of_ble_eq_true rfl⟩ (fun r w H locs hp B => ?_)
  rcases hp with ⟨z_1, rfl, rfl⟩ | ⟨z_2, rfl, rfl⟩
  · skip
    have B := bd_to (ws' := [(mo, .inr (10, fvM V)), (aSp, .inl (k 0, 6, .inl (fun _ => 0)))]) rfl B
    refine lv_if_ne (tgt := 14) hx hb dX12_spell_7 (by decide) (fun _ => ?_) (fun c9 => absurd c9 (by decide))
    refine lv_aload_n hx hb dX12_spell_14 rfl (lv_at hl 0 rfl) ?_
    refine x_get (ci := 10) (C := RX12) (T := TX12) (N := 93) (v := .int 0) B 0 rfl rfl in_X12 1 (by decide) mw_1865 (fun _ h9 => h9) (fvM_get (by decide) h1) dX12_spell_15 ?_
    refine lv_bipush (v := 6) hx hb dX12_spell_18 (by decide) ?_
    refine lv_icmp_ne (tgt := 27) hx hb dX12_spell_20 (by decide) (fun _ => ?_) (fun c9 => absurd c9 (by decide))
    refine lv_iconst (v := 0) hx hb dX12_spell_27 (by decide) ?_
    refine x_callV (rest := []) (wr := [(aSp, .inl (k 0, 6, .inl (fun _ => 0)))]) (m_refused0 l dC dI k mo V) B mV_X12_refused mw_2155 hl [0] [1] rfl rfl ⟨by decide, by decide⟩ (by decide) (q0 := 0) rfl rfl rfl ⟨Nat.le_of_ble_eq_true rfl, Nat.le_of_ble_eq_true rfl⟩ (Nat.le_of_ble_eq_true rfl) rfl dX12_spell_28 ⟨Nat.le_of_ble_eq_true rfl, Nat.le_of_ble_eq_true rfl⟩ (fun r w H locs hp B => ?_)
    obtain ⟨V1_3, z_4, z_5, rfl, rfl⟩ := hp
    have B := bd_to (ws' := [(aSp, .inl (k 0, 6, .inl (fun _ => 0))), (mo, .inr (10, fvM V1_3))]) rfl B
    refine lv_if_eq (tgt := 36) hx hb dX12_spell_31 (by decide) (fun _ => ?_) (fun c9 => absurd (by decide) c9)
    refine lv_aload_n hx hb dX12_spell_36 rfl (lv_at hl 0 rfl) ?_
    refine x_get (ci := 10) (C := RX12) (T := TX12) (N := 93) (v := .ref aSp) B 1 rfl rfl in_X12 2 (by decide) mw_1866 (fun _ h9 => h9) (fvM_get (by decide) ((z_4 2 (by decide)).trans h2)) dX12_spell_37 ?_
    refine lv_aload_n hx hb dX12_spell_40 rfl (lv_at hl 0 rfl) ?_
    refine x_get (ci := 10) (C := RX12) (T := TX12) (N := 93) (v := .int 0) B 1 rfl rfl in_X12 1 (by decide) mw_1865 (fun _ h9 => h9) (fvM_get (by decide) ((z_4 1 (by decide)).trans h1)) dX12_spell_41 ?_
    refine lv_iload_n hx hb dX12_spell_44 rfl (lv_at hl 1 rfl) ?_
    refine x_iast B 0 rfl (vpc (by decide)) dX12_spell_45 (j := 0) (by decide) (fun H locs B => ?_)
    have B := bd_to (ws' := [(aSp, .inl (k 0, 6, .inl (upd (fun _ => 0) 0 x1))), (mo, .inr (10, fvM V1_3))]) rfl B
    refine lv_aload_n hx hb dX12_spell_46 rfl (lv_at hl 0 rfl) ?_
    refine lv_dup hx hb dX12_spell_47 rfl ?_
    refine x_get (ci := 10) (C := RX12) (T := TX12) (N := 93) (v := .int 0) B 1 rfl rfl in_X12 1 (by decide) mw_1865 (fun _ h9 => h9) (fvM_get (by decide) ((z_4 1 (by decide)).trans h1)) dX12_spell_48 ?_
    refine lv_iconst (v := 1) hx hb dX12_spell_51 (by decide) ?_
    refine lv_iadd hx hb dX12_spell_52 ?_
    refine lv_seti (y := 1) (by decide) ?_
    refine x_put (ci := 10) (C := RX12) (T := TX12) (N := 93) (ty := .int) (v := .int 1) B tyX12_ok nmX12 1 rfl rfl in_X12 1 (by decide) mw_1865 (fun _ h9 => h9) rfl (by decide +kernel) rfl rfl (fvM_lt (by decide)) dX12_spell_53 (fun H locs B => ?_)
    obtain ⟨V_6, hV_6, gV_6, eV_6⟩ := fvM_put V1_3 1 (.int 1) (by decide)
    rw [eV_6] at B
    have B := bd_to (ws' := [(aSp, .inl (k 0, 6, .inl (upd (fun _ => 0) 0 x1))), (mo, .inr (10, fvM V_6))]) rfl B
    refine lv_aload_n hx hb dX12_spell_56 rfl (lv_at hl 0 rfl) ?_
    refine x_get (ci := 10) (C := RX12) (T := TX12) (N := 93) (v := .int 1) B 1 rfl rfl in_X12 1 (by decide) mw_1865 (fun _ h9 => h9) (fvM_get (by decide) gV_6) dX12_spell_57 ?_
    have B := bd_sub (ws' := [(mo, .inr (10, fvM V_6))]) [1] (by decide) rfl B
    exact x_iret B hr (Or.inl (⟨V_6, by omega, ((hV_6 0 (by decide)).trans z_5), rfl, rfl⟩)) (Nat.le_of_ble_eq_true rfl) (Nat.le_of_ble_eq_true rfl) dX12_spell_60
  · skip
    have B := bd_to (ws' := [(mo, .inr (10, fvM V)), (aSp, .inl (k 0, 6, .inl (fun _ => 0)))]) rfl B
    refine lv_if_ne (tgt := 14) hx hb dX12_spell_7 (by decide) (fun c9 => absurd c9 (by decide)) (fun _ => ?_)
    refine lv_iconst (v := 1) hx hb dX12_spell_10 (by decide) ?_
    refine lv_goto (tgt := 28) hx hb dX12_spell_11 (by decide) ?_
    refine x_callV (rest := []) (wr := [(aSp, .inl (k 0, 6, .inl (fun _ => 0)))]) (m_refused1 l dC dI k mo V) B mV_X12_refused mw_2155 hl [0] [1] rfl rfl ⟨by decide, by decide⟩ (by decide) (q0 := 0) rfl rfl rfl ⟨Nat.le_of_ble_eq_true rfl, Nat.le_of_ble_eq_true rfl⟩ (Nat.le_of_ble_eq_true rfl) rfl dX12_spell_28 ⟨Nat.le_of_ble_eq_true rfl, Nat.le_of_ble_eq_true rfl⟩ (fun r w H locs hp B => ?_)
    obtain ⟨V1_7, z_8, z_9, rfl, rfl⟩ := hp
    have B := bd_to (ws' := [(aSp, .inl (k 0, 6, .inl (fun _ => 0))), (mo, .inr (10, fvM V1_7))]) rfl B
    refine lv_if_eq (tgt := 36) hx hb dX12_spell_31 (by decide) (fun c9 => absurd c9 (by decide)) (fun _ => ?_)
    refine lv_iconst (v := 0) hx hb dX12_spell_34 (by decide) ?_
    have B := bd_sub (ws' := [(mo, .inr (10, fvM V1_7))]) [1] (by decide) rfl B
    exact x_iret B hr (Or.inr (⟨V1_7, by omega, z_9, rfl, rfl⟩)) (Nat.le_of_ble_eq_true rfl) (Nat.le_of_ble_eq_true rfl) dX12_spell_35

theorem mw_2163 : (Jvm.Cond.methodLink "GalleyforgeModel" (243 : Nat) ({ cls := "GalleyforgeModel", name := "fine", desc := "(I)I" } : Jvm.MethodName)) ∈ gt := gt_at 2298 (by decide +kernel) (by decide +kernel)
theorem mw_2165 : (Jvm.Cond.instanceMethod ({ cls := "GalleyforgeModel", name := "fine", desc := "(I)I" } : Jvm.MethodName)) ∈ gt := gt_at 2300 (by decide +kernel) (by decide +kernel)
theorem mw_2166 : (Jvm.Cond.code ({ cls := "GalleyforgeModel", name := "fine", desc := "(I)I" } : Jvm.MethodName) prog_14_method_4_code (2 : Nat) (Option.some Jvm.ClassFile.FieldType.int)) ∈ gt := gt_at 2301 (by decide +kernel) (by decide +kernel)
theorem ms_71 : Cond.selects "GalleyforgeModel" (⟨"GalleyforgeModel", "fine", "(I)I"⟩ : MethodName) (⟨"GalleyforgeModel", "fine", "(I)I"⟩ : MethodName) ∈ gt := gt_at 71 (by decide +kernel) (by decide +kernel)
theorem mV_X12_fine : mV yX12_fine cX12_fine 2 (some .int) 1 := ⟨⟨mw_2166, mw_13, by decide, by decide, by decide +kernel⟩, mw_2165, ms_71⟩
theorem dX12_unspell_0 : decode cX12_unspell 0 = .ok (.aload_n 0, 1) := by decide +kernel
theorem dX12_unspell_1 : decode cX12_unspell 1 = .ok (.getfield 237, 3) := by decide +kernel
theorem dX12_unspell_4 : decode cX12_unspell 4 = .ok (.istore_n 1, 1) := by decide +kernel
theorem dX12_unspell_5 : decode cX12_unspell 5 = .ok (.aload_n 0, 1) := by decide +kernel
theorem dX12_unspell_6 : decode cX12_unspell 6 = .ok (.iconst 0, 1) := by decide +kernel
theorem dX12_unspell_7 : decode cX12_unspell 7 = .ok (.putfield 237, 3) := by decide +kernel
theorem dX12_unspell_10 : decode cX12_unspell 10 = .ok (.aload_n 0, 1) := by decide +kernel
theorem dX12_unspell_11 : decode cX12_unspell 11 = .ok (.iload_n 1, 1) := by decide +kernel
theorem dX12_unspell_12 : decode cX12_unspell 12 = .ok (.invokevirtual 243, 3) := by decide +kernel
theorem dX12_unspell_15 : decode cX12_unspell 15 = .ok (.ireturn, 1) := by decide +kernel
set_option maxHeartbeats 4000000 in
set_option maxRecDepth 100000 in
theorem m_unspell (l : Launch) (dC : Nat → ClassId) (dI : Nat → Nat → Nat) (k : Nat → ClassId) (mo : Nat) (V : Nat → Value) (h1 : V 1 = .int 0) : Ct l dC dI k yX12_unspell (.code yX12_unspell cX12_unspell 2 (some .int)) ({ frames := 1, cells := 0, slots := 0, locals := 21 } : Room) [.ref mo] [(mo, .inr (10, fvM V))] (fun r w => (∃ (V1 : Nat → Value), r = some (.int 0) ∧ w = [(mo, .inr (10, fvM V1))])) := by
  refine ct_of (by decide) (Nat.le_of_ble_eq_true rfl) ?_
  intro p e s m args below meth c H locs B hr hnm ls hl
  have hx := B.1.1
  have hb := B.1.2.1
  have hl : lv_has ls 2 [(0, .ref mo)] := hl
  refine lv_aload_n hx hb dX12_unspell_0 rfl (lv_at hl 0 rfl) ?_
  refine x_get (ci := 10) (C := RX12) (T := TX12) (N := 93) (v := .int 0) B 0 rfl rfl in_X12 1 (by decide) mw_1865 (fun _ h9 => h9) (fvM_get (by decide) h1) dX12_unspell_1 ?_
  refine lv_istore_n (lv' := [(1, .int 0), (0, .ref mo)]) hx hb dX12_unspell_4 rfl hl (by decide) rfl (fun ls hl => ?_)
  refine lv_aload_n hx hb dX12_unspell_5 rfl (lv_at hl 1 rfl) ?_
  refine lv_iconst (v := 0) hx hb dX12_unspell_6 (by decide) ?_
  refine x_put (ci := 10) (C := RX12) (T := TX12) (N := 93) (ty := .int) (v := .int 0) B tyX12_ok nmX12 0 rfl rfl in_X12 1 (by decide) mw_1865 (fun _ h9 => h9) rfl (by decide +kernel) rfl rfl (fvM_lt (by decide)) dX12_unspell_7 (fun H locs B => ?_)
  obtain ⟨V_1, hV_1, gV_1, eV_1⟩ := fvM_put V 1 (.int 0) (by decide)
  rw [eV_1] at B
  have B := bd_to (ws' := [(mo, .inr (10, fvM V_1))]) rfl B
  refine lv_aload_n hx hb dX12_unspell_10 rfl (lv_at hl 1 rfl) ?_
  refine lv_iload_n hx hb dX12_unspell_11 rfl (lv_at hl 0 rfl) ?_
  refine x_callV (rest := []) (wr := []) (m_fine0 l dC dI k mo V_1) B mV_X12_fine mw_2163 hl [0] [] rfl rfl ⟨by decide, by decide⟩ (by decide) (q0 := 0) rfl rfl rfl ⟨Nat.le_of_ble_eq_true rfl, Nat.le_of_ble_eq_true rfl⟩ (Nat.le_of_ble_eq_true rfl) rfl dX12_unspell_12 ⟨Nat.le_of_ble_eq_true rfl, Nat.le_of_ble_eq_true rfl⟩ (fun r w H locs hp B => ?_)
  obtain ⟨V1_2, z_3, z_4, rfl, rfl⟩ := hp
  have B := bd_to (ws' := [(mo, .inr (10, fvM V1_2))]) rfl B
  have B := bd_sub (ws' := [(mo, .inr (10, fvM V1_2))]) [0] (by decide) rfl B
  exact x_iret B hr (⟨V1_2, rfl, rfl⟩) (Nat.le_of_ble_eq_true rfl) (Nat.le_of_ble_eq_true rfl) dX12_unspell_15

theorem dX12_blocks_0 : decode cX12_blocks 0 = .ok (.aload_n 0, 1) := by decide +kernel
theorem dX12_blocks_1 : decode cX12_blocks 1 = .ok (.aload_n 0, 1) := by decide +kernel
theorem dX12_blocks_2 : decode cX12_blocks 2 = .ok (.getfield 226, 3) := by decide +kernel
theorem dX12_blocks_5 : decode cX12_blocks 5 = .ok (.invokevirtual 243, 3) := by decide +kernel
theorem dX12_blocks_8 : decode cX12_blocks 8 = .ok (.ireturn, 1) := by decide +kernel
set_option maxHeartbeats 4000000 in
set_option maxRecDepth 100000 in
theorem m_blocks (l : Launch) (dC : Nat → ClassId) (dI : Nat → Nat → Nat) (k : Nat → ClassId) (mo : Nat) (V : Nat → Value) (h9 : V 9 = .int 0) : Ct l dC dI k yX12_blocks (.code yX12_blocks cX12_blocks 1 (some .int)) ({ frames := 1, cells := 0, slots := 0, locals := 21 } : Room) [.ref mo] [(mo, .inr (10, fvM V))] (fun r w => (∃ (V1 : Nat → Value), r = some (.int 0) ∧ w = [(mo, .inr (10, fvM V1))])) := by
  refine ct_of (by decide) (Nat.le_of_ble_eq_true rfl) ?_
  intro p e s m args below meth c H locs B hr hnm ls hl
  have hx := B.1.1
  have hb := B.1.2.1
  have hl : lv_has ls 1 [(0, .ref mo)] := hl
  refine lv_aload_n hx hb dX12_blocks_0 rfl (lv_at hl 0 rfl) ?_
  refine lv_aload_n hx hb dX12_blocks_1 rfl (lv_at hl 0 rfl) ?_
  refine x_get (ci := 10) (C := RX12) (T := TX12) (N := 93) (v := .int 0) B 0 rfl rfl in_X12 9 (by decide) mw_1873 (fun _ h9 => h9) (fvM_get (by decide) h9) dX12_blocks_2 ?_
  refine x_callV (rest := []) (wr := []) (m_fine0 l dC dI k mo V) B mV_X12_fine mw_2163 hl [0] [] rfl rfl ⟨by decide, by decide⟩ (by decide) (q0 := 0) rfl rfl rfl ⟨Nat.le_of_ble_eq_true rfl, Nat.le_of_ble_eq_true rfl⟩ (Nat.le_of_ble_eq_true rfl) rfl dX12_blocks_5 ⟨Nat.le_of_ble_eq_true rfl, Nat.le_of_ble_eq_true rfl⟩ (fun r w H locs hp B => ?_)
  obtain ⟨V1_1, z_2, z_3, rfl, rfl⟩ := hp
  have B := bd_to (ws' := [(mo, .inr (10, fvM V1_1))]) rfl B
  have B := bd_sub (ws' := [(mo, .inr (10, fvM V1_1))]) [0] (by decide) rfl B
  exact x_iret B hr (⟨V1_1, rfl, rfl⟩) (Nat.le_of_ble_eq_true rfl) (Nat.le_of_ble_eq_true rfl) dX12_blocks_8

set_option maxHeartbeats 4000000 in
set_option maxRecDepth 100000 in
theorem m_in_0_4 (l : Launch) (dC : Nat → ClassId) (dI : Nat → Nat → Nat) (k : Nat → ClassId) (x1 : Int32) : Ct l dC dI k yX12_in (.code yX12_in cX12_in 3 (some .boolean)) ({ frames := 0, cells := 0, slots := 0, locals := 0 } : Room) [.int x1, .int 0, .int 4] [] (fun r w => ((0 ≤ x1.toInt ∧ x1.toInt ≤ 4) ∧ r = some (.int 1) ∧ w = []) ∨ (¬ (0 ≤ x1.toInt ∧ x1.toInt ≤ 4) ∧ r = some (.int 0) ∧ w = [])) := by
  refine ct_of (by decide) (Nat.le_of_ble_eq_true rfl) ?_
  intro p e s m args below meth c H locs B hr hnm ls hl
  have hx := B.1.1
  have hb := B.1.2.1
  have hl : lv_has ls 3 [(0, .int x1), (1, .int 0), (2, .int 4)] := hl
  refine lv_iload_n hx hb dX12_in_0 rfl (lv_at hl 0 rfl) ?_
  refine lv_iload_n hx hb dX12_in_1 rfl (lv_at hl 1 rfl) ?_
  refine lv_icmp_lt (tgt := 14) hx hb dX12_in_2 (by decide) (fun c_1 => ?_) (fun c_1 => ?_)
  · have zc_1 : x1.toInt < 0 := zlt c_1
    refine lv_iconst (v := 0) hx hb dX12_in_14 (by decide) ?_
    have B := bd_sub (ws' := []) [] (by decide) rfl B
    exact x_zret B hr (by decide) (Or.inr (⟨by omega, rfl, rfl⟩)) (Nat.le_of_ble_eq_true rfl) (Nat.le_of_ble_eq_true rfl) dX12_in_15
  · have zc_1 : 0 ≤ x1.toInt := znlt c_1
    refine lv_iload_n hx hb dX12_in_5 rfl (lv_at hl 0 rfl) ?_
    refine lv_iload_n hx hb dX12_in_6 rfl (lv_at hl 2 rfl) ?_
    refine lv_icmp_gt (tgt := 14) hx hb dX12_in_7 (by decide) (fun c_2 => ?_) (fun c_2 => ?_)
    · have zc_2 : 4 < x1.toInt := zgt c_2
      refine lv_iconst (v := 0) hx hb dX12_in_14 (by decide) ?_
      have B := bd_sub (ws' := []) [] (by decide) rfl B
      exact x_zret B hr (by decide) (Or.inr (⟨by omega, rfl, rfl⟩)) (Nat.le_of_ble_eq_true rfl) (Nat.le_of_ble_eq_true rfl) dX12_in_15
    · have zc_2 : x1.toInt ≤ 4 := zngt c_2
      refine lv_iconst (v := 1) hx hb dX12_in_10 (by decide) ?_
      refine lv_goto (tgt := 15) hx hb dX12_in_11 (by decide) ?_
      have B := bd_sub (ws' := []) [] (by decide) rfl B
      exact x_zret B hr (by decide) (Or.inl (⟨by omega, rfl, rfl⟩)) (Nat.le_of_ble_eq_true rfl) (Nat.le_of_ble_eq_true rfl) dX12_in_15

theorem mw_1867 : (Jvm.Cond.fieldLink "GalleyforgeModel" (13 : Nat) "GalleyforgeModel" "drafts" "[I") ∈ gt := gt_at 2002 (by decide +kernel) (by decide +kernel)
set_option maxHeartbeats 4000000 in
set_option maxRecDepth 100000 in
theorem m_in_0_1 (l : Launch) (dC : Nat → ClassId) (dI : Nat → Nat → Nat) (k : Nat → ClassId) (x1 : Int32) : Ct l dC dI k yX12_in (.code yX12_in cX12_in 3 (some .boolean)) ({ frames := 0, cells := 0, slots := 0, locals := 0 } : Room) [.int x1, .int 0, .int 1] [] (fun r w => ((0 ≤ x1.toInt ∧ x1.toInt ≤ 1) ∧ r = some (.int 1) ∧ w = []) ∨ (¬ (0 ≤ x1.toInt ∧ x1.toInt ≤ 1) ∧ r = some (.int 0) ∧ w = [])) := by
  refine ct_of (by decide) (Nat.le_of_ble_eq_true rfl) ?_
  intro p e s m args below meth c H locs B hr hnm ls hl
  have hx := B.1.1
  have hb := B.1.2.1
  have hl : lv_has ls 3 [(0, .int x1), (1, .int 0), (2, .int 1)] := hl
  refine lv_iload_n hx hb dX12_in_0 rfl (lv_at hl 0 rfl) ?_
  refine lv_iload_n hx hb dX12_in_1 rfl (lv_at hl 1 rfl) ?_
  refine lv_icmp_lt (tgt := 14) hx hb dX12_in_2 (by decide) (fun c_1 => ?_) (fun c_1 => ?_)
  · have zc_1 : x1.toInt < 0 := zlt c_1
    refine lv_iconst (v := 0) hx hb dX12_in_14 (by decide) ?_
    have B := bd_sub (ws' := []) [] (by decide) rfl B
    exact x_zret B hr (by decide) (Or.inr (⟨by omega, rfl, rfl⟩)) (Nat.le_of_ble_eq_true rfl) (Nat.le_of_ble_eq_true rfl) dX12_in_15
  · have zc_1 : 0 ≤ x1.toInt := znlt c_1
    refine lv_iload_n hx hb dX12_in_5 rfl (lv_at hl 0 rfl) ?_
    refine lv_iload_n hx hb dX12_in_6 rfl (lv_at hl 2 rfl) ?_
    refine lv_icmp_gt (tgt := 14) hx hb dX12_in_7 (by decide) (fun c_2 => ?_) (fun c_2 => ?_)
    · have zc_2 : 1 < x1.toInt := zgt c_2
      refine lv_iconst (v := 0) hx hb dX12_in_14 (by decide) ?_
      have B := bd_sub (ws' := []) [] (by decide) rfl B
      exact x_zret B hr (by decide) (Or.inr (⟨by omega, rfl, rfl⟩)) (Nat.le_of_ble_eq_true rfl) (Nat.le_of_ble_eq_true rfl) dX12_in_15
    · have zc_2 : x1.toInt ≤ 1 := zngt c_2
      refine lv_iconst (v := 1) hx hb dX12_in_10 (by decide) ?_
      refine lv_goto (tgt := 15) hx hb dX12_in_11 (by decide) ?_
      have B := bd_sub (ws' := []) [] (by decide) rfl B
      exact x_zret B hr (by decide) (Or.inl (⟨by omega, rfl, rfl⟩)) (Nat.le_of_ble_eq_true rfl) (Nat.le_of_ble_eq_true rfl) dX12_in_15

set_option maxHeartbeats 4000000 in
set_option maxRecDepth 100000 in
theorem m_in_0_7 (l : Launch) (dC : Nat → ClassId) (dI : Nat → Nat → Nat) (k : Nat → ClassId) (x1 : Int32) : Ct l dC dI k yX12_in (.code yX12_in cX12_in 3 (some .boolean)) ({ frames := 0, cells := 0, slots := 0, locals := 0 } : Room) [.int x1, .int 0, .int 7] [] (fun r w => ((0 ≤ x1.toInt ∧ x1.toInt ≤ 7) ∧ r = some (.int 1) ∧ w = []) ∨ (¬ (0 ≤ x1.toInt ∧ x1.toInt ≤ 7) ∧ r = some (.int 0) ∧ w = [])) := by
  refine ct_of (by decide) (Nat.le_of_ble_eq_true rfl) ?_
  intro p e s m args below meth c H locs B hr hnm ls hl
  have hx := B.1.1
  have hb := B.1.2.1
  have hl : lv_has ls 3 [(0, .int x1), (1, .int 0), (2, .int 7)] := hl
  refine lv_iload_n hx hb dX12_in_0 rfl (lv_at hl 0 rfl) ?_
  refine lv_iload_n hx hb dX12_in_1 rfl (lv_at hl 1 rfl) ?_
  refine lv_icmp_lt (tgt := 14) hx hb dX12_in_2 (by decide) (fun c_1 => ?_) (fun c_1 => ?_)
  · have zc_1 : x1.toInt < 0 := zlt c_1
    refine lv_iconst (v := 0) hx hb dX12_in_14 (by decide) ?_
    have B := bd_sub (ws' := []) [] (by decide) rfl B
    exact x_zret B hr (by decide) (Or.inr (⟨by omega, rfl, rfl⟩)) (Nat.le_of_ble_eq_true rfl) (Nat.le_of_ble_eq_true rfl) dX12_in_15
  · have zc_1 : 0 ≤ x1.toInt := znlt c_1
    refine lv_iload_n hx hb dX12_in_5 rfl (lv_at hl 0 rfl) ?_
    refine lv_iload_n hx hb dX12_in_6 rfl (lv_at hl 2 rfl) ?_
    refine lv_icmp_gt (tgt := 14) hx hb dX12_in_7 (by decide) (fun c_2 => ?_) (fun c_2 => ?_)
    · have zc_2 : 7 < x1.toInt := zgt c_2
      refine lv_iconst (v := 0) hx hb dX12_in_14 (by decide) ?_
      have B := bd_sub (ws' := []) [] (by decide) rfl B
      exact x_zret B hr (by decide) (Or.inr (⟨by omega, rfl, rfl⟩)) (Nat.le_of_ble_eq_true rfl) (Nat.le_of_ble_eq_true rfl) dX12_in_15
    · have zc_2 : x1.toInt ≤ 7 := zngt c_2
      refine lv_iconst (v := 1) hx hb dX12_in_10 (by decide) ?_
      refine lv_goto (tgt := 15) hx hb dX12_in_11 (by decide) ?_
      have B := bd_sub (ws' := []) [] (by decide) rfl B
      exact x_zret B hr (by decide) (Or.inl (⟨by omega, rfl, rfl⟩)) (Nat.le_of_ble_eq_true rfl) (Nat.le_of_ble_eq_true rfl) dX12_in_15

set_option maxHeartbeats 4000000 in
set_option maxRecDepth 100000 in
theorem m_in_0_5 (l : Launch) (dC : Nat → ClassId) (dI : Nat → Nat → Nat) (k : Nat → ClassId) (x1 : Int32) : Ct l dC dI k yX12_in (.code yX12_in cX12_in 3 (some .boolean)) ({ frames := 0, cells := 0, slots := 0, locals := 0 } : Room) [.int x1, .int 0, .int 5] [] (fun r w => ((0 ≤ x1.toInt ∧ x1.toInt ≤ 5) ∧ r = some (.int 1) ∧ w = []) ∨ (¬ (0 ≤ x1.toInt ∧ x1.toInt ≤ 5) ∧ r = some (.int 0) ∧ w = [])) := by
  refine ct_of (by decide) (Nat.le_of_ble_eq_true rfl) ?_
  intro p e s m args below meth c H locs B hr hnm ls hl
  have hx := B.1.1
  have hb := B.1.2.1
  have hl : lv_has ls 3 [(0, .int x1), (1, .int 0), (2, .int 5)] := hl
  refine lv_iload_n hx hb dX12_in_0 rfl (lv_at hl 0 rfl) ?_
  refine lv_iload_n hx hb dX12_in_1 rfl (lv_at hl 1 rfl) ?_
  refine lv_icmp_lt (tgt := 14) hx hb dX12_in_2 (by decide) (fun c_1 => ?_) (fun c_1 => ?_)
  · have zc_1 : x1.toInt < 0 := zlt c_1
    refine lv_iconst (v := 0) hx hb dX12_in_14 (by decide) ?_
    have B := bd_sub (ws' := []) [] (by decide) rfl B
    exact x_zret B hr (by decide) (Or.inr (⟨by omega, rfl, rfl⟩)) (Nat.le_of_ble_eq_true rfl) (Nat.le_of_ble_eq_true rfl) dX12_in_15
  · have zc_1 : 0 ≤ x1.toInt := znlt c_1
    refine lv_iload_n hx hb dX12_in_5 rfl (lv_at hl 0 rfl) ?_
    refine lv_iload_n hx hb dX12_in_6 rfl (lv_at hl 2 rfl) ?_
    refine lv_icmp_gt (tgt := 14) hx hb dX12_in_7 (by decide) (fun c_2 => ?_) (fun c_2 => ?_)
    · have zc_2 : 5 < x1.toInt := zgt c_2
      refine lv_iconst (v := 0) hx hb dX12_in_14 (by decide) ?_
      have B := bd_sub (ws' := []) [] (by decide) rfl B
      exact x_zret B hr (by decide) (Or.inr (⟨by omega, rfl, rfl⟩)) (Nat.le_of_ble_eq_true rfl) (Nat.le_of_ble_eq_true rfl) dX12_in_15
    · have zc_2 : x1.toInt ≤ 5 := zngt c_2
      refine lv_iconst (v := 1) hx hb dX12_in_10 (by decide) ?_
      refine lv_goto (tgt := 15) hx hb dX12_in_11 (by decide) ?_
      have B := bd_sub (ws' := []) [] (by decide) rfl B
      exact x_zret B hr (by decide) (Or.inl (⟨by omega, rfl, rfl⟩)) (Nat.le_of_ble_eq_true rfl) (Nat.le_of_ble_eq_true rfl) dX12_in_15

theorem mw_1885 : (Jvm.Cond.fieldLink "GalleyforgeModel" (247 : Nat) "GalleyforgeModel" "figures" "I") ∈ gt := gt_at 2020 (by decide +kernel) (by decide +kernel)
set_option maxHeartbeats 4000000 in
set_option maxRecDepth 100000 in
theorem m_in_1_5 (l : Launch) (dC : Nat → ClassId) (dI : Nat → Nat → Nat) (k : Nat → ClassId) (x1 : Int32) : Ct l dC dI k yX12_in (.code yX12_in cX12_in 3 (some .boolean)) ({ frames := 0, cells := 0, slots := 0, locals := 0 } : Room) [.int x1, .int 1, .int 5] [] (fun r w => ((1 ≤ x1.toInt ∧ x1.toInt ≤ 5) ∧ r = some (.int 1) ∧ w = []) ∨ (¬ (1 ≤ x1.toInt ∧ x1.toInt ≤ 5) ∧ r = some (.int 0) ∧ w = [])) := by
  refine ct_of (by decide) (Nat.le_of_ble_eq_true rfl) ?_
  intro p e s m args below meth c H locs B hr hnm ls hl
  have hx := B.1.1
  have hb := B.1.2.1
  have hl : lv_has ls 3 [(0, .int x1), (1, .int 1), (2, .int 5)] := hl
  refine lv_iload_n hx hb dX12_in_0 rfl (lv_at hl 0 rfl) ?_
  refine lv_iload_n hx hb dX12_in_1 rfl (lv_at hl 1 rfl) ?_
  refine lv_icmp_lt (tgt := 14) hx hb dX12_in_2 (by decide) (fun c_1 => ?_) (fun c_1 => ?_)
  · have zc_1 : x1.toInt < 1 := zlt c_1
    refine lv_iconst (v := 0) hx hb dX12_in_14 (by decide) ?_
    have B := bd_sub (ws' := []) [] (by decide) rfl B
    exact x_zret B hr (by decide) (Or.inr (⟨by omega, rfl, rfl⟩)) (Nat.le_of_ble_eq_true rfl) (Nat.le_of_ble_eq_true rfl) dX12_in_15
  · have zc_1 : 1 ≤ x1.toInt := znlt c_1
    refine lv_iload_n hx hb dX12_in_5 rfl (lv_at hl 0 rfl) ?_
    refine lv_iload_n hx hb dX12_in_6 rfl (lv_at hl 2 rfl) ?_
    refine lv_icmp_gt (tgt := 14) hx hb dX12_in_7 (by decide) (fun c_2 => ?_) (fun c_2 => ?_)
    · have zc_2 : 5 < x1.toInt := zgt c_2
      refine lv_iconst (v := 0) hx hb dX12_in_14 (by decide) ?_
      have B := bd_sub (ws' := []) [] (by decide) rfl B
      exact x_zret B hr (by decide) (Or.inr (⟨by omega, rfl, rfl⟩)) (Nat.le_of_ble_eq_true rfl) (Nat.le_of_ble_eq_true rfl) dX12_in_15
    · have zc_2 : x1.toInt ≤ 5 := zngt c_2
      refine lv_iconst (v := 1) hx hb dX12_in_10 (by decide) ?_
      refine lv_goto (tgt := 15) hx hb dX12_in_11 (by decide) ?_
      have B := bd_sub (ws' := []) [] (by decide) rfl B
      exact x_zret B hr (by decide) (Or.inl (⟨by omega, rfl, rfl⟩)) (Nat.le_of_ble_eq_true rfl) (Nat.le_of_ble_eq_true rfl) dX12_in_15

theorem dX12_mark_0 : decode cX12_mark 0 = .ok (.iload_n 1, 1) := by decide +kernel
theorem dX12_mark_1 : decode cX12_mark 1 = .ok (.iconst 0, 1) := by decide +kernel
theorem dX12_mark_2 : decode cX12_mark 2 = .ok (.iconst 4, 1) := by decide +kernel
theorem dX12_mark_3 : decode cX12_mark 3 = .ok (.invokestatic 229, 3) := by decide +kernel
theorem dX12_mark_6 : decode cX12_mark 6 = .ok (.istore_n 3, 1) := by decide +kernel
theorem dX12_mark_7 : decode cX12_mark 7 = .ok (.iload_n 1, 1) := by decide +kernel
theorem dX12_mark_8 : decode cX12_mark 8 = .ok (.ifCond .ne 7, 3) := by decide +kernel
theorem dX12_mark_11 : decode cX12_mark 11 = .ok (.iconst 1, 1) := by decide +kernel
theorem dX12_mark_12 : decode cX12_mark 12 = .ok (.goto 4, 3) := by decide +kernel
theorem dX12_mark_15 : decode cX12_mark 15 = .ok (.iconst 0, 1) := by decide +kernel
theorem dX12_mark_16 : decode cX12_mark 16 = .ok (.istore 4, 2) := by decide +kernel
theorem dX12_mark_18 : decode cX12_mark 18 = .ok (.iload_n 1, 1) := by decide +kernel
theorem dX12_mark_19 : decode cX12_mark 19 = .ok (.ifCond .ne 7, 3) := by decide +kernel
theorem dX12_mark_22 : decode cX12_mark 22 = .ok (.iconst 5, 1) := by decide +kernel
theorem dX12_mark_23 : decode cX12_mark 23 = .ok (.goto 37, 3) := by decide +kernel
theorem dX12_mark_26 : decode cX12_mark 26 = .ok (.iload_n 1, 1) := by decide +kernel
theorem dX12_mark_27 : decode cX12_mark 27 = .ok (.iconst 1, 1) := by decide +kernel
theorem dX12_mark_28 : decode cX12_mark 28 = .ok (.if_icmp .ne 12, 3) := by decide +kernel
theorem dX12_mark_31 : decode cX12_mark 31 = .ok (.aload_n 0, 1) := by decide +kernel
theorem dX12_mark_32 : decode cX12_mark 32 = .ok (.getfield 247, 3) := by decide +kernel
theorem dX12_mark_35 : decode cX12_mark 35 = .ok (.iconst 1, 1) := by decide +kernel
theorem dX12_mark_36 : decode cX12_mark 36 = .ok (.isub, 1) := by decide +kernel
theorem dX12_mark_37 : decode cX12_mark 37 = .ok (.goto 23, 3) := by decide +kernel
theorem dX12_mark_40 : decode cX12_mark 40 = .ok (.iload_n 1, 1) := by decide +kernel
theorem dX12_mark_41 : decode cX12_mark 41 = .ok (.iconst 2, 1) := by decide +kernel
theorem dX12_mark_42 : decode cX12_mark 42 = .ok (.if_icmp .ne 7, 3) := by decide +kernel
theorem dX12_mark_45 : decode cX12_mark 45 = .ok (.iconst 5, 1) := by decide +kernel
theorem dX12_mark_46 : decode cX12_mark 46 = .ok (.goto 14, 3) := by decide +kernel
theorem dX12_mark_49 : decode cX12_mark 49 = .ok (.iload_n 1, 1) := by decide +kernel
theorem dX12_mark_50 : decode cX12_mark 50 = .ok (.iconst 3, 1) := by decide +kernel
theorem dX12_mark_51 : decode cX12_mark 51 = .ok (.if_icmp .ne 8, 3) := by decide +kernel
theorem dX12_mark_54 : decode cX12_mark 54 = .ok (.bipush 7, 2) := by decide +kernel
theorem dX12_mark_56 : decode cX12_mark 56 = .ok (.goto 4, 3) := by decide +kernel
theorem dX12_mark_59 : decode cX12_mark 59 = .ok (.iconst 1, 1) := by decide +kernel
theorem dX12_mark_60 : decode cX12_mark 60 = .ok (.istore 5, 2) := by decide +kernel
theorem dX12_mark_62 : decode cX12_mark 62 = .ok (.aload_n 0, 1) := by decide +kernel
theorem dX12_mark_63 : decode cX12_mark 63 = .ok (.iload_n 3, 1) := by decide +kernel
theorem dX12_mark_64 : decode cX12_mark 64 = .ok (.ifCond .ne 7, 3) := by decide +kernel
theorem dX12_mark_67 : decode cX12_mark 67 = .ok (.iconst 1, 1) := by decide +kernel
theorem dX12_mark_68 : decode cX12_mark 68 = .ok (.goto 24, 3) := by decide +kernel
theorem dX12_mark_71 : decode cX12_mark 71 = .ok (.iload_n 2, 1) := by decide +kernel
theorem dX12_mark_72 : decode cX12_mark 72 = .ok (.iconst (-1), 1) := by decide +kernel
theorem dX12_mark_73 : decode cX12_mark 73 = .ok (.if_icmp .eq 14, 3) := by decide +kernel
theorem dX12_mark_76 : decode cX12_mark 76 = .ok (.iload_n 2, 1) := by decide +kernel
theorem dX12_mark_77 : decode cX12_mark 77 = .ok (.iload 4, 2) := by decide +kernel
theorem dX12_mark_79 : decode cX12_mark 79 = .ok (.iload 5, 2) := by decide +kernel
theorem dX12_mark_81 : decode cX12_mark 81 = .ok (.invokestatic 229, 3) := by decide +kernel
theorem dX12_mark_84 : decode cX12_mark 84 = .ok (.ifCond .eq 7, 3) := by decide +kernel
theorem dX12_mark_87 : decode cX12_mark 87 = .ok (.iconst 0, 1) := by decide +kernel
theorem dX12_mark_88 : decode cX12_mark 88 = .ok (.goto 4, 3) := by decide +kernel
theorem dX12_mark_91 : decode cX12_mark 91 = .ok (.iconst 2, 1) := by decide +kernel
theorem dX12_mark_92 : decode cX12_mark 92 = .ok (.invokevirtual 240, 3) := by decide +kernel
theorem dX12_mark_95 : decode cX12_mark 95 = .ok (.ifCond .eq 5, 3) := by decide +kernel
theorem dX12_mark_98 : decode cX12_mark 98 = .ok (.iconst 0, 1) := by decide +kernel
theorem dX12_mark_99 : decode cX12_mark 99 = .ok (.ireturn, 1) := by decide +kernel
theorem dX12_mark_100 : decode cX12_mark 100 = .ok (.aload_n 0, 1) := by decide +kernel
theorem dX12_mark_101 : decode cX12_mark 101 = .ok (.getfield 13, 3) := by decide +kernel
theorem dX12_mark_104 : decode cX12_mark 104 = .ok (.iload_n 1, 1) := by decide +kernel
theorem dX12_mark_105 : decode cX12_mark 105 = .ok (.iaload, 1) := by decide +kernel
theorem dX12_mark_106 : decode cX12_mark 106 = .ok (.istore 6, 2) := by decide +kernel
theorem dX12_mark_108 : decode cX12_mark 108 = .ok (.aload_n 0, 1) := by decide +kernel
theorem dX12_mark_109 : decode cX12_mark 109 = .ok (.getfield 13, 3) := by decide +kernel
theorem dX12_mark_112 : decode cX12_mark 112 = .ok (.iload_n 1, 1) := by decide +kernel
theorem dX12_mark_113 : decode cX12_mark 113 = .ok (.iload_n 2, 1) := by decide +kernel
theorem dX12_mark_114 : decode cX12_mark 114 = .ok (.iastore, 1) := by decide +kernel
theorem dX12_mark_115 : decode cX12_mark 115 = .ok (.iload 6, 2) := by decide +kernel
theorem dX12_mark_117 : decode cX12_mark 117 = .ok (.ireturn, 1) := by decide +kernel
set_option maxHeartbeats 4000000 in
set_option maxRecDepth 100000 in
theorem m_mark (l : Launch) (dC : Nat → ClassId) (dI : Nat → Nat → Nat) (k : Nat → ClassId) (mo : Nat) (V : Nat → Value) (aDr : Nat) (x1 : Int32) (x2 : Int32) (ge : Nat → Int32) (h3 : V 3 = .ref aDr) (h21 : V 21 = .int 0) (hge : ∀ j, j < 5 → ge j = -1) : Ct l dC dI k yX12_mark (.code yX12_mark cX12_mark 7 (some .int)) ({ frames := 1, cells := 0, slots := 0, locals := 22 } : Room) [.ref mo, .int x1, .int x2] [(mo, .inr (10, fvM V)), (aDr, .inl (k 0, 5, .inl ge))] (fun r w => (∃ (V1 : Nat → Value), (0 ≤ x1.toInt ∧ x1.toInt ≤ 4) ∧ (x2.toInt = -1 ∨ (x1.toInt = 0 ∧ 1 ≤ x2.toInt ∧ x2.toInt ≤ 5) ∨ (x1.toInt = 2 ∧ 0 ≤ x2.toInt ∧ x2.toInt ≤ 5) ∨ (x1.toInt = 3 ∧ 0 ≤ x2.toInt ∧ x2.toInt ≤ 7) ∨ (x1.toInt = 4 ∧ 0 ≤ x2.toInt ∧ x2.toInt ≤ 1)) ∧ V1 0 = .int 0 ∧ r = some (.int (-1)) ∧ w = [(mo, .inr (10, fvM V1))]) ∨ (∃ (V1 : Nat → Value), ¬ (0 ≤ x1.toInt ∧ x1.toInt ≤ 4) ∧ V1 0 = .int 1 ∧ r = some (.int 0) ∧ w = [(mo, .inr (10, fvM V1))]) ∨ (∃ (V1 : Nat → Value), (0 ≤ x1.toInt ∧ x1.toInt ≤ 4) ∧ ¬ (x2.toInt = -1 ∨ (x1.toInt = 0 ∧ 1 ≤ x2.toInt ∧ x2.toInt ≤ 5) ∨ (x1.toInt = 2 ∧ 0 ≤ x2.toInt ∧ x2.toInt ≤ 5) ∨ (x1.toInt = 3 ∧ 0 ≤ x2.toInt ∧ x2.toInt ≤ 7) ∨ (x1.toInt = 4 ∧ 0 ≤ x2.toInt ∧ x2.toInt ≤ 1)) ∧ V1 0 = .int 2 ∧ r = some (.int 0) ∧ w = [(mo, .inr (10, fvM V1))])) := by
  refine ct_of (by decide) (Nat.le_of_ble_eq_true rfl) ?_
  intro p e s m args below meth c H locs B hr hnm ls hl
  have hx := B.1.1
  have hb := B.1.2.1
  have hl : lv_has ls 7 [(0, .ref mo), (1, .int x1), (2, .int x2)] := hl
  refine lv_iload_n hx hb dX12_mark_0 rfl (lv_at hl 1 rfl) ?_
  refine lv_iconst (v := 0) hx hb dX12_mark_1 (by decide) ?_
  refine lv_iconst (v := 4) hx hb dX12_mark_2 (by decide) ?_
  refine x_callS (rest := []) (wr := [(mo, .inr (10, fvM V)), (aDr, .inl (k 0, 5, .inl ge))]) (m_in_0_4 l dC dI k x1) B mS_X12_in mw_2152 hl [] [0, 1] rfl rfl ⟨by decide, by decide⟩ (by decide) ⟨Nat.le_of_ble_eq_true rfl, Nat.le_of_ble_eq_true rfl⟩ (Nat.le_of_ble_eq_true rfl) rfl dX12_mark_3 ⟨Nat.le_of_ble_eq_true rfl, Nat.le_of_ble_eq_true rfl⟩ (fun r w H locs hp B => ?_)
  rcases hp with ⟨z_1, rfl, rfl⟩ | ⟨z_2, rfl, rfl⟩
  · skip
    have B := bd_to (ws' := [(mo, .inr (10, fvM V)), (aDr, .inl (k 0, 5, .inl ge))]) rfl B
    refine lv_istore_n (lv' := [(3, .int 1), (0, .ref mo), (1, .int x1), (2, .int x2)]) hx hb dX12_mark_6 rfl hl (by decide) rfl (fun ls hl => ?_)
    refine lv_iload_n hx hb dX12_mark_7 rfl (lv_at hl 2 rfl) ?_
    refine lv_if_ne (tgt := 15) hx hb dX12_mark_8 (by decide) (fun c_3 => ?_) (fun c_3 => ?_)
    · have zc_3 : x1.toInt ≠ 0 := zne c_3
      refine lv_iconst (v := 0) hx hb dX12_mark_15 (by decide) ?_
      refine lv_istore (lv' := [(4, .int 0), (3, .int 1), (0, .ref mo), (1, .int x1), (2, .int x2)]) hx hb dX12_mark_16 hl (by decide) rfl (fun ls hl => ?_)
      refine lv_iload_n hx hb dX12_mark_18 rfl (lv_at hl 3 rfl) ?_
      refine lv_if_ne (tgt := 26) hx hb dX12_mark_19 (by decide) (fun c_4 => ?_) (fun c9 => by have z9 : x1.toInt = 0 := znne c9; omega)
      refine lv_iload_n hx hb dX12_mark_26 rfl (lv_at hl 3 rfl) ?_
      refine lv_iconst (v := 1) hx hb dX12_mark_27 (by decide) ?_
      refine lv_icmp_ne (tgt := 40) hx hb dX12_mark_28 (by decide) (fun c_5 => ?_) (fun c_5 => ?_)
      · have zc_5 : x1.toInt ≠ 1 := zne c_5
        refine lv_iload_n hx hb dX12_mark_40 rfl (lv_at hl 3 rfl) ?_
        refine lv_iconst (v := 2) hx hb dX12_mark_41 (by decide) ?_
        refine lv_icmp_ne (tgt := 49) hx hb dX12_mark_42 (by decide) (fun c_6 => ?_) (fun c_6 => ?_)
        · have zc_6 : x1.toInt ≠ 2 := zne c_6
          refine lv_iload_n hx hb dX12_mark_49 rfl (lv_at hl 3 rfl) ?_
          refine lv_iconst (v := 3) hx hb dX12_mark_50 (by decide) ?_
          refine lv_icmp_ne (tgt := 59) hx hb dX12_mark_51 (by decide) (fun c_7 => ?_) (fun c_7 => ?_)
          · have zc_7 : x1.toInt ≠ 3 := zne c_7
            refine lv_iconst (v := 1) hx hb dX12_mark_59 (by decide) ?_
            refine lv_istore (lv' := [(5, .int 1), (4, .int 0), (3, .int 1), (0, .ref mo), (1, .int x1), (2, .int x2)]) hx hb dX12_mark_60 hl (by decide) rfl (fun ls hl => ?_)
            refine lv_aload_n hx hb dX12_mark_62 rfl (lv_at hl 3 rfl) ?_
            refine lv_iload_n hx hb dX12_mark_63 rfl (lv_at hl 2 rfl) ?_
            refine lv_if_ne (tgt := 71) hx hb dX12_mark_64 (by decide) (fun _ => ?_) (fun c9 => absurd c9 (by decide))
            refine lv_iload_n hx hb dX12_mark_71 rfl (lv_at hl 5 rfl) ?_
            refine lv_iconst (v := (-1)) hx hb dX12_mark_72 (by decide) ?_
            refine lv_icmp_eq (tgt := 87) hx hb dX12_mark_73 (by decide) (fun c_8 => ?_) (fun c_8 => ?_)
            · have zc_8 : x2.toInt = (-1) := zeq c_8
              refine lv_iconst (v := 0) hx hb dX12_mark_87 (by decide) ?_
              refine lv_goto (tgt := 92) hx hb dX12_mark_88 (by decide) ?_
              refine x_callV (rest := []) (wr := [(aDr, .inl (k 0, 5, .inl ge))]) (m_refused0 l dC dI k mo V) B mV_X12_refused mw_2155 hl [0] [1] rfl rfl ⟨by decide, by decide⟩ (by decide) (q0 := 0) rfl rfl rfl ⟨Nat.le_of_ble_eq_true rfl, Nat.le_of_ble_eq_true rfl⟩ (Nat.le_of_ble_eq_true rfl) rfl dX12_mark_92 ⟨Nat.le_of_ble_eq_true rfl, Nat.le_of_ble_eq_true rfl⟩ (fun r w H locs hp B => ?_)
              obtain ⟨V1_9, z_10, z_11, rfl, rfl⟩ := hp
              have B := bd_to (ws' := [(aDr, .inl (k 0, 5, .inl ge)), (mo, .inr (10, fvM V1_9))]) rfl B
              refine lv_if_eq (tgt := 100) hx hb dX12_mark_95 (by decide) (fun _ => ?_) (fun c9 => absurd (by decide) c9)
              refine lv_aload_n hx hb dX12_mark_100 rfl (lv_at hl 3 rfl) ?_
              refine x_get (ci := 10) (C := RX12) (T := TX12) (N := 93) (v := .ref aDr) B 1 rfl rfl in_X12 3 (by decide) mw_1867 (fun _ h9 => h9) (fvM_get (by decide) ((z_10 3 (by decide)).trans h3)) dX12_mark_101 ?_
              refine lv_iload_n hx hb dX12_mark_104 rfl (lv_at hl 4 rfl) ?_
              refine lv_seti (y := 4) (zint (by rw [show (4 : Int32).toInt = 4 by decide]; omega)) ?_
              refine x_iald (v := (-1)) B 0 rfl (vpc (by decide)) dX12_mark_105 (hge _ (by decide)) ?_
              refine lv_istore (lv' := [(6, .int (-1)), (5, .int 1), (4, .int 0), (3, .int 1), (0, .ref mo), (1, .int x1), (2, .int x2)]) hx hb dX12_mark_106 hl (by decide) rfl (fun ls hl => ?_)
              refine lv_aload_n hx hb dX12_mark_108 rfl (lv_at hl 4 rfl) ?_
              refine x_get (ci := 10) (C := RX12) (T := TX12) (N := 93) (v := .ref aDr) B 1 rfl rfl in_X12 3 (by decide) mw_1867 (fun _ h9 => h9) (fvM_get (by decide) ((z_10 3 (by decide)).trans h3)) dX12_mark_109 ?_
              refine lv_iload_n hx hb dX12_mark_112 rfl (lv_at hl 5 rfl) ?_
              refine lv_seti (y := 4) (zint (by rw [show (4 : Int32).toInt = 4 by decide]; omega)) ?_
              refine lv_iload_n hx hb dX12_mark_113 rfl (lv_at hl 6 rfl) ?_
              refine lv_seti (y := (-1)) (zint (by rw [show ((-1) : Int32).toInt = (-1) by decide]; omega)) ?_
              refine x_iast B 0 rfl (vpc (by decide)) dX12_mark_114 (j := 4) (by decide) (fun H locs B => ?_)
              have B := bd_to (ws' := [(aDr, .inl (k 0, 5, .inl (upd ge 4 (-1)))), (mo, .inr (10, fvM V1_9))]) rfl B
              refine lv_iload hx hb dX12_mark_115 (lv_at hl 0 rfl) ?_
              have B := bd_sub (ws' := [(mo, .inr (10, fvM V1_9))]) [1] (by decide) rfl B
              exact x_iret B hr (Or.inl (⟨V1_9, by omega, by omega, z_11, rfl, rfl⟩)) (Nat.le_of_ble_eq_true rfl) (Nat.le_of_ble_eq_true rfl) dX12_mark_117
            · have zc_8 : x2.toInt ≠ (-1) := zne c_8
              refine lv_iload_n hx hb dX12_mark_76 rfl (lv_at hl 5 rfl) ?_
              refine lv_iload hx hb dX12_mark_77 (lv_at hl 1 rfl) ?_
              refine lv_iload hx hb dX12_mark_79 (lv_at hl 0 rfl) ?_
              refine x_callS (rest := [.ref mo]) (wr := [(mo, .inr (10, fvM V)), (aDr, .inl (k 0, 5, .inl ge))]) (m_in_0_1 l dC dI k x2) B mS_X12_in mw_2152 hl [] [0, 1] rfl rfl ⟨by decide, by decide⟩ (by decide) ⟨Nat.le_of_ble_eq_true rfl, Nat.le_of_ble_eq_true rfl⟩ (Nat.le_of_ble_eq_true rfl) rfl dX12_mark_81 ⟨Nat.le_of_ble_eq_true rfl, Nat.le_of_ble_eq_true rfl⟩ (fun r w H locs hp B => ?_)
              rcases hp with ⟨z_12, rfl, rfl⟩ | ⟨z_13, rfl, rfl⟩
              · skip
                have B := bd_to (ws' := [(mo, .inr (10, fvM V)), (aDr, .inl (k 0, 5, .inl ge))]) rfl B
                refine lv_if_eq (tgt := 91) hx hb dX12_mark_84 (by decide) (fun c9 => absurd c9 (by decide)) (fun _ => ?_)
                refine lv_iconst (v := 0) hx hb dX12_mark_87 (by decide) ?_
                refine lv_goto (tgt := 92) hx hb dX12_mark_88 (by decide) ?_
                refine x_callV (rest := []) (wr := [(aDr, .inl (k 0, 5, .inl ge))]) (m_refused0 l dC dI k mo V) B mV_X12_refused mw_2155 hl [0] [1] rfl rfl ⟨by decide, by decide⟩ (by decide) (q0 := 0) rfl rfl rfl ⟨Nat.le_of_ble_eq_true rfl, Nat.le_of_ble_eq_true rfl⟩ (Nat.le_of_ble_eq_true rfl) rfl dX12_mark_92 ⟨Nat.le_of_ble_eq_true rfl, Nat.le_of_ble_eq_true rfl⟩ (fun r w H locs hp B => ?_)
                obtain ⟨V1_14, z_15, z_16, rfl, rfl⟩ := hp
                have B := bd_to (ws' := [(aDr, .inl (k 0, 5, .inl ge)), (mo, .inr (10, fvM V1_14))]) rfl B
                refine lv_if_eq (tgt := 100) hx hb dX12_mark_95 (by decide) (fun _ => ?_) (fun c9 => absurd (by decide) c9)
                refine lv_aload_n hx hb dX12_mark_100 rfl (lv_at hl 3 rfl) ?_
                refine x_get (ci := 10) (C := RX12) (T := TX12) (N := 93) (v := .ref aDr) B 1 rfl rfl in_X12 3 (by decide) mw_1867 (fun _ h9 => h9) (fvM_get (by decide) ((z_15 3 (by decide)).trans h3)) dX12_mark_101 ?_
                refine lv_iload_n hx hb dX12_mark_104 rfl (lv_at hl 4 rfl) ?_
                refine lv_seti (y := 4) (zint (by rw [show (4 : Int32).toInt = 4 by decide]; omega)) ?_
                refine x_iald (v := (-1)) B 0 rfl (vpc (by decide)) dX12_mark_105 (hge _ (by decide)) ?_
                refine lv_istore (lv' := [(6, .int (-1)), (5, .int 1), (4, .int 0), (3, .int 1), (0, .ref mo), (1, .int x1), (2, .int x2)]) hx hb dX12_mark_106 hl (by decide) rfl (fun ls hl => ?_)
                refine lv_aload_n hx hb dX12_mark_108 rfl (lv_at hl 4 rfl) ?_
                refine x_get (ci := 10) (C := RX12) (T := TX12) (N := 93) (v := .ref aDr) B 1 rfl rfl in_X12 3 (by decide) mw_1867 (fun _ h9 => h9) (fvM_get (by decide) ((z_15 3 (by decide)).trans h3)) dX12_mark_109 ?_
                refine lv_iload_n hx hb dX12_mark_112 rfl (lv_at hl 5 rfl) ?_
                refine lv_seti (y := 4) (zint (by rw [show (4 : Int32).toInt = 4 by decide]; omega)) ?_
                refine lv_iload_n hx hb dX12_mark_113 rfl (lv_at hl 6 rfl) ?_
                refine x_iast B 0 rfl (vpc (by decide)) dX12_mark_114 (j := 4) (by decide) (fun H locs B => ?_)
                have B := bd_to (ws' := [(aDr, .inl (k 0, 5, .inl (upd ge 4 x2))), (mo, .inr (10, fvM V1_14))]) rfl B
                refine lv_iload hx hb dX12_mark_115 (lv_at hl 0 rfl) ?_
                have B := bd_sub (ws' := [(mo, .inr (10, fvM V1_14))]) [1] (by decide) rfl B
                exact x_iret B hr (Or.inl (⟨V1_14, by omega, by omega, z_16, rfl, rfl⟩)) (Nat.le_of_ble_eq_true rfl) (Nat.le_of_ble_eq_true rfl) dX12_mark_117
              · skip
                have B := bd_to (ws' := [(mo, .inr (10, fvM V)), (aDr, .inl (k 0, 5, .inl ge))]) rfl B
                refine lv_if_eq (tgt := 91) hx hb dX12_mark_84 (by decide) (fun _ => ?_) (fun c9 => absurd (by decide) c9)
                refine lv_iconst (v := 2) hx hb dX12_mark_91 (by decide) ?_
                refine x_callV (rest := []) (wr := [(aDr, .inl (k 0, 5, .inl ge))]) (m_refused2 l dC dI k mo V) B mV_X12_refused mw_2155 hl [0] [1] rfl rfl ⟨by decide, by decide⟩ (by decide) (q0 := 0) rfl rfl rfl ⟨Nat.le_of_ble_eq_true rfl, Nat.le_of_ble_eq_true rfl⟩ (Nat.le_of_ble_eq_true rfl) rfl dX12_mark_92 ⟨Nat.le_of_ble_eq_true rfl, Nat.le_of_ble_eq_true rfl⟩ (fun r w H locs hp B => ?_)
                obtain ⟨V1_17, z_18, z_19, rfl, rfl⟩ := hp
                have B := bd_to (ws' := [(aDr, .inl (k 0, 5, .inl ge)), (mo, .inr (10, fvM V1_17))]) rfl B
                refine lv_if_eq (tgt := 100) hx hb dX12_mark_95 (by decide) (fun c9 => absurd c9 (by decide)) (fun _ => ?_)
                refine lv_iconst (v := 0) hx hb dX12_mark_98 (by decide) ?_
                have B := bd_sub (ws' := [(mo, .inr (10, fvM V1_17))]) [1] (by decide) rfl B
                exact x_iret B hr (Or.inr (Or.inr (⟨V1_17, by omega, by omega, z_19, rfl, rfl⟩))) (Nat.le_of_ble_eq_true rfl) (Nat.le_of_ble_eq_true rfl) dX12_mark_99
          · have zc_7 : x1.toInt = 3 := znne c_7
            refine lv_bipush (v := 7) hx hb dX12_mark_54 (by decide) ?_
            refine lv_goto (tgt := 60) hx hb dX12_mark_56 (by decide) ?_
            refine lv_istore (lv' := [(5, .int 7), (4, .int 0), (3, .int 1), (0, .ref mo), (1, .int x1), (2, .int x2)]) hx hb dX12_mark_60 hl (by decide) rfl (fun ls hl => ?_)
            refine lv_aload_n hx hb dX12_mark_62 rfl (lv_at hl 3 rfl) ?_
            refine lv_iload_n hx hb dX12_mark_63 rfl (lv_at hl 2 rfl) ?_
            refine lv_if_ne (tgt := 71) hx hb dX12_mark_64 (by decide) (fun _ => ?_) (fun c9 => absurd c9 (by decide))
            refine lv_iload_n hx hb dX12_mark_71 rfl (lv_at hl 5 rfl) ?_
            refine lv_iconst (v := (-1)) hx hb dX12_mark_72 (by decide) ?_
            refine lv_icmp_eq (tgt := 87) hx hb dX12_mark_73 (by decide) (fun c_20 => ?_) (fun c_20 => ?_)
            · have zc_20 : x2.toInt = (-1) := zeq c_20
              refine lv_iconst (v := 0) hx hb dX12_mark_87 (by decide) ?_
              refine lv_goto (tgt := 92) hx hb dX12_mark_88 (by decide) ?_
              refine x_callV (rest := []) (wr := [(aDr, .inl (k 0, 5, .inl ge))]) (m_refused0 l dC dI k mo V) B mV_X12_refused mw_2155 hl [0] [1] rfl rfl ⟨by decide, by decide⟩ (by decide) (q0 := 0) rfl rfl rfl ⟨Nat.le_of_ble_eq_true rfl, Nat.le_of_ble_eq_true rfl⟩ (Nat.le_of_ble_eq_true rfl) rfl dX12_mark_92 ⟨Nat.le_of_ble_eq_true rfl, Nat.le_of_ble_eq_true rfl⟩ (fun r w H locs hp B => ?_)
              obtain ⟨V1_21, z_22, z_23, rfl, rfl⟩ := hp
              have B := bd_to (ws' := [(aDr, .inl (k 0, 5, .inl ge)), (mo, .inr (10, fvM V1_21))]) rfl B
              refine lv_if_eq (tgt := 100) hx hb dX12_mark_95 (by decide) (fun _ => ?_) (fun c9 => absurd (by decide) c9)
              refine lv_aload_n hx hb dX12_mark_100 rfl (lv_at hl 3 rfl) ?_
              refine x_get (ci := 10) (C := RX12) (T := TX12) (N := 93) (v := .ref aDr) B 1 rfl rfl in_X12 3 (by decide) mw_1867 (fun _ h9 => h9) (fvM_get (by decide) ((z_22 3 (by decide)).trans h3)) dX12_mark_101 ?_
              refine lv_iload_n hx hb dX12_mark_104 rfl (lv_at hl 4 rfl) ?_
              refine lv_seti (y := 3) (zint (by rw [show (3 : Int32).toInt = 3 by decide]; omega)) ?_
              refine x_iald (v := (-1)) B 0 rfl (vpc (by decide)) dX12_mark_105 (hge _ (by decide)) ?_
              refine lv_istore (lv' := [(6, .int (-1)), (5, .int 7), (4, .int 0), (3, .int 1), (0, .ref mo), (1, .int x1), (2, .int x2)]) hx hb dX12_mark_106 hl (by decide) rfl (fun ls hl => ?_)
              refine lv_aload_n hx hb dX12_mark_108 rfl (lv_at hl 4 rfl) ?_
              refine x_get (ci := 10) (C := RX12) (T := TX12) (N := 93) (v := .ref aDr) B 1 rfl rfl in_X12 3 (by decide) mw_1867 (fun _ h9 => h9) (fvM_get (by decide) ((z_22 3 (by decide)).trans h3)) dX12_mark_109 ?_
              refine lv_iload_n hx hb dX12_mark_112 rfl (lv_at hl 5 rfl) ?_
              refine lv_seti (y := 3) (zint (by rw [show (3 : Int32).toInt = 3 by decide]; omega)) ?_
              refine lv_iload_n hx hb dX12_mark_113 rfl (lv_at hl 6 rfl) ?_
              refine lv_seti (y := (-1)) (zint (by rw [show ((-1) : Int32).toInt = (-1) by decide]; omega)) ?_
              refine x_iast B 0 rfl (vpc (by decide)) dX12_mark_114 (j := 3) (by decide) (fun H locs B => ?_)
              have B := bd_to (ws' := [(aDr, .inl (k 0, 5, .inl (upd ge 3 (-1)))), (mo, .inr (10, fvM V1_21))]) rfl B
              refine lv_iload hx hb dX12_mark_115 (lv_at hl 0 rfl) ?_
              have B := bd_sub (ws' := [(mo, .inr (10, fvM V1_21))]) [1] (by decide) rfl B
              exact x_iret B hr (Or.inl (⟨V1_21, by omega, by omega, z_23, rfl, rfl⟩)) (Nat.le_of_ble_eq_true rfl) (Nat.le_of_ble_eq_true rfl) dX12_mark_117
            · have zc_20 : x2.toInt ≠ (-1) := zne c_20
              refine lv_iload_n hx hb dX12_mark_76 rfl (lv_at hl 5 rfl) ?_
              refine lv_iload hx hb dX12_mark_77 (lv_at hl 1 rfl) ?_
              refine lv_iload hx hb dX12_mark_79 (lv_at hl 0 rfl) ?_
              refine x_callS (rest := [.ref mo]) (wr := [(mo, .inr (10, fvM V)), (aDr, .inl (k 0, 5, .inl ge))]) (m_in_0_7 l dC dI k x2) B mS_X12_in mw_2152 hl [] [0, 1] rfl rfl ⟨by decide, by decide⟩ (by decide) ⟨Nat.le_of_ble_eq_true rfl, Nat.le_of_ble_eq_true rfl⟩ (Nat.le_of_ble_eq_true rfl) rfl dX12_mark_81 ⟨Nat.le_of_ble_eq_true rfl, Nat.le_of_ble_eq_true rfl⟩ (fun r w H locs hp B => ?_)
              rcases hp with ⟨z_24, rfl, rfl⟩ | ⟨z_25, rfl, rfl⟩
              · skip
                have B := bd_to (ws' := [(mo, .inr (10, fvM V)), (aDr, .inl (k 0, 5, .inl ge))]) rfl B
                refine lv_if_eq (tgt := 91) hx hb dX12_mark_84 (by decide) (fun c9 => absurd c9 (by decide)) (fun _ => ?_)
                refine lv_iconst (v := 0) hx hb dX12_mark_87 (by decide) ?_
                refine lv_goto (tgt := 92) hx hb dX12_mark_88 (by decide) ?_
                refine x_callV (rest := []) (wr := [(aDr, .inl (k 0, 5, .inl ge))]) (m_refused0 l dC dI k mo V) B mV_X12_refused mw_2155 hl [0] [1] rfl rfl ⟨by decide, by decide⟩ (by decide) (q0 := 0) rfl rfl rfl ⟨Nat.le_of_ble_eq_true rfl, Nat.le_of_ble_eq_true rfl⟩ (Nat.le_of_ble_eq_true rfl) rfl dX12_mark_92 ⟨Nat.le_of_ble_eq_true rfl, Nat.le_of_ble_eq_true rfl⟩ (fun r w H locs hp B => ?_)
                obtain ⟨V1_26, z_27, z_28, rfl, rfl⟩ := hp
                have B := bd_to (ws' := [(aDr, .inl (k 0, 5, .inl ge)), (mo, .inr (10, fvM V1_26))]) rfl B
                refine lv_if_eq (tgt := 100) hx hb dX12_mark_95 (by decide) (fun _ => ?_) (fun c9 => absurd (by decide) c9)
                refine lv_aload_n hx hb dX12_mark_100 rfl (lv_at hl 3 rfl) ?_
                refine x_get (ci := 10) (C := RX12) (T := TX12) (N := 93) (v := .ref aDr) B 1 rfl rfl in_X12 3 (by decide) mw_1867 (fun _ h9 => h9) (fvM_get (by decide) ((z_27 3 (by decide)).trans h3)) dX12_mark_101 ?_
                refine lv_iload_n hx hb dX12_mark_104 rfl (lv_at hl 4 rfl) ?_
                refine lv_seti (y := 3) (zint (by rw [show (3 : Int32).toInt = 3 by decide]; omega)) ?_
                refine x_iald (v := (-1)) B 0 rfl (vpc (by decide)) dX12_mark_105 (hge _ (by decide)) ?_
                refine lv_istore (lv' := [(6, .int (-1)), (5, .int 7), (4, .int 0), (3, .int 1), (0, .ref mo), (1, .int x1), (2, .int x2)]) hx hb dX12_mark_106 hl (by decide) rfl (fun ls hl => ?_)
                refine lv_aload_n hx hb dX12_mark_108 rfl (lv_at hl 4 rfl) ?_
                refine x_get (ci := 10) (C := RX12) (T := TX12) (N := 93) (v := .ref aDr) B 1 rfl rfl in_X12 3 (by decide) mw_1867 (fun _ h9 => h9) (fvM_get (by decide) ((z_27 3 (by decide)).trans h3)) dX12_mark_109 ?_
                refine lv_iload_n hx hb dX12_mark_112 rfl (lv_at hl 5 rfl) ?_
                refine lv_seti (y := 3) (zint (by rw [show (3 : Int32).toInt = 3 by decide]; omega)) ?_
                refine lv_iload_n hx hb dX12_mark_113 rfl (lv_at hl 6 rfl) ?_
                refine x_iast B 0 rfl (vpc (by decide)) dX12_mark_114 (j := 3) (by decide) (fun H locs B => ?_)
                have B := bd_to (ws' := [(aDr, .inl (k 0, 5, .inl (upd ge 3 x2))), (mo, .inr (10, fvM V1_26))]) rfl B
                refine lv_iload hx hb dX12_mark_115 (lv_at hl 0 rfl) ?_
                have B := bd_sub (ws' := [(mo, .inr (10, fvM V1_26))]) [1] (by decide) rfl B
                exact x_iret B hr (Or.inl (⟨V1_26, by omega, by omega, z_28, rfl, rfl⟩)) (Nat.le_of_ble_eq_true rfl) (Nat.le_of_ble_eq_true rfl) dX12_mark_117
              · skip
                have B := bd_to (ws' := [(mo, .inr (10, fvM V)), (aDr, .inl (k 0, 5, .inl ge))]) rfl B
                refine lv_if_eq (tgt := 91) hx hb dX12_mark_84 (by decide) (fun _ => ?_) (fun c9 => absurd (by decide) c9)
                refine lv_iconst (v := 2) hx hb dX12_mark_91 (by decide) ?_
                refine x_callV (rest := []) (wr := [(aDr, .inl (k 0, 5, .inl ge))]) (m_refused2 l dC dI k mo V) B mV_X12_refused mw_2155 hl [0] [1] rfl rfl ⟨by decide, by decide⟩ (by decide) (q0 := 0) rfl rfl rfl ⟨Nat.le_of_ble_eq_true rfl, Nat.le_of_ble_eq_true rfl⟩ (Nat.le_of_ble_eq_true rfl) rfl dX12_mark_92 ⟨Nat.le_of_ble_eq_true rfl, Nat.le_of_ble_eq_true rfl⟩ (fun r w H locs hp B => ?_)
                obtain ⟨V1_29, z_30, z_31, rfl, rfl⟩ := hp
                have B := bd_to (ws' := [(aDr, .inl (k 0, 5, .inl ge)), (mo, .inr (10, fvM V1_29))]) rfl B
                refine lv_if_eq (tgt := 100) hx hb dX12_mark_95 (by decide) (fun c9 => absurd c9 (by decide)) (fun _ => ?_)
                refine lv_iconst (v := 0) hx hb dX12_mark_98 (by decide) ?_
                have B := bd_sub (ws' := [(mo, .inr (10, fvM V1_29))]) [1] (by decide) rfl B
                exact x_iret B hr (Or.inr (Or.inr (⟨V1_29, by omega, by omega, z_31, rfl, rfl⟩))) (Nat.le_of_ble_eq_true rfl) (Nat.le_of_ble_eq_true rfl) dX12_mark_99
        · have zc_6 : x1.toInt = 2 := znne c_6
          refine lv_iconst (v := 5) hx hb dX12_mark_45 (by decide) ?_
          refine lv_goto (tgt := 60) hx hb dX12_mark_46 (by decide) ?_
          refine lv_istore (lv' := [(5, .int 5), (4, .int 0), (3, .int 1), (0, .ref mo), (1, .int x1), (2, .int x2)]) hx hb dX12_mark_60 hl (by decide) rfl (fun ls hl => ?_)
          refine lv_aload_n hx hb dX12_mark_62 rfl (lv_at hl 3 rfl) ?_
          refine lv_iload_n hx hb dX12_mark_63 rfl (lv_at hl 2 rfl) ?_
          refine lv_if_ne (tgt := 71) hx hb dX12_mark_64 (by decide) (fun _ => ?_) (fun c9 => absurd c9 (by decide))
          refine lv_iload_n hx hb dX12_mark_71 rfl (lv_at hl 5 rfl) ?_
          refine lv_iconst (v := (-1)) hx hb dX12_mark_72 (by decide) ?_
          refine lv_icmp_eq (tgt := 87) hx hb dX12_mark_73 (by decide) (fun c_32 => ?_) (fun c_32 => ?_)
          · have zc_32 : x2.toInt = (-1) := zeq c_32
            refine lv_iconst (v := 0) hx hb dX12_mark_87 (by decide) ?_
            refine lv_goto (tgt := 92) hx hb dX12_mark_88 (by decide) ?_
            refine x_callV (rest := []) (wr := [(aDr, .inl (k 0, 5, .inl ge))]) (m_refused0 l dC dI k mo V) B mV_X12_refused mw_2155 hl [0] [1] rfl rfl ⟨by decide, by decide⟩ (by decide) (q0 := 0) rfl rfl rfl ⟨Nat.le_of_ble_eq_true rfl, Nat.le_of_ble_eq_true rfl⟩ (Nat.le_of_ble_eq_true rfl) rfl dX12_mark_92 ⟨Nat.le_of_ble_eq_true rfl, Nat.le_of_ble_eq_true rfl⟩ (fun r w H locs hp B => ?_)
            obtain ⟨V1_33, z_34, z_35, rfl, rfl⟩ := hp
            have B := bd_to (ws' := [(aDr, .inl (k 0, 5, .inl ge)), (mo, .inr (10, fvM V1_33))]) rfl B
            refine lv_if_eq (tgt := 100) hx hb dX12_mark_95 (by decide) (fun _ => ?_) (fun c9 => absurd (by decide) c9)
            refine lv_aload_n hx hb dX12_mark_100 rfl (lv_at hl 3 rfl) ?_
            refine x_get (ci := 10) (C := RX12) (T := TX12) (N := 93) (v := .ref aDr) B 1 rfl rfl in_X12 3 (by decide) mw_1867 (fun _ h9 => h9) (fvM_get (by decide) ((z_34 3 (by decide)).trans h3)) dX12_mark_101 ?_
            refine lv_iload_n hx hb dX12_mark_104 rfl (lv_at hl 4 rfl) ?_
            refine lv_seti (y := 2) (zint (by rw [show (2 : Int32).toInt = 2 by decide]; omega)) ?_
            refine x_iald (v := (-1)) B 0 rfl (vpc (by decide)) dX12_mark_105 (hge _ (by decide)) ?_
            refine lv_istore (lv' := [(6, .int (-1)), (5, .int 5), (4, .int 0), (3, .int 1), (0, .ref mo), (1, .int x1), (2, .int x2)]) hx hb dX12_mark_106 hl (by decide) rfl (fun ls hl => ?_)
            refine lv_aload_n hx hb dX12_mark_108 rfl (lv_at hl 4 rfl) ?_
            refine x_get (ci := 10) (C := RX12) (T := TX12) (N := 93) (v := .ref aDr) B 1 rfl rfl in_X12 3 (by decide) mw_1867 (fun _ h9 => h9) (fvM_get (by decide) ((z_34 3 (by decide)).trans h3)) dX12_mark_109 ?_
            refine lv_iload_n hx hb dX12_mark_112 rfl (lv_at hl 5 rfl) ?_
            refine lv_seti (y := 2) (zint (by rw [show (2 : Int32).toInt = 2 by decide]; omega)) ?_
            refine lv_iload_n hx hb dX12_mark_113 rfl (lv_at hl 6 rfl) ?_
            refine lv_seti (y := (-1)) (zint (by rw [show ((-1) : Int32).toInt = (-1) by decide]; omega)) ?_
            refine x_iast B 0 rfl (vpc (by decide)) dX12_mark_114 (j := 2) (by decide) (fun H locs B => ?_)
            have B := bd_to (ws' := [(aDr, .inl (k 0, 5, .inl (upd ge 2 (-1)))), (mo, .inr (10, fvM V1_33))]) rfl B
            refine lv_iload hx hb dX12_mark_115 (lv_at hl 0 rfl) ?_
            have B := bd_sub (ws' := [(mo, .inr (10, fvM V1_33))]) [1] (by decide) rfl B
            exact x_iret B hr (Or.inl (⟨V1_33, by omega, by omega, z_35, rfl, rfl⟩)) (Nat.le_of_ble_eq_true rfl) (Nat.le_of_ble_eq_true rfl) dX12_mark_117
          · have zc_32 : x2.toInt ≠ (-1) := zne c_32
            refine lv_iload_n hx hb dX12_mark_76 rfl (lv_at hl 5 rfl) ?_
            refine lv_iload hx hb dX12_mark_77 (lv_at hl 1 rfl) ?_
            refine lv_iload hx hb dX12_mark_79 (lv_at hl 0 rfl) ?_
            refine x_callS (rest := [.ref mo]) (wr := [(mo, .inr (10, fvM V)), (aDr, .inl (k 0, 5, .inl ge))]) (m_in_0_5 l dC dI k x2) B mS_X12_in mw_2152 hl [] [0, 1] rfl rfl ⟨by decide, by decide⟩ (by decide) ⟨Nat.le_of_ble_eq_true rfl, Nat.le_of_ble_eq_true rfl⟩ (Nat.le_of_ble_eq_true rfl) rfl dX12_mark_81 ⟨Nat.le_of_ble_eq_true rfl, Nat.le_of_ble_eq_true rfl⟩ (fun r w H locs hp B => ?_)
            rcases hp with ⟨z_36, rfl, rfl⟩ | ⟨z_37, rfl, rfl⟩
            · skip
              have B := bd_to (ws' := [(mo, .inr (10, fvM V)), (aDr, .inl (k 0, 5, .inl ge))]) rfl B
              refine lv_if_eq (tgt := 91) hx hb dX12_mark_84 (by decide) (fun c9 => absurd c9 (by decide)) (fun _ => ?_)
              refine lv_iconst (v := 0) hx hb dX12_mark_87 (by decide) ?_
              refine lv_goto (tgt := 92) hx hb dX12_mark_88 (by decide) ?_
              refine x_callV (rest := []) (wr := [(aDr, .inl (k 0, 5, .inl ge))]) (m_refused0 l dC dI k mo V) B mV_X12_refused mw_2155 hl [0] [1] rfl rfl ⟨by decide, by decide⟩ (by decide) (q0 := 0) rfl rfl rfl ⟨Nat.le_of_ble_eq_true rfl, Nat.le_of_ble_eq_true rfl⟩ (Nat.le_of_ble_eq_true rfl) rfl dX12_mark_92 ⟨Nat.le_of_ble_eq_true rfl, Nat.le_of_ble_eq_true rfl⟩ (fun r w H locs hp B => ?_)
              obtain ⟨V1_38, z_39, z_40, rfl, rfl⟩ := hp
              have B := bd_to (ws' := [(aDr, .inl (k 0, 5, .inl ge)), (mo, .inr (10, fvM V1_38))]) rfl B
              refine lv_if_eq (tgt := 100) hx hb dX12_mark_95 (by decide) (fun _ => ?_) (fun c9 => absurd (by decide) c9)
              refine lv_aload_n hx hb dX12_mark_100 rfl (lv_at hl 3 rfl) ?_
              refine x_get (ci := 10) (C := RX12) (T := TX12) (N := 93) (v := .ref aDr) B 1 rfl rfl in_X12 3 (by decide) mw_1867 (fun _ h9 => h9) (fvM_get (by decide) ((z_39 3 (by decide)).trans h3)) dX12_mark_101 ?_
              refine lv_iload_n hx hb dX12_mark_104 rfl (lv_at hl 4 rfl) ?_
              refine lv_seti (y := 2) (zint (by rw [show (2 : Int32).toInt = 2 by decide]; omega)) ?_
              refine x_iald (v := (-1)) B 0 rfl (vpc (by decide)) dX12_mark_105 (hge _ (by decide)) ?_
              refine lv_istore (lv' := [(6, .int (-1)), (5, .int 5), (4, .int 0), (3, .int 1), (0, .ref mo), (1, .int x1), (2, .int x2)]) hx hb dX12_mark_106 hl (by decide) rfl (fun ls hl => ?_)
              refine lv_aload_n hx hb dX12_mark_108 rfl (lv_at hl 4 rfl) ?_
              refine x_get (ci := 10) (C := RX12) (T := TX12) (N := 93) (v := .ref aDr) B 1 rfl rfl in_X12 3 (by decide) mw_1867 (fun _ h9 => h9) (fvM_get (by decide) ((z_39 3 (by decide)).trans h3)) dX12_mark_109 ?_
              refine lv_iload_n hx hb dX12_mark_112 rfl (lv_at hl 5 rfl) ?_
              refine lv_seti (y := 2) (zint (by rw [show (2 : Int32).toInt = 2 by decide]; omega)) ?_
              refine lv_iload_n hx hb dX12_mark_113 rfl (lv_at hl 6 rfl) ?_
              refine x_iast B 0 rfl (vpc (by decide)) dX12_mark_114 (j := 2) (by decide) (fun H locs B => ?_)
              have B := bd_to (ws' := [(aDr, .inl (k 0, 5, .inl (upd ge 2 x2))), (mo, .inr (10, fvM V1_38))]) rfl B
              refine lv_iload hx hb dX12_mark_115 (lv_at hl 0 rfl) ?_
              have B := bd_sub (ws' := [(mo, .inr (10, fvM V1_38))]) [1] (by decide) rfl B
              exact x_iret B hr (Or.inl (⟨V1_38, by omega, by omega, z_40, rfl, rfl⟩)) (Nat.le_of_ble_eq_true rfl) (Nat.le_of_ble_eq_true rfl) dX12_mark_117
            · skip
              have B := bd_to (ws' := [(mo, .inr (10, fvM V)), (aDr, .inl (k 0, 5, .inl ge))]) rfl B
              refine lv_if_eq (tgt := 91) hx hb dX12_mark_84 (by decide) (fun _ => ?_) (fun c9 => absurd (by decide) c9)
              refine lv_iconst (v := 2) hx hb dX12_mark_91 (by decide) ?_
              refine x_callV (rest := []) (wr := [(aDr, .inl (k 0, 5, .inl ge))]) (m_refused2 l dC dI k mo V) B mV_X12_refused mw_2155 hl [0] [1] rfl rfl ⟨by decide, by decide⟩ (by decide) (q0 := 0) rfl rfl rfl ⟨Nat.le_of_ble_eq_true rfl, Nat.le_of_ble_eq_true rfl⟩ (Nat.le_of_ble_eq_true rfl) rfl dX12_mark_92 ⟨Nat.le_of_ble_eq_true rfl, Nat.le_of_ble_eq_true rfl⟩ (fun r w H locs hp B => ?_)
              obtain ⟨V1_41, z_42, z_43, rfl, rfl⟩ := hp
              have B := bd_to (ws' := [(aDr, .inl (k 0, 5, .inl ge)), (mo, .inr (10, fvM V1_41))]) rfl B
              refine lv_if_eq (tgt := 100) hx hb dX12_mark_95 (by decide) (fun c9 => absurd c9 (by decide)) (fun _ => ?_)
              refine lv_iconst (v := 0) hx hb dX12_mark_98 (by decide) ?_
              have B := bd_sub (ws' := [(mo, .inr (10, fvM V1_41))]) [1] (by decide) rfl B
              exact x_iret B hr (Or.inr (Or.inr (⟨V1_41, by omega, by omega, z_43, rfl, rfl⟩))) (Nat.le_of_ble_eq_true rfl) (Nat.le_of_ble_eq_true rfl) dX12_mark_99
      · have zc_5 : x1.toInt = 1 := znne c_5
        refine lv_aload_n hx hb dX12_mark_31 rfl (lv_at hl 2 rfl) ?_
        refine x_get (ci := 10) (C := RX12) (T := TX12) (N := 93) (v := .int 0) B 0 rfl rfl in_X12 21 (by decide) mw_1885 (fun _ h9 => h9) (fvM_get (by decide) h21) dX12_mark_32 ?_
        refine lv_iconst (v := 1) hx hb dX12_mark_35 (by decide) ?_
        refine lv_isub hx hb dX12_mark_36 ?_
        refine lv_seti (y := (-1)) (by decide) ?_
        refine lv_goto (tgt := 60) hx hb dX12_mark_37 (by decide) ?_
        refine lv_istore (lv' := [(5, .int (-1)), (4, .int 0), (3, .int 1), (0, .ref mo), (1, .int x1), (2, .int x2)]) hx hb dX12_mark_60 hl (by decide) rfl (fun ls hl => ?_)
        refine lv_aload_n hx hb dX12_mark_62 rfl (lv_at hl 3 rfl) ?_
        refine lv_iload_n hx hb dX12_mark_63 rfl (lv_at hl 2 rfl) ?_
        refine lv_if_ne (tgt := 71) hx hb dX12_mark_64 (by decide) (fun _ => ?_) (fun c9 => absurd c9 (by decide))
        refine lv_iload_n hx hb dX12_mark_71 rfl (lv_at hl 5 rfl) ?_
        refine lv_iconst (v := (-1)) hx hb dX12_mark_72 (by decide) ?_
        refine lv_icmp_eq (tgt := 87) hx hb dX12_mark_73 (by decide) (fun c_44 => ?_) (fun c_44 => ?_)
        · have zc_44 : x2.toInt = (-1) := zeq c_44
          refine lv_iconst (v := 0) hx hb dX12_mark_87 (by decide) ?_
          refine lv_goto (tgt := 92) hx hb dX12_mark_88 (by decide) ?_
          refine x_callV (rest := []) (wr := [(aDr, .inl (k 0, 5, .inl ge))]) (m_refused0 l dC dI k mo V) B mV_X12_refused mw_2155 hl [0] [1] rfl rfl ⟨by decide, by decide⟩ (by decide) (q0 := 0) rfl rfl rfl ⟨Nat.le_of_ble_eq_true rfl, Nat.le_of_ble_eq_true rfl⟩ (Nat.le_of_ble_eq_true rfl) rfl dX12_mark_92 ⟨Nat.le_of_ble_eq_true rfl, Nat.le_of_ble_eq_true rfl⟩ (fun r w H locs hp B => ?_)
          obtain ⟨V1_45, z_46, z_47, rfl, rfl⟩ := hp
          have B := bd_to (ws' := [(aDr, .inl (k 0, 5, .inl ge)), (mo, .inr (10, fvM V1_45))]) rfl B
          refine lv_if_eq (tgt := 100) hx hb dX12_mark_95 (by decide) (fun _ => ?_) (fun c9 => absurd (by decide) c9)
          refine lv_aload_n hx hb dX12_mark_100 rfl (lv_at hl 3 rfl) ?_
          refine x_get (ci := 10) (C := RX12) (T := TX12) (N := 93) (v := .ref aDr) B 1 rfl rfl in_X12 3 (by decide) mw_1867 (fun _ h9 => h9) (fvM_get (by decide) ((z_46 3 (by decide)).trans h3)) dX12_mark_101 ?_
          refine lv_iload_n hx hb dX12_mark_104 rfl (lv_at hl 4 rfl) ?_
          refine lv_seti (y := 1) (zint (by rw [show (1 : Int32).toInt = 1 by decide]; omega)) ?_
          refine x_iald (v := (-1)) B 0 rfl (vpc (by decide)) dX12_mark_105 (hge _ (by decide)) ?_
          refine lv_istore (lv' := [(6, .int (-1)), (5, .int (-1)), (4, .int 0), (3, .int 1), (0, .ref mo), (1, .int x1), (2, .int x2)]) hx hb dX12_mark_106 hl (by decide) rfl (fun ls hl => ?_)
          refine lv_aload_n hx hb dX12_mark_108 rfl (lv_at hl 4 rfl) ?_
          refine x_get (ci := 10) (C := RX12) (T := TX12) (N := 93) (v := .ref aDr) B 1 rfl rfl in_X12 3 (by decide) mw_1867 (fun _ h9 => h9) (fvM_get (by decide) ((z_46 3 (by decide)).trans h3)) dX12_mark_109 ?_
          refine lv_iload_n hx hb dX12_mark_112 rfl (lv_at hl 5 rfl) ?_
          refine lv_seti (y := 1) (zint (by rw [show (1 : Int32).toInt = 1 by decide]; omega)) ?_
          refine lv_iload_n hx hb dX12_mark_113 rfl (lv_at hl 6 rfl) ?_
          refine lv_seti (y := (-1)) (zint (by rw [show ((-1) : Int32).toInt = (-1) by decide]; omega)) ?_
          refine x_iast B 0 rfl (vpc (by decide)) dX12_mark_114 (j := 1) (by decide) (fun H locs B => ?_)
          have B := bd_to (ws' := [(aDr, .inl (k 0, 5, .inl (upd ge 1 (-1)))), (mo, .inr (10, fvM V1_45))]) rfl B
          refine lv_iload hx hb dX12_mark_115 (lv_at hl 0 rfl) ?_
          have B := bd_sub (ws' := [(mo, .inr (10, fvM V1_45))]) [1] (by decide) rfl B
          exact x_iret B hr (Or.inl (⟨V1_45, by omega, by omega, z_47, rfl, rfl⟩)) (Nat.le_of_ble_eq_true rfl) (Nat.le_of_ble_eq_true rfl) dX12_mark_117
        · have zc_44 : x2.toInt ≠ (-1) := zne c_44
          refine lv_iload_n hx hb dX12_mark_76 rfl (lv_at hl 5 rfl) ?_
          refine lv_iload hx hb dX12_mark_77 (lv_at hl 1 rfl) ?_
          refine lv_iload hx hb dX12_mark_79 (lv_at hl 0 rfl) ?_
          refine x_callS (rest := [.ref mo]) (wr := [(mo, .inr (10, fvM V)), (aDr, .inl (k 0, 5, .inl ge))]) (m_in_0_n1 l dC dI k x2) B mS_X12_in mw_2152 hl [] [0, 1] rfl rfl ⟨by decide, by decide⟩ (by decide) ⟨Nat.le_of_ble_eq_true rfl, Nat.le_of_ble_eq_true rfl⟩ (Nat.le_of_ble_eq_true rfl) rfl dX12_mark_81 ⟨Nat.le_of_ble_eq_true rfl, Nat.le_of_ble_eq_true rfl⟩ (fun r w H locs hp B => ?_)
          rcases hp with ⟨z_48, rfl, rfl⟩ | ⟨z_49, rfl, rfl⟩
          · skip
            exfalso; first | omega | exact absurd z_48 (by decide)
          · skip
            have B := bd_to (ws' := [(mo, .inr (10, fvM V)), (aDr, .inl (k 0, 5, .inl ge))]) rfl B
            refine lv_if_eq (tgt := 91) hx hb dX12_mark_84 (by decide) (fun _ => ?_) (fun c9 => absurd (by decide) c9)
            refine lv_iconst (v := 2) hx hb dX12_mark_91 (by decide) ?_
            refine x_callV (rest := []) (wr := [(aDr, .inl (k 0, 5, .inl ge))]) (m_refused2 l dC dI k mo V) B mV_X12_refused mw_2155 hl [0] [1] rfl rfl ⟨by decide, by decide⟩ (by decide) (q0 := 0) rfl rfl rfl ⟨Nat.le_of_ble_eq_true rfl, Nat.le_of_ble_eq_true rfl⟩ (Nat.le_of_ble_eq_true rfl) rfl dX12_mark_92 ⟨Nat.le_of_ble_eq_true rfl, Nat.le_of_ble_eq_true rfl⟩ (fun r w H locs hp B => ?_)
            obtain ⟨V1_50, z_51, z_52, rfl, rfl⟩ := hp
            have B := bd_to (ws' := [(aDr, .inl (k 0, 5, .inl ge)), (mo, .inr (10, fvM V1_50))]) rfl B
            refine lv_if_eq (tgt := 100) hx hb dX12_mark_95 (by decide) (fun c9 => absurd c9 (by decide)) (fun _ => ?_)
            refine lv_iconst (v := 0) hx hb dX12_mark_98 (by decide) ?_
            have B := bd_sub (ws' := [(mo, .inr (10, fvM V1_50))]) [1] (by decide) rfl B
            exact x_iret B hr (Or.inr (Or.inr (⟨V1_50, by omega, by omega, z_52, rfl, rfl⟩))) (Nat.le_of_ble_eq_true rfl) (Nat.le_of_ble_eq_true rfl) dX12_mark_99
    · have zc_3 : x1.toInt = 0 := znne c_3
      refine lv_iconst (v := 1) hx hb dX12_mark_11 (by decide) ?_
      refine lv_goto (tgt := 16) hx hb dX12_mark_12 (by decide) ?_
      refine lv_istore (lv' := [(4, .int 1), (3, .int 1), (0, .ref mo), (1, .int x1), (2, .int x2)]) hx hb dX12_mark_16 hl (by decide) rfl (fun ls hl => ?_)
      refine lv_iload_n hx hb dX12_mark_18 rfl (lv_at hl 3 rfl) ?_
      refine lv_seti (y := 0) (zint (by rw [show (0 : Int32).toInt = 0 by decide]; omega)) ?_
      refine lv_if_ne (tgt := 26) hx hb dX12_mark_19 (by decide) (fun c9 => absurd c9 (by decide)) (fun _ => ?_)
      refine lv_iconst (v := 5) hx hb dX12_mark_22 (by decide) ?_
      refine lv_goto (tgt := 60) hx hb dX12_mark_23 (by decide) ?_
      refine lv_istore (lv' := [(5, .int 5), (4, .int 1), (3, .int 1), (0, .ref mo), (1, .int x1), (2, .int x2)]) hx hb dX12_mark_60 hl (by decide) rfl (fun ls hl => ?_)
      refine lv_aload_n hx hb dX12_mark_62 rfl (lv_at hl 3 rfl) ?_
      refine lv_iload_n hx hb dX12_mark_63 rfl (lv_at hl 2 rfl) ?_
      refine lv_if_ne (tgt := 71) hx hb dX12_mark_64 (by decide) (fun _ => ?_) (fun c9 => absurd c9 (by decide))
      refine lv_iload_n hx hb dX12_mark_71 rfl (lv_at hl 5 rfl) ?_
      refine lv_iconst (v := (-1)) hx hb dX12_mark_72 (by decide) ?_
      refine lv_icmp_eq (tgt := 87) hx hb dX12_mark_73 (by decide) (fun c_53 => ?_) (fun c_53 => ?_)
      · have zc_53 : x2.toInt = (-1) := zeq c_53
        refine lv_iconst (v := 0) hx hb dX12_mark_87 (by decide) ?_
        refine lv_goto (tgt := 92) hx hb dX12_mark_88 (by decide) ?_
        refine x_callV (rest := []) (wr := [(aDr, .inl (k 0, 5, .inl ge))]) (m_refused0 l dC dI k mo V) B mV_X12_refused mw_2155 hl [0] [1] rfl rfl ⟨by decide, by decide⟩ (by decide) (q0 := 0) rfl rfl rfl ⟨Nat.le_of_ble_eq_true rfl, Nat.le_of_ble_eq_true rfl⟩ (Nat.le_of_ble_eq_true rfl) rfl dX12_mark_92 ⟨Nat.le_of_ble_eq_true rfl, Nat.le_of_ble_eq_true rfl⟩ (fun r w H locs hp B => ?_)
        obtain ⟨V1_54, z_55, z_56, rfl, rfl⟩ := hp
        have B := bd_to (ws' := [(aDr, .inl (k 0, 5, .inl ge)), (mo, .inr (10, fvM V1_54))]) rfl B
        refine lv_if_eq (tgt := 100) hx hb dX12_mark_95 (by decide) (fun _ => ?_) (fun c9 => absurd (by decide) c9)
        refine lv_aload_n hx hb dX12_mark_100 rfl (lv_at hl 3 rfl) ?_
        refine x_get (ci := 10) (C := RX12) (T := TX12) (N := 93) (v := .ref aDr) B 1 rfl rfl in_X12 3 (by decide) mw_1867 (fun _ h9 => h9) (fvM_get (by decide) ((z_55 3 (by decide)).trans h3)) dX12_mark_101 ?_
        refine lv_iload_n hx hb dX12_mark_104 rfl (lv_at hl 4 rfl) ?_
        refine lv_seti (y := 0) (zint (by rw [show (0 : Int32).toInt = 0 by decide]; omega)) ?_
        refine x_iald (v := (-1)) B 0 rfl (vpc (by decide)) dX12_mark_105 (hge _ (by decide)) ?_
        refine lv_istore (lv' := [(6, .int (-1)), (5, .int 5), (4, .int 1), (3, .int 1), (0, .ref mo), (1, .int x1), (2, .int x2)]) hx hb dX12_mark_106 hl (by decide) rfl (fun ls hl => ?_)
        refine lv_aload_n hx hb dX12_mark_108 rfl (lv_at hl 4 rfl) ?_
        refine x_get (ci := 10) (C := RX12) (T := TX12) (N := 93) (v := .ref aDr) B 1 rfl rfl in_X12 3 (by decide) mw_1867 (fun _ h9 => h9) (fvM_get (by decide) ((z_55 3 (by decide)).trans h3)) dX12_mark_109 ?_
        refine lv_iload_n hx hb dX12_mark_112 rfl (lv_at hl 5 rfl) ?_
        refine lv_seti (y := 0) (zint (by rw [show (0 : Int32).toInt = 0 by decide]; omega)) ?_
        refine lv_iload_n hx hb dX12_mark_113 rfl (lv_at hl 6 rfl) ?_
        refine lv_seti (y := (-1)) (zint (by rw [show ((-1) : Int32).toInt = (-1) by decide]; omega)) ?_
        refine x_iast B 0 rfl (vpc (by decide)) dX12_mark_114 (j := 0) (by decide) (fun H locs B => ?_)
        have B := bd_to (ws' := [(aDr, .inl (k 0, 5, .inl (upd ge 0 (-1)))), (mo, .inr (10, fvM V1_54))]) rfl B
        refine lv_iload hx hb dX12_mark_115 (lv_at hl 0 rfl) ?_
        have B := bd_sub (ws' := [(mo, .inr (10, fvM V1_54))]) [1] (by decide) rfl B
        exact x_iret B hr (Or.inl (⟨V1_54, by omega, by omega, z_56, rfl, rfl⟩)) (Nat.le_of_ble_eq_true rfl) (Nat.le_of_ble_eq_true rfl) dX12_mark_117
      · have zc_53 : x2.toInt ≠ (-1) := zne c_53
        refine lv_iload_n hx hb dX12_mark_76 rfl (lv_at hl 5 rfl) ?_
        refine lv_iload hx hb dX12_mark_77 (lv_at hl 1 rfl) ?_
        refine lv_iload hx hb dX12_mark_79 (lv_at hl 0 rfl) ?_
        refine x_callS (rest := [.ref mo]) (wr := [(mo, .inr (10, fvM V)), (aDr, .inl (k 0, 5, .inl ge))]) (m_in_1_5 l dC dI k x2) B mS_X12_in mw_2152 hl [] [0, 1] rfl rfl ⟨by decide, by decide⟩ (by decide) ⟨Nat.le_of_ble_eq_true rfl, Nat.le_of_ble_eq_true rfl⟩ (Nat.le_of_ble_eq_true rfl) rfl dX12_mark_81 ⟨Nat.le_of_ble_eq_true rfl, Nat.le_of_ble_eq_true rfl⟩ (fun r w H locs hp B => ?_)
        rcases hp with ⟨z_57, rfl, rfl⟩ | ⟨z_58, rfl, rfl⟩
        · skip
          have B := bd_to (ws' := [(mo, .inr (10, fvM V)), (aDr, .inl (k 0, 5, .inl ge))]) rfl B
          refine lv_if_eq (tgt := 91) hx hb dX12_mark_84 (by decide) (fun c9 => absurd c9 (by decide)) (fun _ => ?_)
          refine lv_iconst (v := 0) hx hb dX12_mark_87 (by decide) ?_
          refine lv_goto (tgt := 92) hx hb dX12_mark_88 (by decide) ?_
          refine x_callV (rest := []) (wr := [(aDr, .inl (k 0, 5, .inl ge))]) (m_refused0 l dC dI k mo V) B mV_X12_refused mw_2155 hl [0] [1] rfl rfl ⟨by decide, by decide⟩ (by decide) (q0 := 0) rfl rfl rfl ⟨Nat.le_of_ble_eq_true rfl, Nat.le_of_ble_eq_true rfl⟩ (Nat.le_of_ble_eq_true rfl) rfl dX12_mark_92 ⟨Nat.le_of_ble_eq_true rfl, Nat.le_of_ble_eq_true rfl⟩ (fun r w H locs hp B => ?_)
          obtain ⟨V1_59, z_60, z_61, rfl, rfl⟩ := hp
          have B := bd_to (ws' := [(aDr, .inl (k 0, 5, .inl ge)), (mo, .inr (10, fvM V1_59))]) rfl B
          refine lv_if_eq (tgt := 100) hx hb dX12_mark_95 (by decide) (fun _ => ?_) (fun c9 => absurd (by decide) c9)
          refine lv_aload_n hx hb dX12_mark_100 rfl (lv_at hl 3 rfl) ?_
          refine x_get (ci := 10) (C := RX12) (T := TX12) (N := 93) (v := .ref aDr) B 1 rfl rfl in_X12 3 (by decide) mw_1867 (fun _ h9 => h9) (fvM_get (by decide) ((z_60 3 (by decide)).trans h3)) dX12_mark_101 ?_
          refine lv_iload_n hx hb dX12_mark_104 rfl (lv_at hl 4 rfl) ?_
          refine lv_seti (y := 0) (zint (by rw [show (0 : Int32).toInt = 0 by decide]; omega)) ?_
          refine x_iald (v := (-1)) B 0 rfl (vpc (by decide)) dX12_mark_105 (hge _ (by decide)) ?_
          refine lv_istore (lv' := [(6, .int (-1)), (5, .int 5), (4, .int 1), (3, .int 1), (0, .ref mo), (1, .int x1), (2, .int x2)]) hx hb dX12_mark_106 hl (by decide) rfl (fun ls hl => ?_)
          refine lv_aload_n hx hb dX12_mark_108 rfl (lv_at hl 4 rfl) ?_
          refine x_get (ci := 10) (C := RX12) (T := TX12) (N := 93) (v := .ref aDr) B 1 rfl rfl in_X12 3 (by decide) mw_1867 (fun _ h9 => h9) (fvM_get (by decide) ((z_60 3 (by decide)).trans h3)) dX12_mark_109 ?_
          refine lv_iload_n hx hb dX12_mark_112 rfl (lv_at hl 5 rfl) ?_
          refine lv_seti (y := 0) (zint (by rw [show (0 : Int32).toInt = 0 by decide]; omega)) ?_
          refine lv_iload_n hx hb dX12_mark_113 rfl (lv_at hl 6 rfl) ?_
          refine x_iast B 0 rfl (vpc (by decide)) dX12_mark_114 (j := 0) (by decide) (fun H locs B => ?_)
          have B := bd_to (ws' := [(aDr, .inl (k 0, 5, .inl (upd ge 0 x2))), (mo, .inr (10, fvM V1_59))]) rfl B
          refine lv_iload hx hb dX12_mark_115 (lv_at hl 0 rfl) ?_
          have B := bd_sub (ws' := [(mo, .inr (10, fvM V1_59))]) [1] (by decide) rfl B
          exact x_iret B hr (Or.inl (⟨V1_59, by omega, by omega, z_61, rfl, rfl⟩)) (Nat.le_of_ble_eq_true rfl) (Nat.le_of_ble_eq_true rfl) dX12_mark_117
        · skip
          have B := bd_to (ws' := [(mo, .inr (10, fvM V)), (aDr, .inl (k 0, 5, .inl ge))]) rfl B
          refine lv_if_eq (tgt := 91) hx hb dX12_mark_84 (by decide) (fun _ => ?_) (fun c9 => absurd (by decide) c9)
          refine lv_iconst (v := 2) hx hb dX12_mark_91 (by decide) ?_
          refine x_callV (rest := []) (wr := [(aDr, .inl (k 0, 5, .inl ge))]) (m_refused2 l dC dI k mo V) B mV_X12_refused mw_2155 hl [0] [1] rfl rfl ⟨by decide, by decide⟩ (by decide) (q0 := 0) rfl rfl rfl ⟨Nat.le_of_ble_eq_true rfl, Nat.le_of_ble_eq_true rfl⟩ (Nat.le_of_ble_eq_true rfl) rfl dX12_mark_92 ⟨Nat.le_of_ble_eq_true rfl, Nat.le_of_ble_eq_true rfl⟩ (fun r w H locs hp B => ?_)
          obtain ⟨V1_62, z_63, z_64, rfl, rfl⟩ := hp
          have B := bd_to (ws' := [(aDr, .inl (k 0, 5, .inl ge)), (mo, .inr (10, fvM V1_62))]) rfl B
          refine lv_if_eq (tgt := 100) hx hb dX12_mark_95 (by decide) (fun c9 => absurd c9 (by decide)) (fun _ => ?_)
          refine lv_iconst (v := 0) hx hb dX12_mark_98 (by decide) ?_
          have B := bd_sub (ws' := [(mo, .inr (10, fvM V1_62))]) [1] (by decide) rfl B
          exact x_iret B hr (Or.inr (Or.inr (⟨V1_62, by omega, by omega, z_64, rfl, rfl⟩))) (Nat.le_of_ble_eq_true rfl) (Nat.le_of_ble_eq_true rfl) dX12_mark_99
  · skip
    have B := bd_to (ws' := [(mo, .inr (10, fvM V)), (aDr, .inl (k 0, 5, .inl ge))]) rfl B
    refine lv_istore_n (lv' := [(3, .int 0), (0, .ref mo), (1, .int x1), (2, .int x2)]) hx hb dX12_mark_6 rfl hl (by decide) rfl (fun ls hl => ?_)
    refine lv_iload_n hx hb dX12_mark_7 rfl (lv_at hl 2 rfl) ?_
    refine lv_if_ne (tgt := 15) hx hb dX12_mark_8 (by decide) (fun c_65 => ?_) (fun c_65 => ?_)
    · have zc_65 : x1.toInt ≠ 0 := zne c_65
      refine lv_iconst (v := 0) hx hb dX12_mark_15 (by decide) ?_
      refine lv_istore (lv' := [(4, .int 0), (3, .int 0), (0, .ref mo), (1, .int x1), (2, .int x2)]) hx hb dX12_mark_16 hl (by decide) rfl (fun ls hl => ?_)
      refine lv_iload_n hx hb dX12_mark_18 rfl (lv_at hl 3 rfl) ?_
      refine lv_if_ne (tgt := 26) hx hb dX12_mark_19 (by decide) (fun c_66 => ?_) (fun c_66 => ?_)
      · have zc_66 : x1.toInt ≠ 0 := zne c_66
        refine lv_iload_n hx hb dX12_mark_26 rfl (lv_at hl 3 rfl) ?_
        refine lv_iconst (v := 1) hx hb dX12_mark_27 (by decide) ?_
        refine lv_icmp_ne (tgt := 40) hx hb dX12_mark_28 (by decide) (fun c_67 => ?_) (fun c_67 => ?_)
        · have zc_67 : x1.toInt ≠ 1 := zne c_67
          refine lv_iload_n hx hb dX12_mark_40 rfl (lv_at hl 3 rfl) ?_
          refine lv_iconst (v := 2) hx hb dX12_mark_41 (by decide) ?_
          refine lv_icmp_ne (tgt := 49) hx hb dX12_mark_42 (by decide) (fun c_68 => ?_) (fun c_68 => ?_)
          · have zc_68 : x1.toInt ≠ 2 := zne c_68
            refine lv_iload_n hx hb dX12_mark_49 rfl (lv_at hl 3 rfl) ?_
            refine lv_iconst (v := 3) hx hb dX12_mark_50 (by decide) ?_
            refine lv_icmp_ne (tgt := 59) hx hb dX12_mark_51 (by decide) (fun c_69 => ?_) (fun c_69 => ?_)
            · have zc_69 : x1.toInt ≠ 3 := zne c_69
              refine lv_iconst (v := 1) hx hb dX12_mark_59 (by decide) ?_
              refine lv_istore (lv' := [(5, .int 1), (4, .int 0), (3, .int 0), (0, .ref mo), (1, .int x1), (2, .int x2)]) hx hb dX12_mark_60 hl (by decide) rfl (fun ls hl => ?_)
              refine lv_aload_n hx hb dX12_mark_62 rfl (lv_at hl 3 rfl) ?_
              refine lv_iload_n hx hb dX12_mark_63 rfl (lv_at hl 2 rfl) ?_
              refine lv_if_ne (tgt := 71) hx hb dX12_mark_64 (by decide) (fun c9 => absurd c9 (by decide)) (fun _ => ?_)
              refine lv_iconst (v := 1) hx hb dX12_mark_67 (by decide) ?_
              refine lv_goto (tgt := 92) hx hb dX12_mark_68 (by decide) ?_
              refine x_callV (rest := []) (wr := [(aDr, .inl (k 0, 5, .inl ge))]) (m_refused1 l dC dI k mo V) B mV_X12_refused mw_2155 hl [0] [1] rfl rfl ⟨by decide, by decide⟩ (by decide) (q0 := 0) rfl rfl rfl ⟨Nat.le_of_ble_eq_true rfl, Nat.le_of_ble_eq_true rfl⟩ (Nat.le_of_ble_eq_true rfl) rfl dX12_mark_92 ⟨Nat.le_of_ble_eq_true rfl, Nat.le_of_ble_eq_true rfl⟩ (fun r w H locs hp B => ?_)
              obtain ⟨V1_70, z_71, z_72, rfl, rfl⟩ := hp
              have B := bd_to (ws' := [(aDr, .inl (k 0, 5, .inl ge)), (mo, .inr (10, fvM V1_70))]) rfl B
              refine lv_if_eq (tgt := 100) hx hb dX12_mark_95 (by decide) (fun c9 => absurd c9 (by decide)) (fun _ => ?_)
              refine lv_iconst (v := 0) hx hb dX12_mark_98 (by decide) ?_
              have B := bd_sub (ws' := [(mo, .inr (10, fvM V1_70))]) [1] (by decide) rfl B
              exact x_iret B hr (Or.inr (Or.inl (⟨V1_70, by omega, z_72, rfl, rfl⟩))) (Nat.le_of_ble_eq_true rfl) (Nat.le_of_ble_eq_true rfl) dX12_mark_99
            · have zc_69 : x1.toInt = 3 := znne c_69
              refine lv_bipush (v := 7) hx hb dX12_mark_54 (by decide) ?_
              refine lv_goto (tgt := 60) hx hb dX12_mark_56 (by decide) ?_
              refine lv_istore (lv' := [(5, .int 7), (4, .int 0), (3, .int 0), (0, .ref mo), (1, .int x1), (2, .int x2)]) hx hb dX12_mark_60 hl (by decide) rfl (fun ls hl => ?_)
              refine lv_aload_n hx hb dX12_mark_62 rfl (lv_at hl 3 rfl) ?_
              refine lv_iload_n hx hb dX12_mark_63 rfl (lv_at hl 2 rfl) ?_
              refine lv_if_ne (tgt := 71) hx hb dX12_mark_64 (by decide) (fun c9 => absurd c9 (by decide)) (fun _ => ?_)
              refine lv_iconst (v := 1) hx hb dX12_mark_67 (by decide) ?_
              refine lv_goto (tgt := 92) hx hb dX12_mark_68 (by decide) ?_
              refine x_callV (rest := []) (wr := [(aDr, .inl (k 0, 5, .inl ge))]) (m_refused1 l dC dI k mo V) B mV_X12_refused mw_2155 hl [0] [1] rfl rfl ⟨by decide, by decide⟩ (by decide) (q0 := 0) rfl rfl rfl ⟨Nat.le_of_ble_eq_true rfl, Nat.le_of_ble_eq_true rfl⟩ (Nat.le_of_ble_eq_true rfl) rfl dX12_mark_92 ⟨Nat.le_of_ble_eq_true rfl, Nat.le_of_ble_eq_true rfl⟩ (fun r w H locs hp B => ?_)
              obtain ⟨V1_73, z_74, z_75, rfl, rfl⟩ := hp
              have B := bd_to (ws' := [(aDr, .inl (k 0, 5, .inl ge)), (mo, .inr (10, fvM V1_73))]) rfl B
              refine lv_if_eq (tgt := 100) hx hb dX12_mark_95 (by decide) (fun c9 => absurd c9 (by decide)) (fun _ => ?_)
              refine lv_iconst (v := 0) hx hb dX12_mark_98 (by decide) ?_
              exfalso; omega
          · have zc_68 : x1.toInt = 2 := znne c_68
            refine lv_iconst (v := 5) hx hb dX12_mark_45 (by decide) ?_
            refine lv_goto (tgt := 60) hx hb dX12_mark_46 (by decide) ?_
            refine lv_istore (lv' := [(5, .int 5), (4, .int 0), (3, .int 0), (0, .ref mo), (1, .int x1), (2, .int x2)]) hx hb dX12_mark_60 hl (by decide) rfl (fun ls hl => ?_)
            refine lv_aload_n hx hb dX12_mark_62 rfl (lv_at hl 3 rfl) ?_
            refine lv_iload_n hx hb dX12_mark_63 rfl (lv_at hl 2 rfl) ?_
            refine lv_if_ne (tgt := 71) hx hb dX12_mark_64 (by decide) (fun c9 => absurd c9 (by decide)) (fun _ => ?_)
            refine lv_iconst (v := 1) hx hb dX12_mark_67 (by decide) ?_
            refine lv_goto (tgt := 92) hx hb dX12_mark_68 (by decide) ?_
            refine x_callV (rest := []) (wr := [(aDr, .inl (k 0, 5, .inl ge))]) (m_refused1 l dC dI k mo V) B mV_X12_refused mw_2155 hl [0] [1] rfl rfl ⟨by decide, by decide⟩ (by decide) (q0 := 0) rfl rfl rfl ⟨Nat.le_of_ble_eq_true rfl, Nat.le_of_ble_eq_true rfl⟩ (Nat.le_of_ble_eq_true rfl) rfl dX12_mark_92 ⟨Nat.le_of_ble_eq_true rfl, Nat.le_of_ble_eq_true rfl⟩ (fun r w H locs hp B => ?_)
            obtain ⟨V1_76, z_77, z_78, rfl, rfl⟩ := hp
            have B := bd_to (ws' := [(aDr, .inl (k 0, 5, .inl ge)), (mo, .inr (10, fvM V1_76))]) rfl B
            refine lv_if_eq (tgt := 100) hx hb dX12_mark_95 (by decide) (fun c9 => absurd c9 (by decide)) (fun _ => ?_)
            refine lv_iconst (v := 0) hx hb dX12_mark_98 (by decide) ?_
            exfalso; omega
        · have zc_67 : x1.toInt = 1 := znne c_67
          refine lv_aload_n hx hb dX12_mark_31 rfl (lv_at hl 2 rfl) ?_
          refine x_get (ci := 10) (C := RX12) (T := TX12) (N := 93) (v := .int 0) B 0 rfl rfl in_X12 21 (by decide) mw_1885 (fun _ h9 => h9) (fvM_get (by decide) h21) dX12_mark_32 ?_
          refine lv_iconst (v := 1) hx hb dX12_mark_35 (by decide) ?_
          refine lv_isub hx hb dX12_mark_36 ?_
          refine lv_seti (y := (-1)) (by decide) ?_
          refine lv_goto (tgt := 60) hx hb dX12_mark_37 (by decide) ?_
          refine lv_istore (lv' := [(5, .int (-1)), (4, .int 0), (3, .int 0), (0, .ref mo), (1, .int x1), (2, .int x2)]) hx hb dX12_mark_60 hl (by decide) rfl (fun ls hl => ?_)
          refine lv_aload_n hx hb dX12_mark_62 rfl (lv_at hl 3 rfl) ?_
          refine lv_iload_n hx hb dX12_mark_63 rfl (lv_at hl 2 rfl) ?_
          refine lv_if_ne (tgt := 71) hx hb dX12_mark_64 (by decide) (fun c9 => absurd c9 (by decide)) (fun _ => ?_)
          refine lv_iconst (v := 1) hx hb dX12_mark_67 (by decide) ?_
          refine lv_goto (tgt := 92) hx hb dX12_mark_68 (by decide) ?_
          refine x_callV (rest := []) (wr := [(aDr, .inl (k 0, 5, .inl ge))]) (m_refused1 l dC dI k mo V) B mV_X12_refused mw_2155 hl [0] [1] rfl rfl ⟨by decide, by decide⟩ (by decide) (q0 := 0) rfl rfl rfl ⟨Nat.le_of_ble_eq_true rfl, Nat.le_of_ble_eq_true rfl⟩ (Nat.le_of_ble_eq_true rfl) rfl dX12_mark_92 ⟨Nat.le_of_ble_eq_true rfl, Nat.le_of_ble_eq_true rfl⟩ (fun r w H locs hp B => ?_)
          obtain ⟨V1_79, z_80, z_81, rfl, rfl⟩ := hp
          have B := bd_to (ws' := [(aDr, .inl (k 0, 5, .inl ge)), (mo, .inr (10, fvM V1_79))]) rfl B
          refine lv_if_eq (tgt := 100) hx hb dX12_mark_95 (by decide) (fun c9 => absurd c9 (by decide)) (fun _ => ?_)
          refine lv_iconst (v := 0) hx hb dX12_mark_98 (by decide) ?_
          exfalso; omega
      · have zc_66 : x1.toInt = 0 := znne c_66
        refine lv_iconst (v := 5) hx hb dX12_mark_22 (by decide) ?_
        refine lv_goto (tgt := 60) hx hb dX12_mark_23 (by decide) ?_
        refine lv_istore (lv' := [(5, .int 5), (4, .int 0), (3, .int 0), (0, .ref mo), (1, .int x1), (2, .int x2)]) hx hb dX12_mark_60 hl (by decide) rfl (fun ls hl => ?_)
        refine lv_aload_n hx hb dX12_mark_62 rfl (lv_at hl 3 rfl) ?_
        refine lv_iload_n hx hb dX12_mark_63 rfl (lv_at hl 2 rfl) ?_
        refine lv_if_ne (tgt := 71) hx hb dX12_mark_64 (by decide) (fun c9 => absurd c9 (by decide)) (fun _ => ?_)
        refine lv_iconst (v := 1) hx hb dX12_mark_67 (by decide) ?_
        refine lv_goto (tgt := 92) hx hb dX12_mark_68 (by decide) ?_
        refine x_callV (rest := []) (wr := [(aDr, .inl (k 0, 5, .inl ge))]) (m_refused1 l dC dI k mo V) B mV_X12_refused mw_2155 hl [0] [1] rfl rfl ⟨by decide, by decide⟩ (by decide) (q0 := 0) rfl rfl rfl ⟨Nat.le_of_ble_eq_true rfl, Nat.le_of_ble_eq_true rfl⟩ (Nat.le_of_ble_eq_true rfl) rfl dX12_mark_92 ⟨Nat.le_of_ble_eq_true rfl, Nat.le_of_ble_eq_true rfl⟩ (fun r w H locs hp B => ?_)
        obtain ⟨V1_82, z_83, z_84, rfl, rfl⟩ := hp
        have B := bd_to (ws' := [(aDr, .inl (k 0, 5, .inl ge)), (mo, .inr (10, fvM V1_82))]) rfl B
        refine lv_if_eq (tgt := 100) hx hb dX12_mark_95 (by decide) (fun c9 => absurd c9 (by decide)) (fun _ => ?_)
        refine lv_iconst (v := 0) hx hb dX12_mark_98 (by decide) ?_
        exfalso; omega
    · have zc_65 : x1.toInt = 0 := znne c_65
      refine lv_iconst (v := 1) hx hb dX12_mark_11 (by decide) ?_
      refine lv_goto (tgt := 16) hx hb dX12_mark_12 (by decide) ?_
      refine lv_istore (lv' := [(4, .int 1), (3, .int 0), (0, .ref mo), (1, .int x1), (2, .int x2)]) hx hb dX12_mark_16 hl (by decide) rfl (fun ls hl => ?_)
      refine lv_iload_n hx hb dX12_mark_18 rfl (lv_at hl 3 rfl) ?_
      refine lv_seti (y := 0) (zint (by rw [show (0 : Int32).toInt = 0 by decide]; omega)) ?_
      refine lv_if_ne (tgt := 26) hx hb dX12_mark_19 (by decide) (fun c9 => absurd c9 (by decide)) (fun _ => ?_)
      refine lv_iconst (v := 5) hx hb dX12_mark_22 (by decide) ?_
      refine lv_goto (tgt := 60) hx hb dX12_mark_23 (by decide) ?_
      refine lv_istore (lv' := [(5, .int 5), (4, .int 1), (3, .int 0), (0, .ref mo), (1, .int x1), (2, .int x2)]) hx hb dX12_mark_60 hl (by decide) rfl (fun ls hl => ?_)
      refine lv_aload_n hx hb dX12_mark_62 rfl (lv_at hl 3 rfl) ?_
      refine lv_iload_n hx hb dX12_mark_63 rfl (lv_at hl 2 rfl) ?_
      refine lv_if_ne (tgt := 71) hx hb dX12_mark_64 (by decide) (fun c9 => absurd c9 (by decide)) (fun _ => ?_)
      refine lv_iconst (v := 1) hx hb dX12_mark_67 (by decide) ?_
      refine lv_goto (tgt := 92) hx hb dX12_mark_68 (by decide) ?_
      refine x_callV (rest := []) (wr := [(aDr, .inl (k 0, 5, .inl ge))]) (m_refused1 l dC dI k mo V) B mV_X12_refused mw_2155 hl [0] [1] rfl rfl ⟨by decide, by decide⟩ (by decide) (q0 := 0) rfl rfl rfl ⟨Nat.le_of_ble_eq_true rfl, Nat.le_of_ble_eq_true rfl⟩ (Nat.le_of_ble_eq_true rfl) rfl dX12_mark_92 ⟨Nat.le_of_ble_eq_true rfl, Nat.le_of_ble_eq_true rfl⟩ (fun r w H locs hp B => ?_)
      obtain ⟨V1_85, z_86, z_87, rfl, rfl⟩ := hp
      have B := bd_to (ws' := [(aDr, .inl (k 0, 5, .inl ge)), (mo, .inr (10, fvM V1_85))]) rfl B
      refine lv_if_eq (tgt := 100) hx hb dX12_mark_95 (by decide) (fun c9 => absurd c9 (by decide)) (fun _ => ?_)
      refine lv_iconst (v := 0) hx hb dX12_mark_98 (by decide) ?_
      exfalso; omega

set_option maxHeartbeats 4000000 in
set_option maxRecDepth 100000 in
theorem m_in_0_0 (l : Launch) (dC : Nat → ClassId) (dI : Nat → Nat → Nat) (k : Nat → ClassId) (x1 : Int32) : Ct l dC dI k yX12_in (.code yX12_in cX12_in 3 (some .boolean)) ({ frames := 0, cells := 0, slots := 0, locals := 0 } : Room) [.int x1, .int 0, .int 0] [] (fun r w => ((0 ≤ x1.toInt ∧ x1.toInt ≤ 0) ∧ r = some (.int 1) ∧ w = []) ∨ (¬ (0 ≤ x1.toInt ∧ x1.toInt ≤ 0) ∧ r = some (.int 0) ∧ w = [])) := by
  refine ct_of (by decide) (Nat.le_of_ble_eq_true rfl) ?_
  intro p e s m args below meth c H locs B hr hnm ls hl
  have hx := B.1.1
  have hb := B.1.2.1
  have hl : lv_has ls 3 [(0, .int x1), (1, .int 0), (2, .int 0)] := hl
  refine lv_iload_n hx hb dX12_in_0 rfl (lv_at hl 0 rfl) ?_
  refine lv_iload_n hx hb dX12_in_1 rfl (lv_at hl 1 rfl) ?_
  refine lv_icmp_lt (tgt := 14) hx hb dX12_in_2 (by decide) (fun c_1 => ?_) (fun c_1 => ?_)
  · have zc_1 : x1.toInt < 0 := zlt c_1
    refine lv_iconst (v := 0) hx hb dX12_in_14 (by decide) ?_
    have B := bd_sub (ws' := []) [] (by decide) rfl B
    exact x_zret B hr (by decide) (Or.inr (⟨by omega, rfl, rfl⟩)) (Nat.le_of_ble_eq_true rfl) (Nat.le_of_ble_eq_true rfl) dX12_in_15
  · have zc_1 : 0 ≤ x1.toInt := znlt c_1
    refine lv_iload_n hx hb dX12_in_5 rfl (lv_at hl 0 rfl) ?_
    refine lv_iload_n hx hb dX12_in_6 rfl (lv_at hl 2 rfl) ?_
    refine lv_icmp_gt (tgt := 14) hx hb dX12_in_7 (by decide) (fun c_2 => ?_) (fun c_2 => ?_)
    · have zc_2 : 0 < x1.toInt := zgt c_2
      refine lv_iconst (v := 0) hx hb dX12_in_14 (by decide) ?_
      have B := bd_sub (ws' := []) [] (by decide) rfl B
      exact x_zret B hr (by decide) (Or.inr (⟨by omega, rfl, rfl⟩)) (Nat.le_of_ble_eq_true rfl) (Nat.le_of_ble_eq_true rfl) dX12_in_15
    · have zc_2 : x1.toInt ≤ 0 := zngt c_2
      refine lv_iconst (v := 1) hx hb dX12_in_10 (by decide) ?_
      refine lv_goto (tgt := 15) hx hb dX12_in_11 (by decide) ?_
      have B := bd_sub (ws' := []) [] (by decide) rfl B
      exact x_zret B hr (by decide) (Or.inl (⟨by omega, rfl, rfl⟩)) (Nat.le_of_ble_eq_true rfl) (Nat.le_of_ble_eq_true rfl) dX12_in_15

theorem dX12_pattern_0 : decode cX12_pattern 0 = .ok (.iload_n 1, 1) := by decide +kernel
theorem dX12_pattern_1 : decode cX12_pattern 1 = .ok (.iconst 0, 1) := by decide +kernel
theorem dX12_pattern_2 : decode cX12_pattern 2 = .ok (.aload_n 0, 1) := by decide +kernel
theorem dX12_pattern_3 : decode cX12_pattern 3 = .ok (.getfield 237, 3) := by decide +kernel
theorem dX12_pattern_6 : decode cX12_pattern 6 = .ok (.invokestatic 229, 3) := by decide +kernel
theorem dX12_pattern_9 : decode cX12_pattern 9 = .ok (.ifCond .eq 16, 3) := by decide +kernel
theorem dX12_pattern_12 : decode cX12_pattern 12 = .ok (.iload_n 2, 1) := by decide +kernel
theorem dX12_pattern_13 : decode cX12_pattern 13 = .ok (.iconst 1, 1) := by decide +kernel
theorem dX12_pattern_14 : decode cX12_pattern 14 = .ok (.iconst 5, 1) := by decide +kernel
theorem dX12_pattern_15 : decode cX12_pattern 15 = .ok (.invokestatic 229, 3) := by decide +kernel
theorem dX12_pattern_18 : decode cX12_pattern 18 = .ok (.ifCond .eq 7, 3) := by decide +kernel
theorem dX12_pattern_21 : decode cX12_pattern 21 = .ok (.iconst 1, 1) := by decide +kernel
theorem dX12_pattern_22 : decode cX12_pattern 22 = .ok (.goto 4, 3) := by decide +kernel
theorem dX12_pattern_25 : decode cX12_pattern 25 = .ok (.iconst 0, 1) := by decide +kernel
theorem dX12_pattern_26 : decode cX12_pattern 26 = .ok (.istore_n 3, 1) := by decide +kernel
theorem dX12_pattern_27 : decode cX12_pattern 27 = .ok (.aload_n 0, 1) := by decide +kernel
theorem dX12_pattern_28 : decode cX12_pattern 28 = .ok (.iload_n 3, 1) := by decide +kernel
theorem dX12_pattern_29 : decode cX12_pattern 29 = .ok (.ifCond .ne 7, 3) := by decide +kernel
theorem dX12_pattern_32 : decode cX12_pattern 32 = .ok (.iconst 1, 1) := by decide +kernel
theorem dX12_pattern_33 : decode cX12_pattern 33 = .ok (.goto 32, 3) := by decide +kernel
theorem dX12_pattern_36 : decode cX12_pattern 36 = .ok (.aload_n 0, 1) := by decide +kernel
theorem dX12_pattern_37 : decode cX12_pattern 37 = .ok (.getfield 237, 3) := by decide +kernel
theorem dX12_pattern_40 : decode cX12_pattern 40 = .ok (.ifCond .le 24, 3) := by decide +kernel
theorem dX12_pattern_64 : decode cX12_pattern 64 = .ok (.iconst 2, 1) := by decide +kernel
theorem dX12_pattern_65 : decode cX12_pattern 65 = .ok (.invokevirtual 240, 3) := by decide +kernel
theorem dX12_pattern_68 : decode cX12_pattern 68 = .ok (.ifCond .eq 5, 3) := by decide +kernel
theorem dX12_pattern_71 : decode cX12_pattern 71 = .ok (.iconst 0, 1) := by decide +kernel
theorem dX12_pattern_72 : decode cX12_pattern 72 = .ok (.ireturn, 1) := by decide +kernel
set_option maxHeartbeats 4000000 in
set_option maxRecDepth 100000 in
theorem m_pattern (l : Launch) (dC : Nat → ClassId) (dI : Nat → Nat → Nat) (k : Nat → ClassId) (mo : Nat) (V : Nat → Value) (x1 : Int32) (x2 : Int32) (h1 : V 1 = .int 0) (h4 : V 4 = .int 0) : Ct l dC dI k yX12_pattern (.code yX12_pattern cX12_pattern 5 (some .int)) ({ frames := 1, cells := 0, slots := 0, locals := 22 } : Room) [.ref mo, .int x1, .int x2] [(mo, .inr (10, fvM V))] (fun r w => (∃ (V1 : Nat → Value), ¬ (x1.toInt = 0 ∧ 1 ≤ x2.toInt ∧ x2.toInt ≤ 5) ∧ V1 0 = .int 1 ∧ r = some (.int 0) ∧ w = [(mo, .inr (10, fvM V1))]) ∨ (∃ (V1 : Nat → Value), (x1.toInt = 0 ∧ 1 ≤ x2.toInt ∧ x2.toInt ≤ 5) ∧ V1 0 = .int 2 ∧ r = some (.int 0) ∧ w = [(mo, .inr (10, fvM V1))])) := by
  refine ct_of (by decide) (Nat.le_of_ble_eq_true rfl) ?_
  intro p e s m args below meth c H locs B hr hnm ls hl
  have hx := B.1.1
  have hb := B.1.2.1
  have hl : lv_has ls 5 [(0, .ref mo), (1, .int x1), (2, .int x2)] := hl
  refine lv_iload_n hx hb dX12_pattern_0 rfl (lv_at hl 1 rfl) ?_
  refine lv_iconst (v := 0) hx hb dX12_pattern_1 (by decide) ?_
  refine lv_aload_n hx hb dX12_pattern_2 rfl (lv_at hl 0 rfl) ?_
  refine x_get (ci := 10) (C := RX12) (T := TX12) (N := 93) (v := .int 0) B 0 rfl rfl in_X12 1 (by decide) mw_1865 (fun _ h9 => h9) (fvM_get (by decide) h1) dX12_pattern_3 ?_
  refine x_callS (rest := []) (wr := [(mo, .inr (10, fvM V))]) (m_in_0_0 l dC dI k x1) B mS_X12_in mw_2152 hl [] [0] rfl rfl ⟨by decide, by decide⟩ (by decide) ⟨Nat.le_of_ble_eq_true rfl, Nat.le_of_ble_eq_true rfl⟩ (Nat.le_of_ble_eq_true rfl) rfl dX12_pattern_6 ⟨Nat.le_of_ble_eq_true rfl, Nat.le_of_ble_eq_true rfl⟩ (fun r w H locs hp B => ?_)
  rcases hp with ⟨z_1, rfl, rfl⟩ | ⟨z_2, rfl, rfl⟩
  · skip
    have B := bd_to (ws' := [(mo, .inr (10, fvM V))]) rfl B
    refine lv_if_eq (tgt := 25) hx hb dX12_pattern_9 (by decide) (fun c9 => absurd c9 (by decide)) (fun _ => ?_)
    refine lv_iload_n hx hb dX12_pattern_12 rfl (lv_at hl 2 rfl) ?_
    refine lv_iconst (v := 1) hx hb dX12_pattern_13 (by decide) ?_
    refine lv_iconst (v := 5) hx hb dX12_pattern_14 (by decide) ?_
    refine x_callS (rest := []) (wr := [(mo, .inr (10, fvM V))]) (m_in_1_5 l dC dI k x2) B mS_X12_in mw_2152 hl [] [0] rfl rfl ⟨by decide, by decide⟩ (by decide) ⟨Nat.le_of_ble_eq_true rfl, Nat.le_of_ble_eq_true rfl⟩ (Nat.le_of_ble_eq_true rfl) rfl dX12_pattern_15 ⟨Nat.le_of_ble_eq_true rfl, Nat.le_of_ble_eq_true rfl⟩ (fun r w H locs hp B => ?_)
    rcases hp with ⟨z_3, rfl, rfl⟩ | ⟨z_4, rfl, rfl⟩
    · skip
      have B := bd_to (ws' := [(mo, .inr (10, fvM V))]) rfl B
      refine lv_if_eq (tgt := 25) hx hb dX12_pattern_18 (by decide) (fun c9 => absurd c9 (by decide)) (fun _ => ?_)
      refine lv_iconst (v := 1) hx hb dX12_pattern_21 (by decide) ?_
      refine lv_goto (tgt := 26) hx hb dX12_pattern_22 (by decide) ?_
      refine lv_istore_n (lv' := [(3, .int 1), (0, .ref mo), (1, .int x1), (2, .int x2)]) hx hb dX12_pattern_26 rfl hl (by decide) rfl (fun ls hl => ?_)
      refine lv_aload_n hx hb dX12_pattern_27 rfl (lv_at hl 1 rfl) ?_
      refine lv_iload_n hx hb dX12_pattern_28 rfl (lv_at hl 0 rfl) ?_
      refine lv_if_ne (tgt := 36) hx hb dX12_pattern_29 (by decide) (fun _ => ?_) (fun c9 => absurd c9 (by decide))
      refine lv_aload_n hx hb dX12_pattern_36 rfl (lv_at hl 1 rfl) ?_
      refine x_get (ci := 10) (C := RX12) (T := TX12) (N := 93) (v := .int 0) B 0 rfl rfl in_X12 1 (by decide) mw_1865 (fun _ h9 => h9) (fvM_get (by decide) h1) dX12_pattern_37 ?_
      refine lv_if_le (tgt := 64) hx hb dX12_pattern_40 (by decide) (fun _ => ?_) (fun c9 => absurd (by decide) c9)
      refine lv_iconst (v := 2) hx hb dX12_pattern_64 (by decide) ?_
      refine x_callV (rest := []) (wr := []) (m_refused2 l dC dI k mo V) B mV_X12_refused mw_2155 hl [0] [] rfl rfl ⟨by decide, by decide⟩ (by decide) (q0 := 0) rfl rfl rfl ⟨Nat.le_of_ble_eq_true rfl, Nat.le_of_ble_eq_true rfl⟩ (Nat.le_of_ble_eq_true rfl) rfl dX12_pattern_65 ⟨Nat.le_of_ble_eq_true rfl, Nat.le_of_ble_eq_true rfl⟩ (fun r w H locs hp B => ?_)
      obtain ⟨V1_5, z_6, z_7, rfl, rfl⟩ := hp
      have B := bd_to (ws' := [(mo, .inr (10, fvM V1_5))]) rfl B
      refine lv_if_eq (tgt := 73) hx hb dX12_pattern_68 (by decide) (fun c9 => absurd c9 (by decide)) (fun _ => ?_)
      refine lv_iconst (v := 0) hx hb dX12_pattern_71 (by decide) ?_
      have B := bd_sub (ws' := [(mo, .inr (10, fvM V1_5))]) [0] (by decide) rfl B
      exact x_iret B hr (Or.inr (⟨V1_5, by omega, z_7, rfl, rfl⟩)) (Nat.le_of_ble_eq_true rfl) (Nat.le_of_ble_eq_true rfl) dX12_pattern_72
    · skip
      have B := bd_to (ws' := [(mo, .inr (10, fvM V))]) rfl B
      refine lv_if_eq (tgt := 25) hx hb dX12_pattern_18 (by decide) (fun _ => ?_) (fun c9 => absurd (by decide) c9)
      refine lv_iconst (v := 0) hx hb dX12_pattern_25 (by decide) ?_
      refine lv_istore_n (lv' := [(3, .int 0), (0, .ref mo), (1, .int x1), (2, .int x2)]) hx hb dX12_pattern_26 rfl hl (by decide) rfl (fun ls hl => ?_)
      refine lv_aload_n hx hb dX12_pattern_27 rfl (lv_at hl 1 rfl) ?_
      refine lv_iload_n hx hb dX12_pattern_28 rfl (lv_at hl 0 rfl) ?_
      refine lv_if_ne (tgt := 36) hx hb dX12_pattern_29 (by decide) (fun c9 => absurd c9 (by decide)) (fun _ => ?_)
      refine lv_iconst (v := 1) hx hb dX12_pattern_32 (by decide) ?_
      refine lv_goto (tgt := 65) hx hb dX12_pattern_33 (by decide) ?_
      refine x_callV (rest := []) (wr := []) (m_refused1 l dC dI k mo V) B mV_X12_refused mw_2155 hl [0] [] rfl rfl ⟨by decide, by decide⟩ (by decide) (q0 := 0) rfl rfl rfl ⟨Nat.le_of_ble_eq_true rfl, Nat.le_of_ble_eq_true rfl⟩ (Nat.le_of_ble_eq_true rfl) rfl dX12_pattern_65 ⟨Nat.le_of_ble_eq_true rfl, Nat.le_of_ble_eq_true rfl⟩ (fun r w H locs hp B => ?_)
      obtain ⟨V1_8, z_9, z_10, rfl, rfl⟩ := hp
      have B := bd_to (ws' := [(mo, .inr (10, fvM V1_8))]) rfl B
      refine lv_if_eq (tgt := 73) hx hb dX12_pattern_68 (by decide) (fun c9 => absurd c9 (by decide)) (fun _ => ?_)
      refine lv_iconst (v := 0) hx hb dX12_pattern_71 (by decide) ?_
      have B := bd_sub (ws' := [(mo, .inr (10, fvM V1_8))]) [0] (by decide) rfl B
      exact x_iret B hr (Or.inl (⟨V1_8, by omega, z_10, rfl, rfl⟩)) (Nat.le_of_ble_eq_true rfl) (Nat.le_of_ble_eq_true rfl) dX12_pattern_72
  · skip
    have B := bd_to (ws' := [(mo, .inr (10, fvM V))]) rfl B
    refine lv_if_eq (tgt := 25) hx hb dX12_pattern_9 (by decide) (fun _ => ?_) (fun c9 => absurd (by decide) c9)
    refine lv_iconst (v := 0) hx hb dX12_pattern_25 (by decide) ?_
    refine lv_istore_n (lv' := [(3, .int 0), (0, .ref mo), (1, .int x1), (2, .int x2)]) hx hb dX12_pattern_26 rfl hl (by decide) rfl (fun ls hl => ?_)
    refine lv_aload_n hx hb dX12_pattern_27 rfl (lv_at hl 1 rfl) ?_
    refine lv_iload_n hx hb dX12_pattern_28 rfl (lv_at hl 0 rfl) ?_
    refine lv_if_ne (tgt := 36) hx hb dX12_pattern_29 (by decide) (fun c9 => absurd c9 (by decide)) (fun _ => ?_)
    refine lv_iconst (v := 1) hx hb dX12_pattern_32 (by decide) ?_
    refine lv_goto (tgt := 65) hx hb dX12_pattern_33 (by decide) ?_
    refine x_callV (rest := []) (wr := []) (m_refused1 l dC dI k mo V) B mV_X12_refused mw_2155 hl [0] [] rfl rfl ⟨by decide, by decide⟩ (by decide) (q0 := 0) rfl rfl rfl ⟨Nat.le_of_ble_eq_true rfl, Nat.le_of_ble_eq_true rfl⟩ (Nat.le_of_ble_eq_true rfl) rfl dX12_pattern_65 ⟨Nat.le_of_ble_eq_true rfl, Nat.le_of_ble_eq_true rfl⟩ (fun r w H locs hp B => ?_)
    obtain ⟨V1_11, z_12, z_13, rfl, rfl⟩ := hp
    have B := bd_to (ws' := [(mo, .inr (10, fvM V1_11))]) rfl B
    refine lv_if_eq (tgt := 73) hx hb dX12_pattern_68 (by decide) (fun c9 => absurd c9 (by decide)) (fun _ => ?_)
    refine lv_iconst (v := 0) hx hb dX12_pattern_71 (by decide) ?_
    have B := bd_sub (ws' := [(mo, .inr (10, fvM V1_11))]) [0] (by decide) rfl B
    exact x_iret B hr (Or.inl (⟨V1_11, by omega, z_13, rfl, rfl⟩)) (Nat.le_of_ble_eq_true rfl) (Nat.le_of_ble_eq_true rfl) dX12_pattern_72

end
