section
set_option maxHeartbeats 4000000 in
set_option maxRecDepth 100000 in
theorem m_in_1_40 (l : Launch) (dC : Nat → ClassId) (dI : Nat → Nat → Nat) (k : Nat → ClassId) (x1 : Int32) : Ct l dC dI k yX12_in (.code yX12_in cX12_in 3 (some .boolean)) ({ frames := 0, cells := 0, slots := 0, locals := 0 } : Room) [.int x1, .int 1, .int 40] [] (fun r w => ((1 ≤ x1.toInt ∧ x1.toInt ≤ 40) ∧ r = some (.int 1) ∧ w = []) ∨ (¬ (1 ≤ x1.toInt ∧ x1.toInt ≤ 40) ∧ r = some (.int 0) ∧ w = [])) := by
  refine ct_of (by decide) (Nat.le_of_ble_eq_true rfl) ?_
  intro p e s m args below meth c H locs B hr hnm ls hl
  have hx := B.1.1
  have hb := B.1.2.1
  have hl : lv_has ls 3 [(0, .int x1), (1, .int 1), (2, .int 40)] := hl
  refine lv_iload_n hx hb dX12_in_0 rfl (lv_at hl 0 rfl) ?_
  refine lv_iload_n hx hb dX12_in_1 rfl (lv_at hl 1 rfl) ?_
  refine lv_icmp_lt (tgt := 14) hx hb dX12_in_2 (by decide) (fun c_1 => ?_) (fun c_1 => ?_)
  · have zc_1 : x1.toInt < 1 := zlt c_1
    refine lv_iconst (v := 0) hx hb dX12_in_14 (by decide) ?_
    have B := bd_sub (ws' := []) [] (by decide) rfl B
    exact x_zret B hr (by decide) (Or.inr (⟨by omega, rfl, rfl⟩)) (Nat.le_of_ble_eq_true rfl) (Nat.le_of_ble_eq_true rfl) dX12_in_15
  · have zc_1 : 1 ≤ x1.toInt := znlt c_1
    refine lv_iload_n hx hb dX12_in_5 rfl (lv_at hl 0 rfl) ?_
    refine lv_iload_n hx hb dX12_in_6 rfl (lv_at hl 2 rfl) ?_
    refine lv_icmp_gt (tgt := 14) hx hb dX12_in_7 (by decide) (fun c_2 => ?_) (fun c_2 => ?_)
    · have zc_2 : 40 < x1.toInt := zgt c_2
      refine lv_iconst (v := 0) hx hb dX12_in_14 (by decide) ?_
      have B := bd_sub (ws' := []) [] (by decide) rfl B
      exact x_zret B hr (by decide) (Or.inr (⟨by omega, rfl, rfl⟩)) (Nat.le_of_ble_eq_true rfl) (Nat.le_of_ble_eq_true rfl) dX12_in_15
    · have zc_2 : x1.toInt ≤ 40 := zngt c_2
      refine lv_iconst (v := 1) hx hb dX12_in_10 (by decide) ?_
      refine lv_goto (tgt := 15) hx hb dX12_in_11 (by decide) ?_
      have B := bd_sub (ws' := []) [] (by decide) rfl B
      exact x_zret B hr (by decide) (Or.inl (⟨by omega, rfl, rfl⟩)) (Nat.le_of_ble_eq_true rfl) (Nat.le_of_ble_eq_true rfl) dX12_in_15

theorem mw_1886 : (Jvm.Cond.fieldLink "GalleyforgeModel" (61 : Nat) "GalleyforgeModel" "figureKind" "[I") ∈ gt := gt_at 2021 (by decide +kernel) (by decide +kernel)
theorem mw_1887 : (Jvm.Cond.fieldLink "GalleyforgeModel" (64 : Nat) "GalleyforgeModel" "figureHeight" "[I") ∈ gt := gt_at 2022 (by decide +kernel) (by decide +kernel)
theorem dX12_figure_0 : decode cX12_figure 0 = .ok (.iload_n 1, 1) := by decide +kernel
theorem dX12_figure_1 : decode cX12_figure 1 = .ok (.iconst 0, 1) := by decide +kernel
theorem dX12_figure_2 : decode cX12_figure 2 = .ok (.iconst 1, 1) := by decide +kernel
theorem dX12_figure_3 : decode cX12_figure 3 = .ok (.invokestatic 229, 3) := by decide +kernel
theorem dX12_figure_6 : decode cX12_figure 6 = .ok (.ifCond .eq 17, 3) := by decide +kernel
theorem dX12_figure_9 : decode cX12_figure 9 = .ok (.iload_n 2, 1) := by decide +kernel
theorem dX12_figure_10 : decode cX12_figure 10 = .ok (.iconst 1, 1) := by decide +kernel
theorem dX12_figure_11 : decode cX12_figure 11 = .ok (.bipush 40, 2) := by decide +kernel
theorem dX12_figure_13 : decode cX12_figure 13 = .ok (.invokestatic 229, 3) := by decide +kernel
theorem dX12_figure_16 : decode cX12_figure 16 = .ok (.ifCond .eq 7, 3) := by decide +kernel
theorem dX12_figure_19 : decode cX12_figure 19 = .ok (.iconst 1, 1) := by decide +kernel
theorem dX12_figure_20 : decode cX12_figure 20 = .ok (.goto 4, 3) := by decide +kernel
theorem dX12_figure_23 : decode cX12_figure 23 = .ok (.iconst 0, 1) := by decide +kernel
theorem dX12_figure_24 : decode cX12_figure 24 = .ok (.istore_n 3, 1) := by decide +kernel
theorem dX12_figure_25 : decode cX12_figure 25 = .ok (.aload_n 0, 1) := by decide +kernel
theorem dX12_figure_26 : decode cX12_figure 26 = .ok (.iload_n 3, 1) := by decide +kernel
theorem dX12_figure_27 : decode cX12_figure 27 = .ok (.ifCond .ne 7, 3) := by decide +kernel
theorem dX12_figure_30 : decode cX12_figure 30 = .ok (.iconst 1, 1) := by decide +kernel
theorem dX12_figure_31 : decode cX12_figure 31 = .ok (.goto 16, 3) := by decide +kernel
theorem dX12_figure_34 : decode cX12_figure 34 = .ok (.aload_n 0, 1) := by decide +kernel
theorem dX12_figure_35 : decode cX12_figure 35 = .ok (.getfield 247, 3) := by decide +kernel
theorem dX12_figure_38 : decode cX12_figure 38 = .ok (.iconst 5, 1) := by decide +kernel
theorem dX12_figure_39 : decode cX12_figure 39 = .ok (.if_icmp .ne 7, 3) := by decide +kernel
theorem dX12_figure_46 : decode cX12_figure 46 = .ok (.iconst 0, 1) := by decide +kernel
theorem dX12_figure_47 : decode cX12_figure 47 = .ok (.invokevirtual 240, 3) := by decide +kernel
theorem dX12_figure_50 : decode cX12_figure 50 = .ok (.ifCond .eq 5, 3) := by decide +kernel
theorem dX12_figure_53 : decode cX12_figure 53 = .ok (.iconst 0, 1) := by decide +kernel
theorem dX12_figure_54 : decode cX12_figure 54 = .ok (.ireturn, 1) := by decide +kernel
theorem dX12_figure_55 : decode cX12_figure 55 = .ok (.aload_n 0, 1) := by decide +kernel
theorem dX12_figure_56 : decode cX12_figure 56 = .ok (.getfield 61, 3) := by decide +kernel
theorem dX12_figure_59 : decode cX12_figure 59 = .ok (.aload_n 0, 1) := by decide +kernel
theorem dX12_figure_60 : decode cX12_figure 60 = .ok (.getfield 247, 3) := by decide +kernel
theorem dX12_figure_63 : decode cX12_figure 63 = .ok (.iload_n 1, 1) := by decide +kernel
theorem dX12_figure_64 : decode cX12_figure 64 = .ok (.iastore, 1) := by decide +kernel
theorem dX12_figure_65 : decode cX12_figure 65 = .ok (.aload_n 0, 1) := by decide +kernel
theorem dX12_figure_66 : decode cX12_figure 66 = .ok (.getfield 64, 3) := by decide +kernel
theorem dX12_figure_69 : decode cX12_figure 69 = .ok (.aload_n 0, 1) := by decide +kernel
theorem dX12_figure_70 : decode cX12_figure 70 = .ok (.getfield 247, 3) := by decide +kernel
theorem dX12_figure_73 : decode cX12_figure 73 = .ok (.iload_n 2, 1) := by decide +kernel
theorem dX12_figure_74 : decode cX12_figure 74 = .ok (.iastore, 1) := by decide +kernel
theorem dX12_figure_75 : decode cX12_figure 75 = .ok (.aload_n 0, 1) := by decide +kernel
theorem dX12_figure_76 : decode cX12_figure 76 = .ok (.dup, 1) := by decide +kernel
theorem dX12_figure_77 : decode cX12_figure 77 = .ok (.getfield 247, 3) := by decide +kernel
theorem dX12_figure_80 : decode cX12_figure 80 = .ok (.iconst 1, 1) := by decide +kernel
theorem dX12_figure_81 : decode cX12_figure 81 = .ok (.iadd, 1) := by decide +kernel
theorem dX12_figure_82 : decode cX12_figure 82 = .ok (.putfield 247, 3) := by decide +kernel
theorem dX12_figure_85 : decode cX12_figure 85 = .ok (.aload_n 0, 1) := by decide +kernel
theorem dX12_figure_86 : decode cX12_figure 86 = .ok (.getfield 247, 3) := by decide +kernel
theorem dX12_figure_89 : decode cX12_figure 89 = .ok (.iconst 1, 1) := by decide +kernel
theorem dX12_figure_90 : decode cX12_figure 90 = .ok (.isub, 1) := by decide +kernel
theorem dX12_figure_91 : decode cX12_figure 91 = .ok (.ireturn, 1) := by decide +kernel
set_option maxHeartbeats 4000000 in
set_option maxRecDepth 100000 in
theorem m_figure (l : Launch) (dC : Nat → ClassId) (dI : Nat → Nat → Nat) (k : Nat → ClassId) (mo : Nat) (V : Nat → Value) (aFk : Nat) (aFh : Nat) (x1 : Int32) (x2 : Int32) (h21 : V 21 = .int 0) (h22 : V 22 = .ref aFk) (h23 : V 23 = .ref aFh) : Ct l dC dI k yX12_figure (.code yX12_figure cX12_figure 4 (some .int)) ({ frames := 1, cells := 0, slots := 0, locals := 22 } : Room) [.ref mo, .int x1, .int x2] [(mo, .inr (10, fvM V)), (aFk, .inl (k 0, 5, .inl (fun _ => 0))), (aFh, .inl (k 0, 5, .inl (fun _ => 0)))] (fun r w => (∃ (V1 : Nat → Value), ((0 ≤ x1.toInt ∧ x1.toInt ≤ 1) ∧ (1 ≤ x2.toInt ∧ x2.toInt ≤ 40)) ∧ V1 0 = .int 0 ∧ r = some (.int 0) ∧ w = [(mo, .inr (10, fvM V1))]) ∨ (∃ (V1 : Nat → Value), ¬ ((0 ≤ x1.toInt ∧ x1.toInt ≤ 1) ∧ (1 ≤ x2.toInt ∧ x2.toInt ≤ 40)) ∧ V1 0 = .int 1 ∧ r = some (.int 0) ∧ w = [(mo, .inr (10, fvM V1))])) := by
  refine ct_of (by decide) (Nat.le_of_ble_eq_true rfl) ?_
  intro p e s m args below meth c H locs B hr hnm ls hl
  have hx := B.1.1
  have hb := B.1.2.1
  have hl : lv_has ls 4 [(0, .ref mo), (1, .int x1), (2, .int x2)] := hl
  refine lv_iload_n hx hb dX12_figure_0 rfl (lv_at hl 1 rfl) ?_
  refine lv_iconst (v := 0) hx hb dX12_figure_1 (by decide) ?_
  refine lv_iconst (v := 1) hx hb dX12_figure_2 (by decide) ?_
  refine x_callS (rest := []) (wr := [(mo, .inr (10, fvM V)), (aFk, .inl (k 0, 5, .inl (fun _ => 0))), (aFh, .inl (k 0, 5, .inl (fun _ => 0)))]) (m_in_0_1 l dC dI k x1) B mS_X12_in mw_2152 hl [] [0, 1, 2] rfl rfl ⟨by decide, by decide⟩ (by decide) ⟨Nat.le_of_ble_eq_true rfl, Nat.le_of_ble_eq_true rfl⟩ (Nat.le_of_ble_eq_true rfl) rfl dX12_figure_3 ⟨Nat.le_of_ble_eq_true rfl, Nat.le_of_ble_eq_true rfl⟩ (fun r w H locs hp B => ?_)
  rcases hp with ⟨z_1, rfl, rfl⟩ | ⟨z_2, rfl, rfl⟩
  · skip
    have B := bd_to (ws' := [(mo, .inr (10, fvM V)), (aFk, .inl (k 0, 5, .inl (fun _ => 0))), (aFh, .inl (k 0, 5, .inl (fun _ => 0)))]) rfl B
    refine lv_if_eq (tgt := 23) hx hb dX12_figure_6 (by decide) (fun c9 => absurd c9 (by decide)) (fun _ => ?_)
    refine lv_iload_n hx hb dX12_figure_9 rfl (lv_at hl 2 rfl) ?_
    refine lv_iconst (v := 1) hx hb dX12_figure_10 (by decide) ?_
    refine lv_bipush (v := 40) hx hb dX12_figure_11 (by decide) ?_
    refine x_callS (rest := []) (wr := [(mo, .inr (10, fvM V)), (aFk, .inl (k 0, 5, .inl (fun _ => 0))), (aFh, .inl (k 0, 5, .inl (fun _ => 0)))]) (m_in_1_40 l dC dI k x2) B mS_X12_in mw_2152 hl [] [0, 1, 2] rfl rfl ⟨by decide, by decide⟩ (by decide) ⟨Nat.le_of_ble_eq_true rfl, Nat.le_of_ble_eq_true rfl⟩ (Nat.le_of_ble_eq_true rfl) rfl dX12_figure_13 ⟨Nat.le_of_ble_eq_true rfl, Nat.le_of_ble_eq_true rfl⟩ (fun r w H locs hp B => ?_)
    rcases hp with ⟨z_3, rfl, rfl⟩ | ⟨z_4, rfl, rfl⟩
    · skip
      have B := bd_to (ws' := [(mo, .inr (10, fvM V)), (aFk, .inl (k 0, 5, .inl (fun _ => 0))), (aFh, .inl (k 0, 5, .inl (fun _ => 0)))]) rfl B
      refine lv_if_eq (tgt := 23) hx hb dX12_figure_16 (by decide) (fun c9 => absurd c9 (by decide)) (fun _ => ?_)
      refine lv_iconst (v := 1) hx hb dX12_figure_19 (by decide) ?_
      refine lv_goto (tgt := 24) hx hb dX12_figure_20 (by decide) ?_
      refine lv_istore_n (lv' := [(3, .int 1), (0, .ref mo), (1, .int x1), (2, .int x2)]) hx hb dX12_figure_24 rfl hl (by decide) rfl (fun ls hl => ?_)
      refine lv_aload_n hx hb dX12_figure_25 rfl (lv_at hl 1 rfl) ?_
      refine lv_iload_n hx hb dX12_figure_26 rfl (lv_at hl 0 rfl) ?_
      refine lv_if_ne (tgt := 34) hx hb dX12_figure_27 (by decide) (fun _ => ?_) (fun c9 => absurd c9 (by decide))
      refine lv_aload_n hx hb dX12_figure_34 rfl (lv_at hl 1 rfl) ?_
      refine x_get (ci := 10) (C := RX12) (T := TX12) (N := 93) (v := .int 0) B 0 rfl rfl in_X12 21 (by decide) mw_1885 (fun _ h9 => h9) (fvM_get (by decide) h21) dX12_figure_35 ?_
      refine lv_iconst (v := 5) hx hb dX12_figure_38 (by decide) ?_
      refine lv_icmp_ne (tgt := 46) hx hb dX12_figure_39 (by decide) (fun _ => ?_) (fun c9 => absurd c9 (by decide))
      refine lv_iconst (v := 0) hx hb dX12_figure_46 (by decide) ?_
      refine x_callV (rest := []) (wr := [(aFk, .inl (k 0, 5, .inl (fun _ => 0))), (aFh, .inl (k 0, 5, .inl (fun _ => 0)))]) (m_refused0 l dC dI k mo V) B mV_X12_refused mw_2155 hl [0] [1, 2] rfl rfl ⟨by decide, by decide⟩ (by decide) (q0 := 0) rfl rfl rfl ⟨Nat.le_of_ble_eq_true rfl, Nat.le_of_ble_eq_true rfl⟩ (Nat.le_of_ble_eq_true rfl) rfl dX12_figure_47 ⟨Nat.le_of_ble_eq_true rfl, Nat.le_of_ble_eq_true rfl⟩ (fun r w H locs hp B => ?_)
      obtain ⟨V1_5, z_6, z_7, rfl, rfl⟩ := hp
      have B := bd_to (ws' := [(aFk, .inl (k 0, 5, .inl (fun _ => 0))), (aFh, .inl (k 0, 5, .inl (fun _ => 0))), (mo, .inr (10, fvM V1_5))]) rfl B
      refine lv_if_eq (tgt := 55) hx hb dX12_figure_50 (by decide) (fun _ => ?_) (fun c9 => absurd (by decide) c9)
      refine lv_aload_n hx hb dX12_figure_55 rfl (lv_at hl 1 rfl) ?_
      refine x_get (ci := 10) (C := RX12) (T := TX12) (N := 93) (v := .ref aFk) B 2 rfl rfl in_X12 22 (by decide) mw_1886 (fun _ h9 => h9) (fvM_get (by decide) ((z_6 22 (by decide)).trans h22)) dX12_figure_56 ?_
      refine lv_aload_n hx hb dX12_figure_59 rfl (lv_at hl 1 rfl) ?_
      refine x_get (ci := 10) (C := RX12) (T := TX12) (N := 93) (v := .int 0) B 2 rfl rfl in_X12 21 (by decide) mw_1885 (fun _ h9 => h9) (fvM_get (by decide) ((z_6 21 (by decide)).trans h21)) dX12_figure_60 ?_
      refine lv_iload_n hx hb dX12_figure_63 rfl (lv_at hl 2 rfl) ?_
      refine x_iast B 0 rfl (vpc (by decide)) dX12_figure_64 (j := 0) (by decide) (fun H locs B => ?_)
      have B := bd_to (ws' := [(aFk, .inl (k 0, 5, .inl (upd (fun _ => 0) 0 x1))), (aFh, .inl (k 0, 5, .inl (fun _ => 0))), (mo, .inr (10, fvM V1_5))]) rfl B
      refine lv_aload_n hx hb dX12_figure_65 rfl (lv_at hl 1 rfl) ?_
      refine x_get (ci := 10) (C := RX12) (T := TX12) (N := 93) (v := .ref aFh) B 2 rfl rfl in_X12 23 (by decide) mw_1887 (fun _ h9 => h9) (fvM_get (by decide) ((z_6 23 (by decide)).trans h23)) dX12_figure_66 ?_
      refine lv_aload_n hx hb dX12_figure_69 rfl (lv_at hl 1 rfl) ?_
      refine x_get (ci := 10) (C := RX12) (T := TX12) (N := 93) (v := .int 0) B 2 rfl rfl in_X12 21 (by decide) mw_1885 (fun _ h9 => h9) (fvM_get (by decide) ((z_6 21 (by decide)).trans h21)) dX12_figure_70 ?_
      refine lv_iload_n hx hb dX12_figure_73 rfl (lv_at hl 3 rfl) ?_
      refine x_iast B 1 rfl (vpc (by decide)) dX12_figure_74 (j := 0) (by decide) (fun H locs B => ?_)
      have B := bd_to (ws' := [(aFk, .inl (k 0, 5, .inl (upd (fun _ => 0) 0 x1))), (aFh, .inl (k 0, 5, .inl (upd (fun _ => 0) 0 x2))), (mo, .inr (10, fvM V1_5))]) rfl B
      refine lv_aload_n hx hb dX12_figure_75 rfl (lv_at hl 1 rfl) ?_
      refine lv_dup hx hb dX12_figure_76 rfl ?_
      refine x_get (ci := 10) (C := RX12) (T := TX12) (N := 93) (v := .int 0) B 2 rfl rfl in_X12 21 (by decide) mw_1885 (fun _ h9 => h9) (fvM_get (by decide) ((z_6 21 (by decide)).trans h21)) dX12_figure_77 ?_
      refine lv_iconst (v := 1) hx hb dX12_figure_80 (by decide) ?_
      refine lv_iadd hx hb dX12_figure_81 ?_
      refine lv_seti (y := 1) (by decide) ?_
      refine x_put (ci := 10) (C := RX12) (T := TX12) (N := 93) (ty := .int) (v := .int 1) B tyX12_ok nmX12 2 rfl rfl in_X12 21 (by decide) mw_1885 (fun _ h9 => h9) rfl (by decide +kernel) rfl rfl (fvM_lt (by decide)) dX12_figure_82 (fun H locs B => ?_)
      obtain ⟨V_8, hV_8, gV_8, eV_8⟩ := fvM_put V1_5 21 (.int 1) (by decide)
      rw [eV_8] at B
      have B := bd_to (ws' := [(aFk, .inl (k 0, 5, .inl (upd (fun _ => 0) 0 x1))), (aFh, .inl (k 0, 5, .inl (upd (fun _ => 0) 0 x2))), (mo, .inr (10, fvM V_8))]) rfl B
      refine lv_aload_n hx hb dX12_figure_85 rfl (lv_at hl 1 rfl) ?_
      refine x_get (ci := 10) (C := RX12) (T := TX12) (N := 93) (v := .int 1) B 2 rfl rfl in_X12 21 (by decide) mw_1885 (fun _ h9 => h9) (fvM_get (by decide) gV_8) dX12_figure_86 ?_
      refine lv_iconst (v := 1) hx hb dX12_figure_89 (by decide) ?_
      refine lv_isub hx hb dX12_figure_90 ?_
      refine lv_seti (y := 0) (by decide) ?_
      have B := bd_sub (ws' := [(mo, .inr (10, fvM V_8))]) [2] (by decide) rfl B
      exact x_iret B hr (Or.inl (⟨V_8, by omega, ((hV_8 0 (by decide)).trans z_7), rfl, rfl⟩)) (Nat.le_of_ble_eq_true rfl) (Nat.le_of_ble_eq_true rfl) dX12_figure_91
    · skip
      have B := bd_to (ws' := [(mo, .inr (10, fvM V)), (aFk, .inl (k 0, 5, .inl (fun _ => 0))), (aFh, .inl (k 0, 5, .inl (fun _ => 0)))]) rfl B
      refine lv_if_eq (tgt := 23) hx hb dX12_figure_16 (by decide) (fun _ => ?_) (fun c9 => absurd (by decide) c9)
      refine lv_iconst (v := 0) hx hb dX12_figure_23 (by decide) ?_
      refine lv_istore_n (lv' := [(3, .int 0), (0, .ref mo), (1, .int x1), (2, .int x2)]) hx hb dX12_figure_24 rfl hl (by decide) rfl (fun ls hl => ?_)
      refine lv_aload_n hx hb dX12_figure_25 rfl (lv_at hl 1 rfl) ?_
      refine lv_iload_n hx hb dX12_figure_26 rfl (lv_at hl 0 rfl) ?_
      refine lv_if_ne (tgt := 34) hx hb dX12_figure_27 (by decide) (fun c9 => absurd c9 (by decide)) (fun _ => ?_)
      refine lv_iconst (v := 1) hx hb dX12_figure_30 (by decide) ?_
      refine lv_goto (tgt := 47) hx hb dX12_figure_31 (by decide) ?_
      refine x_callV (rest := []) (wr := [(aFk, .inl (k 0, 5, .inl (fun _ => 0))), (aFh, .inl (k 0, 5, .inl (fun _ => 0)))]) (m_refused1 l dC dI k mo V) B mV_X12_refused mw_2155 hl [0] [1, 2] rfl rfl ⟨by decide, by decide⟩ (by decide) (q0 := 0) rfl rfl rfl ⟨Nat.le_of_ble_eq_true rfl, Nat.le_of_ble_eq_true rfl⟩ (Nat.le_of_ble_eq_true rfl) rfl dX12_figure_47 ⟨Nat.le_of_ble_eq_true rfl, Nat.le_of_ble_eq_true rfl⟩ (fun r w H locs hp B => ?_)
      obtain ⟨V1_9, z_10, z_11, rfl, rfl⟩ := hp
      have B := bd_to (ws' := [(aFk, .inl (k 0, 5, .inl (fun _ => 0))), (aFh, .inl (k 0, 5, .inl (fun _ => 0))), (mo, .inr (10, fvM V1_9))]) rfl B
      refine lv_if_eq (tgt := 55) hx hb dX12_figure_50 (by decide) (fun c9 => absurd c9 (by decide)) (fun _ => ?_)
      refine lv_iconst (v := 0) hx hb dX12_figure_53 (by decide) ?_
      have B := bd_sub (ws' := [(mo, .inr (10, fvM V1_9))]) [2] (by decide) rfl B
      exact x_iret B hr (Or.inr (⟨V1_9, by omega, z_11, rfl, rfl⟩)) (Nat.le_of_ble_eq_true rfl) (Nat.le_of_ble_eq_true rfl) dX12_figure_54
  · skip
    have B := bd_to (ws' := [(mo, .inr (10, fvM V)), (aFk, .inl (k 0, 5, .inl (fun _ => 0))), (aFh, .inl (k 0, 5, .inl (fun _ => 0)))]) rfl B
    refine lv_if_eq (tgt := 23) hx hb dX12_figure_6 (by decide) (fun _ => ?_) (fun c9 => absurd (by decide) c9)
    refine lv_iconst (v := 0) hx hb dX12_figure_23 (by decide) ?_
    refine lv_istore_n (lv' := [(3, .int 0), (0, .ref mo), (1, .int x1), (2, .int x2)]) hx hb dX12_figure_24 rfl hl (by decide) rfl (fun ls hl => ?_)
    refine lv_aload_n hx hb dX12_figure_25 rfl (lv_at hl 1 rfl) ?_
    refine lv_iload_n hx hb dX12_figure_26 rfl (lv_at hl 0 rfl) ?_
    refine lv_if_ne (tgt := 34) hx hb dX12_figure_27 (by decide) (fun c9 => absurd c9 (by decide)) (fun _ => ?_)
    refine lv_iconst (v := 1) hx hb dX12_figure_30 (by decide) ?_
    refine lv_goto (tgt := 47) hx hb dX12_figure_31 (by decide) ?_
    refine x_callV (rest := []) (wr := [(aFk, .inl (k 0, 5, .inl (fun _ => 0))), (aFh, .inl (k 0, 5, .inl (fun _ => 0)))]) (m_refused1 l dC dI k mo V) B mV_X12_refused mw_2155 hl [0] [1, 2] rfl rfl ⟨by decide, by decide⟩ (by decide) (q0 := 0) rfl rfl rfl ⟨Nat.le_of_ble_eq_true rfl, Nat.le_of_ble_eq_true rfl⟩ (Nat.le_of_ble_eq_true rfl) rfl dX12_figure_47 ⟨Nat.le_of_ble_eq_true rfl, Nat.le_of_ble_eq_true rfl⟩ (fun r w H locs hp B => ?_)
    obtain ⟨V1_12, z_13, z_14, rfl, rfl⟩ := hp
    have B := bd_to (ws' := [(aFk, .inl (k 0, 5, .inl (fun _ => 0))), (aFh, .inl (k 0, 5, .inl (fun _ => 0))), (mo, .inr (10, fvM V1_12))]) rfl B
    refine lv_if_eq (tgt := 55) hx hb dX12_figure_50 (by decide) (fun c9 => absurd c9 (by decide)) (fun _ => ?_)
    refine lv_iconst (v := 0) hx hb dX12_figure_53 (by decide) ?_
    have B := bd_sub (ws' := [(mo, .inr (10, fvM V1_12))]) [2] (by decide) rfl B
    exact x_iret B hr (Or.inr (⟨V1_12, by omega, z_14, rfl, rfl⟩)) (Nat.le_of_ble_eq_true rfl) (Nat.le_of_ble_eq_true rfl) dX12_figure_54

set_option maxHeartbeats 4000000 in
set_option maxRecDepth 100000 in
theorem m_in_30_120 (l : Launch) (dC : Nat → ClassId) (dI : Nat → Nat → Nat) (k : Nat → ClassId) (x1 : Int32) : Ct l dC dI k yX12_in (.code yX12_in cX12_in 3 (some .boolean)) ({ frames := 0, cells := 0, slots := 0, locals := 0 } : Room) [.int x1, .int 30, .int 120] [] (fun r w => ((30 ≤ x1.toInt ∧ x1.toInt ≤ 120) ∧ r = some (.int 1) ∧ w = []) ∨ (¬ (30 ≤ x1.toInt ∧ x1.toInt ≤ 120) ∧ r = some (.int 0) ∧ w = [])) := by
  refine ct_of (by decide) (Nat.le_of_ble_eq_true rfl) ?_
  intro p e s m args below meth c H locs B hr hnm ls hl
  have hx := B.1.1
  have hb := B.1.2.1
  have hl : lv_has ls 3 [(0, .int x1), (1, .int 30), (2, .int 120)] := hl
  refine lv_iload_n hx hb dX12_in_0 rfl (lv_at hl 0 rfl) ?_
  refine lv_iload_n hx hb dX12_in_1 rfl (lv_at hl 1 rfl) ?_
  refine lv_icmp_lt (tgt := 14) hx hb dX12_in_2 (by decide) (fun c_1 => ?_) (fun c_1 => ?_)
  · have zc_1 : x1.toInt < 30 := zlt c_1
    refine lv_iconst (v := 0) hx hb dX12_in_14 (by decide) ?_
    have B := bd_sub (ws' := []) [] (by decide) rfl B
    exact x_zret B hr (by decide) (Or.inr (⟨by omega, rfl, rfl⟩)) (Nat.le_of_ble_eq_true rfl) (Nat.le_of_ble_eq_true rfl) dX12_in_15
  · have zc_1 : 30 ≤ x1.toInt := znlt c_1
    refine lv_iload_n hx hb dX12_in_5 rfl (lv_at hl 0 rfl) ?_
    refine lv_iload_n hx hb dX12_in_6 rfl (lv_at hl 2 rfl) ?_
    refine lv_icmp_gt (tgt := 14) hx hb dX12_in_7 (by decide) (fun c_2 => ?_) (fun c_2 => ?_)
    · have zc_2 : 120 < x1.toInt := zgt c_2
      refine lv_iconst (v := 0) hx hb dX12_in_14 (by decide) ?_
      have B := bd_sub (ws' := []) [] (by decide) rfl B
      exact x_zret B hr (by decide) (Or.inr (⟨by omega, rfl, rfl⟩)) (Nat.le_of_ble_eq_true rfl) (Nat.le_of_ble_eq_true rfl) dX12_in_15
    · have zc_2 : x1.toInt ≤ 120 := zngt c_2
      refine lv_iconst (v := 1) hx hb dX12_in_10 (by decide) ?_
      refine lv_goto (tgt := 15) hx hb dX12_in_11 (by decide) ?_
      have B := bd_sub (ws' := []) [] (by decide) rfl B
      exact x_zret B hr (by decide) (Or.inl (⟨by omega, rfl, rfl⟩)) (Nat.le_of_ble_eq_true rfl) (Nat.le_of_ble_eq_true rfl) dX12_in_15

set_option maxHeartbeats 4000000 in
set_option maxRecDepth 100000 in
theorem m_in_6_40 (l : Launch) (dC : Nat → ClassId) (dI : Nat → Nat → Nat) (k : Nat → ClassId) (x1 : Int32) : Ct l dC dI k yX12_in (.code yX12_in cX12_in 3 (some .boolean)) ({ frames := 0, cells := 0, slots := 0, locals := 0 } : Room) [.int x1, .int 6, .int 40] [] (fun r w => ((6 ≤ x1.toInt ∧ x1.toInt ≤ 40) ∧ r = some (.int 1) ∧ w = []) ∨ (¬ (6 ≤ x1.toInt ∧ x1.toInt ≤ 40) ∧ r = some (.int 0) ∧ w = [])) := by
  refine ct_of (by decide) (Nat.le_of_ble_eq_true rfl) ?_
  intro p e s m args below meth c H locs B hr hnm ls hl
  have hx := B.1.1
  have hb := B.1.2.1
  have hl : lv_has ls 3 [(0, .int x1), (1, .int 6), (2, .int 40)] := hl
  refine lv_iload_n hx hb dX12_in_0 rfl (lv_at hl 0 rfl) ?_
  refine lv_iload_n hx hb dX12_in_1 rfl (lv_at hl 1 rfl) ?_
  refine lv_icmp_lt (tgt := 14) hx hb dX12_in_2 (by decide) (fun c_1 => ?_) (fun c_1 => ?_)
  · have zc_1 : x1.toInt < 6 := zlt c_1
    refine lv_iconst (v := 0) hx hb dX12_in_14 (by decide) ?_
    have B := bd_sub (ws' := []) [] (by decide) rfl B
    exact x_zret B hr (by decide) (Or.inr (⟨by omega, rfl, rfl⟩)) (Nat.le_of_ble_eq_true rfl) (Nat.le_of_ble_eq_true rfl) dX12_in_15
  · have zc_1 : 6 ≤ x1.toInt := znlt c_1
    refine lv_iload_n hx hb dX12_in_5 rfl (lv_at hl 0 rfl) ?_
    refine lv_iload_n hx hb dX12_in_6 rfl (lv_at hl 2 rfl) ?_
    refine lv_icmp_gt (tgt := 14) hx hb dX12_in_7 (by decide) (fun c_2 => ?_) (fun c_2 => ?_)
    · have zc_2 : 40 < x1.toInt := zgt c_2
      refine lv_iconst (v := 0) hx hb dX12_in_14 (by decide) ?_
      have B := bd_sub (ws' := []) [] (by decide) rfl B
      exact x_zret B hr (by decide) (Or.inr (⟨by omega, rfl, rfl⟩)) (Nat.le_of_ble_eq_true rfl) (Nat.le_of_ble_eq_true rfl) dX12_in_15
    · have zc_2 : x1.toInt ≤ 40 := zngt c_2
      refine lv_iconst (v := 1) hx hb dX12_in_10 (by decide) ?_
      refine lv_goto (tgt := 15) hx hb dX12_in_11 (by decide) ?_
      have B := bd_sub (ws' := []) [] (by decide) rfl B
      exact x_zret B hr (by decide) (Or.inl (⟨by omega, rfl, rfl⟩)) (Nat.le_of_ble_eq_true rfl) (Nat.le_of_ble_eq_true rfl) dX12_in_15

theorem mw_1888 : (Jvm.Cond.fieldLink "GalleyforgeModel" (213 : Nat) "GalleyforgeModel" "width" "I") ∈ gt := gt_at 2023 (by decide +kernel) (by decide +kernel)
theorem mw_1889 : (Jvm.Cond.fieldLink "GalleyforgeModel" (217 : Nat) "GalleyforgeModel" "height" "I") ∈ gt := gt_at 2024 (by decide +kernel) (by decide +kernel)
theorem mw_1944 : (Jvm.Cond.fieldLink "GalleyforgeModel" (220 : Nat) "GalleyforgeModel" "laid" "I") ∈ gt := gt_at 2079 (by decide +kernel) (by decide +kernel)
theorem dX12_paper_0 : decode cX12_paper 0 = .ok (.aload_n 0, 1) := by decide +kernel
theorem dX12_paper_1 : decode cX12_paper 1 = .ok (.iload_n 1, 1) := by decide +kernel
theorem dX12_paper_2 : decode cX12_paper 2 = .ok (.bipush 30, 2) := by decide +kernel
theorem dX12_paper_4 : decode cX12_paper 4 = .ok (.bipush 120, 2) := by decide +kernel
theorem dX12_paper_6 : decode cX12_paper 6 = .ok (.invokestatic 229, 3) := by decide +kernel
theorem dX12_paper_9 : decode cX12_paper 9 = .ok (.ifCond .eq 18, 3) := by decide +kernel
theorem dX12_paper_12 : decode cX12_paper 12 = .ok (.iload_n 2, 1) := by decide +kernel
theorem dX12_paper_13 : decode cX12_paper 13 = .ok (.bipush 6, 2) := by decide +kernel
theorem dX12_paper_15 : decode cX12_paper 15 = .ok (.bipush 40, 2) := by decide +kernel
theorem dX12_paper_17 : decode cX12_paper 17 = .ok (.invokestatic 229, 3) := by decide +kernel
theorem dX12_paper_20 : decode cX12_paper 20 = .ok (.ifCond .eq 7, 3) := by decide +kernel
theorem dX12_paper_23 : decode cX12_paper 23 = .ok (.iconst 0, 1) := by decide +kernel
theorem dX12_paper_24 : decode cX12_paper 24 = .ok (.goto 4, 3) := by decide +kernel
theorem dX12_paper_27 : decode cX12_paper 27 = .ok (.iconst 1, 1) := by decide +kernel
theorem dX12_paper_28 : decode cX12_paper 28 = .ok (.invokevirtual 240, 3) := by decide +kernel
theorem dX12_paper_31 : decode cX12_paper 31 = .ok (.ifCond .eq 5, 3) := by decide +kernel
theorem dX12_paper_34 : decode cX12_paper 34 = .ok (.iconst 0, 1) := by decide +kernel
theorem dX12_paper_35 : decode cX12_paper 35 = .ok (.ireturn, 1) := by decide +kernel
theorem dX12_paper_36 : decode cX12_paper 36 = .ok (.aload_n 0, 1) := by decide +kernel
theorem dX12_paper_37 : decode cX12_paper 37 = .ok (.getfield 213, 3) := by decide +kernel
theorem dX12_paper_40 : decode cX12_paper 40 = .ok (.istore_n 3, 1) := by decide +kernel
theorem dX12_paper_41 : decode cX12_paper 41 = .ok (.aload_n 0, 1) := by decide +kernel
theorem dX12_paper_42 : decode cX12_paper 42 = .ok (.iload_n 1, 1) := by decide +kernel
theorem dX12_paper_43 : decode cX12_paper 43 = .ok (.putfield 213, 3) := by decide +kernel
theorem dX12_paper_46 : decode cX12_paper 46 = .ok (.aload_n 0, 1) := by decide +kernel
theorem dX12_paper_47 : decode cX12_paper 47 = .ok (.iload_n 2, 1) := by decide +kernel
theorem dX12_paper_48 : decode cX12_paper 48 = .ok (.putfield 217, 3) := by decide +kernel
theorem dX12_paper_51 : decode cX12_paper 51 = .ok (.aload_n 0, 1) := by decide +kernel
theorem dX12_paper_52 : decode cX12_paper 52 = .ok (.iconst (-1), 1) := by decide +kernel
theorem dX12_paper_53 : decode cX12_paper 53 = .ok (.putfield 220, 3) := by decide +kernel
theorem dX12_paper_56 : decode cX12_paper 56 = .ok (.iload_n 3, 1) := by decide +kernel
theorem dX12_paper_57 : decode cX12_paper 57 = .ok (.ireturn, 1) := by decide +kernel
set_option maxHeartbeats 4000000 in
set_option maxRecDepth 100000 in
theorem m_paper (l : Launch) (dC : Nat → ClassId) (dI : Nat → Nat → Nat) (k : Nat → ClassId) (mo : Nat) (V : Nat → Value) (x1 : Int32) (x2 : Int32) (h24 : V 24 = .int 60) : Ct l dC dI k yX12_paper (.code yX12_paper cX12_paper 4 (some .int)) ({ frames := 1, cells := 0, slots := 0, locals := 22 } : Room) [.ref mo, .int x1, .int x2] [(mo, .inr (10, fvM V))] (fun r w => (∃ (V1 : Nat → Value), ((30 ≤ x1.toInt ∧ x1.toInt ≤ 120) ∧ (6 ≤ x2.toInt ∧ x2.toInt ≤ 40)) ∧ V1 0 = .int 0 ∧ r = some (.int 60) ∧ w = [(mo, .inr (10, fvM V1))]) ∨ (∃ (V1 : Nat → Value), ¬ ((30 ≤ x1.toInt ∧ x1.toInt ≤ 120) ∧ (6 ≤ x2.toInt ∧ x2.toInt ≤ 40)) ∧ V1 0 = .int 1 ∧ r = some (.int 0) ∧ w = [(mo, .inr (10, fvM V1))])) := by
  refine ct_of (by decide) (Nat.le_of_ble_eq_true rfl) ?_
  intro p e s m args below meth c H locs B hr hnm ls hl
  have hx := B.1.1
  have hb := B.1.2.1
  have hl : lv_has ls 4 [(0, .ref mo), (1, .int x1), (2, .int x2)] := hl
  refine lv_aload_n hx hb dX12_paper_0 rfl (lv_at hl 0 rfl) ?_
  refine lv_iload_n hx hb dX12_paper_1 rfl (lv_at hl 1 rfl) ?_
  refine lv_bipush (v := 30) hx hb dX12_paper_2 (by decide) ?_
  refine lv_bipush (v := 120) hx hb dX12_paper_4 (by decide) ?_
  refine x_callS (rest := [.ref mo]) (wr := [(mo, .inr (10, fvM V))]) (m_in_30_120 l dC dI k x1) B mS_X12_in mw_2152 hl [] [0] rfl rfl ⟨by decide, by decide⟩ (by decide) ⟨Nat.le_of_ble_eq_true rfl, Nat.le_of_ble_eq_true rfl⟩ (Nat.le_of_ble_eq_true rfl) rfl dX12_paper_6 ⟨Nat.le_of_ble_eq_true rfl, Nat.le_of_ble_eq_true rfl⟩ (fun r w H locs hp B => ?_)
  rcases hp with ⟨z_1, rfl, rfl⟩ | ⟨z_2, rfl, rfl⟩
  · skip
    have B := bd_to (ws' := [(mo, .inr (10, fvM V))]) rfl B
    refine lv_if_eq (tgt := 27) hx hb dX12_paper_9 (by decide) (fun c9 => absurd c9 (by decide)) (fun _ => ?_)
    refine lv_iload_n hx hb dX12_paper_12 rfl (lv_at hl 2 rfl) ?_
    refine lv_bipush (v := 6) hx hb dX12_paper_13 (by decide) ?_
    refine lv_bipush (v := 40) hx hb dX12_paper_15 (by decide) ?_
    refine x_callS (rest := [.ref mo]) (wr := [(mo, .inr (10, fvM V))]) (m_in_6_40 l dC dI k x2) B mS_X12_in mw_2152 hl [] [0] rfl rfl ⟨by decide, by decide⟩ (by decide) ⟨Nat.le_of_ble_eq_true rfl, Nat.le_of_ble_eq_true rfl⟩ (Nat.le_of_ble_eq_true rfl) rfl dX12_paper_17 ⟨Nat.le_of_ble_eq_true rfl, Nat.le_of_ble_eq_true rfl⟩ (fun r w H locs hp B => ?_)
    rcases hp with ⟨z_3, rfl, rfl⟩ | ⟨z_4, rfl, rfl⟩
    · skip
      have B := bd_to (ws' := [(mo, .inr (10, fvM V))]) rfl B
      refine lv_if_eq (tgt := 27) hx hb dX12_paper_20 (by decide) (fun c9 => absurd c9 (by decide)) (fun _ => ?_)
      refine lv_iconst (v := 0) hx hb dX12_paper_23 (by decide) ?_
      refine lv_goto (tgt := 28) hx hb dX12_paper_24 (by decide) ?_
      refine x_callV (rest := []) (wr := []) (m_refused0 l dC dI k mo V) B mV_X12_refused mw_2155 hl [0] [] rfl rfl ⟨by decide, by decide⟩ (by decide) (q0 := 0) rfl rfl rfl ⟨Nat.le_of_ble_eq_true rfl, Nat.le_of_ble_eq_true rfl⟩ (Nat.le_of_ble_eq_true rfl) rfl dX12_paper_28 ⟨Nat.le_of_ble_eq_true rfl, Nat.le_of_ble_eq_true rfl⟩ (fun r w H locs hp B => ?_)
      obtain ⟨V1_5, z_6, z_7, rfl, rfl⟩ := hp
      have B := bd_to (ws' := [(mo, .inr (10, fvM V1_5))]) rfl B
      refine lv_if_eq (tgt := 36) hx hb dX12_paper_31 (by decide) (fun _ => ?_) (fun c9 => absurd (by decide) c9)
      refine lv_aload_n hx hb dX12_paper_36 rfl (lv_at hl 0 rfl) ?_
      refine x_get (ci := 10) (C := RX12) (T := TX12) (N := 93) (v := .int 60) B 0 rfl rfl in_X12 24 (by decide) mw_1888 (fun _ h9 => h9) (fvM_get (by decide) ((z_6 24 (by decide)).trans h24)) dX12_paper_37 ?_
      refine lv_istore_n (lv' := [(3, .int 60), (0, .ref mo), (1, .int x1), (2, .int x2)]) hx hb dX12_paper_40 rfl hl (by decide) rfl (fun ls hl => ?_)
      refine lv_aload_n hx hb dX12_paper_41 rfl (lv_at hl 1 rfl) ?_
      refine lv_iload_n hx hb dX12_paper_42 rfl (lv_at hl 2 rfl) ?_
      refine x_put (ci := 10) (C := RX12) (T := TX12) (N := 93) (ty := .int) (v := .int x1) B tyX12_ok nmX12 0 rfl rfl in_X12 24 (by decide) mw_1888 (fun _ h9 => h9) rfl (by decide +kernel) rfl rfl (fvM_lt (by decide)) dX12_paper_43 (fun H locs B => ?_)
      obtain ⟨V_8, hV_8, gV_8, eV_8⟩ := fvM_put V1_5 24 (.int x1) (by decide)
      rw [eV_8] at B
      have B := bd_to (ws' := [(mo, .inr (10, fvM V_8))]) rfl B
      refine lv_aload_n hx hb dX12_paper_46 rfl (lv_at hl 1 rfl) ?_
      refine lv_iload_n hx hb dX12_paper_47 rfl (lv_at hl 3 rfl) ?_
      refine x_put (ci := 10) (C := RX12) (T := TX12) (N := 93) (ty := .int) (v := .int x2) B tyX12_ok nmX12 0 rfl rfl in_X12 25 (by decide) mw_1889 (fun _ h9 => h9) rfl (by decide +kernel) rfl rfl (fvM_lt (by decide)) dX12_paper_48 (fun H locs B => ?_)
      obtain ⟨V_9, hV_9, gV_9, eV_9⟩ := fvM_put V_8 25 (.int x2) (by decide)
      rw [eV_9] at B
      have B := bd_to (ws' := [(mo, .inr (10, fvM V_9))]) rfl B
      refine lv_aload_n hx hb dX12_paper_51 rfl (lv_at hl 1 rfl) ?_
      refine lv_iconst (v := (-1)) hx hb dX12_paper_52 (by decide) ?_
      refine x_put (ci := 10) (C := RX12) (T := TX12) (N := 93) (ty := .int) (v := .int (-1)) B tyX12_ok nmX12 0 rfl rfl in_X12 80 (by decide) mw_1944 (fun _ h9 => h9) rfl (by decide +kernel) rfl rfl (fvM_lt (by decide)) dX12_paper_53 (fun H locs B => ?_)
      obtain ⟨V_10, hV_10, gV_10, eV_10⟩ := fvM_put V_9 80 (.int (-1)) (by decide)
      rw [eV_10] at B
      have B := bd_to (ws' := [(mo, .inr (10, fvM V_10))]) rfl B
      refine lv_iload_n hx hb dX12_paper_56 rfl (lv_at hl 0 rfl) ?_
      have B := bd_sub (ws' := [(mo, .inr (10, fvM V_10))]) [0] (by decide) rfl B
      exact x_iret B hr (Or.inl (⟨V_10, by omega, ((hV_10 0 (by decide)).trans ((hV_9 0 (by decide)).trans ((hV_8 0 (by decide)).trans z_7))), rfl, rfl⟩)) (Nat.le_of_ble_eq_true rfl) (Nat.le_of_ble_eq_true rfl) dX12_paper_57
    · skip
      have B := bd_to (ws' := [(mo, .inr (10, fvM V))]) rfl B
      refine lv_if_eq (tgt := 27) hx hb dX12_paper_20 (by decide) (fun _ => ?_) (fun c9 => absurd (by decide) c9)
      refine lv_iconst (v := 1) hx hb dX12_paper_27 (by decide) ?_
      refine x_callV (rest := []) (wr := []) (m_refused1 l dC dI k mo V) B mV_X12_refused mw_2155 hl [0] [] rfl rfl ⟨by decide, by decide⟩ (by decide) (q0 := 0) rfl rfl rfl ⟨Nat.le_of_ble_eq_true rfl, Nat.le_of_ble_eq_true rfl⟩ (Nat.le_of_ble_eq_true rfl) rfl dX12_paper_28 ⟨Nat.le_of_ble_eq_true rfl, Nat.le_of_ble_eq_true rfl⟩ (fun r w H locs hp B => ?_)
      obtain ⟨V1_11, z_12, z_13, rfl, rfl⟩ := hp
      have B := bd_to (ws' := [(mo, .inr (10, fvM V1_11))]) rfl B
      refine lv_if_eq (tgt := 36) hx hb dX12_paper_31 (by decide) (fun c9 => absurd c9 (by decide)) (fun _ => ?_)
      refine lv_iconst (v := 0) hx hb dX12_paper_34 (by decide) ?_
      have B := bd_sub (ws' := [(mo, .inr (10, fvM V1_11))]) [0] (by decide) rfl B
      exact x_iret B hr (Or.inr (⟨V1_11, by omega, z_13, rfl, rfl⟩)) (Nat.le_of_ble_eq_true rfl) (Nat.le_of_ble_eq_true rfl) dX12_paper_35
  · skip
    have B := bd_to (ws' := [(mo, .inr (10, fvM V))]) rfl B
    refine lv_if_eq (tgt := 27) hx hb dX12_paper_9 (by decide) (fun _ => ?_) (fun c9 => absurd (by decide) c9)
    refine lv_iconst (v := 1) hx hb dX12_paper_27 (by decide) ?_
    refine x_callV (rest := []) (wr := []) (m_refused1 l dC dI k mo V) B mV_X12_refused mw_2155 hl [0] [] rfl rfl ⟨by decide, by decide⟩ (by decide) (q0 := 0) rfl rfl rfl ⟨Nat.le_of_ble_eq_true rfl, Nat.le_of_ble_eq_true rfl⟩ (Nat.le_of_ble_eq_true rfl) rfl dX12_paper_28 ⟨Nat.le_of_ble_eq_true rfl, Nat.le_of_ble_eq_true rfl⟩ (fun r w H locs hp B => ?_)
    obtain ⟨V1_14, z_15, z_16, rfl, rfl⟩ := hp
    have B := bd_to (ws' := [(mo, .inr (10, fvM V1_14))]) rfl B
    refine lv_if_eq (tgt := 36) hx hb dX12_paper_31 (by decide) (fun c9 => absurd c9 (by decide)) (fun _ => ?_)
    refine lv_iconst (v := 0) hx hb dX12_paper_34 (by decide) ?_
    have B := bd_sub (ws' := [(mo, .inr (10, fvM V1_14))]) [0] (by decide) rfl B
    exact x_iret B hr (Or.inr (⟨V1_14, by omega, z_16, rfl, rfl⟩)) (Nat.le_of_ble_eq_true rfl) (Nat.le_of_ble_eq_true rfl) dX12_paper_35

set_option maxHeartbeats 4000000 in
set_option maxRecDepth 100000 in
theorem m_in_0_999 (l : Launch) (dC : Nat → ClassId) (dI : Nat → Nat → Nat) (k : Nat → ClassId) (x1 : Int32) : Ct l dC dI k yX12_in (.code yX12_in cX12_in 3 (some .boolean)) ({ frames := 0, cells := 0, slots := 0, locals := 0 } : Room) [.int x1, .int 0, .int 999] [] (fun r w => ((0 ≤ x1.toInt ∧ x1.toInt ≤ 999) ∧ r = some (.int 1) ∧ w = []) ∨ (¬ (0 ≤ x1.toInt ∧ x1.toInt ≤ 999) ∧ r = some (.int 0) ∧ w = [])) := by
  refine ct_of (by decide) (Nat.le_of_ble_eq_true rfl) ?_
  intro p e s m args below meth c H locs B hr hnm ls hl
  have hx := B.1.1
  have hb := B.1.2.1
  have hl : lv_has ls 3 [(0, .int x1), (1, .int 0), (2, .int 999)] := hl
  refine lv_iload_n hx hb dX12_in_0 rfl (lv_at hl 0 rfl) ?_
  refine lv_iload_n hx hb dX12_in_1 rfl (lv_at hl 1 rfl) ?_
  refine lv_icmp_lt (tgt := 14) hx hb dX12_in_2 (by decide) (fun c_1 => ?_) (fun c_1 => ?_)
  · have zc_1 : x1.toInt < 0 := zlt c_1
    refine lv_iconst (v := 0) hx hb dX12_in_14 (by decide) ?_
    have B := bd_sub (ws' := []) [] (by decide) rfl B
    exact x_zret B hr (by decide) (Or.inr (⟨by omega, rfl, rfl⟩)) (Nat.le_of_ble_eq_true rfl) (Nat.le_of_ble_eq_true rfl) dX12_in_15
  · have zc_1 : 0 ≤ x1.toInt := znlt c_1
    refine lv_iload_n hx hb dX12_in_5 rfl (lv_at hl 0 rfl) ?_
    refine lv_iload_n hx hb dX12_in_6 rfl (lv_at hl 2 rfl) ?_
    refine lv_icmp_gt (tgt := 14) hx hb dX12_in_7 (by decide) (fun c_2 => ?_) (fun c_2 => ?_)
    · have zc_2 : 999 < x1.toInt := zgt c_2
      refine lv_iconst (v := 0) hx hb dX12_in_14 (by decide) ?_
      have B := bd_sub (ws' := []) [] (by decide) rfl B
      exact x_zret B hr (by decide) (Or.inr (⟨by omega, rfl, rfl⟩)) (Nat.le_of_ble_eq_true rfl) (Nat.le_of_ble_eq_true rfl) dX12_in_15
    · have zc_2 : x1.toInt ≤ 999 := zngt c_2
      refine lv_iconst (v := 1) hx hb dX12_in_10 (by decide) ?_
      refine lv_goto (tgt := 15) hx hb dX12_in_11 (by decide) ?_
      have B := bd_sub (ws' := []) [] (by decide) rfl B
      exact x_zret B hr (by decide) (Or.inl (⟨by omega, rfl, rfl⟩)) (Nat.le_of_ble_eq_true rfl) (Nat.le_of_ble_eq_true rfl) dX12_in_15

theorem mw_1890 : (Jvm.Cond.fieldLink "GalleyforgeModel" (67 : Nat) "GalleyforgeModel" "keys" "[I") ∈ gt := gt_at 2025 (by decide +kernel) (by decide +kernel)
theorem dX12_key_0 : decode cX12_key 0 = .ok (.aload_n 0, 1) := by decide +kernel
theorem dX12_key_1 : decode cX12_key 1 = .ok (.iload_n 1, 1) := by decide +kernel
theorem dX12_key_2 : decode cX12_key 2 = .ok (.iconst 0, 1) := by decide +kernel
theorem dX12_key_3 : decode cX12_key 3 = .ok (.bipush 7, 2) := by decide +kernel
theorem dX12_key_5 : decode cX12_key 5 = .ok (.invokestatic 229, 3) := by decide +kernel
theorem dX12_key_8 : decode cX12_key 8 = .ok (.ifCond .ne 7, 3) := by decide +kernel
theorem dX12_key_11 : decode cX12_key 11 = .ok (.iconst 1, 1) := by decide +kernel
theorem dX12_key_12 : decode cX12_key 12 = .ok (.goto 19, 3) := by decide +kernel
theorem dX12_key_15 : decode cX12_key 15 = .ok (.iload_n 2, 1) := by decide +kernel
theorem dX12_key_16 : decode cX12_key 16 = .ok (.iconst 0, 1) := by decide +kernel
theorem dX12_key_17 : decode cX12_key 17 = .ok (.sipush 999, 3) := by decide +kernel
theorem dX12_key_20 : decode cX12_key 20 = .ok (.invokestatic 229, 3) := by decide +kernel
theorem dX12_key_23 : decode cX12_key 23 = .ok (.ifCond .eq 7, 3) := by decide +kernel
theorem dX12_key_26 : decode cX12_key 26 = .ok (.iconst 0, 1) := by decide +kernel
theorem dX12_key_27 : decode cX12_key 27 = .ok (.goto 4, 3) := by decide +kernel
theorem dX12_key_30 : decode cX12_key 30 = .ok (.iconst 2, 1) := by decide +kernel
theorem dX12_key_31 : decode cX12_key 31 = .ok (.invokevirtual 240, 3) := by decide +kernel
theorem dX12_key_34 : decode cX12_key 34 = .ok (.ifCond .eq 5, 3) := by decide +kernel
theorem dX12_key_37 : decode cX12_key 37 = .ok (.iconst 0, 1) := by decide +kernel
theorem dX12_key_38 : decode cX12_key 38 = .ok (.ireturn, 1) := by decide +kernel
theorem dX12_key_39 : decode cX12_key 39 = .ok (.aload_n 0, 1) := by decide +kernel
theorem dX12_key_40 : decode cX12_key 40 = .ok (.getfield 67, 3) := by decide +kernel
theorem dX12_key_43 : decode cX12_key 43 = .ok (.iload_n 1, 1) := by decide +kernel
theorem dX12_key_44 : decode cX12_key 44 = .ok (.iaload, 1) := by decide +kernel
theorem dX12_key_45 : decode cX12_key 45 = .ok (.istore_n 3, 1) := by decide +kernel
theorem dX12_key_46 : decode cX12_key 46 = .ok (.aload_n 0, 1) := by decide +kernel
theorem dX12_key_47 : decode cX12_key 47 = .ok (.getfield 67, 3) := by decide +kernel
theorem dX12_key_50 : decode cX12_key 50 = .ok (.iload_n 1, 1) := by decide +kernel
theorem dX12_key_51 : decode cX12_key 51 = .ok (.iload_n 2, 1) := by decide +kernel
theorem dX12_key_52 : decode cX12_key 52 = .ok (.iastore, 1) := by decide +kernel
theorem dX12_key_53 : decode cX12_key 53 = .ok (.iload_n 3, 1) := by decide +kernel
theorem dX12_key_54 : decode cX12_key 54 = .ok (.ireturn, 1) := by decide +kernel
set_option maxHeartbeats 4000000 in
set_option maxRecDepth 100000 in
theorem m_key (l : Launch) (dC : Nat → ClassId) (dI : Nat → Nat → Nat) (k : Nat → ClassId) (mo : Nat) (V : Nat → Value) (aKe : Nat) (x1 : Int32) (x2 : Int32) (h26 : V 26 = .ref aKe) : Ct l dC dI k yX12_key (.code yX12_key cX12_key 4 (some .int)) ({ frames := 1, cells := 0, slots := 0, locals := 22 } : Room) [.ref mo, .int x1, .int x2] [(mo, .inr (10, fvM V)), (aKe, .inl (k 0, 8, .inl (fun _ => 0)))] (fun r w => (∃ (V1 : Nat → Value), (0 ≤ x1.toInt ∧ x1.toInt ≤ 7) ∧ (0 ≤ x2.toInt ∧ x2.toInt ≤ 999) ∧ V1 0 = .int 0 ∧ r = some (.int 0) ∧ w = [(mo, .inr (10, fvM V1))]) ∨ (∃ (V1 : Nat → Value), ¬ (0 ≤ x1.toInt ∧ x1.toInt ≤ 7) ∧ V1 0 = .int 1 ∧ r = some (.int 0) ∧ w = [(mo, .inr (10, fvM V1))]) ∨ (∃ (V1 : Nat → Value), (0 ≤ x1.toInt ∧ x1.toInt ≤ 7) ∧ ¬ (0 ≤ x2.toInt ∧ x2.toInt ≤ 999) ∧ V1 0 = .int 2 ∧ r = some (.int 0) ∧ w = [(mo, .inr (10, fvM V1))])) := by
  refine ct_of (by decide) (Nat.le_of_ble_eq_true rfl) ?_
  intro p e s m args below meth c H locs B hr hnm ls hl
  have hx := B.1.1
  have hb := B.1.2.1
  have hl : lv_has ls 4 [(0, .ref mo), (1, .int x1), (2, .int x2)] := hl
  refine lv_aload_n hx hb dX12_key_0 rfl (lv_at hl 0 rfl) ?_
  refine lv_iload_n hx hb dX12_key_1 rfl (lv_at hl 1 rfl) ?_
  refine lv_iconst (v := 0) hx hb dX12_key_2 (by decide) ?_
  refine lv_bipush (v := 7) hx hb dX12_key_3 (by decide) ?_
  refine x_callS (rest := [.ref mo]) (wr := [(mo, .inr (10, fvM V)), (aKe, .inl (k 0, 8, .inl (fun _ => 0)))]) (m_in_0_7 l dC dI k x1) B mS_X12_in mw_2152 hl [] [0, 1] rfl rfl ⟨by decide, by decide⟩ (by decide) ⟨Nat.le_of_ble_eq_true rfl, Nat.le_of_ble_eq_true rfl⟩ (Nat.le_of_ble_eq_true rfl) rfl dX12_key_5 ⟨Nat.le_of_ble_eq_true rfl, Nat.le_of_ble_eq_true rfl⟩ (fun r w H locs hp B => ?_)
  rcases hp with ⟨z_1, rfl, rfl⟩ | ⟨z_2, rfl, rfl⟩
  · skip
    have B := bd_to (ws' := [(mo, .inr (10, fvM V)), (aKe, .inl (k 0, 8, .inl (fun _ => 0)))]) rfl B
    refine lv_if_ne (tgt := 15) hx hb dX12_key_8 (by decide) (fun _ => ?_) (fun c9 => absurd c9 (by decide))
    refine lv_iload_n hx hb dX12_key_15 rfl (lv_at hl 2 rfl) ?_
    refine lv_iconst (v := 0) hx hb dX12_key_16 (by decide) ?_
    refine lv_sipush (v := 999) hx hb dX12_key_17 (by decide) ?_
    refine x_callS (rest := [.ref mo]) (wr := [(mo, .inr (10, fvM V)), (aKe, .inl (k 0, 8, .inl (fun _ => 0)))]) (m_in_0_999 l dC dI k x2) B mS_X12_in mw_2152 hl [] [0, 1] rfl rfl ⟨by decide, by decide⟩ (by decide) ⟨Nat.le_of_ble_eq_true rfl, Nat.le_of_ble_eq_true rfl⟩ (Nat.le_of_ble_eq_true rfl) rfl dX12_key_20 ⟨Nat.le_of_ble_eq_true rfl, Nat.le_of_ble_eq_true rfl⟩ (fun r w H locs hp B => ?_)
    rcases hp with ⟨z_3, rfl, rfl⟩ | ⟨z_4, rfl, rfl⟩
    · skip
      have B := bd_to (ws' := [(mo, .inr (10, fvM V)), (aKe, .inl (k 0, 8, .inl (fun _ => 0)))]) rfl B
      refine lv_if_eq (tgt := 30) hx hb dX12_key_23 (by decide) (fun c9 => absurd c9 (by decide)) (fun _ => ?_)
      refine lv_iconst (v := 0) hx hb dX12_key_26 (by decide) ?_
      refine lv_goto (tgt := 31) hx hb dX12_key_27 (by decide) ?_
      refine x_callV (rest := []) (wr := [(aKe, .inl (k 0, 8, .inl (fun _ => 0)))]) (m_refused0 l dC dI k mo V) B mV_X12_refused mw_2155 hl [0] [1] rfl rfl ⟨by decide, by decide⟩ (by decide) (q0 := 0) rfl rfl rfl ⟨Nat.le_of_ble_eq_true rfl, Nat.le_of_ble_eq_true rfl⟩ (Nat.le_of_ble_eq_true rfl) rfl dX12_key_31 ⟨Nat.le_of_ble_eq_true rfl, Nat.le_of_ble_eq_true rfl⟩ (fun r w H locs hp B => ?_)
      obtain ⟨V1_5, z_6, z_7, rfl, rfl⟩ := hp
      have B := bd_to (ws' := [(aKe, .inl (k 0, 8, .inl (fun _ => 0))), (mo, .inr (10, fvM V1_5))]) rfl B
      refine lv_if_eq (tgt := 39) hx hb dX12_key_34 (by decide) (fun _ => ?_) (fun c9 => absurd (by decide) c9)
      refine lv_aload_n hx hb dX12_key_39 rfl (lv_at hl 0 rfl) ?_
      refine x_get (ci := 10) (C := RX12) (T := TX12) (N := 93) (v := .ref aKe) B 1 rfl rfl in_X12 26 (by decide) mw_1890 (fun _ h9 => h9) (fvM_get (by decide) ((z_6 26 (by decide)).trans h26)) dX12_key_40 ?_
      refine lv_iload_n hx hb dX12_key_43 rfl (lv_at hl 1 rfl) ?_
      refine x_iald (v := 0) B 0 rfl (zin (by omega) (by omega)) dX12_key_44 rfl ?_
      refine lv_istore_n (lv' := [(3, .int 0), (0, .ref mo), (1, .int x1), (2, .int x2)]) hx hb dX12_key_45 rfl hl (by decide) rfl (fun ls hl => ?_)
      refine lv_aload_n hx hb dX12_key_46 rfl (lv_at hl 1 rfl) ?_
      refine x_get (ci := 10) (C := RX12) (T := TX12) (N := 93) (v := .ref aKe) B 1 rfl rfl in_X12 26 (by decide) mw_1890 (fun _ h9 => h9) (fvM_get (by decide) ((z_6 26 (by decide)).trans h26)) dX12_key_47 ?_
      refine lv_iload_n hx hb dX12_key_50 rfl (lv_at hl 2 rfl) ?_
      refine lv_iload_n hx hb dX12_key_51 rfl (lv_at hl 3 rfl) ?_
      refine x_iast B 0 rfl (zin (by omega) (by omega)) dX12_key_52 (j := (x1.toNatClampNeg)) rfl (fun H locs B => ?_)
      have B := bd_to (ws' := [(aKe, .inl (k 0, 8, .inl (upd (fun _ => 0) (x1.toNatClampNeg) x2))), (mo, .inr (10, fvM V1_5))]) rfl B
      refine lv_iload_n hx hb dX12_key_53 rfl (lv_at hl 0 rfl) ?_
      have B := bd_sub (ws' := [(mo, .inr (10, fvM V1_5))]) [1] (by decide) rfl B
      exact x_iret B hr (Or.inl (⟨V1_5, by omega, by omega, z_7, rfl, rfl⟩)) (Nat.le_of_ble_eq_true rfl) (Nat.le_of_ble_eq_true rfl) dX12_key_54
    · skip
      have B := bd_to (ws' := [(mo, .inr (10, fvM V)), (aKe, .inl (k 0, 8, .inl (fun _ => 0)))]) rfl B
      refine lv_if_eq (tgt := 30) hx hb dX12_key_23 (by decide) (fun _ => ?_) (fun c9 => absurd (by decide) c9)
      refine lv_iconst (v := 2) hx hb dX12_key_30 (by decide) ?_
      refine x_callV (rest := []) (wr := [(aKe, .inl (k 0, 8, .inl (fun _ => 0)))]) (m_refused2 l dC dI k mo V) B mV_X12_refused mw_2155 hl [0] [1] rfl rfl ⟨by decide, by decide⟩ (by decide) (q0 := 0) rfl rfl rfl ⟨Nat.le_of_ble_eq_true rfl, Nat.le_of_ble_eq_true rfl⟩ (Nat.le_of_ble_eq_true rfl) rfl dX12_key_31 ⟨Nat.le_of_ble_eq_true rfl, Nat.le_of_ble_eq_true rfl⟩ (fun r w H locs hp B => ?_)
      obtain ⟨V1_8, z_9, z_10, rfl, rfl⟩ := hp
      have B := bd_to (ws' := [(aKe, .inl (k 0, 8, .inl (fun _ => 0))), (mo, .inr (10, fvM V1_8))]) rfl B
      refine lv_if_eq (tgt := 39) hx hb dX12_key_34 (by decide) (fun c9 => absurd c9 (by decide)) (fun _ => ?_)
      refine lv_iconst (v := 0) hx hb dX12_key_37 (by decide) ?_
      have B := bd_sub (ws' := [(mo, .inr (10, fvM V1_8))]) [1] (by decide) rfl B
      exact x_iret B hr (Or.inr (Or.inr (⟨V1_8, by omega, by omega, z_10, rfl, rfl⟩))) (Nat.le_of_ble_eq_true rfl) (Nat.le_of_ble_eq_true rfl) dX12_key_38
  · skip
    have B := bd_to (ws' := [(mo, .inr (10, fvM V)), (aKe, .inl (k 0, 8, .inl (fun _ => 0)))]) rfl B
    refine lv_if_ne (tgt := 15) hx hb dX12_key_8 (by decide) (fun c9 => absurd c9 (by decide)) (fun _ => ?_)
    refine lv_iconst (v := 1) hx hb dX12_key_11 (by decide) ?_
    refine lv_goto (tgt := 31) hx hb dX12_key_12 (by decide) ?_
    refine x_callV (rest := []) (wr := [(aKe, .inl (k 0, 8, .inl (fun _ => 0)))]) (m_refused1 l dC dI k mo V) B mV_X12_refused mw_2155 hl [0] [1] rfl rfl ⟨by decide, by decide⟩ (by decide) (q0 := 0) rfl rfl rfl ⟨Nat.le_of_ble_eq_true rfl, Nat.le_of_ble_eq_true rfl⟩ (Nat.le_of_ble_eq_true rfl) rfl dX12_key_31 ⟨Nat.le_of_ble_eq_true rfl, Nat.le_of_ble_eq_true rfl⟩ (fun r w H locs hp B => ?_)
    obtain ⟨V1_11, z_12, z_13, rfl, rfl⟩ := hp
    have B := bd_to (ws' := [(aKe, .inl (k 0, 8, .inl (fun _ => 0))), (mo, .inr (10, fvM V1_11))]) rfl B
    refine lv_if_eq (tgt := 39) hx hb dX12_key_34 (by decide) (fun c9 => absurd c9 (by decide)) (fun _ => ?_)
    refine lv_iconst (v := 0) hx hb dX12_key_37 (by decide) ?_
    have B := bd_sub (ws' := [(mo, .inr (10, fvM V1_11))]) [1] (by decide) rfl B
    exact x_iret B hr (Or.inr (Or.inl (⟨V1_11, by omega, z_13, rfl, rfl⟩))) (Nat.le_of_ble_eq_true rfl) (Nat.le_of_ble_eq_true rfl) dX12_key_38

set_option maxHeartbeats 4000000 in
set_option maxRecDepth 100000 in
theorem m_in_0_6 (l : Launch) (dC : Nat → ClassId) (dI : Nat → Nat → Nat) (k : Nat → ClassId) (x1 : Int32) : Ct l dC dI k yX12_in (.code yX12_in cX12_in 3 (some .boolean)) ({ frames := 0, cells := 0, slots := 0, locals := 0 } : Room) [.int x1, .int 0, .int 6] [] (fun r w => ((0 ≤ x1.toInt ∧ x1.toInt ≤ 6) ∧ r = some (.int 1) ∧ w = []) ∨ (¬ (0 ≤ x1.toInt ∧ x1.toInt ≤ 6) ∧ r = some (.int 0) ∧ w = [])) := by
  refine ct_of (by decide) (Nat.le_of_ble_eq_true rfl) ?_
  intro p e s m args below meth c H locs B hr hnm ls hl
  have hx := B.1.1
  have hb := B.1.2.1
  have hl : lv_has ls 3 [(0, .int x1), (1, .int 0), (2, .int 6)] := hl
  refine lv_iload_n hx hb dX12_in_0 rfl (lv_at hl 0 rfl) ?_
  refine lv_iload_n hx hb dX12_in_1 rfl (lv_at hl 1 rfl) ?_
  refine lv_icmp_lt (tgt := 14) hx hb dX12_in_2 (by decide) (fun c_1 => ?_) (fun c_1 => ?_)
  · have zc_1 : x1.toInt < 0 := zlt c_1
    refine lv_iconst (v := 0) hx hb dX12_in_14 (by decide) ?_
    have B := bd_sub (ws' := []) [] (by decide) rfl B
    exact x_zret B hr (by decide) (Or.inr (⟨by omega, rfl, rfl⟩)) (Nat.le_of_ble_eq_true rfl) (Nat.le_of_ble_eq_true rfl) dX12_in_15
  · have zc_1 : 0 ≤ x1.toInt := znlt c_1
    refine lv_iload_n hx hb dX12_in_5 rfl (lv_at hl 0 rfl) ?_
    refine lv_iload_n hx hb dX12_in_6 rfl (lv_at hl 2 rfl) ?_
    refine lv_icmp_gt (tgt := 14) hx hb dX12_in_7 (by decide) (fun c_2 => ?_) (fun c_2 => ?_)
    · have zc_2 : 6 < x1.toInt := zgt c_2
      refine lv_iconst (v := 0) hx hb dX12_in_14 (by decide) ?_
      have B := bd_sub (ws' := []) [] (by decide) rfl B
      exact x_zret B hr (by decide) (Or.inr (⟨by omega, rfl, rfl⟩)) (Nat.le_of_ble_eq_true rfl) (Nat.le_of_ble_eq_true rfl) dX12_in_15
    · have zc_2 : x1.toInt ≤ 6 := zngt c_2
      refine lv_iconst (v := 1) hx hb dX12_in_10 (by decide) ?_
      refine lv_goto (tgt := 15) hx hb dX12_in_11 (by decide) ?_
      have B := bd_sub (ws' := []) [] (by decide) rfl B
      exact x_zret B hr (by decide) (Or.inl (⟨by omega, rfl, rfl⟩)) (Nat.le_of_ble_eq_true rfl) (Nat.le_of_ble_eq_true rfl) dX12_in_15

theorem mw_1874 : (Jvm.Cond.fieldLink "GalleyforgeModel" (28 : Nat) "GalleyforgeModel" "stores" "[I") ∈ gt := gt_at 2009 (by decide +kernel) (by decide +kernel)
theorem mw_1875 : (Jvm.Cond.fieldLink "GalleyforgeModel" (31 : Nat) "GalleyforgeModel" "kinds" "[I") ∈ gt := gt_at 2010 (by decide +kernel) (by decide +kernel)
theorem mw_1876 : (Jvm.Cond.fieldLink "GalleyforgeModel" (34 : Nat) "GalleyforgeModel" "styles" "[I") ∈ gt := gt_at 2011 (by decide +kernel) (by decide +kernel)
theorem mw_1877 : (Jvm.Cond.fieldLink "GalleyforgeModel" (37 : Nat) "GalleyforgeModel" "wordCount" "[I") ∈ gt := gt_at 2012 (by decide +kernel) (by decide +kernel)
theorem mw_1882 : (Jvm.Cond.fieldLink "GalleyforgeModel" (52 : Nat) "GalleyforgeModel" "spans" "[I") ∈ gt := gt_at 2017 (by decide +kernel) (by decide +kernel)
theorem dX12_block_0 : decode cX12_block 0 = .ok (.aload_n 0, 1) := by decide +kernel
theorem dX12_block_1 : decode cX12_block 1 = .ok (.iload_n 1, 1) := by decide +kernel
theorem dX12_block_2 : decode cX12_block 2 = .ok (.iconst 0, 1) := by decide +kernel
theorem dX12_block_3 : decode cX12_block 3 = .ok (.aload_n 0, 1) := by decide +kernel
theorem dX12_block_4 : decode cX12_block 4 = .ok (.getfield 226, 3) := by decide +kernel
theorem dX12_block_7 : decode cX12_block 7 = .ok (.invokestatic 229, 3) := by decide +kernel
theorem dX12_block_10 : decode cX12_block 10 = .ok (.ifCond .ne 7, 3) := by decide +kernel
theorem dX12_block_13 : decode cX12_block 13 = .ok (.iconst 1, 1) := by decide +kernel
theorem dX12_block_14 : decode cX12_block 14 = .ok (.goto 31, 3) := by decide +kernel
theorem dX12_block_17 : decode cX12_block 17 = .ok (.iload_n 2, 1) := by decide +kernel
theorem dX12_block_18 : decode cX12_block 18 = .ok (.iconst 0, 1) := by decide +kernel
theorem dX12_block_19 : decode cX12_block 19 = .ok (.bipush 6, 2) := by decide +kernel
theorem dX12_block_21 : decode cX12_block 21 = .ok (.invokestatic 229, 3) := by decide +kernel
theorem dX12_block_24 : decode cX12_block 24 = .ok (.ifCond .ne 7, 3) := by decide +kernel
theorem dX12_block_27 : decode cX12_block 27 = .ok (.iconst 2, 1) := by decide +kernel
theorem dX12_block_28 : decode cX12_block 28 = .ok (.goto 17, 3) := by decide +kernel
theorem dX12_block_31 : decode cX12_block 31 = .ok (.aload_n 0, 1) := by decide +kernel
theorem dX12_block_32 : decode cX12_block 32 = .ok (.getfield 226, 3) := by decide +kernel
theorem dX12_block_35 : decode cX12_block 35 = .ok (.bipush 16, 2) := by decide +kernel
theorem dX12_block_37 : decode cX12_block 37 = .ok (.if_icmp .ne 7, 3) := by decide +kernel
theorem dX12_block_44 : decode cX12_block 44 = .ok (.iconst 0, 1) := by decide +kernel
theorem dX12_block_45 : decode cX12_block 45 = .ok (.invokevirtual 240, 3) := by decide +kernel
theorem dX12_block_48 : decode cX12_block 48 = .ok (.ifCond .eq 5, 3) := by decide +kernel
theorem dX12_block_51 : decode cX12_block 51 = .ok (.iconst 0, 1) := by decide +kernel
theorem dX12_block_52 : decode cX12_block 52 = .ok (.ireturn, 1) := by decide +kernel
theorem dX12_block_53 : decode cX12_block 53 = .ok (.aload_n 0, 1) := by decide +kernel
theorem dX12_block_54 : decode cX12_block 54 = .ok (.getfield 28, 3) := by decide +kernel
theorem dX12_block_57 : decode cX12_block 57 = .ok (.aload_n 0, 1) := by decide +kernel
theorem dX12_block_58 : decode cX12_block 58 = .ok (.getfield 226, 3) := by decide +kernel
theorem dX12_block_61 : decode cX12_block 61 = .ok (.iaload, 1) := by decide +kernel
theorem dX12_block_62 : decode cX12_block 62 = .ok (.istore_n 3, 1) := by decide +kernel
theorem dX12_block_63 : decode cX12_block 63 = .ok (.aload_n 0, 1) := by decide +kernel
theorem dX12_block_64 : decode cX12_block 64 = .ok (.getfield 226, 3) := by decide +kernel
theorem dX12_block_67 : decode cX12_block 67 = .ok (.istore 4, 2) := by decide +kernel
theorem dX12_block_69 : decode cX12_block 69 = .ok (.iload 4, 2) := by decide +kernel
theorem dX12_block_71 : decode cX12_block 71 = .ok (.iload_n 1, 1) := by decide +kernel
theorem dX12_block_72 : decode cX12_block 72 = .ok (.if_icmp .le 25, 3) := by decide +kernel
theorem dX12_block_97 : decode cX12_block 97 = .ok (.aload_n 0, 1) := by decide +kernel
theorem dX12_block_98 : decode cX12_block 98 = .ok (.getfield 28, 3) := by decide +kernel
theorem dX12_block_101 : decode cX12_block 101 = .ok (.iload_n 1, 1) := by decide +kernel
theorem dX12_block_102 : decode cX12_block 102 = .ok (.iload_n 3, 1) := by decide +kernel
theorem dX12_block_103 : decode cX12_block 103 = .ok (.iastore, 1) := by decide +kernel
theorem dX12_block_104 : decode cX12_block 104 = .ok (.aload_n 0, 1) := by decide +kernel
theorem dX12_block_105 : decode cX12_block 105 = .ok (.dup, 1) := by decide +kernel
theorem dX12_block_106 : decode cX12_block 106 = .ok (.getfield 226, 3) := by decide +kernel
theorem dX12_block_109 : decode cX12_block 109 = .ok (.iconst 1, 1) := by decide +kernel
theorem dX12_block_110 : decode cX12_block 110 = .ok (.iadd, 1) := by decide +kernel
theorem dX12_block_111 : decode cX12_block 111 = .ok (.putfield 226, 3) := by decide +kernel
theorem dX12_block_114 : decode cX12_block 114 = .ok (.aload_n 0, 1) := by decide +kernel
theorem dX12_block_115 : decode cX12_block 115 = .ok (.getfield 31, 3) := by decide +kernel
theorem dX12_block_118 : decode cX12_block 118 = .ok (.iload_n 3, 1) := by decide +kernel
theorem dX12_block_119 : decode cX12_block 119 = .ok (.iload_n 2, 1) := by decide +kernel
theorem dX12_block_120 : decode cX12_block 120 = .ok (.iastore, 1) := by decide +kernel
theorem dX12_block_121 : decode cX12_block 121 = .ok (.aload_n 0, 1) := by decide +kernel
theorem dX12_block_122 : decode cX12_block 122 = .ok (.getfield 37, 3) := by decide +kernel
theorem dX12_block_125 : decode cX12_block 125 = .ok (.iload_n 3, 1) := by decide +kernel
theorem dX12_block_126 : decode cX12_block 126 = .ok (.iconst 0, 1) := by decide +kernel
theorem dX12_block_127 : decode cX12_block 127 = .ok (.iastore, 1) := by decide +kernel
theorem dX12_block_128 : decode cX12_block 128 = .ok (.iconst 0, 1) := by decide +kernel
theorem dX12_block_129 : decode cX12_block 129 = .ok (.istore 4, 2) := by decide +kernel
theorem dX12_block_131 : decode cX12_block 131 = .ok (.iload 4, 2) := by decide +kernel
theorem dX12_block_133 : decode cX12_block 133 = .ok (.bipush 7, 2) := by decide +kernel
theorem dX12_block_135 : decode cX12_block 135 = .ok (.if_icmp .ge 43, 3) := by decide +kernel
theorem dX12_block_138 : decode cX12_block 138 = .ok (.aload_n 0, 1) := by decide +kernel
theorem dX12_block_139 : decode cX12_block 139 = .ok (.getfield 34, 3) := by decide +kernel
theorem dX12_block_142 : decode cX12_block 142 = .ok (.bipush 7, 2) := by decide +kernel
theorem dX12_block_144 : decode cX12_block 144 = .ok (.iload_n 3, 1) := by decide +kernel
theorem dX12_block_145 : decode cX12_block 145 = .ok (.imul, 1) := by decide +kernel
theorem dX12_block_146 : decode cX12_block 146 = .ok (.iload 4, 2) := by decide +kernel
theorem dX12_block_148 : decode cX12_block 148 = .ok (.iadd, 1) := by decide +kernel
theorem dX12_block_149 : decode cX12_block 149 = .ok (.iload 4, 2) := by decide +kernel
theorem dX12_block_151 : decode cX12_block 151 = .ok (.iconst 3, 1) := by decide +kernel
theorem dX12_block_152 : decode cX12_block 152 = .ok (.if_icmp .ne 7, 3) := by decide +kernel
theorem dX12_block_155 : decode cX12_block 155 = .ok (.iconst 1, 1) := by decide +kernel
theorem dX12_block_156 : decode cX12_block 156 = .ok (.goto 15, 3) := by decide +kernel
theorem dX12_block_159 : decode cX12_block 159 = .ok (.iload 4, 2) := by decide +kernel
theorem dX12_block_161 : decode cX12_block 161 = .ok (.bipush 6, 2) := by decide +kernel
theorem dX12_block_163 : decode cX12_block 163 = .ok (.if_icmp .ne 7, 3) := by decide +kernel
theorem dX12_block_166 : decode cX12_block 166 = .ok (.iconst (-1), 1) := by decide +kernel
theorem dX12_block_167 : decode cX12_block 167 = .ok (.goto 4, 3) := by decide +kernel
theorem dX12_block_170 : decode cX12_block 170 = .ok (.iconst 0, 1) := by decide +kernel
theorem dX12_block_171 : decode cX12_block 171 = .ok (.iastore, 1) := by decide +kernel
theorem dX12_block_172 : decode cX12_block 172 = .ok (.iinc 4 1, 3) := by decide +kernel
theorem dX12_block_175 : decode cX12_block 175 = .ok (.goto (-44), 3) := by decide +kernel
theorem dX12_block_178 : decode cX12_block 178 = .ok (.iconst 0, 1) := by decide +kernel
theorem dX12_block_179 : decode cX12_block 179 = .ok (.istore 4, 2) := by decide +kernel
theorem dX12_block_181 : decode cX12_block 181 = .ok (.iload 4, 2) := by decide +kernel
theorem dX12_block_183 : decode cX12_block 183 = .ok (.bipush 12, 2) := by decide +kernel
theorem dX12_block_185 : decode cX12_block 185 = .ok (.if_icmp .ge 22, 3) := by decide +kernel
theorem dX12_block_188 : decode cX12_block 188 = .ok (.aload_n 0, 1) := by decide +kernel
theorem dX12_block_189 : decode cX12_block 189 = .ok (.getfield 52, 3) := by decide +kernel
theorem dX12_block_192 : decode cX12_block 192 = .ok (.bipush 12, 2) := by decide +kernel
theorem dX12_block_194 : decode cX12_block 194 = .ok (.iload_n 3, 1) := by decide +kernel
theorem dX12_block_195 : decode cX12_block 195 = .ok (.imul, 1) := by decide +kernel
theorem dX12_block_196 : decode cX12_block 196 = .ok (.iload 4, 2) := by decide +kernel
theorem dX12_block_198 : decode cX12_block 198 = .ok (.iadd, 1) := by decide +kernel
theorem dX12_block_199 : decode cX12_block 199 = .ok (.iconst 0, 1) := by decide +kernel
theorem dX12_block_200 : decode cX12_block 200 = .ok (.iastore, 1) := by decide +kernel
theorem dX12_block_201 : decode cX12_block 201 = .ok (.iinc 4 1, 3) := by decide +kernel
theorem dX12_block_204 : decode cX12_block 204 = .ok (.goto (-23), 3) := by decide +kernel
theorem dX12_block_207 : decode cX12_block 207 = .ok (.aload_n 0, 1) := by decide +kernel
theorem dX12_block_208 : decode cX12_block 208 = .ok (.iconst (-1), 1) := by decide +kernel
theorem dX12_block_209 : decode cX12_block 209 = .ok (.putfield 220, 3) := by decide +kernel
theorem dX12_block_212 : decode cX12_block 212 = .ok (.aload_n 0, 1) := by decide +kernel
theorem dX12_block_213 : decode cX12_block 213 = .ok (.getfield 226, 3) := by decide +kernel
theorem dX12_block_216 : decode cX12_block 216 = .ok (.ireturn, 1) := by decide +kernel
set_option maxHeartbeats 4000000 in
set_option maxRecDepth 100000 in
theorem m_block (l : Launch) (dC : Nat → ClassId) (dI : Nat → Nat → Nat) (k : Nat → ClassId) (mo : Nat) (V : Nat → Value) (aSt : Nat) (aKi : Nat) (aSy : Nat) (aWc : Nat) (aSn : Nat) (x1 : Int32) (x2 : Int32) (gs : Nat → Int32) (h9 : V 9 = .int 0) (h10 : V 10 = .ref aSt) (h11 : V 11 = .ref aKi) (h12 : V 12 = .ref aSy) (h13 : V 13 = .ref aWc) (h18 : V 18 = .ref aSn) (hgs : gs 0 = 0) : Ct l dC dI k yX12_block (.code yX12_block cX12_block 5 (some .int)) ({ frames := 1, cells := 0, slots := 0, locals := 22 } : Room) [.ref mo, .int x1, .int x2] [(mo, .inr (10, fvM V)), (aSt, .inl (k 0, 16, .inl gs)), (aKi, .inl (k 0, 16, .inl (fun _ => 0))), (aSy, .inl (k 0, 112, .inl (fun _ => 0))), (aWc, .inl (k 0, 16, .inl (fun _ => 0))), (aSn, .inl (k 0, 192, .inl (fun _ => 0)))] (fun r w => (∃ (V1 : Nat → Value), (0 ≤ x1.toInt ∧ x1.toInt ≤ 0) ∧ (0 ≤ x2.toInt ∧ x2.toInt ≤ 6) ∧ V1 0 = .int 0 ∧ r = some (.int 1) ∧ w = [(mo, .inr (10, fvM V1))]) ∨ (∃ (V1 : Nat → Value), ¬ (0 ≤ x1.toInt ∧ x1.toInt ≤ 0) ∧ V1 0 = .int 1 ∧ r = some (.int 0) ∧ w = [(mo, .inr (10, fvM V1))]) ∨ (∃ (V1 : Nat → Value), (0 ≤ x1.toInt ∧ x1.toInt ≤ 0) ∧ ¬ (0 ≤ x2.toInt ∧ x2.toInt ≤ 6) ∧ V1 0 = .int 2 ∧ r = some (.int 0) ∧ w = [(mo, .inr (10, fvM V1))])) := by
  refine ct_of (by decide) (Nat.le_of_ble_eq_true rfl) ?_
  intro p e s m args below meth c H locs B hr hnm ls hl
  have hx := B.1.1
  have hb := B.1.2.1
  have hl : lv_has ls 5 [(0, .ref mo), (1, .int x1), (2, .int x2)] := hl
  refine lv_aload_n hx hb dX12_block_0 rfl (lv_at hl 0 rfl) ?_
  refine lv_iload_n hx hb dX12_block_1 rfl (lv_at hl 1 rfl) ?_
  refine lv_iconst (v := 0) hx hb dX12_block_2 (by decide) ?_
  refine lv_aload_n hx hb dX12_block_3 rfl (lv_at hl 0 rfl) ?_
  refine x_get (ci := 10) (C := RX12) (T := TX12) (N := 93) (v := .int 0) B 0 rfl rfl in_X12 9 (by decide) mw_1873 (fun _ h9 => h9) (fvM_get (by decide) h9) dX12_block_4 ?_
  refine x_callS (rest := [.ref mo]) (wr := [(mo, .inr (10, fvM V)), (aSt, .inl (k 0, 16, .inl gs)), (aKi, .inl (k 0, 16, .inl (fun _ => 0))), (aSy, .inl (k 0, 112, .inl (fun _ => 0))), (aWc, .inl (k 0, 16, .inl (fun _ => 0))), (aSn, .inl (k 0, 192, .inl (fun _ => 0)))]) (m_in_0_0 l dC dI k x1) B mS_X12_in mw_2152 hl [] [0, 1, 2, 3, 4, 5] rfl rfl ⟨by decide, by decide⟩ (by decide) ⟨Nat.le_of_ble_eq_true rfl, Nat.le_of_ble_eq_true rfl⟩ (Nat.le_of_ble_eq_true rfl) rfl dX12_block_7 ⟨Nat.le_of_ble_eq_true rfl, Nat.le_of_ble_eq_true rfl⟩ (fun r w H locs hp B => ?_)
  rcases hp with ⟨z_1, rfl, rfl⟩ | ⟨z_2, rfl, rfl⟩
  · skip
    have B := bd_to (ws' := [(mo, .inr (10, fvM V)), (aSt, .inl (k 0, 16, .inl gs)), (aKi, .inl (k 0, 16, .inl (fun _ => 0))), (aSy, .inl (k 0, 112, .inl (fun _ => 0))), (aWc, .inl (k 0, 16, .inl (fun _ => 0))), (aSn, .inl (k 0, 192, .inl (fun _ => 0)))]) rfl B
    refine lv_if_ne (tgt := 17) hx hb dX12_block_10 (by decide) (fun _ => ?_) (fun c9 => absurd c9 (by decide))
    refine lv_iload_n hx hb dX12_block_17 rfl (lv_at hl 2 rfl) ?_
    refine lv_iconst (v := 0) hx hb dX12_block_18 (by decide) ?_
    refine lv_bipush (v := 6) hx hb dX12_block_19 (by decide) ?_
    refine x_callS (rest := [.ref mo]) (wr := [(mo, .inr (10, fvM V)), (aSt, .inl (k 0, 16, .inl gs)), (aKi, .inl (k 0, 16, .inl (fun _ => 0))), (aSy, .inl (k 0, 112, .inl (fun _ => 0))), (aWc, .inl (k 0, 16, .inl (fun _ => 0))), (aSn, .inl (k 0, 192, .inl (fun _ => 0)))]) (m_in_0_6 l dC dI k x2) B mS_X12_in mw_2152 hl [] [0, 1, 2, 3, 4, 5] rfl rfl ⟨by decide, by decide⟩ (by decide) ⟨Nat.le_of_ble_eq_true rfl, Nat.le_of_ble_eq_true rfl⟩ (Nat.le_of_ble_eq_true rfl) rfl dX12_block_21 ⟨Nat.le_of_ble_eq_true rfl, Nat.le_of_ble_eq_true rfl⟩ (fun r w H locs hp B => ?_)
    rcases hp with ⟨z_3, rfl, rfl⟩ | ⟨z_4, rfl, rfl⟩
    · skip
      have B := bd_to (ws' := [(mo, .inr (10, fvM V)), (aSt, .inl (k 0, 16, .inl gs)), (aKi, .inl (k 0, 16, .inl (fun _ => 0))), (aSy, .inl (k 0, 112, .inl (fun _ => 0))), (aWc, .inl (k 0, 16, .inl (fun _ => 0))), (aSn, .inl (k 0, 192, .inl (fun _ => 0)))]) rfl B
      refine lv_if_ne (tgt := 31) hx hb dX12_block_24 (by decide) (fun _ => ?_) (fun c9 => absurd c9 (by decide))
      refine lv_aload_n hx hb dX12_block_31 rfl (lv_at hl 0 rfl) ?_
      refine x_get (ci := 10) (C := RX12) (T := TX12) (N := 93) (v := .int 0) B 0 rfl rfl in_X12 9 (by decide) mw_1873 (fun _ h9 => h9) (fvM_get (by decide) h9) dX12_block_32 ?_
      refine lv_bipush (v := 16) hx hb dX12_block_35 (by decide) ?_
      refine lv_icmp_ne (tgt := 44) hx hb dX12_block_37 (by decide) (fun _ => ?_) (fun c9 => absurd c9 (by decide))
      refine lv_iconst (v := 0) hx hb dX12_block_44 (by decide) ?_
      refine x_callV (rest := []) (wr := [(aSt, .inl (k 0, 16, .inl gs)), (aKi, .inl (k 0, 16, .inl (fun _ => 0))), (aSy, .inl (k 0, 112, .inl (fun _ => 0))), (aWc, .inl (k 0, 16, .inl (fun _ => 0))), (aSn, .inl (k 0, 192, .inl (fun _ => 0)))]) (m_refused0 l dC dI k mo V) B mV_X12_refused mw_2155 hl [0] [1, 2, 3, 4, 5] rfl rfl ⟨by decide, by decide⟩ (by decide) (q0 := 0) rfl rfl rfl ⟨Nat.le_of_ble_eq_true rfl, Nat.le_of_ble_eq_true rfl⟩ (Nat.le_of_ble_eq_true rfl) rfl dX12_block_45 ⟨Nat.le_of_ble_eq_true rfl, Nat.le_of_ble_eq_true rfl⟩ (fun r w H locs hp B => ?_)
      obtain ⟨V1_5, z_6, z_7, rfl, rfl⟩ := hp
      have B := bd_to (ws' := [(aSt, .inl (k 0, 16, .inl gs)), (aKi, .inl (k 0, 16, .inl (fun _ => 0))), (aSy, .inl (k 0, 112, .inl (fun _ => 0))), (aWc, .inl (k 0, 16, .inl (fun _ => 0))), (aSn, .inl (k 0, 192, .inl (fun _ => 0))), (mo, .inr (10, fvM V1_5))]) rfl B
      refine lv_if_eq (tgt := 53) hx hb dX12_block_48 (by decide) (fun _ => ?_) (fun c9 => absurd (by decide) c9)
      refine lv_aload_n hx hb dX12_block_53 rfl (lv_at hl 0 rfl) ?_
      refine x_get (ci := 10) (C := RX12) (T := TX12) (N := 93) (v := .ref aSt) B 5 rfl rfl in_X12 10 (by decide) mw_1874 (fun _ h9 => h9) (fvM_get (by decide) ((z_6 10 (by decide)).trans h10)) dX12_block_54 ?_
      refine lv_aload_n hx hb dX12_block_57 rfl (lv_at hl 0 rfl) ?_
      refine x_get (ci := 10) (C := RX12) (T := TX12) (N := 93) (v := .int 0) B 5 rfl rfl in_X12 9 (by decide) mw_1873 (fun _ h9 => h9) (fvM_get (by decide) ((z_6 9 (by decide)).trans h9)) dX12_block_58 ?_
      refine x_iald (v := 0) B 0 rfl (vpc (by decide)) dX12_block_61 hgs ?_
      refine lv_istore_n (lv' := [(3, .int 0), (0, .ref mo), (1, .int x1), (2, .int x2)]) hx hb dX12_block_62 rfl hl (by decide) rfl (fun ls hl => ?_)
      refine lv_aload_n hx hb dX12_block_63 rfl (lv_at hl 1 rfl) ?_
      refine x_get (ci := 10) (C := RX12) (T := TX12) (N := 93) (v := .int 0) B 5 rfl rfl in_X12 9 (by decide) mw_1873 (fun _ h9 => h9) (fvM_get (by decide) ((z_6 9 (by decide)).trans h9)) dX12_block_64 ?_
      refine lv_istore (lv' := [(4, .int 0), (3, .int 0), (0, .ref mo), (1, .int x1), (2, .int x2)]) hx hb dX12_block_67 hl (by decide) rfl (fun ls hl => ?_)
      refine lv_iload hx hb dX12_block_69 (lv_at hl 0 rfl) ?_
      refine lv_iload_n hx hb dX12_block_71 rfl (lv_at hl 3 rfl) ?_
      refine lv_seti (y := 0) (zint (by rw [show (0 : Int32).toInt = 0 by decide]; omega)) ?_
      refine lv_icmp_le (tgt := 97) hx hb dX12_block_72 (by decide) (fun _ => ?_) (fun c9 => absurd (by decide) c9)
      refine lv_aload_n hx hb dX12_block_97 rfl (lv_at hl 2 rfl) ?_
      refine x_get (ci := 10) (C := RX12) (T := TX12) (N := 93) (v := .ref aSt) B 5 rfl rfl in_X12 10 (by decide) mw_1874 (fun _ h9 => h9) (fvM_get (by decide) ((z_6 10 (by decide)).trans h10)) dX12_block_98 ?_
      refine lv_iload_n hx hb dX12_block_101 rfl (lv_at hl 3 rfl) ?_
      refine lv_seti (y := 0) (zint (by rw [show (0 : Int32).toInt = 0 by decide]; omega)) ?_
      refine lv_iload_n hx hb dX12_block_102 rfl (lv_at hl 1 rfl) ?_
      refine x_iast B 0 rfl (vpc (by decide)) dX12_block_103 (j := 0) (by decide) (fun H locs B => ?_)
      have B := bd_to (ws' := [(aSt, .inl (k 0, 16, .inl (upd gs 0 0))), (aKi, .inl (k 0, 16, .inl (fun _ => 0))), (aSy, .inl (k 0, 112, .inl (fun _ => 0))), (aWc, .inl (k 0, 16, .inl (fun _ => 0))), (aSn, .inl (k 0, 192, .inl (fun _ => 0))), (mo, .inr (10, fvM V1_5))]) rfl B
      refine lv_aload_n hx hb dX12_block_104 rfl (lv_at hl 2 rfl) ?_
      refine lv_dup hx hb dX12_block_105 rfl ?_
      refine x_get (ci := 10) (C := RX12) (T := TX12) (N := 93) (v := .int 0) B 5 rfl rfl in_X12 9 (by decide) mw_1873 (fun _ h9 => h9) (fvM_get (by decide) ((z_6 9 (by decide)).trans h9)) dX12_block_106 ?_
      refine lv_iconst (v := 1) hx hb dX12_block_109 (by decide) ?_
      refine lv_iadd hx hb dX12_block_110 ?_
      refine lv_seti (y := 1) (by decide) ?_
      refine x_put (ci := 10) (C := RX12) (T := TX12) (N := 93) (ty := .int) (v := .int 1) B tyX12_ok nmX12 5 rfl rfl in_X12 9 (by decide) mw_1873 (fun _ h9 => h9) rfl (by decide +kernel) rfl rfl (fvM_lt (by decide)) dX12_block_111 (fun H locs B => ?_)
      obtain ⟨V_8, hV_8, gV_8, eV_8⟩ := fvM_put V1_5 9 (.int 1) (by decide)
      rw [eV_8] at B
      have B := bd_to (ws' := [(aSt, .inl (k 0, 16, .inl (upd gs 0 0))), (aKi, .inl (k 0, 16, .inl (fun _ => 0))), (aSy, .inl (k 0, 112, .inl (fun _ => 0))), (aWc, .inl (k 0, 16, .inl (fun _ => 0))), (aSn, .inl (k 0, 192, .inl (fun _ => 0))), (mo, .inr (10, fvM V_8))]) rfl B
      refine lv_aload_n hx hb dX12_block_114 rfl (lv_at hl 2 rfl) ?_
      refine x_get (ci := 10) (C := RX12) (T := TX12) (N := 93) (v := .ref aKi) B 5 rfl rfl in_X12 11 (by decide) mw_1875 (fun _ h9 => h9) (fvM_get (by decide) ((hV_8 11 (by decide)).trans ((z_6 11 (by decide)).trans h11))) dX12_block_115 ?_
      refine lv_iload_n hx hb dX12_block_118 rfl (lv_at hl 1 rfl) ?_
      refine lv_iload_n hx hb dX12_block_119 rfl (lv_at hl 4 rfl) ?_
      refine x_iast B 1 rfl (vpc (by decide)) dX12_block_120 (j := 0) (by decide) (fun H locs B => ?_)
      have B := bd_to (ws' := [(aSt, .inl (k 0, 16, .inl (upd gs 0 0))), (aKi, .inl (k 0, 16, .inl (upd (fun _ => 0) 0 x2))), (aSy, .inl (k 0, 112, .inl (fun _ => 0))), (aWc, .inl (k 0, 16, .inl (fun _ => 0))), (aSn, .inl (k 0, 192, .inl (fun _ => 0))), (mo, .inr (10, fvM V_8))]) rfl B
      refine lv_aload_n hx hb dX12_block_121 rfl (lv_at hl 2 rfl) ?_
      refine x_get (ci := 10) (C := RX12) (T := TX12) (N := 93) (v := .ref aWc) B 5 rfl rfl in_X12 13 (by decide) mw_1877 (fun _ h9 => h9) (fvM_get (by decide) ((hV_8 13 (by decide)).trans ((z_6 13 (by decide)).trans h13))) dX12_block_122 ?_
      refine lv_iload_n hx hb dX12_block_125 rfl (lv_at hl 1 rfl) ?_
      refine lv_iconst (v := 0) hx hb dX12_block_126 (by decide) ?_
      refine x_iast B 3 rfl (vpc (by decide)) dX12_block_127 (j := 0) (by decide) (fun H locs B => ?_)
      have B := bd_to (ws' := [(aSt, .inl (k 0, 16, .inl (upd gs 0 0))), (aKi, .inl (k 0, 16, .inl (upd (fun _ => 0) 0 x2))), (aSy, .inl (k 0, 112, .inl (fun _ => 0))), (aWc, .inl (k 0, 16, .inl (upd (fun _ => 0) 0 0))), (aSn, .inl (k 0, 192, .inl (fun _ => 0))), (mo, .inr (10, fvM V_8))]) rfl B
      refine lv_iconst (v := 0) hx hb dX12_block_128 (by decide) ?_
      refine lv_istore (lv' := [(4, .int 0), (3, .int 0), (0, .ref mo), (1, .int x1), (2, .int x2)]) hx hb dX12_block_129 hl (by decide) rfl (fun ls hl => ?_)
      refine lv_iload hx hb dX12_block_131 (lv_at hl 0 rfl) ?_
      refine lv_bipush (v := 7) hx hb dX12_block_133 (by decide) ?_
      refine lv_icmp_ge (tgt := 178) hx hb dX12_block_135 (by decide) (fun c9 => absurd c9 (by decide)) (fun _ => ?_)
      refine lv_aload_n hx hb dX12_block_138 rfl (lv_at hl 2 rfl) ?_
      refine x_get (ci := 10) (C := RX12) (T := TX12) (N := 93) (v := .ref aSy) B 5 rfl rfl in_X12 12 (by decide) mw_1876 (fun _ h9 => h9) (fvM_get (by decide) ((hV_8 12 (by decide)).trans ((z_6 12 (by decide)).trans h12))) dX12_block_139 ?_
      refine lv_bipush (v := 7) hx hb dX12_block_142 (by decide) ?_
      refine lv_iload_n hx hb dX12_block_144 rfl (lv_at hl 1 rfl) ?_
      refine lv_imul hx hb dX12_block_145 ?_
      refine lv_seti (y := 0) (by decide) ?_
      refine lv_iload hx hb dX12_block_146 (lv_at hl 0 rfl) ?_
      refine lv_iadd hx hb dX12_block_148 ?_
      refine lv_seti (y := 0) (by decide) ?_
      refine lv_iload hx hb dX12_block_149 (lv_at hl 0 rfl) ?_
      refine lv_iconst (v := 3) hx hb dX12_block_151 (by decide) ?_
      refine lv_icmp_ne (tgt := 159) hx hb dX12_block_152 (by decide) (fun _ => ?_) (fun c9 => absurd c9 (by decide))
      refine lv_iload hx hb dX12_block_159 (lv_at hl 0 rfl) ?_
      refine lv_bipush (v := 6) hx hb dX12_block_161 (by decide) ?_
      refine lv_icmp_ne (tgt := 170) hx hb dX12_block_163 (by decide) (fun _ => ?_) (fun c9 => absurd c9 (by decide))
      refine lv_iconst (v := 0) hx hb dX12_block_170 (by decide) ?_
      refine x_iast B 2 rfl (vpc (by decide)) dX12_block_171 (j := 0) (by decide) (fun H locs B => ?_)
      have B := bd_to (ws' := [(aSt, .inl (k 0, 16, .inl (upd gs 0 0))), (aKi, .inl (k 0, 16, .inl (upd (fun _ => 0) 0 x2))), (aSy, .inl (k 0, 112, .inl (upd (fun _ => 0) 0 0))), (aWc, .inl (k 0, 16, .inl (upd (fun _ => 0) 0 0))), (aSn, .inl (k 0, 192, .inl (fun _ => 0))), (mo, .inr (10, fvM V_8))]) rfl B
      refine lv_iinc (v := 1) (lv' := [(4, .int 1), (3, .int 0), (0, .ref mo), (1, .int x1), (2, .int x2)]) hx hb dX12_block_172 hl (k := 0) rfl (by decide) (by decide) rfl (fun ls hl => ?_)
      refine lv_goto (tgt := 131) hx hb dX12_block_175 (by decide) ?_
      refine lv_iload hx hb dX12_block_131 (lv_at hl 0 rfl) ?_
      refine lv_bipush (v := 7) hx hb dX12_block_133 (by decide) ?_
      refine lv_icmp_ge (tgt := 178) hx hb dX12_block_135 (by decide) (fun c9 => absurd c9 (by decide)) (fun _ => ?_)
      refine lv_aload_n hx hb dX12_block_138 rfl (lv_at hl 2 rfl) ?_
      refine x_get (ci := 10) (C := RX12) (T := TX12) (N := 93) (v := .ref aSy) B 5 rfl rfl in_X12 12 (by decide) mw_1876 (fun _ h9 => h9) (fvM_get (by decide) ((hV_8 12 (by decide)).trans ((z_6 12 (by decide)).trans h12))) dX12_block_139 ?_
      refine lv_bipush (v := 7) hx hb dX12_block_142 (by decide) ?_
      refine lv_iload_n hx hb dX12_block_144 rfl (lv_at hl 1 rfl) ?_
      refine lv_imul hx hb dX12_block_145 ?_
      refine lv_seti (y := 0) (by decide) ?_
      refine lv_iload hx hb dX12_block_146 (lv_at hl 0 rfl) ?_
      refine lv_iadd hx hb dX12_block_148 ?_
      refine lv_seti (y := 1) (by decide) ?_
      refine lv_iload hx hb dX12_block_149 (lv_at hl 0 rfl) ?_
      refine lv_iconst (v := 3) hx hb dX12_block_151 (by decide) ?_
      refine lv_icmp_ne (tgt := 159) hx hb dX12_block_152 (by decide) (fun _ => ?_) (fun c9 => absurd c9 (by decide))
      refine lv_iload hx hb dX12_block_159 (lv_at hl 0 rfl) ?_
      refine lv_bipush (v := 6) hx hb dX12_block_161 (by decide) ?_
      refine lv_icmp_ne (tgt := 170) hx hb dX12_block_163 (by decide) (fun _ => ?_) (fun c9 => absurd c9 (by decide))
      refine lv_iconst (v := 0) hx hb dX12_block_170 (by decide) ?_
      refine x_iast B 2 rfl (vpc (by decide)) dX12_block_171 (j := 1) (by decide) (fun H locs B => ?_)
      have B := bd_to (ws' := [(aSt, .inl (k 0, 16, .inl (upd gs 0 0))), (aKi, .inl (k 0, 16, .inl (upd (fun _ => 0) 0 x2))), (aSy, .inl (k 0, 112, .inl (upd (upd (fun _ => 0) 0 0) 1 0))), (aWc, .inl (k 0, 16, .inl (upd (fun _ => 0) 0 0))), (aSn, .inl (k 0, 192, .inl (fun _ => 0))), (mo, .inr (10, fvM V_8))]) rfl B
      refine lv_iinc (v := 2) (lv' := [(4, .int 2), (3, .int 0), (0, .ref mo), (1, .int x1), (2, .int x2)]) hx hb dX12_block_172 hl (k := 0) rfl (by decide) (by decide) rfl (fun ls hl => ?_)
      refine lv_goto (tgt := 131) hx hb dX12_block_175 (by decide) ?_
      refine lv_iload hx hb dX12_block_131 (lv_at hl 0 rfl) ?_
      refine lv_bipush (v := 7) hx hb dX12_block_133 (by decide) ?_
      refine lv_icmp_ge (tgt := 178) hx hb dX12_block_135 (by decide) (fun c9 => absurd c9 (by decide)) (fun _ => ?_)
      refine lv_aload_n hx hb dX12_block_138 rfl (lv_at hl 2 rfl) ?_
      refine x_get (ci := 10) (C := RX12) (T := TX12) (N := 93) (v := .ref aSy) B 5 rfl rfl in_X12 12 (by decide) mw_1876 (fun _ h9 => h9) (fvM_get (by decide) ((hV_8 12 (by decide)).trans ((z_6 12 (by decide)).trans h12))) dX12_block_139 ?_
      refine lv_bipush (v := 7) hx hb dX12_block_142 (by decide) ?_
      refine lv_iload_n hx hb dX12_block_144 rfl (lv_at hl 1 rfl) ?_
      refine lv_imul hx hb dX12_block_145 ?_
      refine lv_seti (y := 0) (by decide) ?_
      refine lv_iload hx hb dX12_block_146 (lv_at hl 0 rfl) ?_
      refine lv_iadd hx hb dX12_block_148 ?_
      refine lv_seti (y := 2) (by decide) ?_
      refine lv_iload hx hb dX12_block_149 (lv_at hl 0 rfl) ?_
      refine lv_iconst (v := 3) hx hb dX12_block_151 (by decide) ?_
      refine lv_icmp_ne (tgt := 159) hx hb dX12_block_152 (by decide) (fun _ => ?_) (fun c9 => absurd c9 (by decide))
      refine lv_iload hx hb dX12_block_159 (lv_at hl 0 rfl) ?_
      refine lv_bipush (v := 6) hx hb dX12_block_161 (by decide) ?_
      refine lv_icmp_ne (tgt := 170) hx hb dX12_block_163 (by decide) (fun _ => ?_) (fun c9 => absurd c9 (by decide))
      refine lv_iconst (v := 0) hx hb dX12_block_170 (by decide) ?_
      refine x_iast B 2 rfl (vpc (by decide)) dX12_block_171 (j := 2) (by decide) (fun H locs B => ?_)
      have B := bd_to (ws' := [(aSt, .inl (k 0, 16, .inl (upd gs 0 0))), (aKi, .inl (k 0, 16, .inl (upd (fun _ => 0) 0 x2))), (aSy, .inl (k 0, 112, .inl (upd (upd (upd (fun _ => 0) 0 0) 1 0) 2 0))), (aWc, .inl (k 0, 16, .inl (upd (fun _ => 0) 0 0))), (aSn, .inl (k 0, 192, .inl (fun _ => 0))), (mo, .inr (10, fvM V_8))]) rfl B
      refine lv_iinc (v := 3) (lv' := [(4, .int 3), (3, .int 0), (0, .ref mo), (1, .int x1), (2, .int x2)]) hx hb dX12_block_172 hl (k := 0) rfl (by decide) (by decide) rfl (fun ls hl => ?_)
      refine lv_goto (tgt := 131) hx hb dX12_block_175 (by decide) ?_
      refine lv_iload hx hb dX12_block_131 (lv_at hl 0 rfl) ?_
      refine lv_bipush (v := 7) hx hb dX12_block_133 (by decide) ?_
      refine lv_icmp_ge (tgt := 178) hx hb dX12_block_135 (by decide) (fun c9 => absurd c9 (by decide)) (fun _ => ?_)
      refine lv_aload_n hx hb dX12_block_138 rfl (lv_at hl 2 rfl) ?_
      refine x_get (ci := 10) (C := RX12) (T := TX12) (N := 93) (v := .ref aSy) B 5 rfl rfl in_X12 12 (by decide) mw_1876 (fun _ h9 => h9) (fvM_get (by decide) ((hV_8 12 (by decide)).trans ((z_6 12 (by decide)).trans h12))) dX12_block_139 ?_
      refine lv_bipush (v := 7) hx hb dX12_block_142 (by decide) ?_
      refine lv_iload_n hx hb dX12_block_144 rfl (lv_at hl 1 rfl) ?_
      refine lv_imul hx hb dX12_block_145 ?_
      refine lv_seti (y := 0) (by decide) ?_
      refine lv_iload hx hb dX12_block_146 (lv_at hl 0 rfl) ?_
      refine lv_iadd hx hb dX12_block_148 ?_
      refine lv_seti (y := 3) (by decide) ?_
      refine lv_iload hx hb dX12_block_149 (lv_at hl 0 rfl) ?_
      refine lv_iconst (v := 3) hx hb dX12_block_151 (by decide) ?_
      refine lv_icmp_ne (tgt := 159) hx hb dX12_block_152 (by decide) (fun c9 => absurd c9 (by decide)) (fun _ => ?_)
      refine lv_iconst (v := 1) hx hb dX12_block_155 (by decide) ?_
      refine lv_goto (tgt := 171) hx hb dX12_block_156 (by decide) ?_
      refine x_iast B 2 rfl (vpc (by decide)) dX12_block_171 (j := 3) (by decide) (fun H locs B => ?_)
      have B := bd_to (ws' := [(aSt, .inl (k 0, 16, .inl (upd gs 0 0))), (aKi, .inl (k 0, 16, .inl (upd (fun _ => 0) 0 x2))), (aSy, .inl (k 0, 112, .inl (upd (upd (upd (upd (fun _ => 0) 0 0) 1 0) 2 0) 3 1))), (aWc, .inl (k 0, 16, .inl (upd (fun _ => 0) 0 0))), (aSn, .inl (k 0, 192, .inl (fun _ => 0))), (mo, .inr (10, fvM V_8))]) rfl B
      refine lv_iinc (v := 4) (lv' := [(4, .int 4), (3, .int 0), (0, .ref mo), (1, .int x1), (2, .int x2)]) hx hb dX12_block_172 hl (k := 0) rfl (by decide) (by decide) rfl (fun ls hl => ?_)
      refine lv_goto (tgt := 131) hx hb dX12_block_175 (by decide) ?_
      refine lv_iload hx hb dX12_block_131 (lv_at hl 0 rfl) ?_
      refine lv_bipush (v := 7) hx hb dX12_block_133 (by decide) ?_
      refine lv_icmp_ge (tgt := 178) hx hb dX12_block_135 (by decide) (fun c9 => absurd c9 (by decide)) (fun _ => ?_)
      refine lv_aload_n hx hb dX12_block_138 rfl (lv_at hl 2 rfl) ?_
      refine x_get (ci := 10) (C := RX12) (T := TX12) (N := 93) (v := .ref aSy) B 5 rfl rfl in_X12 12 (by decide) mw_1876 (fun _ h9 => h9) (fvM_get (by decide) ((hV_8 12 (by decide)).trans ((z_6 12 (by decide)).trans h12))) dX12_block_139 ?_
      refine lv_bipush (v := 7) hx hb dX12_block_142 (by decide) ?_
      refine lv_iload_n hx hb dX12_block_144 rfl (lv_at hl 1 rfl) ?_
      refine lv_imul hx hb dX12_block_145 ?_
      refine lv_seti (y := 0) (by decide) ?_
      refine lv_iload hx hb dX12_block_146 (lv_at hl 0 rfl) ?_
      refine lv_iadd hx hb dX12_block_148 ?_
      refine lv_seti (y := 4) (by decide) ?_
      refine lv_iload hx hb dX12_block_149 (lv_at hl 0 rfl) ?_
      refine lv_iconst (v := 3) hx hb dX12_block_151 (by decide) ?_
      refine lv_icmp_ne (tgt := 159) hx hb dX12_block_152 (by decide) (fun _ => ?_) (fun c9 => absurd c9 (by decide))
      refine lv_iload hx hb dX12_block_159 (lv_at hl 0 rfl) ?_
      refine lv_bipush (v := 6) hx hb dX12_block_161 (by decide) ?_
      refine lv_icmp_ne (tgt := 170) hx hb dX12_block_163 (by decide) (fun _ => ?_) (fun c9 => absurd c9 (by decide))
      refine lv_iconst (v := 0) hx hb dX12_block_170 (by decide) ?_
      refine x_iast B 2 rfl (vpc (by decide)) dX12_block_171 (j := 4) (by decide) (fun H locs B => ?_)
      have B := bd_to (ws' := [(aSt, .inl (k 0, 16, .inl (upd gs 0 0))), (aKi, .inl (k 0, 16, .inl (upd (fun _ => 0) 0 x2))), (aSy, .inl (k 0, 112, .inl (upd (upd (upd (upd (upd (fun _ => 0) 0 0) 1 0) 2 0) 3 1) 4 0))), (aWc, .inl (k 0, 16, .inl (upd (fun _ => 0) 0 0))), (aSn, .inl (k 0, 192, .inl (fun _ => 0))), (mo, .inr (10, fvM V_8))]) rfl B
      refine lv_iinc (v := 5) (lv' := [(4, .int 5), (3, .int 0), (0, .ref mo), (1, .int x1), (2, .int x2)]) hx hb dX12_block_172 hl (k := 0) rfl (by decide) (by decide) rfl (fun ls hl => ?_)
      refine lv_goto (tgt := 131) hx hb dX12_block_175 (by decide) ?_
      refine lv_iload hx hb dX12_block_131 (lv_at hl 0 rfl) ?_
      refine lv_bipush (v := 7) hx hb dX12_block_133 (by decide) ?_
      refine lv_icmp_ge (tgt := 178) hx hb dX12_block_135 (by decide) (fun c9 => absurd c9 (by decide)) (fun _ => ?_)
      refine lv_aload_n hx hb dX12_block_138 rfl (lv_at hl 2 rfl) ?_
      refine x_get (ci := 10) (C := RX12) (T := TX12) (N := 93) (v := .ref aSy) B 5 rfl rfl in_X12 12 (by decide) mw_1876 (fun _ h9 => h9) (fvM_get (by decide) ((hV_8 12 (by decide)).trans ((z_6 12 (by decide)).trans h12))) dX12_block_139 ?_
      refine lv_bipush (v := 7) hx hb dX12_block_142 (by decide) ?_
      refine lv_iload_n hx hb dX12_block_144 rfl (lv_at hl 1 rfl) ?_
      refine lv_imul hx hb dX12_block_145 ?_
      refine lv_seti (y := 0) (by decide) ?_
      refine lv_iload hx hb dX12_block_146 (lv_at hl 0 rfl) ?_
      refine lv_iadd hx hb dX12_block_148 ?_
      refine lv_seti (y := 5) (by decide) ?_
      refine lv_iload hx hb dX12_block_149 (lv_at hl 0 rfl) ?_
      refine lv_iconst (v := 3) hx hb dX12_block_151 (by decide) ?_
      refine lv_icmp_ne (tgt := 159) hx hb dX12_block_152 (by decide) (fun _ => ?_) (fun c9 => absurd c9 (by decide))
      refine lv_iload hx hb dX12_block_159 (lv_at hl 0 rfl) ?_
      refine lv_bipush (v := 6) hx hb dX12_block_161 (by decide) ?_
      refine lv_icmp_ne (tgt := 170) hx hb dX12_block_163 (by decide) (fun _ => ?_) (fun c9 => absurd c9 (by decide))
      refine lv_iconst (v := 0) hx hb dX12_block_170 (by decide) ?_
      refine x_iast B 2 rfl (vpc (by decide)) dX12_block_171 (j := 5) (by decide) (fun H locs B => ?_)
      have B := bd_to (ws' := [(aSt, .inl (k 0, 16, .inl (upd gs 0 0))), (aKi, .inl (k 0, 16, .inl (upd (fun _ => 0) 0 x2))), (aSy, .inl (k 0, 112, .inl (upd (upd (upd (upd (upd (upd (fun _ => 0) 0 0) 1 0) 2 0) 3 1) 4 0) 5 0))), (aWc, .inl (k 0, 16, .inl (upd (fun _ => 0) 0 0))), (aSn, .inl (k 0, 192, .inl (fun _ => 0))), (mo, .inr (10, fvM V_8))]) rfl B
      refine lv_iinc (v := 6) (lv' := [(4, .int 6), (3, .int 0), (0, .ref mo), (1, .int x1), (2, .int x2)]) hx hb dX12_block_172 hl (k := 0) rfl (by decide) (by decide) rfl (fun ls hl => ?_)
      refine lv_goto (tgt := 131) hx hb dX12_block_175 (by decide) ?_
      refine lv_iload hx hb dX12_block_131 (lv_at hl 0 rfl) ?_
      refine lv_bipush (v := 7) hx hb dX12_block_133 (by decide) ?_
      refine lv_icmp_ge (tgt := 178) hx hb dX12_block_135 (by decide) (fun c9 => absurd c9 (by decide)) (fun _ => ?_)
      refine lv_aload_n hx hb dX12_block_138 rfl (lv_at hl 2 rfl) ?_
      refine x_get (ci := 10) (C := RX12) (T := TX12) (N := 93) (v := .ref aSy) B 5 rfl rfl in_X12 12 (by decide) mw_1876 (fun _ h9 => h9) (fvM_get (by decide) ((hV_8 12 (by decide)).trans ((z_6 12 (by decide)).trans h12))) dX12_block_139 ?_
      refine lv_bipush (v := 7) hx hb dX12_block_142 (by decide) ?_
      refine lv_iload_n hx hb dX12_block_144 rfl (lv_at hl 1 rfl) ?_
      refine lv_imul hx hb dX12_block_145 ?_
      refine lv_seti (y := 0) (by decide) ?_
      refine lv_iload hx hb dX12_block_146 (lv_at hl 0 rfl) ?_
      refine lv_iadd hx hb dX12_block_148 ?_
      refine lv_seti (y := 6) (by decide) ?_
      refine lv_iload hx hb dX12_block_149 (lv_at hl 0 rfl) ?_
      refine lv_iconst (v := 3) hx hb dX12_block_151 (by decide) ?_
      refine lv_icmp_ne (tgt := 159) hx hb dX12_block_152 (by decide) (fun _ => ?_) (fun c9 => absurd c9 (by decide))
      refine lv_iload hx hb dX12_block_159 (lv_at hl 0 rfl) ?_
      refine lv_bipush (v := 6) hx hb dX12_block_161 (by decide) ?_
      refine lv_icmp_ne (tgt := 170) hx hb dX12_block_163 (by decide) (fun c9 => absurd c9 (by decide)) (fun _ => ?_)
      refine lv_iconst (v := (-1)) hx hb dX12_block_166 (by decide) ?_
      refine lv_goto (tgt := 171) hx hb dX12_block_167 (by decide) ?_
      refine x_iast B 2 rfl (vpc (by decide)) dX12_block_171 (j := 6) (by decide) (fun H locs B => ?_)
      have B := bd_to (ws' := [(aSt, .inl (k 0, 16, .inl (upd gs 0 0))), (aKi, .inl (k 0, 16, .inl (upd (fun _ => 0) 0 x2))), (aSy, .inl (k 0, 112, .inl (upd (upd (upd (upd (upd (upd (upd (fun _ => 0) 0 0) 1 0) 2 0) 3 1) 4 0) 5 0) 6 (-1)))), (aWc, .inl (k 0, 16, .inl (upd (fun _ => 0) 0 0))), (aSn, .inl (k 0, 192, .inl (fun _ => 0))), (mo, .inr (10, fvM V_8))]) rfl B
      refine lv_iinc (v := 7) (lv' := [(4, .int 7), (3, .int 0), (0, .ref mo), (1, .int x1), (2, .int x2)]) hx hb dX12_block_172 hl (k := 0) rfl (by decide) (by decide) rfl (fun ls hl => ?_)
      refine lv_goto (tgt := 131) hx hb dX12_block_175 (by decide) ?_
      refine lv_iload hx hb dX12_block_131 (lv_at hl 0 rfl) ?_
      refine lv_bipush (v := 7) hx hb dX12_block_133 (by decide) ?_
      refine lv_icmp_ge (tgt := 178) hx hb dX12_block_135 (by decide) (fun _ => ?_) (fun c9 => absurd (by decide) c9)
      refine lv_iconst (v := 0) hx hb dX12_block_178 (by decide) ?_
      refine lv_istore (lv' := [(4, .int 0), (3, .int 0), (0, .ref mo), (1, .int x1), (2, .int x2)]) hx hb dX12_block_179 hl (by decide) rfl (fun ls hl => ?_)
      refine lv_iload hx hb dX12_block_181 (lv_at hl 0 rfl) ?_
      refine lv_bipush (v := 12) hx hb dX12_block_183 (by decide) ?_
      refine lv_icmp_ge (tgt := 207) hx hb dX12_block_185 (by decide) (fun c9 => absurd c9 (by decide)) (fun _ => ?_)
      refine lv_aload_n hx hb dX12_block_188 rfl (lv_at hl 2 rfl) ?_
      refine x_get (ci := 10) (C := RX12) (T := TX12) (N := 93) (v := .ref aSn) B 5 rfl rfl in_X12 18 (by decide) mw_1882 (fun _ h9 => h9) (fvM_get (by decide) ((hV_8 18 (by decide)).trans ((z_6 18 (by decide)).trans h18))) dX12_block_189 ?_
      refine lv_bipush (v := 12) hx hb dX12_block_192 (by decide) ?_
      refine lv_iload_n hx hb dX12_block_194 rfl (lv_at hl 1 rfl) ?_
      refine lv_imul hx hb dX12_block_195 ?_
      refine lv_seti (y := 0) (by decide) ?_
      refine lv_iload hx hb dX12_block_196 (lv_at hl 0 rfl) ?_
      refine lv_iadd hx hb dX12_block_198 ?_
      refine lv_seti (y := 0) (by decide) ?_
      refine lv_iconst (v := 0) hx hb dX12_block_199 (by decide) ?_
      refine x_iast B 4 rfl (vpc (by decide)) dX12_block_200 (j := 0) (by decide) (fun H locs B => ?_)
      have B := bd_to (ws' := [(aSt, .inl (k 0, 16, .inl (upd gs 0 0))), (aKi, .inl (k 0, 16, .inl (upd (fun _ => 0) 0 x2))), (aSy, .inl (k 0, 112, .inl (upd (upd (upd (upd (upd (upd (upd (fun _ => 0) 0 0) 1 0) 2 0) 3 1) 4 0) 5 0) 6 (-1)))), (aWc, .inl (k 0, 16, .inl (upd (fun _ => 0) 0 0))), (aSn, .inl (k 0, 192, .inl (upd (fun _ => 0) 0 0))), (mo, .inr (10, fvM V_8))]) rfl B
      refine lv_iinc (v := 1) (lv' := [(4, .int 1), (3, .int 0), (0, .ref mo), (1, .int x1), (2, .int x2)]) hx hb dX12_block_201 hl (k := 0) rfl (by decide) (by decide) rfl (fun ls hl => ?_)
      refine lv_goto (tgt := 181) hx hb dX12_block_204 (by decide) ?_
      refine lv_iload hx hb dX12_block_181 (lv_at hl 0 rfl) ?_
      refine lv_bipush (v := 12) hx hb dX12_block_183 (by decide) ?_
      refine lv_icmp_ge (tgt := 207) hx hb dX12_block_185 (by decide) (fun c9 => absurd c9 (by decide)) (fun _ => ?_)
      refine lv_aload_n hx hb dX12_block_188 rfl (lv_at hl 2 rfl) ?_
      refine x_get (ci := 10) (C := RX12) (T := TX12) (N := 93) (v := .ref aSn) B 5 rfl rfl in_X12 18 (by decide) mw_1882 (fun _ h9 => h9) (fvM_get (by decide) ((hV_8 18 (by decide)).trans ((z_6 18 (by decide)).trans h18))) dX12_block_189 ?_
      refine lv_bipush (v := 12) hx hb dX12_block_192 (by decide) ?_
      refine lv_iload_n hx hb dX12_block_194 rfl (lv_at hl 1 rfl) ?_
      refine lv_imul hx hb dX12_block_195 ?_
      refine lv_seti (y := 0) (by decide) ?_
      refine lv_iload hx hb dX12_block_196 (lv_at hl 0 rfl) ?_
      refine lv_iadd hx hb dX12_block_198 ?_
      refine lv_seti (y := 1) (by decide) ?_
      refine lv_iconst (v := 0) hx hb dX12_block_199 (by decide) ?_
      refine x_iast B 4 rfl (vpc (by decide)) dX12_block_200 (j := 1) (by decide) (fun H locs B => ?_)
      have B := bd_to (ws' := [(aSt, .inl (k 0, 16, .inl (upd gs 0 0))), (aKi, .inl (k 0, 16, .inl (upd (fun _ => 0) 0 x2))), (aSy, .inl (k 0, 112, .inl (upd (upd (upd (upd (upd (upd (upd (fun _ => 0) 0 0) 1 0) 2 0) 3 1) 4 0) 5 0) 6 (-1)))), (aWc, .inl (k 0, 16, .inl (upd (fun _ => 0) 0 0))), (aSn, .inl (k 0, 192, .inl (upd (upd (fun _ => 0) 0 0) 1 0))), (mo, .inr (10, fvM V_8))]) rfl B
      refine lv_iinc (v := 2) (lv' := [(4, .int 2), (3, .int 0), (0, .ref mo), (1, .int x1), (2, .int x2)]) hx hb dX12_block_201 hl (k := 0) rfl (by decide) (by decide) rfl (fun ls hl => ?_)
      refine lv_goto (tgt := 181) hx hb dX12_block_204 (by decide) ?_
      refine lv_iload hx hb dX12_block_181 (lv_at hl 0 rfl) ?_
      refine lv_bipush (v := 12) hx hb dX12_block_183 (by decide) ?_
      refine lv_icmp_ge (tgt := 207) hx hb dX12_block_185 (by decide) (fun c9 => absurd c9 (by decide)) (fun _ => ?_)
      refine lv_aload_n hx hb dX12_block_188 rfl (lv_at hl 2 rfl) ?_
      refine x_get (ci := 10) (C := RX12) (T := TX12) (N := 93) (v := .ref aSn) B 5 rfl rfl in_X12 18 (by decide) mw_1882 (fun _ h9 => h9) (fvM_get (by decide) ((hV_8 18 (by decide)).trans ((z_6 18 (by decide)).trans h18))) dX12_block_189 ?_
      refine lv_bipush (v := 12) hx hb dX12_block_192 (by decide) ?_
      refine lv_iload_n hx hb dX12_block_194 rfl (lv_at hl 1 rfl) ?_
      refine lv_imul hx hb dX12_block_195 ?_
      refine lv_seti (y := 0) (by decide) ?_
      refine lv_iload hx hb dX12_block_196 (lv_at hl 0 rfl) ?_
      refine lv_iadd hx hb dX12_block_198 ?_
      refine lv_seti (y := 2) (by decide) ?_
      refine lv_iconst (v := 0) hx hb dX12_block_199 (by decide) ?_
      refine x_iast B 4 rfl (vpc (by decide)) dX12_block_200 (j := 2) (by decide) (fun H locs B => ?_)
      have B := bd_to (ws' := [(aSt, .inl (k 0, 16, .inl (upd gs 0 0))), (aKi, .inl (k 0, 16, .inl (upd (fun _ => 0) 0 x2))), (aSy, .inl (k 0, 112, .inl (upd (upd (upd (upd (upd (upd (upd (fun _ => 0) 0 0) 1 0) 2 0) 3 1) 4 0) 5 0) 6 (-1)))), (aWc, .inl (k 0, 16, .inl (upd (fun _ => 0) 0 0))), (aSn, .inl (k 0, 192, .inl (upd (upd (upd (fun _ => 0) 0 0) 1 0) 2 0))), (mo, .inr (10, fvM V_8))]) rfl B
      refine lv_iinc (v := 3) (lv' := [(4, .int 3), (3, .int 0), (0, .ref mo), (1, .int x1), (2, .int x2)]) hx hb dX12_block_201 hl (k := 0) rfl (by decide) (by decide) rfl (fun ls hl => ?_)
      refine lv_goto (tgt := 181) hx hb dX12_block_204 (by decide) ?_
      refine lv_iload hx hb dX12_block_181 (lv_at hl 0 rfl) ?_
      refine lv_bipush (v := 12) hx hb dX12_block_183 (by decide) ?_
      refine lv_icmp_ge (tgt := 207) hx hb dX12_block_185 (by decide) (fun c9 => absurd c9 (by decide)) (fun _ => ?_)
      refine lv_aload_n hx hb dX12_block_188 rfl (lv_at hl 2 rfl) ?_
      refine x_get (ci := 10) (C := RX12) (T := TX12) (N := 93) (v := .ref aSn) B 5 rfl rfl in_X12 18 (by decide) mw_1882 (fun _ h9 => h9) (fvM_get (by decide) ((hV_8 18 (by decide)).trans ((z_6 18 (by decide)).trans h18))) dX12_block_189 ?_
      refine lv_bipush (v := 12) hx hb dX12_block_192 (by decide) ?_
      refine lv_iload_n hx hb dX12_block_194 rfl (lv_at hl 1 rfl) ?_
      refine lv_imul hx hb dX12_block_195 ?_
      refine lv_seti (y := 0) (by decide) ?_
      refine lv_iload hx hb dX12_block_196 (lv_at hl 0 rfl) ?_
      refine lv_iadd hx hb dX12_block_198 ?_
      refine lv_seti (y := 3) (by decide) ?_
      refine lv_iconst (v := 0) hx hb dX12_block_199 (by decide) ?_
      refine x_iast B 4 rfl (vpc (by decide)) dX12_block_200 (j := 3) (by decide) (fun H locs B => ?_)
      have B := bd_to (ws' := [(aSt, .inl (k 0, 16, .inl (upd gs 0 0))), (aKi, .inl (k 0, 16, .inl (upd (fun _ => 0) 0 x2))), (aSy, .inl (k 0, 112, .inl (upd (upd (upd (upd (upd (upd (upd (fun _ => 0) 0 0) 1 0) 2 0) 3 1) 4 0) 5 0) 6 (-1)))), (aWc, .inl (k 0, 16, .inl (upd (fun _ => 0) 0 0))), (aSn, .inl (k 0, 192, .inl (upd (upd (upd (upd (fun _ => 0) 0 0) 1 0) 2 0) 3 0))), (mo, .inr (10, fvM V_8))]) rfl B
      refine lv_iinc (v := 4) (lv' := [(4, .int 4), (3, .int 0), (0, .ref mo), (1, .int x1), (2, .int x2)]) hx hb dX12_block_201 hl (k := 0) rfl (by decide) (by decide) rfl (fun ls hl => ?_)
      refine lv_goto (tgt := 181) hx hb dX12_block_204 (by decide) ?_
      refine lv_iload hx hb dX12_block_181 (lv_at hl 0 rfl) ?_
      refine lv_bipush (v := 12) hx hb dX12_block_183 (by decide) ?_
      refine lv_icmp_ge (tgt := 207) hx hb dX12_block_185 (by decide) (fun c9 => absurd c9 (by decide)) (fun _ => ?_)
      refine lv_aload_n hx hb dX12_block_188 rfl (lv_at hl 2 rfl) ?_
      refine x_get (ci := 10) (C := RX12) (T := TX12) (N := 93) (v := .ref aSn) B 5 rfl rfl in_X12 18 (by decide) mw_1882 (fun _ h9 => h9) (fvM_get (by decide) ((hV_8 18 (by decide)).trans ((z_6 18 (by decide)).trans h18))) dX12_block_189 ?_
      refine lv_bipush (v := 12) hx hb dX12_block_192 (by decide) ?_
      refine lv_iload_n hx hb dX12_block_194 rfl (lv_at hl 1 rfl) ?_
      refine lv_imul hx hb dX12_block_195 ?_
      refine lv_seti (y := 0) (by decide) ?_
      refine lv_iload hx hb dX12_block_196 (lv_at hl 0 rfl) ?_
      refine lv_iadd hx hb dX12_block_198 ?_
      refine lv_seti (y := 4) (by decide) ?_
      refine lv_iconst (v := 0) hx hb dX12_block_199 (by decide) ?_
      refine x_iast B 4 rfl (vpc (by decide)) dX12_block_200 (j := 4) (by decide) (fun H locs B => ?_)
      have B := bd_to (ws' := [(aSt, .inl (k 0, 16, .inl (upd gs 0 0))), (aKi, .inl (k 0, 16, .inl (upd (fun _ => 0) 0 x2))), (aSy, .inl (k 0, 112, .inl (upd (upd (upd (upd (upd (upd (upd (fun _ => 0) 0 0) 1 0) 2 0) 3 1) 4 0) 5 0) 6 (-1)))), (aWc, .inl (k 0, 16, .inl (upd (fun _ => 0) 0 0))), (aSn, .inl (k 0, 192, .inl (upd (upd (upd (upd (upd (fun _ => 0) 0 0) 1 0) 2 0) 3 0) 4 0))), (mo, .inr (10, fvM V_8))]) rfl B
      refine lv_iinc (v := 5) (lv' := [(4, .int 5), (3, .int 0), (0, .ref mo), (1, .int x1), (2, .int x2)]) hx hb dX12_block_201 hl (k := 0) rfl (by decide) (by decide) rfl (fun ls hl => ?_)
      refine lv_goto (tgt := 181) hx hb dX12_block_204 (by decide) ?_
      refine lv_iload hx hb dX12_block_181 (lv_at hl 0 rfl) ?_
      refine lv_bipush (v := 12) hx hb dX12_block_183 (by decide) ?_
      refine lv_icmp_ge (tgt := 207) hx hb dX12_block_185 (by decide) (fun c9 => absurd c9 (by decide)) (fun _ => ?_)
      refine lv_aload_n hx hb dX12_block_188 rfl (lv_at hl 2 rfl) ?_
      refine x_get (ci := 10) (C := RX12) (T := TX12) (N := 93) (v := .ref aSn) B 5 rfl rfl in_X12 18 (by decide) mw_1882 (fun _ h9 => h9) (fvM_get (by decide) ((hV_8 18 (by decide)).trans ((z_6 18 (by decide)).trans h18))) dX12_block_189 ?_
      refine lv_bipush (v := 12) hx hb dX12_block_192 (by decide) ?_
      refine lv_iload_n hx hb dX12_block_194 rfl (lv_at hl 1 rfl) ?_
      refine lv_imul hx hb dX12_block_195 ?_
      refine lv_seti (y := 0) (by decide) ?_
      refine lv_iload hx hb dX12_block_196 (lv_at hl 0 rfl) ?_
      refine lv_iadd hx hb dX12_block_198 ?_
      refine lv_seti (y := 5) (by decide) ?_
      refine lv_iconst (v := 0) hx hb dX12_block_199 (by decide) ?_
      refine x_iast B 4 rfl (vpc (by decide)) dX12_block_200 (j := 5) (by decide) (fun H locs B => ?_)
      have B := bd_to (ws' := [(aSt, .inl (k 0, 16, .inl (upd gs 0 0))), (aKi, .inl (k 0, 16, .inl (upd (fun _ => 0) 0 x2))), (aSy, .inl (k 0, 112, .inl (upd (upd (upd (upd (upd (upd (upd (fun _ => 0) 0 0) 1 0) 2 0) 3 1) 4 0) 5 0) 6 (-1)))), (aWc, .inl (k 0, 16, .inl (upd (fun _ => 0) 0 0))), (aSn, .inl (k 0, 192, .inl (upd (upd (upd (upd (upd (upd (fun _ => 0) 0 0) 1 0) 2 0) 3 0) 4 0) 5 0))), (mo, .inr (10, fvM V_8))]) rfl B
      refine lv_iinc (v := 6) (lv' := [(4, .int 6), (3, .int 0), (0, .ref mo), (1, .int x1), (2, .int x2)]) hx hb dX12_block_201 hl (k := 0) rfl (by decide) (by decide) rfl (fun ls hl => ?_)
      refine lv_goto (tgt := 181) hx hb dX12_block_204 (by decide) ?_
      refine lv_iload hx hb dX12_block_181 (lv_at hl 0 rfl) ?_
      refine lv_bipush (v := 12) hx hb dX12_block_183 (by decide) ?_
      refine lv_icmp_ge (tgt := 207) hx hb dX12_block_185 (by decide) (fun c9 => absurd c9 (by decide)) (fun _ => ?_)
      refine lv_aload_n hx hb dX12_block_188 rfl (lv_at hl 2 rfl) ?_
      refine x_get (ci := 10) (C := RX12) (T := TX12) (N := 93) (v := .ref aSn) B 5 rfl rfl in_X12 18 (by decide) mw_1882 (fun _ h9 => h9) (fvM_get (by decide) ((hV_8 18 (by decide)).trans ((z_6 18 (by decide)).trans h18))) dX12_block_189 ?_
      refine lv_bipush (v := 12) hx hb dX12_block_192 (by decide) ?_
      refine lv_iload_n hx hb dX12_block_194 rfl (lv_at hl 1 rfl) ?_
      refine lv_imul hx hb dX12_block_195 ?_
      refine lv_seti (y := 0) (by decide) ?_
      refine lv_iload hx hb dX12_block_196 (lv_at hl 0 rfl) ?_
      refine lv_iadd hx hb dX12_block_198 ?_
      refine lv_seti (y := 6) (by decide) ?_
      refine lv_iconst (v := 0) hx hb dX12_block_199 (by decide) ?_
      refine x_iast B 4 rfl (vpc (by decide)) dX12_block_200 (j := 6) (by decide) (fun H locs B => ?_)
      have B := bd_to (ws' := [(aSt, .inl (k 0, 16, .inl (upd gs 0 0))), (aKi, .inl (k 0, 16, .inl (upd (fun _ => 0) 0 x2))), (aSy, .inl (k 0, 112, .inl (upd (upd (upd (upd (upd (upd (upd (fun _ => 0) 0 0) 1 0) 2 0) 3 1) 4 0) 5 0) 6 (-1)))), (aWc, .inl (k 0, 16, .inl (upd (fun _ => 0) 0 0))), (aSn, .inl (k 0, 192, .inl (upd (upd (upd (upd (upd (upd (upd (fun _ => 0) 0 0) 1 0) 2 0) 3 0) 4 0) 5 0) 6 0))), (mo, .inr (10, fvM V_8))]) rfl B
      refine lv_iinc (v := 7) (lv' := [(4, .int 7), (3, .int 0), (0, .ref mo), (1, .int x1), (2, .int x2)]) hx hb dX12_block_201 hl (k := 0) rfl (by decide) (by decide) rfl (fun ls hl => ?_)
      refine lv_goto (tgt := 181) hx hb dX12_block_204 (by decide) ?_
      refine lv_iload hx hb dX12_block_181 (lv_at hl 0 rfl) ?_
      refine lv_bipush (v := 12) hx hb dX12_block_183 (by decide) ?_
      refine lv_icmp_ge (tgt := 207) hx hb dX12_block_185 (by decide) (fun c9 => absurd c9 (by decide)) (fun _ => ?_)
      refine lv_aload_n hx hb dX12_block_188 rfl (lv_at hl 2 rfl) ?_
      refine x_get (ci := 10) (C := RX12) (T := TX12) (N := 93) (v := .ref aSn) B 5 rfl rfl in_X12 18 (by decide) mw_1882 (fun _ h9 => h9) (fvM_get (by decide) ((hV_8 18 (by decide)).trans ((z_6 18 (by decide)).trans h18))) dX12_block_189 ?_
      refine lv_bipush (v := 12) hx hb dX12_block_192 (by decide) ?_
      refine lv_iload_n hx hb dX12_block_194 rfl (lv_at hl 1 rfl) ?_
      refine lv_imul hx hb dX12_block_195 ?_
      refine lv_seti (y := 0) (by decide) ?_
      refine lv_iload hx hb dX12_block_196 (lv_at hl 0 rfl) ?_
      refine lv_iadd hx hb dX12_block_198 ?_
      refine lv_seti (y := 7) (by decide) ?_
      refine lv_iconst (v := 0) hx hb dX12_block_199 (by decide) ?_
      refine x_iast B 4 rfl (vpc (by decide)) dX12_block_200 (j := 7) (by decide) (fun H locs B => ?_)
      have B := bd_to (ws' := [(aSt, .inl (k 0, 16, .inl (upd gs 0 0))), (aKi, .inl (k 0, 16, .inl (upd (fun _ => 0) 0 x2))), (aSy, .inl (k 0, 112, .inl (upd (upd (upd (upd (upd (upd (upd (fun _ => 0) 0 0) 1 0) 2 0) 3 1) 4 0) 5 0) 6 (-1)))), (aWc, .inl (k 0, 16, .inl (upd (fun _ => 0) 0 0))), (aSn, .inl (k 0, 192, .inl (upd (upd (upd (upd (upd (upd (upd (upd (fun _ => 0) 0 0) 1 0) 2 0) 3 0) 4 0) 5 0) 6 0) 7 0))), (mo, .inr (10, fvM V_8))]) rfl B
      refine lv_iinc (v := 8) (lv' := [(4, .int 8), (3, .int 0), (0, .ref mo), (1, .int x1), (2, .int x2)]) hx hb dX12_block_201 hl (k := 0) rfl (by decide) (by decide) rfl (fun ls hl => ?_)
      refine lv_goto (tgt := 181) hx hb dX12_block_204 (by decide) ?_
      refine lv_iload hx hb dX12_block_181 (lv_at hl 0 rfl) ?_
      refine lv_bipush (v := 12) hx hb dX12_block_183 (by decide) ?_
      refine lv_icmp_ge (tgt := 207) hx hb dX12_block_185 (by decide) (fun c9 => absurd c9 (by decide)) (fun _ => ?_)
      refine lv_aload_n hx hb dX12_block_188 rfl (lv_at hl 2 rfl) ?_
      refine x_get (ci := 10) (C := RX12) (T := TX12) (N := 93) (v := .ref aSn) B 5 rfl rfl in_X12 18 (by decide) mw_1882 (fun _ h9 => h9) (fvM_get (by decide) ((hV_8 18 (by decide)).trans ((z_6 18 (by decide)).trans h18))) dX12_block_189 ?_
      refine lv_bipush (v := 12) hx hb dX12_block_192 (by decide) ?_
      refine lv_iload_n hx hb dX12_block_194 rfl (lv_at hl 1 rfl) ?_
      refine lv_imul hx hb dX12_block_195 ?_
      refine lv_seti (y := 0) (by decide) ?_
      refine lv_iload hx hb dX12_block_196 (lv_at hl 0 rfl) ?_
      refine lv_iadd hx hb dX12_block_198 ?_
      refine lv_seti (y := 8) (by decide) ?_
      refine lv_iconst (v := 0) hx hb dX12_block_199 (by decide) ?_
      refine x_iast B 4 rfl (vpc (by decide)) dX12_block_200 (j := 8) (by decide) (fun H locs B => ?_)
      have B := bd_to (ws' := [(aSt, .inl (k 0, 16, .inl (upd gs 0 0))), (aKi, .inl (k 0, 16, .inl (upd (fun _ => 0) 0 x2))), (aSy, .inl (k 0, 112, .inl (upd (upd (upd (upd (upd (upd (upd (fun _ => 0) 0 0) 1 0) 2 0) 3 1) 4 0) 5 0) 6 (-1)))), (aWc, .inl (k 0, 16, .inl (upd (fun _ => 0) 0 0))), (aSn, .inl (k 0, 192, .inl (upd (upd (upd (upd (upd (upd (upd (upd (upd (fun _ => 0) 0 0) 1 0) 2 0) 3 0) 4 0) 5 0) 6 0) 7 0) 8 0))), (mo, .inr (10, fvM V_8))]) rfl B
      refine lv_iinc (v := 9) (lv' := [(4, .int 9), (3, .int 0), (0, .ref mo), (1, .int x1), (2, .int x2)]) hx hb dX12_block_201 hl (k := 0) rfl (by decide) (by decide) rfl (fun ls hl => ?_)
      refine lv_goto (tgt := 181) hx hb dX12_block_204 (by decide) ?_
      refine lv_iload hx hb dX12_block_181 (lv_at hl 0 rfl) ?_
      refine lv_bipush (v := 12) hx hb dX12_block_183 (by decide) ?_
      refine lv_icmp_ge (tgt := 207) hx hb dX12_block_185 (by decide) (fun c9 => absurd c9 (by decide)) (fun _ => ?_)
      refine lv_aload_n hx hb dX12_block_188 rfl (lv_at hl 2 rfl) ?_
      refine x_get (ci := 10) (C := RX12) (T := TX12) (N := 93) (v := .ref aSn) B 5 rfl rfl in_X12 18 (by decide) mw_1882 (fun _ h9 => h9) (fvM_get (by decide) ((hV_8 18 (by decide)).trans ((z_6 18 (by decide)).trans h18))) dX12_block_189 ?_
      refine lv_bipush (v := 12) hx hb dX12_block_192 (by decide) ?_
      refine lv_iload_n hx hb dX12_block_194 rfl (lv_at hl 1 rfl) ?_
      refine lv_imul hx hb dX12_block_195 ?_
      refine lv_seti (y := 0) (by decide) ?_
      refine lv_iload hx hb dX12_block_196 (lv_at hl 0 rfl) ?_
      refine lv_iadd hx hb dX12_block_198 ?_
      refine lv_seti (y := 9) (by decide) ?_
      refine lv_iconst (v := 0) hx hb dX12_block_199 (by decide) ?_
      refine x_iast B 4 rfl (vpc (by decide)) dX12_block_200 (j := 9) (by decide) (fun H locs B => ?_)
      have B := bd_to (ws' := [(aSt, .inl (k 0, 16, .inl (upd gs 0 0))), (aKi, .inl (k 0, 16, .inl (upd (fun _ => 0) 0 x2))), (aSy, .inl (k 0, 112, .inl (upd (upd (upd (upd (upd (upd (upd (fun _ => 0) 0 0) 1 0) 2 0) 3 1) 4 0) 5 0) 6 (-1)))), (aWc, .inl (k 0, 16, .inl (upd (fun _ => 0) 0 0))), (aSn, .inl (k 0, 192, .inl (upd (upd (upd (upd (upd (upd (upd (upd (upd (upd (fun _ => 0) 0 0) 1 0) 2 0) 3 0) 4 0) 5 0) 6 0) 7 0) 8 0) 9 0))), (mo, .inr (10, fvM V_8))]) rfl B
      refine lv_iinc (v := 10) (lv' := [(4, .int 10), (3, .int 0), (0, .ref mo), (1, .int x1), (2, .int x2)]) hx hb dX12_block_201 hl (k := 0) rfl (by decide) (by decide) rfl (fun ls hl => ?_)
      refine lv_goto (tgt := 181) hx hb dX12_block_204 (by decide) ?_
      refine lv_iload hx hb dX12_block_181 (lv_at hl 0 rfl) ?_
      refine lv_bipush (v := 12) hx hb dX12_block_183 (by decide) ?_
      refine lv_icmp_ge (tgt := 207) hx hb dX12_block_185 (by decide) (fun c9 => absurd c9 (by decide)) (fun _ => ?_)
      refine lv_aload_n hx hb dX12_block_188 rfl (lv_at hl 2 rfl) ?_
      refine x_get (ci := 10) (C := RX12) (T := TX12) (N := 93) (v := .ref aSn) B 5 rfl rfl in_X12 18 (by decide) mw_1882 (fun _ h9 => h9) (fvM_get (by decide) ((hV_8 18 (by decide)).trans ((z_6 18 (by decide)).trans h18))) dX12_block_189 ?_
      refine lv_bipush (v := 12) hx hb dX12_block_192 (by decide) ?_
      refine lv_iload_n hx hb dX12_block_194 rfl (lv_at hl 1 rfl) ?_
      refine lv_imul hx hb dX12_block_195 ?_
      refine lv_seti (y := 0) (by decide) ?_
      refine lv_iload hx hb dX12_block_196 (lv_at hl 0 rfl) ?_
      refine lv_iadd hx hb dX12_block_198 ?_
      refine lv_seti (y := 10) (by decide) ?_
      refine lv_iconst (v := 0) hx hb dX12_block_199 (by decide) ?_
      refine x_iast B 4 rfl (vpc (by decide)) dX12_block_200 (j := 10) (by decide) (fun H locs B => ?_)
      have B := bd_to (ws' := [(aSt, .inl (k 0, 16, .inl (upd gs 0 0))), (aKi, .inl (k 0, 16, .inl (upd (fun _ => 0) 0 x2))), (aSy, .inl (k 0, 112, .inl (upd (upd (upd (upd (upd (upd (upd (fun _ => 0) 0 0) 1 0) 2 0) 3 1) 4 0) 5 0) 6 (-1)))), (aWc, .inl (k 0, 16, .inl (upd (fun _ => 0) 0 0))), (aSn, .inl (k 0, 192, .inl (upd (upd (upd (upd (upd (upd (upd (upd (upd (upd (upd (fun _ => 0) 0 0) 1 0) 2 0) 3 0) 4 0) 5 0) 6 0) 7 0) 8 0) 9 0) 10 0))), (mo, .inr (10, fvM V_8))]) rfl B
      refine lv_iinc (v := 11) (lv' := [(4, .int 11), (3, .int 0), (0, .ref mo), (1, .int x1), (2, .int x2)]) hx hb dX12_block_201 hl (k := 0) rfl (by decide) (by decide) rfl (fun ls hl => ?_)
      refine lv_goto (tgt := 181) hx hb dX12_block_204 (by decide) ?_
      refine lv_iload hx hb dX12_block_181 (lv_at hl 0 rfl) ?_
      refine lv_bipush (v := 12) hx hb dX12_block_183 (by decide) ?_
      refine lv_icmp_ge (tgt := 207) hx hb dX12_block_185 (by decide) (fun c9 => absurd c9 (by decide)) (fun _ => ?_)
      refine lv_aload_n hx hb dX12_block_188 rfl (lv_at hl 2 rfl) ?_
      refine x_get (ci := 10) (C := RX12) (T := TX12) (N := 93) (v := .ref aSn) B 5 rfl rfl in_X12 18 (by decide) mw_1882 (fun _ h9 => h9) (fvM_get (by decide) ((hV_8 18 (by decide)).trans ((z_6 18 (by decide)).trans h18))) dX12_block_189 ?_
      refine lv_bipush (v := 12) hx hb dX12_block_192 (by decide) ?_
      refine lv_iload_n hx hb dX12_block_194 rfl (lv_at hl 1 rfl) ?_
      refine lv_imul hx hb dX12_block_195 ?_
      refine lv_seti (y := 0) (by decide) ?_
      refine lv_iload hx hb dX12_block_196 (lv_at hl 0 rfl) ?_
      refine lv_iadd hx hb dX12_block_198 ?_
      refine lv_seti (y := 11) (by decide) ?_
      refine lv_iconst (v := 0) hx hb dX12_block_199 (by decide) ?_
      refine x_iast B 4 rfl (vpc (by decide)) dX12_block_200 (j := 11) (by decide) (fun H locs B => ?_)
      have B := bd_to (ws' := [(aSt, .inl (k 0, 16, .inl (upd gs 0 0))), (aKi, .inl (k 0, 16, .inl (upd (fun _ => 0) 0 x2))), (aSy, .inl (k 0, 112, .inl (upd (upd (upd (upd (upd (upd (upd (fun _ => 0) 0 0) 1 0) 2 0) 3 1) 4 0) 5 0) 6 (-1)))), (aWc, .inl (k 0, 16, .inl (upd (fun _ => 0) 0 0))), (aSn, .inl (k 0, 192, .inl (upd (upd (upd (upd (upd (upd (upd (upd (upd (upd (upd (upd (fun _ => 0) 0 0) 1 0) 2 0) 3 0) 4 0) 5 0) 6 0) 7 0) 8 0) 9 0) 10 0) 11 0))), (mo, .inr (10, fvM V_8))]) rfl B
      refine lv_iinc (v := 12) (lv' := [(4, .int 12), (3, .int 0), (0, .ref mo), (1, .int x1), (2, .int x2)]) hx hb dX12_block_201 hl (k := 0) rfl (by decide) (by decide) rfl (fun ls hl => ?_)
      refine lv_goto (tgt := 181) hx hb dX12_block_204 (by decide) ?_
      refine lv_iload hx hb dX12_block_181 (lv_at hl 0 rfl) ?_
      refine lv_bipush (v := 12) hx hb dX12_block_183 (by decide) ?_
      refine lv_icmp_ge (tgt := 207) hx hb dX12_block_185 (by decide) (fun _ => ?_) (fun c9 => absurd (by decide) c9)
      refine lv_aload_n hx hb dX12_block_207 rfl (lv_at hl 2 rfl) ?_
      refine lv_iconst (v := (-1)) hx hb dX12_block_208 (by decide) ?_
      refine x_put (ci := 10) (C := RX12) (T := TX12) (N := 93) (ty := .int) (v := .int (-1)) B tyX12_ok nmX12 5 rfl rfl in_X12 80 (by decide) mw_1944 (fun _ h9 => h9) rfl (by decide +kernel) rfl rfl (fvM_lt (by decide)) dX12_block_209 (fun H locs B => ?_)
      obtain ⟨V_9, hV_9, gV_9, eV_9⟩ := fvM_put V_8 80 (.int (-1)) (by decide)
      rw [eV_9] at B
      have B := bd_to (ws' := [(aSt, .inl (k 0, 16, .inl (upd gs 0 0))), (aKi, .inl (k 0, 16, .inl (upd (fun _ => 0) 0 x2))), (aSy, .inl (k 0, 112, .inl (upd (upd (upd (upd (upd (upd (upd (fun _ => 0) 0 0) 1 0) 2 0) 3 1) 4 0) 5 0) 6 (-1)))), (aWc, .inl (k 0, 16, .inl (upd (fun _ => 0) 0 0))), (aSn, .inl (k 0, 192, .inl (upd (upd (upd (upd (upd (upd (upd (upd (upd (upd (upd (upd (fun _ => 0) 0 0) 1 0) 2 0) 3 0) 4 0) 5 0) 6 0) 7 0) 8 0) 9 0) 10 0) 11 0))), (mo, .inr (10, fvM V_9))]) rfl B
      refine lv_aload_n hx hb dX12_block_212 rfl (lv_at hl 2 rfl) ?_
      refine x_get (ci := 10) (C := RX12) (T := TX12) (N := 93) (v := .int 1) B 5 rfl rfl in_X12 9 (by decide) mw_1873 (fun _ h9 => h9) (fvM_get (by decide) ((hV_9 9 (by decide)).trans gV_8)) dX12_block_213 ?_
      have B := bd_sub (ws' := [(mo, .inr (10, fvM V_9))]) [5] (by decide) rfl B
      exact x_iret B hr (Or.inl (⟨V_9, by omega, by omega, ((hV_9 0 (by decide)).trans ((hV_8 0 (by decide)).trans z_7)), rfl, rfl⟩)) (Nat.le_of_ble_eq_true rfl) (Nat.le_of_ble_eq_true rfl) dX12_block_216
    · skip
      have B := bd_to (ws' := [(mo, .inr (10, fvM V)), (aSt, .inl (k 0, 16, .inl gs)), (aKi, .inl (k 0, 16, .inl (fun _ => 0))), (aSy, .inl (k 0, 112, .inl (fun _ => 0))), (aWc, .inl (k 0, 16, .inl (fun _ => 0))), (aSn, .inl (k 0, 192, .inl (fun _ => 0)))]) rfl B
      refine lv_if_ne (tgt := 31) hx hb dX12_block_24 (by decide) (fun c9 => absurd c9 (by decide)) (fun _ => ?_)
      refine lv_iconst (v := 2) hx hb dX12_block_27 (by decide) ?_
      refine lv_goto (tgt := 45) hx hb dX12_block_28 (by decide) ?_
      refine x_callV (rest := []) (wr := [(aSt, .inl (k 0, 16, .inl gs)), (aKi, .inl (k 0, 16, .inl (fun _ => 0))), (aSy, .inl (k 0, 112, .inl (fun _ => 0))), (aWc, .inl (k 0, 16, .inl (fun _ => 0))), (aSn, .inl (k 0, 192, .inl (fun _ => 0)))]) (m_refused2 l dC dI k mo V) B mV_X12_refused mw_2155 hl [0] [1, 2, 3, 4, 5] rfl rfl ⟨by decide, by decide⟩ (by decide) (q0 := 0) rfl rfl rfl ⟨Nat.le_of_ble_eq_true rfl, Nat.le_of_ble_eq_true rfl⟩ (Nat.le_of_ble_eq_true rfl) rfl dX12_block_45 ⟨Nat.le_of_ble_eq_true rfl, Nat.le_of_ble_eq_true rfl⟩ (fun r w H locs hp B => ?_)
      obtain ⟨V1_10, z_11, z_12, rfl, rfl⟩ := hp
      have B := bd_to (ws' := [(aSt, .inl (k 0, 16, .inl gs)), (aKi, .inl (k 0, 16, .inl (fun _ => 0))), (aSy, .inl (k 0, 112, .inl (fun _ => 0))), (aWc, .inl (k 0, 16, .inl (fun _ => 0))), (aSn, .inl (k 0, 192, .inl (fun _ => 0))), (mo, .inr (10, fvM V1_10))]) rfl B
      refine lv_if_eq (tgt := 53) hx hb dX12_block_48 (by decide) (fun c9 => absurd c9 (by decide)) (fun _ => ?_)
      refine lv_iconst (v := 0) hx hb dX12_block_51 (by decide) ?_
      have B := bd_sub (ws' := [(mo, .inr (10, fvM V1_10))]) [5] (by decide) rfl B
      exact x_iret B hr (Or.inr (Or.inr (⟨V1_10, by omega, by omega, z_12, rfl, rfl⟩))) (Nat.le_of_ble_eq_true rfl) (Nat.le_of_ble_eq_true rfl) dX12_block_52
  · skip
    have B := bd_to (ws' := [(mo, .inr (10, fvM V)), (aSt, .inl (k 0, 16, .inl gs)), (aKi, .inl (k 0, 16, .inl (fun _ => 0))), (aSy, .inl (k 0, 112, .inl (fun _ => 0))), (aWc, .inl (k 0, 16, .inl (fun _ => 0))), (aSn, .inl (k 0, 192, .inl (fun _ => 0)))]) rfl B
    refine lv_if_ne (tgt := 17) hx hb dX12_block_10 (by decide) (fun c9 => absurd c9 (by decide)) (fun _ => ?_)
    refine lv_iconst (v := 1) hx hb dX12_block_13 (by decide) ?_
    refine lv_goto (tgt := 45) hx hb dX12_block_14 (by decide) ?_
    refine x_callV (rest := []) (wr := [(aSt, .inl (k 0, 16, .inl gs)), (aKi, .inl (k 0, 16, .inl (fun _ => 0))), (aSy, .inl (k 0, 112, .inl (fun _ => 0))), (aWc, .inl (k 0, 16, .inl (fun _ => 0))), (aSn, .inl (k 0, 192, .inl (fun _ => 0)))]) (m_refused1 l dC dI k mo V) B mV_X12_refused mw_2155 hl [0] [1, 2, 3, 4, 5] rfl rfl ⟨by decide, by decide⟩ (by decide) (q0 := 0) rfl rfl rfl ⟨Nat.le_of_ble_eq_true rfl, Nat.le_of_ble_eq_true rfl⟩ (Nat.le_of_ble_eq_true rfl) rfl dX12_block_45 ⟨Nat.le_of_ble_eq_true rfl, Nat.le_of_ble_eq_true rfl⟩ (fun r w H locs hp B => ?_)
    obtain ⟨V1_13, z_14, z_15, rfl, rfl⟩ := hp
    have B := bd_to (ws' := [(aSt, .inl (k 0, 16, .inl gs)), (aKi, .inl (k 0, 16, .inl (fun _ => 0))), (aSy, .inl (k 0, 112, .inl (fun _ => 0))), (aWc, .inl (k 0, 16, .inl (fun _ => 0))), (aSn, .inl (k 0, 192, .inl (fun _ => 0))), (mo, .inr (10, fvM V1_13))]) rfl B
    refine lv_if_eq (tgt := 53) hx hb dX12_block_48 (by decide) (fun c9 => absurd c9 (by decide)) (fun _ => ?_)
    refine lv_iconst (v := 0) hx hb dX12_block_51 (by decide) ?_
    have B := bd_sub (ws' := [(mo, .inr (10, fvM V1_13))]) [5] (by decide) rfl B
    exact x_iret B hr (Or.inr (Or.inl (⟨V1_13, by omega, z_15, rfl, rfl⟩))) (Nat.le_of_ble_eq_true rfl) (Nat.le_of_ble_eq_true rfl) dX12_block_52

end
