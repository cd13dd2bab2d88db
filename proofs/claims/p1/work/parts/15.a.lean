section
theorem mw_1864 : (Jvm.Cond.fieldLink "GalleyforgeModel" (223 : Nat) "GalleyforgeModel" "refusal" "I") ∈ gt := gt_at 1999 (by decide +kernel) (by decide +kernel)
theorem in_X12 : ∀ w ∈ u_ws RX12 TX12 93, w ∈ gt := in_of _ [2092, 2094, 2096, 2098, 2100, 2102, 2104, 2106, 2108, 2110, 2112, 2114, 2116, 2118, 2120, 2122, 2124, 2126, 2128, 2130, 2132, 2134, 2136, 2138, 2140, 2142, 2144, 2146, 2148, 2150, 2152, 2154, 2156, 2158, 2160, 2162, 2164, 2166, 2168, 2170, 2172, 2174, 2176, 2178, 2180, 2182, 2184, 2186, 2188, 2190, 2192, 2194, 2196, 2198, 2200, 2202, 2204, 2206, 2208, 2210, 2212, 2214, 2216, 2218, 2220, 2222, 2224, 2226, 2228, 2230, 2232, 2234, 2236, 2238, 2240, 2242, 2244, 2246, 2248, 2250, 2252, 2254, 2256, 2258, 2260, 2262, 2264, 2266, 2268, 2270, 2272, 2274, 2276] (by decide +kernel) (by decide +kernel)
theorem dX12_thrown_0 : decode cX12_thrown 0 = .ok (.aload_n 0, 1) := by decide +kernel
theorem dX12_thrown_1 : decode cX12_thrown 1 = .ok (.getfield 223, 3) := by decide +kernel
theorem dX12_thrown_4 : decode cX12_thrown 4 = .ok (.ireturn, 1) := by decide +kernel
set_option maxHeartbeats 4000000 in
set_option maxRecDepth 100000 in
theorem m_thrown (l : Launch) (dC : Nat → ClassId) (dI : Nat → Nat → Nat) (k : Nat → ClassId) (mo : Nat) (V : Nat → Value) (r0 : Int32) (h0 : V 0 = .int r0) : Ct l dC dI k yX12_thrown (.code yX12_thrown cX12_thrown 1 (some .int)) ({ frames := 0, cells := 0, slots := 0, locals := 0 } : Room) [.ref mo] [(mo, .inr (10, fvM V))] (fun r w => (r = some (.int r0) ∧ w = [(mo, .inr (10, fvM V))])) := by
  refine ct_of (by decide) (Nat.le_of_ble_eq_true rfl) ?_
  intro p e s m args below meth c H locs B hr hnm ls hl
  have hx := B.1.1
  have hb := B.1.2.1
  have hl : lv_has ls 1 [(0, .ref mo)] := hl
  refine lv_aload_n hx hb dX12_thrown_0 rfl (lv_at hl 0 rfl) ?_
  refine x_get (ci := 10) (C := RX12) (T := TX12) (N := 93) (v := .int r0) B 0 rfl rfl in_X12 0 (by decide) mw_1864 (fun _ h9 => h9) (fvM_get (by decide) h0) dX12_thrown_1 ?_
  have B := bd_sub (ws' := [(mo, .inr (10, fvM V))]) [0] (by decide) rfl B
  exact x_iret B hr (⟨rfl, rfl⟩) (Nat.le_of_ble_eq_true rfl) (Nat.le_of_ble_eq_true rfl) dX12_thrown_4

theorem dX12_refused_0 : decode cX12_refused 0 = .ok (.aload_n 0, 1) := by decide +kernel
theorem dX12_refused_1 : decode cX12_refused 1 = .ok (.iload_n 1, 1) := by decide +kernel
theorem dX12_refused_2 : decode cX12_refused 2 = .ok (.putfield 223, 3) := by decide +kernel
theorem dX12_refused_5 : decode cX12_refused 5 = .ok (.iload_n 1, 1) := by decide +kernel
theorem dX12_refused_6 : decode cX12_refused 6 = .ok (.ifCond .eq 7, 3) := by decide +kernel
theorem dX12_refused_13 : decode cX12_refused 13 = .ok (.iconst 0, 1) := by decide +kernel
theorem dX12_refused_14 : decode cX12_refused 14 = .ok (.ireturn, 1) := by decide +kernel
set_option maxHeartbeats 4000000 in
set_option maxRecDepth 100000 in
theorem m_refused0 (l : Launch) (dC : Nat → ClassId) (dI : Nat → Nat → Nat) (k : Nat → ClassId) (mo : Nat) (V : Nat → Value) : Ct l dC dI k yX12_refused (.code yX12_refused cX12_refused 2 (some .boolean)) ({ frames := 0, cells := 0, slots := 0, locals := 0 } : Room) [.ref mo, .int 0] [(mo, .inr (10, fvM V))] (fun r w => (∃ (V1 : Nat → Value), (∀ i, i ∉ ([0] : List Nat) → V1 i = V i) ∧ V1 0 = .int 0 ∧ r = some (.int 0) ∧ w = [(mo, .inr (10, fvM V1))])) := by
  refine ct_of (by decide) (Nat.le_of_ble_eq_true rfl) ?_
  intro p e s m args below meth c H locs B hr hnm ls hl
  have hx := B.1.1
  have hb := B.1.2.1
  have hl : lv_has ls 2 [(0, .ref mo), (1, .int 0)] := hl
  refine lv_aload_n hx hb dX12_refused_0 rfl (lv_at hl 0 rfl) ?_
  refine lv_iload_n hx hb dX12_refused_1 rfl (lv_at hl 1 rfl) ?_
  refine x_put (ci := 10) (C := RX12) (T := TX12) (N := 93) (ty := .int) (v := .int 0) B tyX12_ok nmX12 0 rfl rfl in_X12 0 (by decide) mw_1864 (fun _ h9 => h9) rfl (by decide +kernel) rfl rfl (fvM_lt (by decide)) dX12_refused_2 (fun H locs B => ?_)
  obtain ⟨V_1, hV_1, gV_1, eV_1⟩ := fvM_put V 0 (.int 0) (by decide)
  rw [eV_1] at B
  have B := bd_to (ws' := [(mo, .inr (10, fvM V_1))]) rfl B
  refine lv_iload_n hx hb dX12_refused_5 rfl (lv_at hl 1 rfl) ?_
  refine lv_if_eq (tgt := 13) hx hb dX12_refused_6 (by decide) (fun _ => ?_) (fun c9 => absurd (by decide) c9)
  refine lv_iconst (v := 0) hx hb dX12_refused_13 (by decide) ?_
  have B := bd_sub (ws' := [(mo, .inr (10, fvM V_1))]) [0] (by decide) rfl B
  exact x_zret B hr (by decide) (⟨V_1, (fun i9 h9 => (hV_1 i9 (fun q9 => h9 (by rw [q9]; decide)))), gV_1, rfl, rfl⟩) (Nat.le_of_ble_eq_true rfl) (Nat.le_of_ble_eq_true rfl) dX12_refused_14

theorem dX12_refused_9 : decode cX12_refused 9 = .ok (.iconst 1, 1) := by decide +kernel
theorem dX12_refused_10 : decode cX12_refused 10 = .ok (.goto 4, 3) := by decide +kernel
set_option maxHeartbeats 4000000 in
set_option maxRecDepth 100000 in
theorem m_refused1 (l : Launch) (dC : Nat → ClassId) (dI : Nat → Nat → Nat) (k : Nat → ClassId) (mo : Nat) (V : Nat → Value) : Ct l dC dI k yX12_refused (.code yX12_refused cX12_refused 2 (some .boolean)) ({ frames := 0, cells := 0, slots := 0, locals := 0 } : Room) [.ref mo, .int 1] [(mo, .inr (10, fvM V))] (fun r w => (∃ (V1 : Nat → Value), (∀ i, i ∉ ([0] : List Nat) → V1 i = V i) ∧ V1 0 = .int 1 ∧ r = some (.int 1) ∧ w = [(mo, .inr (10, fvM V1))])) := by
  refine ct_of (by decide) (Nat.le_of_ble_eq_true rfl) ?_
  intro p e s m args below meth c H locs B hr hnm ls hl
  have hx := B.1.1
  have hb := B.1.2.1
  have hl : lv_has ls 2 [(0, .ref mo), (1, .int 1)] := hl
  refine lv_aload_n hx hb dX12_refused_0 rfl (lv_at hl 0 rfl) ?_
  refine lv_iload_n hx hb dX12_refused_1 rfl (lv_at hl 1 rfl) ?_
  refine x_put (ci := 10) (C := RX12) (T := TX12) (N := 93) (ty := .int) (v := .int 1) B tyX12_ok nmX12 0 rfl rfl in_X12 0 (by decide) mw_1864 (fun _ h9 => h9) rfl (by decide +kernel) rfl rfl (fvM_lt (by decide)) dX12_refused_2 (fun H locs B => ?_)
  obtain ⟨V_1, hV_1, gV_1, eV_1⟩ := fvM_put V 0 (.int 1) (by decide)
  rw [eV_1] at B
  have B := bd_to (ws' := [(mo, .inr (10, fvM V_1))]) rfl B
  refine lv_iload_n hx hb dX12_refused_5 rfl (lv_at hl 1 rfl) ?_
  refine lv_if_eq (tgt := 13) hx hb dX12_refused_6 (by decide) (fun c9 => absurd c9 (by decide)) (fun _ => ?_)
  refine lv_iconst (v := 1) hx hb dX12_refused_9 (by decide) ?_
  refine lv_goto (tgt := 14) hx hb dX12_refused_10 (by decide) ?_
  have B := bd_sub (ws' := [(mo, .inr (10, fvM V_1))]) [0] (by decide) rfl B
  exact x_zret B hr (by decide) (⟨V_1, (fun i9 h9 => (hV_1 i9 (fun q9 => h9 (by rw [q9]; decide)))), gV_1, rfl, rfl⟩) (Nat.le_of_ble_eq_true rfl) (Nat.le_of_ble_eq_true rfl) dX12_refused_14

set_option maxHeartbeats 4000000 in
set_option maxRecDepth 100000 in
theorem m_refused2 (l : Launch) (dC : Nat → ClassId) (dI : Nat → Nat → Nat) (k : Nat → ClassId) (mo : Nat) (V : Nat → Value) : Ct l dC dI k yX12_refused (.code yX12_refused cX12_refused 2 (some .boolean)) ({ frames := 0, cells := 0, slots := 0, locals := 0 } : Room) [.ref mo, .int 2] [(mo, .inr (10, fvM V))] (fun r w => (∃ (V1 : Nat → Value), (∀ i, i ∉ ([0] : List Nat) → V1 i = V i) ∧ V1 0 = .int 2 ∧ r = some (.int 1) ∧ w = [(mo, .inr (10, fvM V1))])) := by
  refine ct_of (by decide) (Nat.le_of_ble_eq_true rfl) ?_
  intro p e s m args below meth c H locs B hr hnm ls hl
  have hx := B.1.1
  have hb := B.1.2.1
  have hl : lv_has ls 2 [(0, .ref mo), (1, .int 2)] := hl
  refine lv_aload_n hx hb dX12_refused_0 rfl (lv_at hl 0 rfl) ?_
  refine lv_iload_n hx hb dX12_refused_1 rfl (lv_at hl 1 rfl) ?_
  refine x_put (ci := 10) (C := RX12) (T := TX12) (N := 93) (ty := .int) (v := .int 2) B tyX12_ok nmX12 0 rfl rfl in_X12 0 (by decide) mw_1864 (fun _ h9 => h9) rfl (by decide +kernel) rfl rfl (fvM_lt (by decide)) dX12_refused_2 (fun H locs B => ?_)
  obtain ⟨V_1, hV_1, gV_1, eV_1⟩ := fvM_put V 0 (.int 2) (by decide)
  rw [eV_1] at B
  have B := bd_to (ws' := [(mo, .inr (10, fvM V_1))]) rfl B
  refine lv_iload_n hx hb dX12_refused_5 rfl (lv_at hl 1 rfl) ?_
  refine lv_if_eq (tgt := 13) hx hb dX12_refused_6 (by decide) (fun c9 => absurd c9 (by decide)) (fun _ => ?_)
  refine lv_iconst (v := 1) hx hb dX12_refused_9 (by decide) ?_
  refine lv_goto (tgt := 14) hx hb dX12_refused_10 (by decide) ?_
  have B := bd_sub (ws' := [(mo, .inr (10, fvM V_1))]) [0] (by decide) rfl B
  exact x_zret B hr (by decide) (⟨V_1, (fun i9 h9 => (hV_1 i9 (fun q9 => h9 (by rw [q9]; decide)))), gV_1, rfl, rfl⟩) (Nat.le_of_ble_eq_true rfl) (Nat.le_of_ble_eq_true rfl) dX12_refused_14

set_option maxHeartbeats 4000000 in
set_option maxRecDepth 100000 in
theorem m_refused3 (l : Launch) (dC : Nat → ClassId) (dI : Nat → Nat → Nat) (k : Nat → ClassId) (mo : Nat) (V : Nat → Value) : Ct l dC dI k yX12_refused (.code yX12_refused cX12_refused 2 (some .boolean)) ({ frames := 0, cells := 0, slots := 0, locals := 0 } : Room) [.ref mo, .int 3] [(mo, .inr (10, fvM V))] (fun r w => (∃ (V1 : Nat → Value), (∀ i, i ∉ ([0] : List Nat) → V1 i = V i) ∧ V1 0 = .int 3 ∧ r = some (.int 1) ∧ w = [(mo, .inr (10, fvM V1))])) := by
  refine ct_of (by decide) (Nat.le_of_ble_eq_true rfl) ?_
  intro p e s m args below meth c H locs B hr hnm ls hl
  have hx := B.1.1
  have hb := B.1.2.1
  have hl : lv_has ls 2 [(0, .ref mo), (1, .int 3)] := hl
  refine lv_aload_n hx hb dX12_refused_0 rfl (lv_at hl 0 rfl) ?_
  refine lv_iload_n hx hb dX12_refused_1 rfl (lv_at hl 1 rfl) ?_
  refine x_put (ci := 10) (C := RX12) (T := TX12) (N := 93) (ty := .int) (v := .int 3) B tyX12_ok nmX12 0 rfl rfl in_X12 0 (by decide) mw_1864 (fun _ h9 => h9) rfl (by decide +kernel) rfl rfl (fvM_lt (by decide)) dX12_refused_2 (fun H locs B => ?_)
  obtain ⟨V_1, hV_1, gV_1, eV_1⟩ := fvM_put V 0 (.int 3) (by decide)
  rw [eV_1] at B
  have B := bd_to (ws' := [(mo, .inr (10, fvM V_1))]) rfl B
  refine lv_iload_n hx hb dX12_refused_5 rfl (lv_at hl 1 rfl) ?_
  refine lv_if_eq (tgt := 13) hx hb dX12_refused_6 (by decide) (fun c9 => absurd c9 (by decide)) (fun _ => ?_)
  refine lv_iconst (v := 1) hx hb dX12_refused_9 (by decide) ?_
  refine lv_goto (tgt := 14) hx hb dX12_refused_10 (by decide) ?_
  have B := bd_sub (ws' := [(mo, .inr (10, fvM V_1))]) [0] (by decide) rfl B
  exact x_zret B hr (by decide) (⟨V_1, (fun i9 h9 => (hV_1 i9 (fun q9 => h9 (by rw [q9]; decide)))), gV_1, rfl, rfl⟩) (Nat.le_of_ble_eq_true rfl) (Nat.le_of_ble_eq_true rfl) dX12_refused_14

theorem dX12_fine_0 : decode cX12_fine 0 = .ok (.aload_n 0, 1) := by decide +kernel
theorem dX12_fine_1 : decode cX12_fine 1 = .ok (.iconst 0, 1) := by decide +kernel
theorem dX12_fine_2 : decode cX12_fine 2 = .ok (.putfield 223, 3) := by decide +kernel
theorem dX12_fine_5 : decode cX12_fine 5 = .ok (.iload_n 1, 1) := by decide +kernel
theorem dX12_fine_6 : decode cX12_fine 6 = .ok (.ireturn, 1) := by decide +kernel
set_option maxHeartbeats 4000000 in
set_option maxRecDepth 100000 in
theorem m_fine0 (l : Launch) (dC : Nat → ClassId) (dI : Nat → Nat → Nat) (k : Nat → ClassId) (mo : Nat) (V : Nat → Value) : Ct l dC dI k yX12_fine (.code yX12_fine cX12_fine 2 (some .int)) ({ frames := 0, cells := 0, slots := 0, locals := 0 } : Room) [.ref mo, .int 0] [(mo, .inr (10, fvM V))] (fun r w => (∃ (V1 : Nat → Value), (∀ i, i ∉ ([0] : List Nat) → V1 i = V i) ∧ V1 0 = .int 0 ∧ r = some (.int 0) ∧ w = [(mo, .inr (10, fvM V1))])) := by
  refine ct_of (by decide) (Nat.le_of_ble_eq_true rfl) ?_
  intro p e s m args below meth c H locs B hr hnm ls hl
  have hx := B.1.1
  have hb := B.1.2.1
  have hl : lv_has ls 2 [(0, .ref mo), (1, .int 0)] := hl
  refine lv_aload_n hx hb dX12_fine_0 rfl (lv_at hl 0 rfl) ?_
  refine lv_iconst (v := 0) hx hb dX12_fine_1 (by decide) ?_
  refine x_put (ci := 10) (C := RX12) (T := TX12) (N := 93) (ty := .int) (v := .int 0) B tyX12_ok nmX12 0 rfl rfl in_X12 0 (by decide) mw_1864 (fun _ h9 => h9) rfl (by decide +kernel) rfl rfl (fvM_lt (by decide)) dX12_fine_2 (fun H locs B => ?_)
  obtain ⟨V_1, hV_1, gV_1, eV_1⟩ := fvM_put V 0 (.int 0) (by decide)
  rw [eV_1] at B
  have B := bd_to (ws' := [(mo, .inr (10, fvM V_1))]) rfl B
  refine lv_iload_n hx hb dX12_fine_5 rfl (lv_at hl 1 rfl) ?_
  have B := bd_sub (ws' := [(mo, .inr (10, fvM V_1))]) [0] (by decide) rfl B
  exact x_iret B hr (⟨V_1, (fun i9 h9 => (hV_1 i9 (fun q9 => h9 (by rw [q9]; decide)))), gV_1, rfl, rfl⟩) (Nat.le_of_ble_eq_true rfl) (Nat.le_of_ble_eq_true rfl) dX12_fine_6

theorem dX12_in_0 : decode cX12_in 0 = .ok (.iload_n 0, 1) := by decide +kernel
theorem dX12_in_1 : decode cX12_in 1 = .ok (.iload_n 1, 1) := by decide +kernel
theorem dX12_in_2 : decode cX12_in 2 = .ok (.if_icmp .lt 12, 3) := by decide +kernel
theorem dX12_in_5 : decode cX12_in 5 = .ok (.iload_n 0, 1) := by decide +kernel
theorem dX12_in_6 : decode cX12_in 6 = .ok (.iload_n 2, 1) := by decide +kernel
theorem dX12_in_7 : decode cX12_in 7 = .ok (.if_icmp .gt 7, 3) := by decide +kernel
theorem dX12_in_10 : decode cX12_in 10 = .ok (.iconst 1, 1) := by decide +kernel
theorem dX12_in_11 : decode cX12_in 11 = .ok (.goto 4, 3) := by decide +kernel
theorem dX12_in_14 : decode cX12_in 14 = .ok (.iconst 0, 1) := by decide +kernel
theorem dX12_in_15 : decode cX12_in 15 = .ok (.ireturn, 1) := by decide +kernel
set_option maxHeartbeats 4000000 in
set_option maxRecDepth 100000 in
theorem m_in (l : Launch) (dC : Nat → ClassId) (dI : Nat → Nat → Nat) (k : Nat → ClassId) (x1 : Int32) (x2 : Int32) (x3 : Int32) : Ct l dC dI k yX12_in (.code yX12_in cX12_in 3 (some .boolean)) ({ frames := 0, cells := 0, slots := 0, locals := 0 } : Room) [.int x1, .int x2, .int x3] [] (fun r w => (r = some (.int 1) ∧ w = []) ∨ (r = some (.int 0) ∧ w = [])) := by
  refine ct_of (by decide) (Nat.le_of_ble_eq_true rfl) ?_
  intro p e s m args below meth c H locs B hr hnm ls hl
  have hx := B.1.1
  have hb := B.1.2.1
  have hl : lv_has ls 3 [(0, .int x1), (1, .int x2), (2, .int x3)] := hl
  refine lv_iload_n hx hb dX12_in_0 rfl (lv_at hl 0 rfl) ?_
  refine lv_iload_n hx hb dX12_in_1 rfl (lv_at hl 1 rfl) ?_
  refine lv_icmp_lt (tgt := 14) hx hb dX12_in_2 (by decide) (fun c_1 => ?_) (fun c_1 => ?_)
  · have zc_1 : x1.toInt < x2.toInt := zlt c_1
    refine lv_iconst (v := 0) hx hb dX12_in_14 (by decide) ?_
    have B := bd_sub (ws' := []) [] (by decide) rfl B
    exact x_zret B hr (by decide) (Or.inr (⟨rfl, rfl⟩)) (Nat.le_of_ble_eq_true rfl) (Nat.le_of_ble_eq_true rfl) dX12_in_15
  · have zc_1 : x2.toInt ≤ x1.toInt := znlt c_1
    refine lv_iload_n hx hb dX12_in_5 rfl (lv_at hl 0 rfl) ?_
    refine lv_iload_n hx hb dX12_in_6 rfl (lv_at hl 2 rfl) ?_
    refine lv_icmp_gt (tgt := 14) hx hb dX12_in_7 (by decide) (fun c_2 => ?_) (fun c_2 => ?_)
    · have zc_2 : x3.toInt < x1.toInt := zgt c_2
      refine lv_iconst (v := 0) hx hb dX12_in_14 (by decide) ?_
      have B := bd_sub (ws' := []) [] (by decide) rfl B
      exact x_zret B hr (by decide) (Or.inr (⟨rfl, rfl⟩)) (Nat.le_of_ble_eq_true rfl) (Nat.le_of_ble_eq_true rfl) dX12_in_15
    · have zc_2 : x1.toInt ≤ x3.toInt := zngt c_2
      refine lv_iconst (v := 1) hx hb dX12_in_10 (by decide) ?_
      refine lv_goto (tgt := 15) hx hb dX12_in_11 (by decide) ?_
      have B := bd_sub (ws' := []) [] (by decide) rfl B
      exact x_zret B hr (by decide) (Or.inl (⟨rfl, rfl⟩)) (Nat.le_of_ble_eq_true rfl) (Nat.le_of_ble_eq_true rfl) dX12_in_15

theorem mw_1873 : (Jvm.Cond.fieldLink "GalleyforgeModel" (226 : Nat) "GalleyforgeModel" "blocks" "I") ∈ gt := gt_at 2008 (by decide +kernel) (by decide +kernel)
set_option maxHeartbeats 4000000 in
set_option maxRecDepth 100000 in
theorem m_in_0_n1 (l : Launch) (dC : Nat → ClassId) (dI : Nat → Nat → Nat) (k : Nat → ClassId) (x1 : Int32) : Ct l dC dI k yX12_in (.code yX12_in cX12_in 3 (some .boolean)) ({ frames := 0, cells := 0, slots := 0, locals := 0 } : Room) [.int x1, .int 0, .int (-1)] [] (fun r w => ((0 ≤ x1.toInt ∧ x1.toInt ≤ (-1)) ∧ r = some (.int 1) ∧ w = []) ∨ (¬ (0 ≤ x1.toInt ∧ x1.toInt ≤ (-1)) ∧ r = some (.int 0) ∧ w = [])) := by
  refine ct_of (by decide) (Nat.le_of_ble_eq_true rfl) ?_
  intro p e s m args below meth c H locs B hr hnm ls hl
  have hx := B.1.1
  have hb := B.1.2.1
  have hl : lv_has ls 3 [(0, .int x1), (1, .int 0), (2, .int (-1))] := hl
  refine lv_iload_n hx hb dX12_in_0 rfl (lv_at hl 0 rfl) ?_
  refine lv_iload_n hx hb dX12_in_1 rfl (lv_at hl 1 rfl) ?_
  refine lv_icmp_lt (tgt := 14) hx hb dX12_in_2 (by decide) (fun c_1 => ?_) (fun c_1 => ?_)
  · have zc_1 : x1.toInt < 0 := zlt c_1
    refine lv_iconst (v := 0) hx hb dX12_in_14 (by decide) ?_
    have B := bd_sub (ws' := []) [] (by decide) rfl B
    exact x_zret B hr (by decide) (Or.inr (⟨by omega, rfl, rfl⟩)) (Nat.le_of_ble_eq_true rfl) (Nat.le_of_ble_eq_true rfl) dX12_in_15
  · have zc_1 : 0 ≤ x1.toInt := znlt c_1
    refine lv_iload_n hx hb dX12_in_5 rfl (lv_at hl 0 rfl) ?_
    refine lv_iload_n hx hb dX12_in_6 rfl (lv_at hl 2 rfl) ?_
    refine lv_icmp_gt (tgt := 14) hx hb dX12_in_7 (by decide) (fun c_2 => ?_) (fun c9 => by have z9 : x1.toInt ≤ (-1) := zngt c9; omega)
    refine lv_iconst (v := 0) hx hb dX12_in_14 (by decide) ?_
    have B := bd_sub (ws' := []) [] (by decide) rfl B
    exact x_zret B hr (by decide) (Or.inr (⟨by omega, rfl, rfl⟩)) (Nat.le_of_ble_eq_true rfl) (Nat.le_of_ble_eq_true rfl) dX12_in_15

theorem mw_13 : (Jvm.Cond.initialized "GalleyforgeModel") ∈ gt := gt_at 148 (by decide +kernel) (by decide +kernel)
theorem mw_2152 : (Jvm.Cond.methodLink "GalleyforgeModel" (229 : Nat) ({ cls := "GalleyforgeModel", name := "in", desc := "(III)Z" } : Jvm.MethodName)) ∈ gt := gt_at 2287 (by decide +kernel) (by decide +kernel)
theorem mw_2153 : (Jvm.Cond.static ({ cls := "GalleyforgeModel", name := "in", desc := "(III)Z" } : Jvm.MethodName)) ∈ gt := gt_at 2288 (by decide +kernel) (by decide +kernel)
theorem mw_2154 : (Jvm.Cond.code ({ cls := "GalleyforgeModel", name := "in", desc := "(III)Z" } : Jvm.MethodName) prog_14_method_5_code (3 : Nat) (Option.some Jvm.ClassFile.FieldType.boolean)) ∈ gt := gt_at 2289 (by decide +kernel) (by decide +kernel)
theorem mS_X12_in : mS yX12_in cX12_in 3 (some .boolean) 3 := ⟨⟨mw_2154, mw_13, by decide, by decide, by decide +kernel⟩, mw_2153⟩
theorem dX12_isBlock_0 : decode cX12_isBlock 0 = .ok (.iload_n 1, 1) := by decide +kernel
theorem dX12_isBlock_1 : decode cX12_isBlock 1 = .ok (.iconst 0, 1) := by decide +kernel
theorem dX12_isBlock_2 : decode cX12_isBlock 2 = .ok (.aload_n 0, 1) := by decide +kernel
theorem dX12_isBlock_3 : decode cX12_isBlock 3 = .ok (.getfield 226, 3) := by decide +kernel
theorem dX12_isBlock_6 : decode cX12_isBlock 6 = .ok (.iconst 1, 1) := by decide +kernel
theorem dX12_isBlock_7 : decode cX12_isBlock 7 = .ok (.isub, 1) := by decide +kernel
theorem dX12_isBlock_8 : decode cX12_isBlock 8 = .ok (.invokestatic 229, 3) := by decide +kernel
theorem dX12_isBlock_11 : decode cX12_isBlock 11 = .ok (.ireturn, 1) := by decide +kernel
set_option maxHeartbeats 4000000 in
set_option maxRecDepth 100000 in
theorem m_isBlock (l : Launch) (dC : Nat → ClassId) (dI : Nat → Nat → Nat) (k : Nat → ClassId) (mo : Nat) (V : Nat → Value) (x1 : Int32) (h9 : V 9 = .int 0) : Ct l dC dI k yX12_isBlock (.code yX12_isBlock cX12_isBlock 2 (some .boolean)) ({ frames := 1, cells := 0, slots := 0, locals := 22 } : Room) [.ref mo, .int x1] [(mo, .inr (10, fvM V))] (fun r w => (r = some (.int 0) ∧ w = [(mo, .inr (10, fvM V))])) := by
  refine ct_of (by decide) (Nat.le_of_ble_eq_true rfl) ?_
  intro p e s m args below meth c H locs B hr hnm ls hl
  have hx := B.1.1
  have hb := B.1.2.1
  have hl : lv_has ls 2 [(0, .ref mo), (1, .int x1)] := hl
  refine lv_iload_n hx hb dX12_isBlock_0 rfl (lv_at hl 1 rfl) ?_
  refine lv_iconst (v := 0) hx hb dX12_isBlock_1 (by decide) ?_
  refine lv_aload_n hx hb dX12_isBlock_2 rfl (lv_at hl 0 rfl) ?_
  refine x_get (ci := 10) (C := RX12) (T := TX12) (N := 93) (v := .int 0) B 0 rfl rfl in_X12 9 (by decide) mw_1873 (fun _ h9 => h9) (fvM_get (by decide) h9) dX12_isBlock_3 ?_
  refine lv_iconst (v := 1) hx hb dX12_isBlock_6 (by decide) ?_
  refine lv_isub hx hb dX12_isBlock_7 ?_
  refine lv_seti (y := (-1)) (by decide) ?_
  refine x_callS (rest := []) (wr := [(mo, .inr (10, fvM V))]) (m_in_0_n1 l dC dI k x1) B mS_X12_in mw_2152 hl [] [0] rfl rfl ⟨by decide, by decide⟩ (by decide) ⟨Nat.le_of_ble_eq_true rfl, Nat.le_of_ble_eq_true rfl⟩ (Nat.le_of_ble_eq_true rfl) rfl dX12_isBlock_8 ⟨Nat.le_of_ble_eq_true rfl, Nat.le_of_ble_eq_true rfl⟩ (fun r w H locs hp B => ?_)
  rcases hp with ⟨z_1, rfl, rfl⟩ | ⟨z_2, rfl, rfl⟩
  · skip
    exfalso; first | omega | exact absurd z_1 (by decide)
  · skip
    have B := bd_to (ws' := [(mo, .inr (10, fvM V))]) rfl B
    have B := bd_sub (ws' := [(mo, .inr (10, fvM V))]) [0] (by decide) rfl B
    exact x_zret B hr (by decide) (⟨rfl, rfl⟩) (Nat.le_of_ble_eq_true rfl) (Nat.le_of_ble_eq_true rfl) dX12_isBlock_11

theorem mw_2183 : (Jvm.Cond.methodLink "GalleyforgeModel" (233 : Nat) ({ cls := "GalleyforgeModel", name := "isBlock", desc := "(I)Z" } : Jvm.MethodName)) ∈ gt := gt_at 2318 (by decide +kernel) (by decide +kernel)
theorem mw_2185 : (Jvm.Cond.instanceMethod ({ cls := "GalleyforgeModel", name := "isBlock", desc := "(I)Z" } : Jvm.MethodName)) ∈ gt := gt_at 2320 (by decide +kernel) (by decide +kernel)
theorem mw_2186 : (Jvm.Cond.code ({ cls := "GalleyforgeModel", name := "isBlock", desc := "(I)Z" } : Jvm.MethodName) prog_14_method_6_code (2 : Nat) (Option.some Jvm.ClassFile.FieldType.boolean)) ∈ gt := gt_at 2321 (by decide +kernel) (by decide +kernel)
theorem ms_73 : Cond.selects "GalleyforgeModel" (⟨"GalleyforgeModel", "isBlock", "(I)Z"⟩ : MethodName) (⟨"GalleyforgeModel", "isBlock", "(I)Z"⟩ : MethodName) ∈ gt := gt_at 73 (by decide +kernel) (by decide +kernel)
theorem mV_X12_isBlock : mV yX12_isBlock cX12_isBlock 2 (some .boolean) 1 := ⟨⟨mw_2186, mw_13, by decide, by decide, by decide +kernel⟩, mw_2185, ms_73⟩
theorem dX12_isSpot_0 : decode cX12_isSpot 0 = .ok (.aload_n 0, 1) := by decide +kernel
theorem dX12_isSpot_1 : decode cX12_isSpot 1 = .ok (.iload_n 1, 1) := by decide +kernel
theorem dX12_isSpot_2 : decode cX12_isSpot 2 = .ok (.invokevirtual 233, 3) := by decide +kernel
theorem dX12_isSpot_5 : decode cX12_isSpot 5 = .ok (.ifCond .eq 26, 3) := by decide +kernel
theorem dX12_isSpot_31 : decode cX12_isSpot 31 = .ok (.iconst 0, 1) := by decide +kernel
theorem dX12_isSpot_32 : decode cX12_isSpot 32 = .ok (.ireturn, 1) := by decide +kernel
set_option maxHeartbeats 4000000 in
set_option maxRecDepth 100000 in
theorem m_isSpot (l : Launch) (dC : Nat → ClassId) (dI : Nat → Nat → Nat) (k : Nat → ClassId) (mo : Nat) (V : Nat → Value) (x1 : Int32) (x2 : Int32) (h9 : V 9 = .int 0) : Ct l dC dI k yX12_isSpot (.code yX12_isSpot cX12_isSpot 3 (some .boolean)) ({ frames := 2, cells := 0, slots := 0, locals := 43 } : Room) [.ref mo, .int x1, .int x2] [(mo, .inr (10, fvM V))] (fun r w => (r = some (.int 0) ∧ w = [(mo, .inr (10, fvM V))])) := by
  refine ct_of (by decide) (Nat.le_of_ble_eq_true rfl) ?_
  intro p e s m args below meth c H locs B hr hnm ls hl
  have hx := B.1.1
  have hb := B.1.2.1
  have hl : lv_has ls 3 [(0, .ref mo), (1, .int x1), (2, .int x2)] := hl
  refine lv_aload_n hx hb dX12_isSpot_0 rfl (lv_at hl 0 rfl) ?_
  refine lv_iload_n hx hb dX12_isSpot_1 rfl (lv_at hl 1 rfl) ?_
  refine x_callV (rest := []) (wr := []) (m_isBlock l dC dI k mo V x1 h9) B mV_X12_isBlock mw_2183 hl [0] [] rfl rfl ⟨by decide, by decide⟩ (by decide) (q0 := 0) rfl rfl rfl ⟨Nat.le_of_ble_eq_true rfl, Nat.le_of_ble_eq_true rfl⟩ (Nat.le_of_ble_eq_true rfl) rfl dX12_isSpot_2 ⟨Nat.le_of_ble_eq_true rfl, Nat.le_of_ble_eq_true rfl⟩ (fun r w H locs hp B => ?_)
  obtain ⟨rfl, rfl⟩ := hp
  have B := bd_to (ws' := [(mo, .inr (10, fvM V))]) rfl B
  refine lv_if_eq (tgt := 31) hx hb dX12_isSpot_5 (by decide) (fun _ => ?_) (fun c9 => absurd (by decide) c9)
  refine lv_iconst (v := 0) hx hb dX12_isSpot_31 (by decide) ?_
  have B := bd_sub (ws' := [(mo, .inr (10, fvM V))]) [0] (by decide) rfl B
  exact x_zret B hr (by decide) (⟨rfl, rfl⟩) (Nat.le_of_ble_eq_true rfl) (Nat.le_of_ble_eq_true rfl) dX12_isSpot_32

theorem dX12_isWord_0 : decode cX12_isWord 0 = .ok (.aload_n 0, 1) := by decide +kernel
theorem dX12_isWord_1 : decode cX12_isWord 1 = .ok (.iload_n 1, 1) := by decide +kernel
theorem dX12_isWord_2 : decode cX12_isWord 2 = .ok (.invokevirtual 233, 3) := by decide +kernel
theorem dX12_isWord_5 : decode cX12_isWord 5 = .ok (.ifCond .eq 28, 3) := by decide +kernel
theorem dX12_isWord_33 : decode cX12_isWord 33 = .ok (.iconst 0, 1) := by decide +kernel
theorem dX12_isWord_34 : decode cX12_isWord 34 = .ok (.ireturn, 1) := by decide +kernel
set_option maxHeartbeats 4000000 in
set_option maxRecDepth 100000 in
theorem m_isWord (l : Launch) (dC : Nat → ClassId) (dI : Nat → Nat → Nat) (k : Nat → ClassId) (mo : Nat) (V : Nat → Value) (x1 : Int32) (x2 : Int32) (h9 : V 9 = .int 0) : Ct l dC dI k yX12_isWord (.code yX12_isWord cX12_isWord 3 (some .boolean)) ({ frames := 2, cells := 0, slots := 0, locals := 43 } : Room) [.ref mo, .int x1, .int x2] [(mo, .inr (10, fvM V))] (fun r w => (r = some (.int 0) ∧ w = [(mo, .inr (10, fvM V))])) := by
  refine ct_of (by decide) (Nat.le_of_ble_eq_true rfl) ?_
  intro p e s m args below meth c H locs B hr hnm ls hl
  have hx := B.1.1
  have hb := B.1.2.1
  have hl : lv_has ls 3 [(0, .ref mo), (1, .int x1), (2, .int x2)] := hl
  refine lv_aload_n hx hb dX12_isWord_0 rfl (lv_at hl 0 rfl) ?_
  refine lv_iload_n hx hb dX12_isWord_1 rfl (lv_at hl 1 rfl) ?_
  refine x_callV (rest := []) (wr := []) (m_isBlock l dC dI k mo V x1 h9) B mV_X12_isBlock mw_2183 hl [0] [] rfl rfl ⟨by decide, by decide⟩ (by decide) (q0 := 0) rfl rfl rfl ⟨Nat.le_of_ble_eq_true rfl, Nat.le_of_ble_eq_true rfl⟩ (Nat.le_of_ble_eq_true rfl) rfl dX12_isWord_2 ⟨Nat.le_of_ble_eq_true rfl, Nat.le_of_ble_eq_true rfl⟩ (fun r w H locs hp B => ?_)
  obtain ⟨rfl, rfl⟩ := hp
  have B := bd_to (ws' := [(mo, .inr (10, fvM V))]) rfl B
  refine lv_if_eq (tgt := 33) hx hb dX12_isWord_5 (by decide) (fun _ => ?_) (fun c9 => absurd (by decide) c9)
  refine lv_iconst (v := 0) hx hb dX12_isWord_33 (by decide) ?_
  have B := bd_sub (ws' := [(mo, .inr (10, fvM V))]) [0] (by decide) rfl B
  exact x_zret B hr (by decide) (⟨rfl, rfl⟩) (Nat.le_of_ble_eq_true rfl) (Nat.le_of_ble_eq_true rfl) dX12_isWord_34

theorem dX12_isTable_0 : decode cX12_isTable 0 = .ok (.aload_n 0, 1) := by decide +kernel
theorem dX12_isTable_1 : decode cX12_isTable 1 = .ok (.iload_n 1, 1) := by decide +kernel
theorem dX12_isTable_2 : decode cX12_isTable 2 = .ok (.invokevirtual 233, 3) := by decide +kernel
theorem dX12_isTable_5 : decode cX12_isTable 5 = .ok (.ifCond .eq 22, 3) := by decide +kernel
theorem dX12_isTable_27 : decode cX12_isTable 27 = .ok (.iconst 0, 1) := by decide +kernel
theorem dX12_isTable_28 : decode cX12_isTable 28 = .ok (.ireturn, 1) := by decide +kernel
set_option maxHeartbeats 4000000 in
set_option maxRecDepth 100000 in
theorem m_isTable (l : Launch) (dC : Nat → ClassId) (dI : Nat → Nat → Nat) (k : Nat → ClassId) (mo : Nat) (V : Nat → Value) (x1 : Int32) (h9 : V 9 = .int 0) : Ct l dC dI k yX12_isTable (.code yX12_isTable cX12_isTable 2 (some .boolean)) ({ frames := 2, cells := 0, slots := 0, locals := 43 } : Room) [.ref mo, .int x1] [(mo, .inr (10, fvM V))] (fun r w => (r = some (.int 0) ∧ w = [(mo, .inr (10, fvM V))])) := by
  refine ct_of (by decide) (Nat.le_of_ble_eq_true rfl) ?_
  intro p e s m args below meth c H locs B hr hnm ls hl
  have hx := B.1.1
  have hb := B.1.2.1
  have hl : lv_has ls 2 [(0, .ref mo), (1, .int x1)] := hl
  refine lv_aload_n hx hb dX12_isTable_0 rfl (lv_at hl 0 rfl) ?_
  refine lv_iload_n hx hb dX12_isTable_1 rfl (lv_at hl 1 rfl) ?_
  refine x_callV (rest := []) (wr := []) (m_isBlock l dC dI k mo V x1 h9) B mV_X12_isBlock mw_2183 hl [0] [] rfl rfl ⟨by decide, by decide⟩ (by decide) (q0 := 0) rfl rfl rfl ⟨Nat.le_of_ble_eq_true rfl, Nat.le_of_ble_eq_true rfl⟩ (Nat.le_of_ble_eq_true rfl) rfl dX12_isTable_2 ⟨Nat.le_of_ble_eq_true rfl, Nat.le_of_ble_eq_true rfl⟩ (fun r w H locs hp B => ?_)
  obtain ⟨rfl, rfl⟩ := hp
  have B := bd_to (ws' := [(mo, .inr (10, fvM V))]) rfl B
  refine lv_if_eq (tgt := 27) hx hb dX12_isTable_5 (by decide) (fun _ => ?_) (fun c9 => absurd (by decide) c9)
  refine lv_iconst (v := 0) hx hb dX12_isTable_27 (by decide) ?_
  have B := bd_sub (ws' := [(mo, .inr (10, fvM V))]) [0] (by decide) rfl B
  exact x_zret B hr (by decide) (⟨rfl, rfl⟩) (Nat.le_of_ble_eq_true rfl) (Nat.le_of_ble_eq_true rfl) dX12_isTable_28

end
