section
theorem dX12_figureAt_0 : decode cX12_figureAt 0 = .ok (.iload_n 1, 1) := by decide +kernel
theorem dX12_figureAt_1 : decode cX12_figureAt 1 = .ok (.invokestatic 292, 3) := by decide +kernel
theorem dX12_figureAt_4 : decode cX12_figureAt 4 = .ok (.ifCond .eq 21, 3) := by decide +kernel
theorem dX12_figureAt_7 : decode cX12_figureAt 7 = .ok (.iload_n 2, 1) := by decide +kernel
theorem dX12_figureAt_8 : decode cX12_figureAt 8 = .ok (.iconst 0, 1) := by decide +kernel
theorem dX12_figureAt_9 : decode cX12_figureAt 9 = .ok (.aload_n 0, 1) := by decide +kernel
theorem dX12_figureAt_10 : decode cX12_figureAt 10 = .ok (.getfield 247, 3) := by decide +kernel
theorem dX12_figureAt_13 : decode cX12_figureAt 13 = .ok (.iconst 1, 1) := by decide +kernel
theorem dX12_figureAt_14 : decode cX12_figureAt 14 = .ok (.isub, 1) := by decide +kernel
theorem dX12_figureAt_15 : decode cX12_figureAt 15 = .ok (.invokestatic 229, 3) := by decide +kernel
theorem dX12_figureAt_18 : decode cX12_figureAt 18 = .ok (.ifCond .eq 7, 3) := by decide +kernel
theorem dX12_figureAt_25 : decode cX12_figureAt 25 = .ok (.iconst 0, 1) := by decide +kernel
theorem dX12_figureAt_26 : decode cX12_figureAt 26 = .ok (.istore_n 3, 1) := by decide +kernel
theorem dX12_figureAt_27 : decode cX12_figureAt 27 = .ok (.aload_n 0, 1) := by decide +kernel
theorem dX12_figureAt_28 : decode cX12_figureAt 28 = .ok (.iload_n 3, 1) := by decide +kernel
theorem dX12_figureAt_29 : decode cX12_figureAt 29 = .ok (.ifCond .eq 7, 3) := by decide +kernel
theorem dX12_figureAt_36 : decode cX12_figureAt 36 = .ok (.iconst 1, 1) := by decide +kernel
theorem dX12_figureAt_37 : decode cX12_figureAt 37 = .ok (.invokevirtual 240, 3) := by decide +kernel
theorem dX12_figureAt_40 : decode cX12_figureAt 40 = .ok (.ifCond .eq 5, 3) := by decide +kernel
theorem dX12_figureAt_43 : decode cX12_figureAt 43 = .ok (.iconst 0, 1) := by decide +kernel
theorem dX12_figureAt_44 : decode cX12_figureAt 44 = .ok (.ireturn, 1) := by decide +kernel
set_option maxHeartbeats 4000000 in
set_option maxRecDepth 100000 in
theorem m_figureAt (l : Launch) (dC : Nat → ClassId) (dI : Nat → Nat → Nat) (k : Nat → ClassId) (mo : Nat) (V : Nat → Value) (v : Int32) (x1 : Int32) (h21 : V 21 = .int 0) : Ct l dC dI k yX12_figureAt (.code yX12_figureAt cX12_figureAt 4 (some .int)) ({ frames := 2, cells := 0, slots := 0, locals := 42 } : Room) [.ref mo, .int v, .int x1] [(mo, .inr (10, fvM V))] (fun r w => (∃ (V1 : Nat → Value), V1 0 = .int 1 ∧ r = some (.int 0) ∧ w = [(mo, .inr (10, fvM V1))])) := by
  refine ct_of (by decide) (Nat.le_of_ble_eq_true rfl) ?_
  intro p e s m args below meth c H locs B hr hnm ls hl
  have hx := B.1.1
  have hb := B.1.2.1
  have hl : lv_has ls 4 [(0, .ref mo), (1, .int v), (2, .int x1)] := hl
  refine lv_iload_n hx hb dX12_figureAt_0 rfl (lv_at hl 1 rfl) ?_
  refine x_callS (rest := []) (wr := [(mo, .inr (10, fvM V))]) (m_isVariant l dC dI k v) B mS_X12_isVariant mw_2271 hl [] [0] rfl rfl ⟨by decide, by decide⟩ (by decide) ⟨Nat.le_of_ble_eq_true rfl, Nat.le_of_ble_eq_true rfl⟩ (Nat.le_of_ble_eq_true rfl) rfl dX12_figureAt_1 ⟨Nat.le_of_ble_eq_true rfl, Nat.le_of_ble_eq_true rfl⟩ (fun r w H locs hp B => ?_)
  rcases hp with ⟨z_1, rfl, rfl⟩ | ⟨z_2, rfl, rfl⟩
  · skip
    have B := bd_to (ws' := [(mo, .inr (10, fvM V))]) rfl B
    refine lv_if_eq (tgt := 25) hx hb dX12_figureAt_4 (by decide) (fun c9 => absurd c9 (by decide)) (fun _ => ?_)
    refine lv_iload_n hx hb dX12_figureAt_7 rfl (lv_at hl 2 rfl) ?_
    refine lv_iconst (v := 0) hx hb dX12_figureAt_8 (by decide) ?_
    refine lv_aload_n hx hb dX12_figureAt_9 rfl (lv_at hl 0 rfl) ?_
    refine x_get (ci := 10) (C := RX12) (T := TX12) (N := 93) (v := .int 0) B 0 rfl rfl in_X12 21 (by decide) mw_1885 (fun _ h9 => h9) (fvM_get (by decide) h21) dX12_figureAt_10 ?_
    refine lv_iconst (v := 1) hx hb dX12_figureAt_13 (by decide) ?_
    refine lv_isub hx hb dX12_figureAt_14 ?_
    refine lv_seti (y := (-1)) (by decide) ?_
    refine x_callS (rest := []) (wr := [(mo, .inr (10, fvM V))]) (m_in_0_n1 l dC dI k x1) B mS_X12_in mw_2152 hl [] [0] rfl rfl ⟨by decide, by decide⟩ (by decide) ⟨Nat.le_of_ble_eq_true rfl, Nat.le_of_ble_eq_true rfl⟩ (Nat.le_of_ble_eq_true rfl) rfl dX12_figureAt_15 ⟨Nat.le_of_ble_eq_true rfl, Nat.le_of_ble_eq_true rfl⟩ (fun r w H locs hp B => ?_)
    rcases hp with ⟨z_3, rfl, rfl⟩ | ⟨z_4, rfl, rfl⟩
    · skip
      exfalso; first | omega | exact absurd z_3 (by decide)
    · skip
      have B := bd_to (ws' := [(mo, .inr (10, fvM V))]) rfl B
      refine lv_if_eq (tgt := 25) hx hb dX12_figureAt_18 (by decide) (fun _ => ?_) (fun c9 => absurd (by decide) c9)
      refine lv_iconst (v := 0) hx hb dX12_figureAt_25 (by decide) ?_
      refine lv_istore_n (lv' := [(3, .int 0), (0, .ref mo), (1, .int v), (2, .int x1)]) hx hb dX12_figureAt_26 rfl hl (by decide) rfl (fun ls hl => ?_)
      refine lv_aload_n hx hb dX12_figureAt_27 rfl (lv_at hl 1 rfl) ?_
      refine lv_iload_n hx hb dX12_figureAt_28 rfl (lv_at hl 0 rfl) ?_
      refine lv_if_eq (tgt := 36) hx hb dX12_figureAt_29 (by decide) (fun _ => ?_) (fun c9 => absurd (by decide) c9)
      refine lv_iconst (v := 1) hx hb dX12_figureAt_36 (by decide) ?_
      refine x_callV (rest := []) (wr := []) (m_refused1 l dC dI k mo V) B mV_X12_refused mw_2155 hl [0] [] rfl rfl ⟨by decide, by decide⟩ (by decide) (q0 := 0) rfl rfl rfl ⟨Nat.le_of_ble_eq_true rfl, Nat.le_of_ble_eq_true rfl⟩ (Nat.le_of_ble_eq_true rfl) rfl dX12_figureAt_37 ⟨Nat.le_of_ble_eq_true rfl, Nat.le_of_ble_eq_true rfl⟩ (fun r w H locs hp B => ?_)
      obtain ⟨V1_5, z_6, z_7, rfl, rfl⟩ := hp
      have B := bd_to (ws' := [(mo, .inr (10, fvM V1_5))]) rfl B
      refine lv_if_eq (tgt := 45) hx hb dX12_figureAt_40 (by decide) (fun c9 => absurd c9 (by decide)) (fun _ => ?_)
      refine lv_iconst (v := 0) hx hb dX12_figureAt_43 (by decide) ?_
      have B := bd_sub (ws' := [(mo, .inr (10, fvM V1_5))]) [0] (by decide) rfl B
      exact x_iret B hr (⟨V1_5, z_7, rfl, rfl⟩) (Nat.le_of_ble_eq_true rfl) (Nat.le_of_ble_eq_true rfl) dX12_figureAt_44
  · skip
    have B := bd_to (ws' := [(mo, .inr (10, fvM V))]) rfl B
    refine lv_if_eq (tgt := 25) hx hb dX12_figureAt_4 (by decide) (fun _ => ?_) (fun c9 => absurd (by decide) c9)
    refine lv_iconst (v := 0) hx hb dX12_figureAt_25 (by decide) ?_
    refine lv_istore_n (lv' := [(3, .int 0), (0, .ref mo), (1, .int v), (2, .int x1)]) hx hb dX12_figureAt_26 rfl hl (by decide) rfl (fun ls hl => ?_)
    refine lv_aload_n hx hb dX12_figureAt_27 rfl (lv_at hl 1 rfl) ?_
    refine lv_iload_n hx hb dX12_figureAt_28 rfl (lv_at hl 0 rfl) ?_
    refine lv_if_eq (tgt := 36) hx hb dX12_figureAt_29 (by decide) (fun _ => ?_) (fun c9 => absurd (by decide) c9)
    refine lv_iconst (v := 1) hx hb dX12_figureAt_36 (by decide) ?_
    refine x_callV (rest := []) (wr := []) (m_refused1 l dC dI k mo V) B mV_X12_refused mw_2155 hl [0] [] rfl rfl ⟨by decide, by decide⟩ (by decide) (q0 := 0) rfl rfl rfl ⟨Nat.le_of_ble_eq_true rfl, Nat.le_of_ble_eq_true rfl⟩ (Nat.le_of_ble_eq_true rfl) rfl dX12_figureAt_37 ⟨Nat.le_of_ble_eq_true rfl, Nat.le_of_ble_eq_true rfl⟩ (fun r w H locs hp B => ?_)
    obtain ⟨V1_8, z_9, z_10, rfl, rfl⟩ := hp
    have B := bd_to (ws' := [(mo, .inr (10, fvM V1_8))]) rfl B
    refine lv_if_eq (tgt := 45) hx hb dX12_figureAt_40 (by decide) (fun c9 => absurd c9 (by decide)) (fun _ => ?_)
    refine lv_iconst (v := 0) hx hb dX12_figureAt_43 (by decide) ?_
    have B := bd_sub (ws' := [(mo, .inr (10, fvM V1_8))]) [0] (by decide) rfl B
    exact x_iret B hr (⟨V1_8, z_10, rfl, rfl⟩) (Nat.le_of_ble_eq_true rfl) (Nat.le_of_ble_eq_true rfl) dX12_figureAt_44

theorem dX12_labelPage_0 : decode cX12_labelPage 0 = .ok (.iload_n 1, 1) := by decide +kernel
theorem dX12_labelPage_1 : decode cX12_labelPage 1 = .ok (.invokestatic 292, 3) := by decide +kernel
theorem dX12_labelPage_4 : decode cX12_labelPage 4 = .ok (.ifCond .eq 16, 3) := by decide +kernel
theorem dX12_labelPage_7 : decode cX12_labelPage 7 = .ok (.iload_n 2, 1) := by decide +kernel
theorem dX12_labelPage_8 : decode cX12_labelPage 8 = .ok (.iconst 0, 1) := by decide +kernel
theorem dX12_labelPage_9 : decode cX12_labelPage 9 = .ok (.iconst 5, 1) := by decide +kernel
theorem dX12_labelPage_10 : decode cX12_labelPage 10 = .ok (.invokestatic 229, 3) := by decide +kernel
theorem dX12_labelPage_13 : decode cX12_labelPage 13 = .ok (.ifCond .eq 7, 3) := by decide +kernel
theorem dX12_labelPage_16 : decode cX12_labelPage 16 = .ok (.iconst 1, 1) := by decide +kernel
theorem dX12_labelPage_17 : decode cX12_labelPage 17 = .ok (.goto 4, 3) := by decide +kernel
theorem dX12_labelPage_20 : decode cX12_labelPage 20 = .ok (.iconst 0, 1) := by decide +kernel
theorem dX12_labelPage_21 : decode cX12_labelPage 21 = .ok (.istore_n 3, 1) := by decide +kernel
theorem dX12_labelPage_22 : decode cX12_labelPage 22 = .ok (.aload_n 0, 1) := by decide +kernel
theorem dX12_labelPage_23 : decode cX12_labelPage 23 = .ok (.iload_n 3, 1) := by decide +kernel
theorem dX12_labelPage_24 : decode cX12_labelPage 24 = .ok (.ifCond .eq 7, 3) := by decide +kernel
theorem dX12_labelPage_27 : decode cX12_labelPage 27 = .ok (.iconst 0, 1) := by decide +kernel
theorem dX12_labelPage_28 : decode cX12_labelPage 28 = .ok (.goto 4, 3) := by decide +kernel
theorem dX12_labelPage_31 : decode cX12_labelPage 31 = .ok (.iconst 1, 1) := by decide +kernel
theorem dX12_labelPage_32 : decode cX12_labelPage 32 = .ok (.invokevirtual 240, 3) := by decide +kernel
theorem dX12_labelPage_35 : decode cX12_labelPage 35 = .ok (.ifCond .eq 5, 3) := by decide +kernel
theorem dX12_labelPage_38 : decode cX12_labelPage 38 = .ok (.iconst 0, 1) := by decide +kernel
theorem dX12_labelPage_39 : decode cX12_labelPage 39 = .ok (.ireturn, 1) := by decide +kernel
theorem dX12_labelPage_40 : decode cX12_labelPage 40 = .ok (.aload_n 0, 1) := by decide +kernel
theorem dX12_labelPage_41 : decode cX12_labelPage 41 = .ok (.iload_n 1, 1) := by decide +kernel
theorem dX12_labelPage_42 : decode cX12_labelPage 42 = .ok (.invokevirtual 508, 3) := by decide +kernel
theorem dX12_labelPage_45 : decode cX12_labelPage 45 = .ok (.aload_n 0, 1) := by decide +kernel
theorem dX12_labelPage_46 : decode cX12_labelPage 46 = .ok (.iload_n 1, 1) := by decide +kernel
theorem dX12_labelPage_47 : decode cX12_labelPage 47 = .ok (.iload_n 2, 1) := by decide +kernel
theorem dX12_labelPage_48 : decode cX12_labelPage 48 = .ok (.invokevirtual 489, 3) := by decide +kernel
theorem dX12_labelPage_51 : decode cX12_labelPage 51 = .ok (.ireturn, 1) := by decide +kernel
set_option maxHeartbeats 4000000 in
set_option maxRecDepth 100000 in
theorem m_labelPage (l : Launch) (dC : Nat → ClassId) (dI : Nat → Nat → Nat) (k : Nat → ClassId) (mo : Nat) (V : Nat → Value) (aDg : Nat) (aRn : Nat) (aSo : Nat) (aHi : Nat) (aNr : Nat) (aNw : Nat) (aNl : Nat) (aNc : Nat) (aNp : Nat) (aNq : Nat) (aNs : Nat) (aNn : Nat) (v : Int32) (x1 : Int32) (h9 : V 9 = .int 0) (h21 : V 21 = .int 0) (h47 : V 47 = .ref aDg) (h77 : V 77 = .ref aRn) (h80 : V 80 = .int (-1)) (h90 : V 90 = .ref aSo) (h92 : V 92 = .ref aHi) (h69 : V 69 = .ref aNr) (h70 : V 70 = .ref aNw) (h71 : V 71 = .ref aNl) (h72 : V 72 = .ref aNc) (h73 : V 73 = .ref aNp) (h74 : V 74 = .ref aNq) (h75 : V 75 = .ref aNs) (h76 : V 76 = .ref aNn) : Ct l dC dI k yX12_labelPage (.code yX12_labelPage cX12_labelPage 4 (some .int)) ({ frames := 5, cells := 0, slots := 0, locals := 125 } : Room) [.ref mo, .int v, .int x1] [(mo, .inr (10, fvM V)), (aNr, .inl (k 0, 16000, .inl (fun _ => 0))), (aNw, .inl (k 0, 16000, .inl (fun _ => 0))), (aNl, .inl (k 0, 16000, .inl (fun _ => 0))), (aNc, .inl (k 0, 16000, .inl (fun _ => 0))), (aNp, .inl (k 0, 16000, .inl (fun _ => 0))), (aNq, .inl (k 0, 16000, .inl (fun _ => 0))), (aNs, .inl (k 0, 16000, .inl (fun _ => 0))), (aNn, .inl (k 0, 16000, .inl (fun _ => 0))), (aRn, .inl (k 0, 769, .inl (fun _ => 0))), (aSo, .inl (k 0, 5, .inl (fun _ => 0))), (aDg, .inl (k 0, 6, .inl (fun _ => 0))), (aHi, .inl (k 0, 800, .inl (fun _ => 0)))] (fun r w => (∃ (V1 : Nat → Value), (0 ≤ v.toInt ∧ v.toInt ≤ 1) ∧ (0 ≤ x1.toInt ∧ x1.toInt ≤ 5) ∧ V1 0 = .int 0 ∧ r = some (.int (-1)) ∧ w = [(mo, .inr (10, fvM V1))]) ∨ (∃ (V1 : Nat → Value), ¬ ((0 ≤ v.toInt ∧ v.toInt ≤ 1) ∧ (0 ≤ x1.toInt ∧ x1.toInt ≤ 5)) ∧ V1 0 = .int 1 ∧ r = some (.int 0) ∧ w = [(mo, .inr (10, fvM V1))])) := by
  refine ct_of (by decide) (Nat.le_of_ble_eq_true rfl) ?_
  intro p e s m args below meth c H locs B hr hnm ls hl
  have hx := B.1.1
  have hb := B.1.2.1
  have hl : lv_has ls 4 [(0, .ref mo), (1, .int v), (2, .int x1)] := hl
  refine lv_iload_n hx hb dX12_labelPage_0 rfl (lv_at hl 1 rfl) ?_
  refine x_callS (rest := []) (wr := [(mo, .inr (10, fvM V)), (aNr, .inl (k 0, 16000, .inl (fun _ => 0))), (aNw, .inl (k 0, 16000, .inl (fun _ => 0))), (aNl, .inl (k 0, 16000, .inl (fun _ => 0))), (aNc, .inl (k 0, 16000, .inl (fun _ => 0))), (aNp, .inl (k 0, 16000, .inl (fun _ => 0))), (aNq, .inl (k 0, 16000, .inl (fun _ => 0))), (aNs, .inl (k 0, 16000, .inl (fun _ => 0))), (aNn, .inl (k 0, 16000, .inl (fun _ => 0))), (aRn, .inl (k 0, 769, .inl (fun _ => 0))), (aSo, .inl (k 0, 5, .inl (fun _ => 0))), (aDg, .inl (k 0, 6, .inl (fun _ => 0))), (aHi, .inl (k 0, 800, .inl (fun _ => 0)))]) (m_isVariant l dC dI k v) B mS_X12_isVariant mw_2271 hl [] [0, 1, 2, 3, 4, 5, 6, 7, 8, 9, 10, 11, 12] rfl rfl ⟨by decide, by decide⟩ (by decide) ⟨Nat.le_of_ble_eq_true rfl, Nat.le_of_ble_eq_true rfl⟩ (Nat.le_of_ble_eq_true rfl) rfl dX12_labelPage_1 ⟨Nat.le_of_ble_eq_true rfl, Nat.le_of_ble_eq_true rfl⟩ (fun r w H locs hp B => ?_)
  rcases hp with ⟨z_1, rfl, rfl⟩ | ⟨z_2, rfl, rfl⟩
  · skip
    have B := bd_to (ws' := [(mo, .inr (10, fvM V)), (aNr, .inl (k 0, 16000, .inl (fun _ => 0))), (aNw, .inl (k 0, 16000, .inl (fun _ => 0))), (aNl, .inl (k 0, 16000, .inl (fun _ => 0))), (aNc, .inl (k 0, 16000, .inl (fun _ => 0))), (aNp, .inl (k 0, 16000, .inl (fun _ => 0))), (aNq, .inl (k 0, 16000, .inl (fun _ => 0))), (aNs, .inl (k 0, 16000, .inl (fun _ => 0))), (aNn, .inl (k 0, 16000, .inl (fun _ => 0))), (aRn, .inl (k 0, 769, .inl (fun _ => 0))), (aSo, .inl (k 0, 5, .inl (fun _ => 0))), (aDg, .inl (k 0, 6, .inl (fun _ => 0))), (aHi, .inl (k 0, 800, .inl (fun _ => 0)))]) rfl B
    refine lv_if_eq (tgt := 20) hx hb dX12_labelPage_4 (by decide) (fun c9 => absurd c9 (by decide)) (fun _ => ?_)
    refine lv_iload_n hx hb dX12_labelPage_7 rfl (lv_at hl 2 rfl) ?_
    refine lv_iconst (v := 0) hx hb dX12_labelPage_8 (by decide) ?_
    refine lv_iconst (v := 5) hx hb dX12_labelPage_9 (by decide) ?_
    refine x_callS (rest := []) (wr := [(mo, .inr (10, fvM V)), (aNr, .inl (k 0, 16000, .inl (fun _ => 0))), (aNw, .inl (k 0, 16000, .inl (fun _ => 0))), (aNl, .inl (k 0, 16000, .inl (fun _ => 0))), (aNc, .inl (k 0, 16000, .inl (fun _ => 0))), (aNp, .inl (k 0, 16000, .inl (fun _ => 0))), (aNq, .inl (k 0, 16000, .inl (fun _ => 0))), (aNs, .inl (k 0, 16000, .inl (fun _ => 0))), (aNn, .inl (k 0, 16000, .inl (fun _ => 0))), (aRn, .inl (k 0, 769, .inl (fun _ => 0))), (aSo, .inl (k 0, 5, .inl (fun _ => 0))), (aDg, .inl (k 0, 6, .inl (fun _ => 0))), (aHi, .inl (k 0, 800, .inl (fun _ => 0)))]) (m_in_0_5 l dC dI k x1) B mS_X12_in mw_2152 hl [] [0, 1, 2, 3, 4, 5, 6, 7, 8, 9, 10, 11, 12] rfl rfl ⟨by decide, by decide⟩ (by decide) ⟨Nat.le_of_ble_eq_true rfl, Nat.le_of_ble_eq_true rfl⟩ (Nat.le_of_ble_eq_true rfl) rfl dX12_labelPage_10 ⟨Nat.le_of_ble_eq_true rfl, Nat.le_of_ble_eq_true rfl⟩ (fun r w H locs hp B => ?_)
    rcases hp with ⟨z_3, rfl, rfl⟩ | ⟨z_4, rfl, rfl⟩
    · skip
      have B := bd_to (ws' := [(mo, .inr (10, fvM V)), (aNr, .inl (k 0, 16000, .inl (fun _ => 0))), (aNw, .inl (k 0, 16000, .inl (fun _ => 0))), (aNl, .inl (k 0, 16000, .inl (fun _ => 0))), (aNc, .inl (k 0, 16000, .inl (fun _ => 0))), (aNp, .inl (k 0, 16000, .inl (fun _ => 0))), (aNq, .inl (k 0, 16000, .inl (fun _ => 0))), (aNs, .inl (k 0, 16000, .inl (fun _ => 0))), (aNn, .inl (k 0, 16000, .inl (fun _ => 0))), (aRn, .inl (k 0, 769, .inl (fun _ => 0))), (aSo, .inl (k 0, 5, .inl (fun _ => 0))), (aDg, .inl (k 0, 6, .inl (fun _ => 0))), (aHi, .inl (k 0, 800, .inl (fun _ => 0)))]) rfl B
      refine lv_if_eq (tgt := 20) hx hb dX12_labelPage_13 (by decide) (fun c9 => absurd c9 (by decide)) (fun _ => ?_)
      refine lv_iconst (v := 1) hx hb dX12_labelPage_16 (by decide) ?_
      refine lv_goto (tgt := 21) hx hb dX12_labelPage_17 (by decide) ?_
      refine lv_istore_n (lv' := [(3, .int 1), (0, .ref mo), (1, .int v), (2, .int x1)]) hx hb dX12_labelPage_21 rfl hl (by decide) rfl (fun ls hl => ?_)
      refine lv_aload_n hx hb dX12_labelPage_22 rfl (lv_at hl 1 rfl) ?_
      refine lv_iload_n hx hb dX12_labelPage_23 rfl (lv_at hl 0 rfl) ?_
      refine lv_if_eq (tgt := 31) hx hb dX12_labelPage_24 (by decide) (fun c9 => absurd c9 (by decide)) (fun _ => ?_)
      refine lv_iconst (v := 0) hx hb dX12_labelPage_27 (by decide) ?_
      refine lv_goto (tgt := 32) hx hb dX12_labelPage_28 (by decide) ?_
      refine x_callV (rest := []) (wr := [(aNr, .inl (k 0, 16000, .inl (fun _ => 0))), (aNw, .inl (k 0, 16000, .inl (fun _ => 0))), (aNl, .inl (k 0, 16000, .inl (fun _ => 0))), (aNc, .inl (k 0, 16000, .inl (fun _ => 0))), (aNp, .inl (k 0, 16000, .inl (fun _ => 0))), (aNq, .inl (k 0, 16000, .inl (fun _ => 0))), (aNs, .inl (k 0, 16000, .inl (fun _ => 0))), (aNn, .inl (k 0, 16000, .inl (fun _ => 0))), (aRn, .inl (k 0, 769, .inl (fun _ => 0))), (aSo, .inl (k 0, 5, .inl (fun _ => 0))), (aDg, .inl (k 0, 6, .inl (fun _ => 0))), (aHi, .inl (k 0, 800, .inl (fun _ => 0)))]) (m_refused0 l dC dI k mo V) B mV_X12_refused mw_2155 hl [0] [1, 2, 3, 4, 5, 6, 7, 8, 9, 10, 11, 12] rfl rfl ⟨by decide, by decide⟩ (by decide) (q0 := 0) rfl rfl rfl ⟨Nat.le_of_ble_eq_true rfl, Nat.le_of_ble_eq_true rfl⟩ (Nat.le_of_ble_eq_true rfl) rfl dX12_labelPage_32 ⟨Nat.le_of_ble_eq_true rfl, Nat.le_of_ble_eq_true rfl⟩ (fun r w H locs hp B => ?_)
      obtain ⟨V1_5, z_6, z_7, rfl, rfl⟩ := hp
      have B := bd_to (ws' := [(aNr, .inl (k 0, 16000, .inl (fun _ => 0))), (aNw, .inl (k 0, 16000, .inl (fun _ => 0))), (aNl, .inl (k 0, 16000, .inl (fun _ => 0))), (aNc, .inl (k 0, 16000, .inl (fun _ => 0))), (aNp, .inl (k 0, 16000, .inl (fun _ => 0))), (aNq, .inl (k 0, 16000, .inl (fun _ => 0))), (aNs, .inl (k 0, 16000, .inl (fun _ => 0))), (aNn, .inl (k 0, 16000, .inl (fun _ => 0))), (aRn, .inl (k 0, 769, .inl (fun _ => 0))), (aSo, .inl (k 0, 5, .inl (fun _ => 0))), (aDg, .inl (k 0, 6, .inl (fun _ => 0))), (aHi, .inl (k 0, 800, .inl (fun _ => 0))), (mo, .inr (10, fvM V1_5))]) rfl B
      refine lv_if_eq (tgt := 40) hx hb dX12_labelPage_35 (by decide) (fun _ => ?_) (fun c9 => absurd (by decide) c9)
      refine lv_aload_n hx hb dX12_labelPage_40 rfl (lv_at hl 1 rfl) ?_
      refine lv_iload_n hx hb dX12_labelPage_41 rfl (lv_at hl 2 rfl) ?_
      refine x_callV (rest := []) (wr := []) (m_lay l dC dI k mo V1_5 aDg aRn aSo aHi aNr aNw aNl aNc aNp aNq aNs aNn v ((z_6 9 (by decide)).trans h9) ((z_6 21 (by decide)).trans h21) ((z_6 47 (by decide)).trans h47) ((z_6 77 (by decide)).trans h77) ((z_6 80 (by decide)).trans h80) ((z_6 90 (by decide)).trans h90) ((z_6 92 (by decide)).trans h92) ((z_6 69 (by decide)).trans h69) ((z_6 70 (by decide)).trans h70) ((z_6 71 (by decide)).trans h71) ((z_6 72 (by decide)).trans h72) ((z_6 73 (by decide)).trans h73) ((z_6 74 (by decide)).trans h74) ((z_6 75 (by decide)).trans h75) ((z_6 76 (by decide)).trans h76) (by first | omega | decide)) B mV_X12_lay mw_2329 hl [12, 0, 1, 2, 3, 4, 5, 6, 7, 8, 9, 10, 11] [] rfl rfl ⟨by decide, by decide⟩ (by decide) (q0 := 0) rfl rfl rfl ⟨Nat.le_of_ble_eq_true rfl, Nat.le_of_ble_eq_true rfl⟩ (Nat.le_of_ble_eq_true rfl) rfl dX12_labelPage_42 ⟨Nat.le_of_ble_eq_true rfl, Nat.le_of_ble_eq_true rfl⟩ (fun r w H locs hp B => ?_)
      obtain ⟨V1_8, z_9, z_10, z_11, z_12, z_13, rfl, rfl⟩ := hp
      have B := bd_to (ws' := [(mo, .inr (10, fvM V1_8))]) rfl B
      refine lv_aload_n hx hb dX12_labelPage_45 rfl (lv_at hl 1 rfl) ?_
      refine lv_iload_n hx hb dX12_labelPage_46 rfl (lv_at hl 2 rfl) ?_
      refine lv_iload_n hx hb dX12_labelPage_47 rfl (lv_at hl 3 rfl) ?_
      refine x_callV (rest := []) (wr := []) (m_pageOfLabel l dC dI k mo V1_8 v x1 ((z_9 9 (by decide)).trans ((z_6 9 (by decide)).trans h9))) B mV_X12_pageOfLabel mw_2492 hl [0] [] rfl rfl ⟨by decide, by decide⟩ (by decide) (q0 := 0) rfl rfl rfl ⟨Nat.le_of_ble_eq_true rfl, Nat.le_of_ble_eq_true rfl⟩ (Nat.le_of_ble_eq_true rfl) rfl dX12_labelPage_48 ⟨Nat.le_of_ble_eq_true rfl, Nat.le_of_ble_eq_true rfl⟩ (fun r w H locs hp B => ?_)
      obtain ⟨rfl, rfl⟩ := hp
      have B := bd_to (ws' := [(mo, .inr (10, fvM V1_8))]) rfl B
      have B := bd_sub (ws' := [(mo, .inr (10, fvM V1_8))]) [0] (by decide) rfl B
      exact x_iret B hr (Or.inl (⟨V1_8, by omega, by omega, ((z_9 0 (by decide)).trans z_7), rfl, rfl⟩)) (Nat.le_of_ble_eq_true rfl) (Nat.le_of_ble_eq_true rfl) dX12_labelPage_51
    · skip
      have B := bd_to (ws' := [(mo, .inr (10, fvM V)), (aNr, .inl (k 0, 16000, .inl (fun _ => 0))), (aNw, .inl (k 0, 16000, .inl (fun _ => 0))), (aNl, .inl (k 0, 16000, .inl (fun _ => 0))), (aNc, .inl (k 0, 16000, .inl (fun _ => 0))), (aNp, .inl (k 0, 16000, .inl (fun _ => 0))), (aNq, .inl (k 0, 16000, .inl (fun _ => 0))), (aNs, .inl (k 0, 16000, .inl (fun _ => 0))), (aNn, .inl (k 0, 16000, .inl (fun _ => 0))), (aRn, .inl (k 0, 769, .inl (fun _ => 0))), (aSo, .inl (k 0, 5, .inl (fun _ => 0))), (aDg, .inl (k 0, 6, .inl (fun _ => 0))), (aHi, .inl (k 0, 800, .inl (fun _ => 0)))]) rfl B
      refine lv_if_eq (tgt := 20) hx hb dX12_labelPage_13 (by decide) (fun _ => ?_) (fun c9 => absurd (by decide) c9)
      refine lv_iconst (v := 0) hx hb dX12_labelPage_20 (by decide) ?_
      refine lv_istore_n (lv' := [(3, .int 0), (0, .ref mo), (1, .int v), (2, .int x1)]) hx hb dX12_labelPage_21 rfl hl (by decide) rfl (fun ls hl => ?_)
      refine lv_aload_n hx hb dX12_labelPage_22 rfl (lv_at hl 1 rfl) ?_
      refine lv_iload_n hx hb dX12_labelPage_23 rfl (lv_at hl 0 rfl) ?_
      refine lv_if_eq (tgt := 31) hx hb dX12_labelPage_24 (by decide) (fun _ => ?_) (fun c9 => absurd (by decide) c9)
      refine lv_iconst (v := 1) hx hb dX12_labelPage_31 (by decide) ?_
      refine x_callV (rest := []) (wr := [(aNr, .inl (k 0, 16000, .inl (fun _ => 0))), (aNw, .inl (k 0, 16000, .inl (fun _ => 0))), (aNl, .inl (k 0, 16000, .inl (fun _ => 0))), (aNc, .inl (k 0, 16000, .inl (fun _ => 0))), (aNp, .inl (k 0, 16000, .inl (fun _ => 0))), (aNq, .inl (k 0, 16000, .inl (fun _ => 0))), (aNs, .inl (k 0, 16000, .inl (fun _ => 0))), (aNn, .inl (k 0, 16000, .inl (fun _ => 0))), (aRn, .inl (k 0, 769, .inl (fun _ => 0))), (aSo, .inl (k 0, 5, .inl (fun _ => 0))), (aDg, .inl (k 0, 6, .inl (fun _ => 0))), (aHi, .inl (k 0, 800, .inl (fun _ => 0)))]) (m_refused1 l dC dI k mo V) B mV_X12_refused mw_2155 hl [0] [1, 2, 3, 4, 5, 6, 7, 8, 9, 10, 11, 12] rfl rfl ⟨by decide, by decide⟩ (by decide) (q0 := 0) rfl rfl rfl ⟨Nat.le_of_ble_eq_true rfl, Nat.le_of_ble_eq_true rfl⟩ (Nat.le_of_ble_eq_true rfl) rfl dX12_labelPage_32 ⟨Nat.le_of_ble_eq_true rfl, Nat.le_of_ble_eq_true rfl⟩ (fun r w H locs hp B => ?_)
      obtain ⟨V1_14, z_15, z_16, rfl, rfl⟩ := hp
      have B := bd_to (ws' := [(aNr, .inl (k 0, 16000, .inl (fun _ => 0))), (aNw, .inl (k 0, 16000, .inl (fun _ => 0))), (aNl, .inl (k 0, 16000, .inl (fun _ => 0))), (aNc, .inl (k 0, 16000, .inl (fun _ => 0))), (aNp, .inl (k 0, 16000, .inl (fun _ => 0))), (aNq, .inl (k 0, 16000, .inl (fun _ => 0))), (aNs, .inl (k 0, 16000, .inl (fun _ => 0))), (aNn, .inl (k 0, 16000, .inl (fun _ => 0))), (aRn, .inl (k 0, 769, .inl (fun _ => 0))), (aSo, .inl (k 0, 5, .inl (fun _ => 0))), (aDg, .inl (k 0, 6, .inl (fun _ => 0))), (aHi, .inl (k 0, 800, .inl (fun _ => 0))), (mo, .inr (10, fvM V1_14))]) rfl B
      refine lv_if_eq (tgt := 40) hx hb dX12_labelPage_35 (by decide) (fun c9 => absurd c9 (by decide)) (fun _ => ?_)
      refine lv_iconst (v := 0) hx hb dX12_labelPage_38 (by decide) ?_
      have B := bd_sub (ws' := [(mo, .inr (10, fvM V1_14))]) [12] (by decide) rfl B
      exact x_iret B hr (Or.inr (⟨V1_14, by omega, z_16, rfl, rfl⟩)) (Nat.le_of_ble_eq_true rfl) (Nat.le_of_ble_eq_true rfl) dX12_labelPage_39
  · skip
    have B := bd_to (ws' := [(mo, .inr (10, fvM V)), (aNr, .inl (k 0, 16000, .inl (fun _ => 0))), (aNw, .inl (k 0, 16000, .inl (fun _ => 0))), (aNl, .inl (k 0, 16000, .inl (fun _ => 0))), (aNc, .inl (k 0, 16000, .inl (fun _ => 0))), (aNp, .inl (k 0, 16000, .inl (fun _ => 0))), (aNq, .inl (k 0, 16000, .inl (fun _ => 0))), (aNs, .inl (k 0, 16000, .inl (fun _ => 0))), (aNn, .inl (k 0, 16000, .inl (fun _ => 0))), (aRn, .inl (k 0, 769, .inl (fun _ => 0))), (aSo, .inl (k 0, 5, .inl (fun _ => 0))), (aDg, .inl (k 0, 6, .inl (fun _ => 0))), (aHi, .inl (k 0, 800, .inl (fun _ => 0)))]) rfl B
    refine lv_if_eq (tgt := 20) hx hb dX12_labelPage_4 (by decide) (fun _ => ?_) (fun c9 => absurd (by decide) c9)
    refine lv_iconst (v := 0) hx hb dX12_labelPage_20 (by decide) ?_
    refine lv_istore_n (lv' := [(3, .int 0), (0, .ref mo), (1, .int v), (2, .int x1)]) hx hb dX12_labelPage_21 rfl hl (by decide) rfl (fun ls hl => ?_)
    refine lv_aload_n hx hb dX12_labelPage_22 rfl (lv_at hl 1 rfl) ?_
    refine lv_iload_n hx hb dX12_labelPage_23 rfl (lv_at hl 0 rfl) ?_
    refine lv_if_eq (tgt := 31) hx hb dX12_labelPage_24 (by decide) (fun _ => ?_) (fun c9 => absurd (by decide) c9)
    refine lv_iconst (v := 1) hx hb dX12_labelPage_31 (by decide) ?_
    refine x_callV (rest := []) (wr := [(aNr, .inl (k 0, 16000, .inl (fun _ => 0))), (aNw, .inl (k 0, 16000, .inl (fun _ => 0))), (aNl, .inl (k 0, 16000, .inl (fun _ => 0))), (aNc, .inl (k 0, 16000, .inl (fun _ => 0))), (aNp, .inl (k 0, 16000, .inl (fun _ => 0))), (aNq, .inl (k 0, 16000, .inl (fun _ => 0))), (aNs, .inl (k 0, 16000, .inl (fun _ => 0))), (aNn, .inl (k 0, 16000, .inl (fun _ => 0))), (aRn, .inl (k 0, 769, .inl (fun _ => 0))), (aSo, .inl (k 0, 5, .inl (fun _ => 0))), (aDg, .inl (k 0, 6, .inl (fun _ => 0))), (aHi, .inl (k 0, 800, .inl (fun _ => 0)))]) (m_refused1 l dC dI k mo V) B mV_X12_refused mw_2155 hl [0] [1, 2, 3, 4, 5, 6, 7, 8, 9, 10, 11, 12] rfl rfl ⟨by decide, by decide⟩ (by decide) (q0 := 0) rfl rfl rfl ⟨Nat.le_of_ble_eq_true rfl, Nat.le_of_ble_eq_true rfl⟩ (Nat.le_of_ble_eq_true rfl) rfl dX12_labelPage_32 ⟨Nat.le_of_ble_eq_true rfl, Nat.le_of_ble_eq_true rfl⟩ (fun r w H locs hp B => ?_)
    obtain ⟨V1_17, z_18, z_19, rfl, rfl⟩ := hp
    have B := bd_to (ws' := [(aNr, .inl (k 0, 16000, .inl (fun _ => 0))), (aNw, .inl (k 0, 16000, .inl (fun _ => 0))), (aNl, .inl (k 0, 16000, .inl (fun _ => 0))), (aNc, .inl (k 0, 16000, .inl (fun _ => 0))), (aNp, .inl (k 0, 16000, .inl (fun _ => 0))), (aNq, .inl (k 0, 16000, .inl (fun _ => 0))), (aNs, .inl (k 0, 16000, .inl (fun _ => 0))), (aNn, .inl (k 0, 16000, .inl (fun _ => 0))), (aRn, .inl (k 0, 769, .inl (fun _ => 0))), (aSo, .inl (k 0, 5, .inl (fun _ => 0))), (aDg, .inl (k 0, 6, .inl (fun _ => 0))), (aHi, .inl (k 0, 800, .inl (fun _ => 0))), (mo, .inr (10, fvM V1_17))]) rfl B
    refine lv_if_eq (tgt := 40) hx hb dX12_labelPage_35 (by decide) (fun c9 => absurd c9 (by decide)) (fun _ => ?_)
    refine lv_iconst (v := 0) hx hb dX12_labelPage_38 (by decide) ?_
    have B := bd_sub (ws' := [(mo, .inr (10, fvM V1_17))]) [12] (by decide) rfl B
    exact x_iret B hr (Or.inr (⟨V1_17, by omega, z_19, rfl, rfl⟩)) (Nat.le_of_ble_eq_true rfl) (Nat.le_of_ble_eq_true rfl) dX12_labelPage_39

theorem dX12_headings_0 : decode cX12_headings 0 = .ok (.iconst 0, 1) := by decide +kernel
theorem dX12_headings_1 : decode cX12_headings 1 = .ok (.istore_n 2, 1) := by decide +kernel
theorem dX12_headings_2 : decode cX12_headings 2 = .ok (.iconst 0, 1) := by decide +kernel
theorem dX12_headings_3 : decode cX12_headings 3 = .ok (.istore_n 3, 1) := by decide +kernel
theorem dX12_headings_4 : decode cX12_headings 4 = .ok (.iload_n 3, 1) := by decide +kernel
theorem dX12_headings_5 : decode cX12_headings 5 = .ok (.aload_n 0, 1) := by decide +kernel
theorem dX12_headings_6 : decode cX12_headings 6 = .ok (.getfield 226, 3) := by decide +kernel
theorem dX12_headings_9 : decode cX12_headings 9 = .ok (.if_icmp .ge 37, 3) := by decide +kernel
theorem dX12_headings_46 : decode cX12_headings 46 = .ok (.iload_n 2, 1) := by decide +kernel
theorem dX12_headings_47 : decode cX12_headings 47 = .ok (.ireturn, 1) := by decide +kernel
set_option maxHeartbeats 4000000 in
set_option maxRecDepth 100000 in
theorem m_headings (l : Launch) (dC : Nat → ClassId) (dI : Nat → Nat → Nat) (k : Nat → ClassId) (mo : Nat) (V : Nat → Value) (v : Int32) (h9 : V 9 = .int 0) : Ct l dC dI k yX12_headings (.code yX12_headings cX12_headings 4 (some .int)) ({ frames := 0, cells := 0, slots := 0, locals := 0 } : Room) [.ref mo, .int v] [(mo, .inr (10, fvM V))] (fun r w => (r = some (.int 0) ∧ w = [(mo, .inr (10, fvM V))])) := by
  refine ct_of (by decide) (Nat.le_of_ble_eq_true rfl) ?_
  intro p e s m args below meth c H locs B hr hnm ls hl
  have hx := B.1.1
  have hb := B.1.2.1
  have hl : lv_has ls 4 [(0, .ref mo), (1, .int v)] := hl
  refine lv_iconst (v := 0) hx hb dX12_headings_0 (by decide) ?_
  refine lv_istore_n (lv' := [(2, .int 0), (0, .ref mo), (1, .int v)]) hx hb dX12_headings_1 rfl hl (by decide) rfl (fun ls hl => ?_)
  refine lv_iconst (v := 0) hx hb dX12_headings_2 (by decide) ?_
  refine lv_istore_n (lv' := [(3, .int 0), (2, .int 0), (0, .ref mo), (1, .int v)]) hx hb dX12_headings_3 rfl hl (by decide) rfl (fun ls hl => ?_)
  refine lv_iload_n hx hb dX12_headings_4 rfl (lv_at hl 0 rfl) ?_
  refine lv_aload_n hx hb dX12_headings_5 rfl (lv_at hl 2 rfl) ?_
  refine x_get (ci := 10) (C := RX12) (T := TX12) (N := 93) (v := .int 0) B 0 rfl rfl in_X12 9 (by decide) mw_1873 (fun _ h9 => h9) (fvM_get (by decide) h9) dX12_headings_6 ?_
  refine lv_icmp_ge (tgt := 46) hx hb dX12_headings_9 (by decide) (fun _ => ?_) (fun c9 => absurd (by decide) c9)
  refine lv_iload_n hx hb dX12_headings_46 rfl (lv_at hl 1 rfl) ?_
  have B := bd_sub (ws' := [(mo, .inr (10, fvM V))]) [0] (by decide) rfl B
  exact x_iret B hr (⟨rfl, rfl⟩) (Nat.le_of_ble_eq_true rfl) (Nat.le_of_ble_eq_true rfl) dX12_headings_47

theorem mw_2400 : (Jvm.Cond.methodLink "GalleyforgeModel" (369 : Nat) ({ cls := "GalleyforgeModel", name := "headings", desc := "(I)I" } : Jvm.MethodName)) ∈ gt := gt_at 2535 (by decide +kernel) (by decide +kernel)
theorem mw_2402 : (Jvm.Cond.instanceMethod ({ cls := "GalleyforgeModel", name := "headings", desc := "(I)I" } : Jvm.MethodName)) ∈ gt := gt_at 2537 (by decide +kernel) (by decide +kernel)
theorem mw_2403 : (Jvm.Cond.code ({ cls := "GalleyforgeModel", name := "headings", desc := "(I)I" } : Jvm.MethodName) prog_14_method_56_code (4 : Nat) (Option.some Jvm.ClassFile.FieldType.int)) ∈ gt := gt_at 2538 (by decide +kernel) (by decide +kernel)
theorem ms_107 : Cond.selects "GalleyforgeModel" (⟨"GalleyforgeModel", "headings", "(I)I"⟩ : MethodName) (⟨"GalleyforgeModel", "headings", "(I)I"⟩ : MethodName) ∈ gt := gt_at 107 (by decide +kernel) (by decide +kernel)
theorem mV_X12_headings : mV yX12_headings cX12_headings 4 (some .int) 1 := ⟨⟨mw_2403, mw_13, by decide, by decide, by decide +kernel⟩, mw_2402, ms_107⟩
theorem dX12_contentsAt_0 : decode cX12_contentsAt 0 = .ok (.iload_n 1, 1) := by decide +kernel
theorem dX12_contentsAt_1 : decode cX12_contentsAt 1 = .ok (.invokestatic 292, 3) := by decide +kernel
theorem dX12_contentsAt_4 : decode cX12_contentsAt 4 = .ok (.ifCond .eq 22, 3) := by decide +kernel
theorem dX12_contentsAt_7 : decode cX12_contentsAt 7 = .ok (.iload_n 2, 1) := by decide +kernel
theorem dX12_contentsAt_8 : decode cX12_contentsAt 8 = .ok (.iconst 0, 1) := by decide +kernel
theorem dX12_contentsAt_9 : decode cX12_contentsAt 9 = .ok (.aload_n 0, 1) := by decide +kernel
theorem dX12_contentsAt_10 : decode cX12_contentsAt 10 = .ok (.iload_n 1, 1) := by decide +kernel
theorem dX12_contentsAt_11 : decode cX12_contentsAt 11 = .ok (.invokevirtual 369, 3) := by decide +kernel
theorem dX12_contentsAt_14 : decode cX12_contentsAt 14 = .ok (.iconst 1, 1) := by decide +kernel
theorem dX12_contentsAt_15 : decode cX12_contentsAt 15 = .ok (.isub, 1) := by decide +kernel
theorem dX12_contentsAt_16 : decode cX12_contentsAt 16 = .ok (.invokestatic 229, 3) := by decide +kernel
theorem dX12_contentsAt_19 : decode cX12_contentsAt 19 = .ok (.ifCond .eq 7, 3) := by decide +kernel
theorem dX12_contentsAt_26 : decode cX12_contentsAt 26 = .ok (.iconst 0, 1) := by decide +kernel
theorem dX12_contentsAt_27 : decode cX12_contentsAt 27 = .ok (.istore_n 3, 1) := by decide +kernel
theorem dX12_contentsAt_28 : decode cX12_contentsAt 28 = .ok (.aload_n 0, 1) := by decide +kernel
theorem dX12_contentsAt_29 : decode cX12_contentsAt 29 = .ok (.iload_n 3, 1) := by decide +kernel
theorem dX12_contentsAt_30 : decode cX12_contentsAt 30 = .ok (.ifCond .eq 7, 3) := by decide +kernel
theorem dX12_contentsAt_37 : decode cX12_contentsAt 37 = .ok (.iconst 1, 1) := by decide +kernel
theorem dX12_contentsAt_38 : decode cX12_contentsAt 38 = .ok (.invokevirtual 240, 3) := by decide +kernel
theorem dX12_contentsAt_41 : decode cX12_contentsAt 41 = .ok (.ifCond .eq 5, 3) := by decide +kernel
theorem dX12_contentsAt_44 : decode cX12_contentsAt 44 = .ok (.iconst 0, 1) := by decide +kernel
theorem dX12_contentsAt_45 : decode cX12_contentsAt 45 = .ok (.ireturn, 1) := by decide +kernel
set_option maxHeartbeats 4000000 in
set_option maxRecDepth 100000 in
theorem m_contentsAt (l : Launch) (dC : Nat → ClassId) (dI : Nat → Nat → Nat) (k : Nat → ClassId) (mo : Nat) (V : Nat → Value) (v : Int32) (x1 : Int32) (h9 : V 9 = .int 0) : Ct l dC dI k yX12_contentsAt (.code yX12_contentsAt cX12_contentsAt 7 (some .int)) ({ frames := 2, cells := 0, slots := 0, locals := 42 } : Room) [.ref mo, .int v, .int x1] [(mo, .inr (10, fvM V))] (fun r w => (∃ (V1 : Nat → Value), V1 0 = .int 1 ∧ r = some (.int 0) ∧ w = [(mo, .inr (10, fvM V1))])) := by
  refine ct_of (by decide) (Nat.le_of_ble_eq_true rfl) ?_
  intro p e s m args below meth c H locs B hr hnm ls hl
  have hx := B.1.1
  have hb := B.1.2.1
  have hl : lv_has ls 7 [(0, .ref mo), (1, .int v), (2, .int x1)] := hl
  refine lv_iload_n hx hb dX12_contentsAt_0 rfl (lv_at hl 1 rfl) ?_
  refine x_callS (rest := []) (wr := [(mo, .inr (10, fvM V))]) (m_isVariant l dC dI k v) B mS_X12_isVariant mw_2271 hl [] [0] rfl rfl ⟨by decide, by decide⟩ (by decide) ⟨Nat.le_of_ble_eq_true rfl, Nat.le_of_ble_eq_true rfl⟩ (Nat.le_of_ble_eq_true rfl) rfl dX12_contentsAt_1 ⟨Nat.le_of_ble_eq_true rfl, Nat.le_of_ble_eq_true rfl⟩ (fun r w H locs hp B => ?_)
  rcases hp with ⟨z_1, rfl, rfl⟩ | ⟨z_2, rfl, rfl⟩
  · skip
    have B := bd_to (ws' := [(mo, .inr (10, fvM V))]) rfl B
    refine lv_if_eq (tgt := 26) hx hb dX12_contentsAt_4 (by decide) (fun c9 => absurd c9 (by decide)) (fun _ => ?_)
    refine lv_iload_n hx hb dX12_contentsAt_7 rfl (lv_at hl 2 rfl) ?_
    refine lv_iconst (v := 0) hx hb dX12_contentsAt_8 (by decide) ?_
    refine lv_aload_n hx hb dX12_contentsAt_9 rfl (lv_at hl 0 rfl) ?_
    refine lv_iload_n hx hb dX12_contentsAt_10 rfl (lv_at hl 1 rfl) ?_
    refine x_callV (rest := [.int 0, .int x1]) (wr := []) (m_headings l dC dI k mo V v h9) B mV_X12_headings mw_2400 hl [0] [] rfl rfl ⟨by decide, by decide⟩ (by decide) (q0 := 0) rfl rfl rfl ⟨Nat.le_of_ble_eq_true rfl, Nat.le_of_ble_eq_true rfl⟩ (Nat.le_of_ble_eq_true rfl) rfl dX12_contentsAt_11 ⟨Nat.le_of_ble_eq_true rfl, Nat.le_of_ble_eq_true rfl⟩ (fun r w H locs hp B => ?_)
    obtain ⟨rfl, rfl⟩ := hp
    have B := bd_to (ws' := [(mo, .inr (10, fvM V))]) rfl B
    refine lv_iconst (v := 1) hx hb dX12_contentsAt_14 (by decide) ?_
    refine lv_isub hx hb dX12_contentsAt_15 ?_
    refine lv_seti (y := (-1)) (by decide) ?_
    refine x_callS (rest := []) (wr := [(mo, .inr (10, fvM V))]) (m_in_0_n1 l dC dI k x1) B mS_X12_in mw_2152 hl [] [0] rfl rfl ⟨by decide, by decide⟩ (by decide) ⟨Nat.le_of_ble_eq_true rfl, Nat.le_of_ble_eq_true rfl⟩ (Nat.le_of_ble_eq_true rfl) rfl dX12_contentsAt_16 ⟨Nat.le_of_ble_eq_true rfl, Nat.le_of_ble_eq_true rfl⟩ (fun r w H locs hp B => ?_)
    rcases hp with ⟨z_3, rfl, rfl⟩ | ⟨z_4, rfl, rfl⟩
    · skip
      exfalso; first | omega | exact absurd z_3 (by decide)
    · skip
      have B := bd_to (ws' := [(mo, .inr (10, fvM V))]) rfl B
      refine lv_if_eq (tgt := 26) hx hb dX12_contentsAt_19 (by decide) (fun _ => ?_) (fun c9 => absurd (by decide) c9)
      refine lv_iconst (v := 0) hx hb dX12_contentsAt_26 (by decide) ?_
      refine lv_istore_n (lv' := [(3, .int 0), (0, .ref mo), (1, .int v), (2, .int x1)]) hx hb dX12_contentsAt_27 rfl hl (by decide) rfl (fun ls hl => ?_)
      refine lv_aload_n hx hb dX12_contentsAt_28 rfl (lv_at hl 1 rfl) ?_
      refine lv_iload_n hx hb dX12_contentsAt_29 rfl (lv_at hl 0 rfl) ?_
      refine lv_if_eq (tgt := 37) hx hb dX12_contentsAt_30 (by decide) (fun _ => ?_) (fun c9 => absurd (by decide) c9)
      refine lv_iconst (v := 1) hx hb dX12_contentsAt_37 (by decide) ?_
      refine x_callV (rest := []) (wr := []) (m_refused1 l dC dI k mo V) B mV_X12_refused mw_2155 hl [0] [] rfl rfl ⟨by decide, by decide⟩ (by decide) (q0 := 0) rfl rfl rfl ⟨Nat.le_of_ble_eq_true rfl, Nat.le_of_ble_eq_true rfl⟩ (Nat.le_of_ble_eq_true rfl) rfl dX12_contentsAt_38 ⟨Nat.le_of_ble_eq_true rfl, Nat.le_of_ble_eq_true rfl⟩ (fun r w H locs hp B => ?_)
      obtain ⟨V1_5, z_6, z_7, rfl, rfl⟩ := hp
      have B := bd_to (ws' := [(mo, .inr (10, fvM V1_5))]) rfl B
      refine lv_if_eq (tgt := 46) hx hb dX12_contentsAt_41 (by decide) (fun c9 => absurd c9 (by decide)) (fun _ => ?_)
      refine lv_iconst (v := 0) hx hb dX12_contentsAt_44 (by decide) ?_
      have B := bd_sub (ws' := [(mo, .inr (10, fvM V1_5))]) [0] (by decide) rfl B
      exact x_iret B hr (⟨V1_5, z_7, rfl, rfl⟩) (Nat.le_of_ble_eq_true rfl) (Nat.le_of_ble_eq_true rfl) dX12_contentsAt_45
  · skip
    have B := bd_to (ws' := [(mo, .inr (10, fvM V))]) rfl B
    refine lv_if_eq (tgt := 26) hx hb dX12_contentsAt_4 (by decide) (fun _ => ?_) (fun c9 => absurd (by decide) c9)
    refine lv_iconst (v := 0) hx hb dX12_contentsAt_26 (by decide) ?_
    refine lv_istore_n (lv' := [(3, .int 0), (0, .ref mo), (1, .int v), (2, .int x1)]) hx hb dX12_contentsAt_27 rfl hl (by decide) rfl (fun ls hl => ?_)
    refine lv_aload_n hx hb dX12_contentsAt_28 rfl (lv_at hl 1 rfl) ?_
    refine lv_iload_n hx hb dX12_contentsAt_29 rfl (lv_at hl 0 rfl) ?_
    refine lv_if_eq (tgt := 37) hx hb dX12_contentsAt_30 (by decide) (fun _ => ?_) (fun c9 => absurd (by decide) c9)
    refine lv_iconst (v := 1) hx hb dX12_contentsAt_37 (by decide) ?_
    refine x_callV (rest := []) (wr := []) (m_refused1 l dC dI k mo V) B mV_X12_refused mw_2155 hl [0] [] rfl rfl ⟨by decide, by decide⟩ (by decide) (q0 := 0) rfl rfl rfl ⟨Nat.le_of_ble_eq_true rfl, Nat.le_of_ble_eq_true rfl⟩ (Nat.le_of_ble_eq_true rfl) rfl dX12_contentsAt_38 ⟨Nat.le_of_ble_eq_true rfl, Nat.le_of_ble_eq_true rfl⟩ (fun r w H locs hp B => ?_)
    obtain ⟨V1_8, z_9, z_10, rfl, rfl⟩ := hp
    have B := bd_to (ws' := [(mo, .inr (10, fvM V1_8))]) rfl B
    refine lv_if_eq (tgt := 46) hx hb dX12_contentsAt_41 (by decide) (fun c9 => absurd c9 (by decide)) (fun _ => ?_)
    refine lv_iconst (v := 0) hx hb dX12_contentsAt_44 (by decide) ?_
    have B := bd_sub (ws' := [(mo, .inr (10, fvM V1_8))]) [0] (by decide) rfl B
    exact x_iret B hr (⟨V1_8, z_10, rfl, rfl⟩) (Nat.le_of_ble_eq_true rfl) (Nat.le_of_ble_eq_true rfl) dX12_contentsAt_45

theorem mw_2392 : (Jvm.Cond.methodLink "GalleyforgeModel" (366 : Nat) ({ cls := "GalleyforgeModel", name := "hasTerm", desc := "(II)Z" } : Jvm.MethodName)) ∈ gt := gt_at 2527 (by decide +kernel) (by decide +kernel)
theorem mw_2394 : (Jvm.Cond.instanceMethod ({ cls := "GalleyforgeModel", name := "hasTerm", desc := "(II)Z" } : Jvm.MethodName)) ∈ gt := gt_at 2529 (by decide +kernel) (by decide +kernel)
theorem mw_2395 : (Jvm.Cond.code ({ cls := "GalleyforgeModel", name := "hasTerm", desc := "(II)Z" } : Jvm.MethodName) prog_14_method_57_code (6 : Nat) (Option.some Jvm.ClassFile.FieldType.boolean)) ∈ gt := gt_at 2530 (by decide +kernel) (by decide +kernel)
theorem ms_105 : Cond.selects "GalleyforgeModel" (⟨"GalleyforgeModel", "hasTerm", "(II)Z"⟩ : MethodName) (⟨"GalleyforgeModel", "hasTerm", "(II)Z"⟩ : MethodName) ∈ gt := gt_at 105 (by decide +kernel) (by decide +kernel)
theorem mV_X12_hasTerm : mV yX12_hasTerm cX12_hasTerm 6 (some .boolean) 2 := ⟨⟨mw_2395, mw_13, by decide, by decide, by decide +kernel⟩, mw_2394, ms_105⟩
theorem dX12_indexAt_0 : decode cX12_indexAt 0 = .ok (.iconst 0, 1) := by decide +kernel
theorem dX12_indexAt_1 : decode cX12_indexAt 1 = .ok (.istore_n 3, 1) := by decide +kernel
theorem dX12_indexAt_2 : decode cX12_indexAt 2 = .ok (.iconst (-1), 1) := by decide +kernel
theorem dX12_indexAt_3 : decode cX12_indexAt 3 = .ok (.istore 4, 2) := by decide +kernel
theorem dX12_indexAt_5 : decode cX12_indexAt 5 = .ok (.iconst 0, 1) := by decide +kernel
theorem dX12_indexAt_6 : decode cX12_indexAt 6 = .ok (.istore 5, 2) := by decide +kernel
theorem dX12_indexAt_8 : decode cX12_indexAt 8 = .ok (.iload 5, 2) := by decide +kernel
theorem dX12_indexAt_10 : decode cX12_indexAt 10 = .ok (.bipush 8, 2) := by decide +kernel
theorem dX12_indexAt_12 : decode cX12_indexAt 12 = .ok (.if_icmp .ge 151, 3) := by decide +kernel
theorem dX12_indexAt_15 : decode cX12_indexAt 15 = .ok (.iload_n 1, 1) := by decide +kernel
theorem dX12_indexAt_16 : decode cX12_indexAt 16 = .ok (.invokestatic 292, 3) := by decide +kernel
theorem dX12_indexAt_19 : decode cX12_indexAt 19 = .ok (.ifCond .eq 144, 3) := by decide +kernel
theorem dX12_indexAt_22 : decode cX12_indexAt 22 = .ok (.iconst 0, 1) := by decide +kernel
theorem dX12_indexAt_23 : decode cX12_indexAt 23 = .ok (.istore 6, 2) := by decide +kernel
theorem dX12_indexAt_25 : decode cX12_indexAt 25 = .ok (.iconst 0, 1) := by decide +kernel
theorem dX12_indexAt_26 : decode cX12_indexAt 26 = .ok (.istore 7, 2) := by decide +kernel
theorem dX12_indexAt_28 : decode cX12_indexAt 28 = .ok (.iload 7, 2) := by decide +kernel
theorem dX12_indexAt_30 : decode cX12_indexAt 30 = .ok (.bipush 8, 2) := by decide +kernel
theorem dX12_indexAt_32 : decode cX12_indexAt 32 = .ok (.if_icmp .ge 82, 3) := by decide +kernel
theorem dX12_indexAt_35 : decode cX12_indexAt 35 = .ok (.aload_n 0, 1) := by decide +kernel
theorem dX12_indexAt_36 : decode cX12_indexAt 36 = .ok (.getfield 67, 3) := by decide +kernel
theorem dX12_indexAt_39 : decode cX12_indexAt 39 = .ok (.iload 7, 2) := by decide +kernel
theorem dX12_indexAt_41 : decode cX12_indexAt 41 = .ok (.iaload, 1) := by decide +kernel
theorem dX12_indexAt_42 : decode cX12_indexAt 42 = .ok (.aload_n 0, 1) := by decide +kernel
theorem dX12_indexAt_43 : decode cX12_indexAt 43 = .ok (.getfield 67, 3) := by decide +kernel
theorem dX12_indexAt_46 : decode cX12_indexAt 46 = .ok (.iload 5, 2) := by decide +kernel
theorem dX12_indexAt_48 : decode cX12_indexAt 48 = .ok (.iaload, 1) := by decide +kernel
theorem dX12_indexAt_49 : decode cX12_indexAt 49 = .ok (.if_icmp .lt 27, 3) := by decide +kernel
theorem dX12_indexAt_52 : decode cX12_indexAt 52 = .ok (.aload_n 0, 1) := by decide +kernel
theorem dX12_indexAt_53 : decode cX12_indexAt 53 = .ok (.getfield 67, 3) := by decide +kernel
theorem dX12_indexAt_56 : decode cX12_indexAt 56 = .ok (.iload 7, 2) := by decide +kernel
theorem dX12_indexAt_58 : decode cX12_indexAt 58 = .ok (.iaload, 1) := by decide +kernel
theorem dX12_indexAt_59 : decode cX12_indexAt 59 = .ok (.aload_n 0, 1) := by decide +kernel
theorem dX12_indexAt_60 : decode cX12_indexAt 60 = .ok (.getfield 67, 3) := by decide +kernel
theorem dX12_indexAt_63 : decode cX12_indexAt 63 = .ok (.iload 5, 2) := by decide +kernel
theorem dX12_indexAt_65 : decode cX12_indexAt 65 = .ok (.iaload, 1) := by decide +kernel
theorem dX12_indexAt_66 : decode cX12_indexAt 66 = .ok (.if_icmp .ne 14, 3) := by decide +kernel
theorem dX12_indexAt_69 : decode cX12_indexAt 69 = .ok (.iload 7, 2) := by decide +kernel
theorem dX12_indexAt_71 : decode cX12_indexAt 71 = .ok (.iload 5, 2) := by decide +kernel
theorem dX12_indexAt_73 : decode cX12_indexAt 73 = .ok (.if_icmp .ge 7, 3) := by decide +kernel
theorem dX12_indexAt_76 : decode cX12_indexAt 76 = .ok (.iconst 1, 1) := by decide +kernel
theorem dX12_indexAt_77 : decode cX12_indexAt 77 = .ok (.goto 4, 3) := by decide +kernel
theorem dX12_indexAt_80 : decode cX12_indexAt 80 = .ok (.iconst 0, 1) := by decide +kernel
theorem dX12_indexAt_81 : decode cX12_indexAt 81 = .ok (.istore 8, 2) := by decide +kernel
theorem dX12_indexAt_83 : decode cX12_indexAt 83 = .ok (.iload 6, 2) := by decide +kernel
theorem dX12_indexAt_85 : decode cX12_indexAt 85 = .ok (.iload 8, 2) := by decide +kernel
theorem dX12_indexAt_87 : decode cX12_indexAt 87 = .ok (.ifCond .eq 17, 3) := by decide +kernel
theorem dX12_indexAt_90 : decode cX12_indexAt 90 = .ok (.aload_n 0, 1) := by decide +kernel
theorem dX12_indexAt_91 : decode cX12_indexAt 91 = .ok (.iload_n 1, 1) := by decide +kernel
theorem dX12_indexAt_92 : decode cX12_indexAt 92 = .ok (.iload 7, 2) := by decide +kernel
theorem dX12_indexAt_94 : decode cX12_indexAt 94 = .ok (.invokevirtual 366, 3) := by decide +kernel
theorem dX12_indexAt_97 : decode cX12_indexAt 97 = .ok (.ifCond .eq 7, 3) := by decide +kernel
theorem dX12_indexAt_104 : decode cX12_indexAt 104 = .ok (.iconst 0, 1) := by decide +kernel
theorem dX12_indexAt_105 : decode cX12_indexAt 105 = .ok (.iadd, 1) := by decide +kernel
theorem dX12_indexAt_106 : decode cX12_indexAt 106 = .ok (.istore 6, 2) := by decide +kernel
theorem dX12_indexAt_108 : decode cX12_indexAt 108 = .ok (.iinc 7 1, 3) := by decide +kernel
theorem dX12_indexAt_111 : decode cX12_indexAt 111 = .ok (.goto (-83), 3) := by decide +kernel
theorem dX12_indexAt_114 : decode cX12_indexAt 114 = .ok (.aload_n 0, 1) := by decide +kernel
theorem dX12_indexAt_115 : decode cX12_indexAt 115 = .ok (.iload_n 1, 1) := by decide +kernel
theorem dX12_indexAt_116 : decode cX12_indexAt 116 = .ok (.iload 5, 2) := by decide +kernel
theorem dX12_indexAt_118 : decode cX12_indexAt 118 = .ok (.invokevirtual 366, 3) := by decide +kernel
theorem dX12_indexAt_121 : decode cX12_indexAt 121 = .ok (.ifCond .eq 14, 3) := by decide +kernel
theorem dX12_indexAt_135 : decode cX12_indexAt 135 = .ok (.iload 4, 2) := by decide +kernel
theorem dX12_indexAt_137 : decode cX12_indexAt 137 = .ok (.istore 4, 2) := by decide +kernel
theorem dX12_indexAt_139 : decode cX12_indexAt 139 = .ok (.iload_n 3, 1) := by decide +kernel
theorem dX12_indexAt_140 : decode cX12_indexAt 140 = .ok (.aload_n 0, 1) := by decide +kernel
theorem dX12_indexAt_141 : decode cX12_indexAt 141 = .ok (.iload_n 1, 1) := by decide +kernel
theorem dX12_indexAt_142 : decode cX12_indexAt 142 = .ok (.iload 5, 2) := by decide +kernel
theorem dX12_indexAt_144 : decode cX12_indexAt 144 = .ok (.invokevirtual 366, 3) := by decide +kernel
theorem dX12_indexAt_147 : decode cX12_indexAt 147 = .ok (.ifCond .eq 7, 3) := by decide +kernel
theorem dX12_indexAt_154 : decode cX12_indexAt 154 = .ok (.iconst 0, 1) := by decide +kernel
theorem dX12_indexAt_155 : decode cX12_indexAt 155 = .ok (.iadd, 1) := by decide +kernel
theorem dX12_indexAt_156 : decode cX12_indexAt 156 = .ok (.istore_n 3, 1) := by decide +kernel
theorem dX12_indexAt_157 : decode cX12_indexAt 157 = .ok (.iinc 5 1, 3) := by decide +kernel
theorem dX12_indexAt_160 : decode cX12_indexAt 160 = .ok (.goto (-152), 3) := by decide +kernel
theorem dX12_indexAt_163 : decode cX12_indexAt 163 = .ok (.aload_n 0, 1) := by decide +kernel
theorem dX12_indexAt_164 : decode cX12_indexAt 164 = .ok (.iload_n 2, 1) := by decide +kernel
theorem dX12_indexAt_165 : decode cX12_indexAt 165 = .ok (.iconst 0, 1) := by decide +kernel
theorem dX12_indexAt_166 : decode cX12_indexAt 166 = .ok (.iload_n 3, 1) := by decide +kernel
theorem dX12_indexAt_167 : decode cX12_indexAt 167 = .ok (.iconst 1, 1) := by decide +kernel
theorem dX12_indexAt_168 : decode cX12_indexAt 168 = .ok (.isub, 1) := by decide +kernel
theorem dX12_indexAt_169 : decode cX12_indexAt 169 = .ok (.invokestatic 229, 3) := by decide +kernel
theorem dX12_indexAt_172 : decode cX12_indexAt 172 = .ok (.ifCond .eq 7, 3) := by decide +kernel
theorem dX12_indexAt_179 : decode cX12_indexAt 179 = .ok (.iconst 1, 1) := by decide +kernel
theorem dX12_indexAt_180 : decode cX12_indexAt 180 = .ok (.invokevirtual 240, 3) := by decide +kernel
theorem dX12_indexAt_183 : decode cX12_indexAt 183 = .ok (.ifCond .eq 7, 3) := by decide +kernel
theorem dX12_indexAt_186 : decode cX12_indexAt 186 = .ok (.iconst 0, 1) := by decide +kernel
theorem dX12_indexAt_187 : decode cX12_indexAt 187 = .ok (.goto 5, 3) := by decide +kernel
theorem dX12_indexAt_192 : decode cX12_indexAt 192 = .ok (.ireturn, 1) := by decide +kernel
set_option maxHeartbeats 4000000 in
set_option maxRecDepth 100000 in
theorem m_indexAt (l : Launch) (dC : Nat → ClassId) (dI : Nat → Nat → Nat) (k : Nat → ClassId) (mo : Nat) (V : Nat → Value) (aKe : Nat) (v : Int32) (x1 : Int32) (h9 : V 9 = .int 0) (h26 : V 26 = .ref aKe) : Ct l dC dI k yX12_indexAt (.code yX12_indexAt cX12_indexAt 9 (some .int)) ({ frames := 2, cells := 0, slots := 0, locals := 42 } : Room) [.ref mo, .int v, .int x1] [(mo, .inr (10, fvM V)), (aKe, .inl (k 0, 8, .inl (fun _ => 0)))] (fun r w => (∃ (V1 : Nat → Value), V1 0 = .int 1 ∧ r = some (.int 0) ∧ w = [(mo, .inr (10, fvM V1))])) := by
  refine ct_of (by decide) (Nat.le_of_ble_eq_true rfl) ?_
  intro p e s m args below meth c H locs B hr hnm ls hl
  have hx := B.1.1
  have hb := B.1.2.1
  have hl : lv_has ls 9 [(0, .ref mo), (1, .int v), (2, .int x1)] := hl
  refine lv_iconst (v := 0) hx hb dX12_indexAt_0 (by decide) ?_
  refine lv_istore_n (lv' := [(3, .int 0), (0, .ref mo), (1, .int v), (2, .int x1)]) hx hb dX12_indexAt_1 rfl hl (by decide) rfl (fun ls hl => ?_)
  refine lv_iconst (v := (-1)) hx hb dX12_indexAt_2 (by decide) ?_
  refine lv_istore (lv' := [(4, .int (-1)), (3, .int 0), (0, .ref mo), (1, .int v), (2, .int x1)]) hx hb dX12_indexAt_3 hl (by decide) rfl (fun ls hl => ?_)
  refine lv_iconst (v := 0) hx hb dX12_indexAt_5 (by decide) ?_
  refine lv_istore (lv' := [(5, .int 0), (4, .int (-1)), (3, .int 0), (0, .ref mo), (1, .int v), (2, .int x1)]) hx hb dX12_indexAt_6 hl (by decide) rfl (fun ls hl => ?_)
  refine x_loop (M := fun i9 ls H locs => lv_has ls 9 [(5, .int (nI i9)), (4, .int (-1)), (3, .int 0), (0, .ref mo), (1, .int v), (2, .int x1)] ∧ bd p s m args meth c _ _ _ dC dI k _ [(mo, .inr (10, fvM V)), (aKe, .inl (k 0, 8, .inl (fun _ => 0)))] H locs) 8 (fun i_1 hi_1 ih_2 ls H locs hM => ?_) (fun ls H locs hM => ?_) 0 (by decide) ls H locs ⟨lv_sub hl [0, 1, 2, 3, 4, 5] rfl, B⟩
  · obtain ⟨hl, B⟩ := hM
    have ei_1 : (nI i_1).toInt = i_1 := nI_toInt (by omega)
    refine lv_iload hx hb dX12_indexAt_8 (lv_at hl 0 rfl) ?_
    refine lv_bipush (v := 8) hx hb dX12_indexAt_10 (by decide) ?_
    refine lv_icmp_ge (tgt := 163) hx hb dX12_indexAt_12 (by decide) (fun c9 => by have z9 : 8 ≤ (nI i_1).toInt := zge c9; omega) (fun c_3 => ?_)
    refine lv_iload_n hx hb dX12_indexAt_15 rfl (lv_at hl 4 rfl) ?_
    refine x_callS (rest := []) (wr := [(mo, .inr (10, fvM V)), (aKe, .inl (k 0, 8, .inl (fun _ => 0)))]) (m_isVariant l dC dI k v) B mS_X12_isVariant mw_2271 hl [] [0, 1] rfl rfl ⟨by decide, by decide⟩ (by decide) ⟨Nat.le_of_ble_eq_true rfl, Nat.le_of_ble_eq_true rfl⟩ (Nat.le_of_ble_eq_true rfl) rfl dX12_indexAt_16 ⟨Nat.le_of_ble_eq_true rfl, Nat.le_of_ble_eq_true rfl⟩ (fun r w H locs hp B => ?_)
    rcases hp with ⟨z_4, rfl, rfl⟩ | ⟨z_5, rfl, rfl⟩
    · skip
      have B := bd_to (ws' := [(mo, .inr (10, fvM V)), (aKe, .inl (k 0, 8, .inl (fun _ => 0)))]) rfl B
      refine lv_if_eq (tgt := 163) hx hb dX12_indexAt_19 (by decide) (fun c9 => absurd c9 (by decide)) (fun _ => ?_)
      refine lv_iconst (v := 0) hx hb dX12_indexAt_22 (by decide) ?_
      refine lv_istore (lv' := [(6, .int 0), (5, .int (nI i_1)), (4, .int (-1)), (3, .int 0), (0, .ref mo), (1, .int v), (2, .int x1)]) hx hb dX12_indexAt_23 hl (by decide) rfl (fun ls hl => ?_)
      refine lv_iconst (v := 0) hx hb dX12_indexAt_25 (by decide) ?_
      refine lv_istore (lv' := [(7, .int 0), (6, .int 0), (5, .int (nI i_1)), (4, .int (-1)), (3, .int 0), (0, .ref mo), (1, .int v), (2, .int x1)]) hx hb dX12_indexAt_26 hl (by decide) rfl (fun ls hl => ?_)
      refine x_loop (M := fun i9 ls H locs => lv_has ls 9 [(7, .int (nI i9)), (6, .int 0), (5, .int (nI i_1)), (4, .int (-1)), (3, .int 0), (0, .ref mo), (1, .int v), (2, .int x1)] ∧ bd p s m args meth c _ _ _ dC dI k _ [(mo, .inr (10, fvM V)), (aKe, .inl (k 0, 8, .inl (fun _ => 0)))] H locs) 8 (fun i_6 hi_6 ih_7 ls H locs hM => ?_) (fun ls H locs hM => ?_) 0 (by decide) ls H locs ⟨lv_sub hl [0, 1, 2, 3, 4, 5, 6, 7] rfl, B⟩
      · obtain ⟨hl, B⟩ := hM
        have ei_6 : (nI i_6).toInt = i_6 := nI_toInt (by omega)
        refine lv_iload hx hb dX12_indexAt_28 (lv_at hl 0 rfl) ?_
        refine lv_bipush (v := 8) hx hb dX12_indexAt_30 (by decide) ?_
        refine lv_icmp_ge (tgt := 114) hx hb dX12_indexAt_32 (by decide) (fun c9 => by have z9 : 8 ≤ (nI i_6).toInt := zge c9; omega) (fun c_8 => ?_)
        refine lv_aload_n hx hb dX12_indexAt_35 rfl (lv_at hl 5 rfl) ?_
        refine x_get (ci := 10) (C := RX12) (T := TX12) (N := 93) (v := .ref aKe) B 0 rfl rfl in_X12 26 (by decide) mw_1890 (fun _ h9 => h9) (fvM_get (by decide) h26) dX12_indexAt_36 ?_
        refine lv_iload hx hb dX12_indexAt_39 (lv_at hl 0 rfl) ?_
        refine x_iald (v := 0) B 1 rfl (vp_in_nI (by omega) (by omega)) dX12_indexAt_41 rfl ?_
        refine lv_aload_n hx hb dX12_indexAt_42 rfl (lv_at hl 5 rfl) ?_
        refine x_get (ci := 10) (C := RX12) (T := TX12) (N := 93) (v := .ref aKe) B 0 rfl rfl in_X12 26 (by decide) mw_1890 (fun _ h9 => h9) (fvM_get (by decide) h26) dX12_indexAt_43 ?_
        refine lv_iload hx hb dX12_indexAt_46 (lv_at hl 2 rfl) ?_
        refine x_iald (v := 0) B 1 rfl (vp_in_nI (by omega) (by omega)) dX12_indexAt_48 rfl ?_
        refine lv_icmp_lt (tgt := 76) hx hb dX12_indexAt_49 (by decide) (fun c9 => absurd c9 (by decide)) (fun _ => ?_)
        refine lv_aload_n hx hb dX12_indexAt_52 rfl (lv_at hl 5 rfl) ?_
        refine x_get (ci := 10) (C := RX12) (T := TX12) (N := 93) (v := .ref aKe) B 0 rfl rfl in_X12 26 (by decide) mw_1890 (fun _ h9 => h9) (fvM_get (by decide) h26) dX12_indexAt_53 ?_
        refine lv_iload hx hb dX12_indexAt_56 (lv_at hl 0 rfl) ?_
        refine x_iald (v := 0) B 1 rfl (vp_in_nI (by omega) (by omega)) dX12_indexAt_58 rfl ?_
        refine lv_aload_n hx hb dX12_indexAt_59 rfl (lv_at hl 5 rfl) ?_
        refine x_get (ci := 10) (C := RX12) (T := TX12) (N := 93) (v := .ref aKe) B 0 rfl rfl in_X12 26 (by decide) mw_1890 (fun _ h9 => h9) (fvM_get (by decide) h26) dX12_indexAt_60 ?_
        refine lv_iload hx hb dX12_indexAt_63 (lv_at hl 2 rfl) ?_
        refine x_iald (v := 0) B 1 rfl (vp_in_nI (by omega) (by omega)) dX12_indexAt_65 rfl ?_
        refine lv_icmp_ne (tgt := 80) hx hb dX12_indexAt_66 (by decide) (fun c9 => absurd c9 (by decide)) (fun _ => ?_)
        refine lv_iload hx hb dX12_indexAt_69 (lv_at hl 0 rfl) ?_
        refine lv_iload hx hb dX12_indexAt_71 (lv_at hl 2 rfl) ?_
        refine lv_icmp_ge (tgt := 80) hx hb dX12_indexAt_73 (by decide) (fun c_9 => ?_) (fun c_9 => ?_)
        · have zc_9 : (nI i_1).toInt ≤ (nI i_6).toInt := zge c_9
          refine lv_iconst (v := 0) hx hb dX12_indexAt_80 (by decide) ?_
          refine lv_istore (lv' := [(8, .int 0), (7, .int (nI i_6)), (6, .int 0), (5, .int (nI i_1)), (4, .int (-1)), (3, .int 0), (0, .ref mo), (1, .int v), (2, .int x1)]) hx hb dX12_indexAt_81 hl (by decide) rfl (fun ls hl => ?_)
          refine lv_iload hx hb dX12_indexAt_83 (lv_at hl 2 rfl) ?_
          refine lv_iload hx hb dX12_indexAt_85 (lv_at hl 0 rfl) ?_
          refine lv_if_eq (tgt := 104) hx hb dX12_indexAt_87 (by decide) (fun _ => ?_) (fun c9 => absurd (by decide) c9)
          refine lv_iconst (v := 0) hx hb dX12_indexAt_104 (by decide) ?_
          refine lv_iadd hx hb dX12_indexAt_105 ?_
          refine lv_seti (y := 0) (by decide) ?_
          refine lv_istore (lv' := [(6, .int 0), (8, .int 0), (7, .int (nI i_6)), (5, .int (nI i_1)), (4, .int (-1)), (3, .int 0), (0, .ref mo), (1, .int v), (2, .int x1)]) hx hb dX12_indexAt_106 hl (by decide) rfl (fun ls hl => ?_)
          refine lv_iinc (v := (nI (i_6 + 1))) (lv' := [(7, .int (nI (i_6 + 1))), (6, .int 0), (8, .int 0), (5, .int (nI i_1)), (4, .int (-1)), (3, .int 0), (0, .ref mo), (1, .int v), (2, .int x1)]) hx hb dX12_indexAt_108 hl (k := 2) rfl (nI_1 _) (by decide) rfl (fun ls hl => ?_)
          refine lv_goto (tgt := 28) hx hb dX12_indexAt_111 (by decide) ?_
          exact ih_7 _ _ _ ⟨lv_sub hl [0, 1, 3, 4, 5, 6, 7, 8] rfl, B⟩
        · have zc_9 : (nI i_6).toInt < (nI i_1).toInt := znge c_9
          refine lv_iconst (v := 1) hx hb dX12_indexAt_76 (by decide) ?_
          refine lv_goto (tgt := 81) hx hb dX12_indexAt_77 (by decide) ?_
          refine lv_istore (lv' := [(8, .int 1), (7, .int (nI i_6)), (6, .int 0), (5, .int (nI i_1)), (4, .int (-1)), (3, .int 0), (0, .ref mo), (1, .int v), (2, .int x1)]) hx hb dX12_indexAt_81 hl (by decide) rfl (fun ls hl => ?_)
          refine lv_iload hx hb dX12_indexAt_83 (lv_at hl 2 rfl) ?_
          refine lv_iload hx hb dX12_indexAt_85 (lv_at hl 0 rfl) ?_
          refine lv_if_eq (tgt := 104) hx hb dX12_indexAt_87 (by decide) (fun c9 => absurd c9 (by decide)) (fun _ => ?_)
          refine lv_aload_n hx hb dX12_indexAt_90 rfl (lv_at hl 6 rfl) ?_
          refine lv_iload_n hx hb dX12_indexAt_91 rfl (lv_at hl 7 rfl) ?_
          refine lv_iload hx hb dX12_indexAt_92 (lv_at hl 1 rfl) ?_
          refine x_callV (rest := [.int 0]) (wr := [(aKe, .inl (k 0, 8, .inl (fun _ => 0)))]) (m_hasTerm l dC dI k mo V v (nI i_6) h9) B mV_X12_hasTerm mw_2392 hl [0] [1] rfl rfl ⟨by decide, by decide⟩ (by decide) (q0 := 0) rfl rfl rfl ⟨Nat.le_of_ble_eq_true rfl, Nat.le_of_ble_eq_true rfl⟩ (Nat.le_of_ble_eq_true rfl) rfl dX12_indexAt_94 ⟨Nat.le_of_ble_eq_true rfl, Nat.le_of_ble_eq_true rfl⟩ (fun r w H locs hp B => ?_)
          obtain ⟨rfl, rfl⟩ := hp
          have B := bd_to (ws' := [(aKe, .inl (k 0, 8, .inl (fun _ => 0))), (mo, .inr (10, fvM V))]) rfl B
          refine lv_if_eq (tgt := 104) hx hb dX12_indexAt_97 (by decide) (fun _ => ?_) (fun c9 => absurd (by decide) c9)
          refine lv_iconst (v := 0) hx hb dX12_indexAt_104 (by decide) ?_
          refine lv_iadd hx hb dX12_indexAt_105 ?_
          refine lv_seti (y := 0) (by decide) ?_
          refine lv_istore (lv' := [(6, .int 0), (8, .int 1), (7, .int (nI i_6)), (5, .int (nI i_1)), (4, .int (-1)), (3, .int 0), (0, .ref mo), (1, .int v), (2, .int x1)]) hx hb dX12_indexAt_106 hl (by decide) rfl (fun ls hl => ?_)
          refine lv_iinc (v := (nI (i_6 + 1))) (lv' := [(7, .int (nI (i_6 + 1))), (6, .int 0), (8, .int 1), (5, .int (nI i_1)), (4, .int (-1)), (3, .int 0), (0, .ref mo), (1, .int v), (2, .int x1)]) hx hb dX12_indexAt_108 hl (k := 2) rfl (nI_1 _) (by decide) rfl (fun ls hl => ?_)
          refine lv_goto (tgt := 28) hx hb dX12_indexAt_111 (by decide) ?_
          have B := bd_sub (ws' := [(mo, .inr (10, fvM V)), (aKe, .inl (k 0, 8, .inl (fun _ => 0)))]) [1, 0] (by decide) rfl B
          exact ih_7 _ _ _ ⟨lv_sub hl [0, 1, 3, 4, 5, 6, 7, 8] rfl, B⟩
      · obtain ⟨hl, B⟩ := hM
        have hl : lv_has ls 9 [(7, .int 8), (6, .int 0), (5, .int (nI i_1)), (4, .int (-1)), (3, .int 0), (0, .ref mo), (1, .int v), (2, .int x1)] := hl
        refine lv_iload hx hb dX12_indexAt_28 (lv_at hl 0 rfl) ?_
        refine lv_bipush (v := 8) hx hb dX12_indexAt_30 (by decide) ?_
        refine lv_icmp_ge (tgt := 114) hx hb dX12_indexAt_32 (by decide) (fun _ => ?_) (fun c9 => absurd (by decide) c9)
        refine lv_aload_n hx hb dX12_indexAt_114 rfl (lv_at hl 5 rfl) ?_
        refine lv_iload_n hx hb dX12_indexAt_115 rfl (lv_at hl 6 rfl) ?_
        refine lv_iload hx hb dX12_indexAt_116 (lv_at hl 2 rfl) ?_
        refine x_callV (rest := []) (wr := [(aKe, .inl (k 0, 8, .inl (fun _ => 0)))]) (m_hasTerm l dC dI k mo V v (nI i_1) h9) B mV_X12_hasTerm mw_2392 hl [0] [1] rfl rfl ⟨by decide, by decide⟩ (by decide) (q0 := 0) rfl rfl rfl ⟨Nat.le_of_ble_eq_true rfl, Nat.le_of_ble_eq_true rfl⟩ (Nat.le_of_ble_eq_true rfl) rfl dX12_indexAt_118 ⟨Nat.le_of_ble_eq_true rfl, Nat.le_of_ble_eq_true rfl⟩ (fun r w H locs hp B => ?_)
        obtain ⟨rfl, rfl⟩ := hp
        have B := bd_to (ws' := [(aKe, .inl (k 0, 8, .inl (fun _ => 0))), (mo, .inr (10, fvM V))]) rfl B
        refine lv_if_eq (tgt := 135) hx hb dX12_indexAt_121 (by decide) (fun _ => ?_) (fun c9 => absurd (by decide) c9)
        refine lv_iload hx hb dX12_indexAt_135 (lv_at hl 3 rfl) ?_
        refine lv_istore (lv' := [(4, .int (-1)), (7, .int 8), (6, .int 0), (5, .int (nI i_1)), (3, .int 0), (0, .ref mo), (1, .int v), (2, .int x1)]) hx hb dX12_indexAt_137 hl (by decide) rfl (fun ls hl => ?_)
        refine lv_iload_n hx hb dX12_indexAt_139 rfl (lv_at hl 4 rfl) ?_
        refine lv_aload_n hx hb dX12_indexAt_140 rfl (lv_at hl 5 rfl) ?_
        refine lv_iload_n hx hb dX12_indexAt_141 rfl (lv_at hl 6 rfl) ?_
        refine lv_iload hx hb dX12_indexAt_142 (lv_at hl 3 rfl) ?_
        refine x_callV (rest := [.int 0]) (wr := [(aKe, .inl (k 0, 8, .inl (fun _ => 0)))]) (m_hasTerm l dC dI k mo V v (nI i_1) h9) B mV_X12_hasTerm mw_2392 hl [1] [0] rfl rfl ⟨by decide, by decide⟩ (by decide) (q0 := 0) rfl rfl rfl ⟨Nat.le_of_ble_eq_true rfl, Nat.le_of_ble_eq_true rfl⟩ (Nat.le_of_ble_eq_true rfl) rfl dX12_indexAt_144 ⟨Nat.le_of_ble_eq_true rfl, Nat.le_of_ble_eq_true rfl⟩ (fun r w H locs hp B => ?_)
        obtain ⟨rfl, rfl⟩ := hp
        have B := bd_to (ws' := [(aKe, .inl (k 0, 8, .inl (fun _ => 0))), (mo, .inr (10, fvM V))]) rfl B
        refine lv_if_eq (tgt := 154) hx hb dX12_indexAt_147 (by decide) (fun _ => ?_) (fun c9 => absurd (by decide) c9)
        refine lv_iconst (v := 0) hx hb dX12_indexAt_154 (by decide) ?_
        refine lv_iadd hx hb dX12_indexAt_155 ?_
        refine lv_seti (y := 0) (by decide) ?_
        refine lv_istore_n (lv' := [(3, .int 0), (4, .int (-1)), (7, .int 8), (6, .int 0), (5, .int (nI i_1)), (0, .ref mo), (1, .int v), (2, .int x1)]) hx hb dX12_indexAt_156 rfl hl (by decide) rfl (fun ls hl => ?_)
        refine lv_iinc (v := (nI (i_1 + 1))) (lv' := [(5, .int (nI (i_1 + 1))), (3, .int 0), (4, .int (-1)), (7, .int 8), (6, .int 0), (0, .ref mo), (1, .int v), (2, .int x1)]) hx hb dX12_indexAt_157 hl (k := 4) rfl (nI_1 _) (by decide) rfl (fun ls hl => ?_)
        refine lv_goto (tgt := 8) hx hb dX12_indexAt_160 (by decide) ?_
        have B := bd_sub (ws' := [(mo, .inr (10, fvM V)), (aKe, .inl (k 0, 8, .inl (fun _ => 0)))]) [1, 0] (by decide) rfl B
        exact ih_2 _ _ _ ⟨lv_sub hl [0, 2, 1, 5, 6, 7] rfl, B⟩
    · skip
      have B := bd_to (ws' := [(mo, .inr (10, fvM V)), (aKe, .inl (k 0, 8, .inl (fun _ => 0)))]) rfl B
      refine lv_if_eq (tgt := 163) hx hb dX12_indexAt_19 (by decide) (fun _ => ?_) (fun c9 => absurd (by decide) c9)
      refine lv_aload_n hx hb dX12_indexAt_163 rfl (lv_at hl 3 rfl) ?_
      refine lv_iload_n hx hb dX12_indexAt_164 rfl (lv_at hl 5 rfl) ?_
      refine lv_iconst (v := 0) hx hb dX12_indexAt_165 (by decide) ?_
      refine lv_iload_n hx hb dX12_indexAt_166 rfl (lv_at hl 2 rfl) ?_
      refine lv_iconst (v := 1) hx hb dX12_indexAt_167 (by decide) ?_
      refine lv_isub hx hb dX12_indexAt_168 ?_
      refine lv_seti (y := (-1)) (by decide) ?_
      refine x_callS (rest := [.ref mo]) (wr := [(mo, .inr (10, fvM V)), (aKe, .inl (k 0, 8, .inl (fun _ => 0)))]) (m_in_0_n1 l dC dI k x1) B mS_X12_in mw_2152 hl [] [0, 1] rfl rfl ⟨by decide, by decide⟩ (by decide) ⟨Nat.le_of_ble_eq_true rfl, Nat.le_of_ble_eq_true rfl⟩ (Nat.le_of_ble_eq_true rfl) rfl dX12_indexAt_169 ⟨Nat.le_of_ble_eq_true rfl, Nat.le_of_ble_eq_true rfl⟩ (fun r w H locs hp B => ?_)
      rcases hp with ⟨z_10, rfl, rfl⟩ | ⟨z_11, rfl, rfl⟩
      · skip
        exfalso; first | omega | exact absurd z_10 (by decide)
      · skip
        have B := bd_to (ws' := [(mo, .inr (10, fvM V)), (aKe, .inl (k 0, 8, .inl (fun _ => 0)))]) rfl B
        refine lv_if_eq (tgt := 179) hx hb dX12_indexAt_172 (by decide) (fun _ => ?_) (fun c9 => absurd (by decide) c9)
        refine lv_iconst (v := 1) hx hb dX12_indexAt_179 (by decide) ?_
        refine x_callV (rest := []) (wr := [(aKe, .inl (k 0, 8, .inl (fun _ => 0)))]) (m_refused1 l dC dI k mo V) B mV_X12_refused mw_2155 hl [0] [1] rfl rfl ⟨by decide, by decide⟩ (by decide) (q0 := 0) rfl rfl rfl ⟨Nat.le_of_ble_eq_true rfl, Nat.le_of_ble_eq_true rfl⟩ (Nat.le_of_ble_eq_true rfl) rfl dX12_indexAt_180 ⟨Nat.le_of_ble_eq_true rfl, Nat.le_of_ble_eq_true rfl⟩ (fun r w H locs hp B => ?_)
        obtain ⟨V1_12, z_13, z_14, rfl, rfl⟩ := hp
        have B := bd_to (ws' := [(aKe, .inl (k 0, 8, .inl (fun _ => 0))), (mo, .inr (10, fvM V1_12))]) rfl B
        refine lv_if_eq (tgt := 190) hx hb dX12_indexAt_183 (by decide) (fun c9 => absurd c9 (by decide)) (fun _ => ?_)
        refine lv_iconst (v := 0) hx hb dX12_indexAt_186 (by decide) ?_
        refine lv_goto (tgt := 192) hx hb dX12_indexAt_187 (by decide) ?_
        have B := bd_sub (ws' := [(mo, .inr (10, fvM V1_12))]) [1] (by decide) rfl B
        exact x_iret B hr (⟨V1_12, z_14, rfl, rfl⟩) (Nat.le_of_ble_eq_true rfl) (Nat.le_of_ble_eq_true rfl) dX12_indexAt_192
  · obtain ⟨hl, B⟩ := hM
    have hl : lv_has ls 9 [(5, .int 8), (4, .int (-1)), (3, .int 0), (0, .ref mo), (1, .int v), (2, .int x1)] := hl
    refine lv_iload hx hb dX12_indexAt_8 (lv_at hl 0 rfl) ?_
    refine lv_bipush (v := 8) hx hb dX12_indexAt_10 (by decide) ?_
    refine lv_icmp_ge (tgt := 163) hx hb dX12_indexAt_12 (by decide) (fun _ => ?_) (fun c9 => absurd (by decide) c9)
    refine lv_aload_n hx hb dX12_indexAt_163 rfl (lv_at hl 3 rfl) ?_
    refine lv_iload_n hx hb dX12_indexAt_164 rfl (lv_at hl 5 rfl) ?_
    refine lv_iconst (v := 0) hx hb dX12_indexAt_165 (by decide) ?_
    refine lv_iload_n hx hb dX12_indexAt_166 rfl (lv_at hl 2 rfl) ?_
    refine lv_iconst (v := 1) hx hb dX12_indexAt_167 (by decide) ?_
    refine lv_isub hx hb dX12_indexAt_168 ?_
    refine lv_seti (y := (-1)) (by decide) ?_
    refine x_callS (rest := [.ref mo]) (wr := [(mo, .inr (10, fvM V)), (aKe, .inl (k 0, 8, .inl (fun _ => 0)))]) (m_in_0_n1 l dC dI k x1) B mS_X12_in mw_2152 hl [] [0, 1] rfl rfl ⟨by decide, by decide⟩ (by decide) ⟨Nat.le_of_ble_eq_true rfl, Nat.le_of_ble_eq_true rfl⟩ (Nat.le_of_ble_eq_true rfl) rfl dX12_indexAt_169 ⟨Nat.le_of_ble_eq_true rfl, Nat.le_of_ble_eq_true rfl⟩ (fun r w H locs hp B => ?_)
    rcases hp with ⟨z_15, rfl, rfl⟩ | ⟨z_16, rfl, rfl⟩
    · skip
      exfalso; first | omega | exact absurd z_15 (by decide)
    · skip
      have B := bd_to (ws' := [(mo, .inr (10, fvM V)), (aKe, .inl (k 0, 8, .inl (fun _ => 0)))]) rfl B
      refine lv_if_eq (tgt := 179) hx hb dX12_indexAt_172 (by decide) (fun _ => ?_) (fun c9 => absurd (by decide) c9)
      refine lv_iconst (v := 1) hx hb dX12_indexAt_179 (by decide) ?_
      refine x_callV (rest := []) (wr := [(aKe, .inl (k 0, 8, .inl (fun _ => 0)))]) (m_refused1 l dC dI k mo V) B mV_X12_refused mw_2155 hl [0] [1] rfl rfl ⟨by decide, by decide⟩ (by decide) (q0 := 0) rfl rfl rfl ⟨Nat.le_of_ble_eq_true rfl, Nat.le_of_ble_eq_true rfl⟩ (Nat.le_of_ble_eq_true rfl) rfl dX12_indexAt_180 ⟨Nat.le_of_ble_eq_true rfl, Nat.le_of_ble_eq_true rfl⟩ (fun r w H locs hp B => ?_)
      obtain ⟨V1_17, z_18, z_19, rfl, rfl⟩ := hp
      have B := bd_to (ws' := [(aKe, .inl (k 0, 8, .inl (fun _ => 0))), (mo, .inr (10, fvM V1_17))]) rfl B
      refine lv_if_eq (tgt := 190) hx hb dX12_indexAt_183 (by decide) (fun c9 => absurd c9 (by decide)) (fun _ => ?_)
      refine lv_iconst (v := 0) hx hb dX12_indexAt_186 (by decide) ?_
      refine lv_goto (tgt := 192) hx hb dX12_indexAt_187 (by decide) ?_
      have B := bd_sub (ws' := [(mo, .inr (10, fvM V1_17))]) [1] (by decide) rfl B
      exact x_iret B hr (⟨V1_17, z_19, rfl, rfl⟩) (Nat.le_of_ble_eq_true rfl) (Nat.le_of_ble_eq_true rfl) dX12_indexAt_192

theorem dX12_range_0 : decode cX12_range 0 = .ok (.iload_n 1, 1) := by decide +kernel
theorem dX12_range_1 : decode cX12_range 1 = .ok (.invokestatic 292, 3) := by decide +kernel
theorem dX12_range_4 : decode cX12_range 4 = .ok (.ifCond .eq 17, 3) := by decide +kernel
theorem dX12_range_7 : decode cX12_range 7 = .ok (.iload_n 2, 1) := by decide +kernel
theorem dX12_range_8 : decode cX12_range 8 = .ok (.iconst 0, 1) := by decide +kernel
theorem dX12_range_9 : decode cX12_range 9 = .ok (.bipush 7, 2) := by decide +kernel
theorem dX12_range_11 : decode cX12_range 11 = .ok (.invokestatic 229, 3) := by decide +kernel
theorem dX12_range_14 : decode cX12_range 14 = .ok (.ifCond .eq 7, 3) := by decide +kernel
theorem dX12_range_17 : decode cX12_range 17 = .ok (.iconst 1, 1) := by decide +kernel
theorem dX12_range_18 : decode cX12_range 18 = .ok (.goto 4, 3) := by decide +kernel
theorem dX12_range_21 : decode cX12_range 21 = .ok (.iconst 0, 1) := by decide +kernel
theorem dX12_range_22 : decode cX12_range 22 = .ok (.istore 4, 2) := by decide +kernel
theorem dX12_range_24 : decode cX12_range 24 = .ok (.aload_n 0, 1) := by decide +kernel
theorem dX12_range_25 : decode cX12_range 25 = .ok (.iload 4, 2) := by decide +kernel
theorem dX12_range_27 : decode cX12_range 27 = .ok (.ifCond .eq 7, 3) := by decide +kernel
theorem dX12_range_30 : decode cX12_range 30 = .ok (.iconst 0, 1) := by decide +kernel
theorem dX12_range_31 : decode cX12_range 31 = .ok (.goto 4, 3) := by decide +kernel
theorem dX12_range_34 : decode cX12_range 34 = .ok (.iconst 1, 1) := by decide +kernel
theorem dX12_range_35 : decode cX12_range 35 = .ok (.invokevirtual 240, 3) := by decide +kernel
theorem dX12_range_38 : decode cX12_range 38 = .ok (.ifCond .eq 5, 3) := by decide +kernel
theorem dX12_range_41 : decode cX12_range 41 = .ok (.iconst 0, 1) := by decide +kernel
theorem dX12_range_42 : decode cX12_range 42 = .ok (.ireturn, 1) := by decide +kernel
theorem dX12_range_43 : decode cX12_range 43 = .ok (.aload_n 0, 1) := by decide +kernel
theorem dX12_range_44 : decode cX12_range 44 = .ok (.iload_n 1, 1) := by decide +kernel
theorem dX12_range_45 : decode cX12_range 45 = .ok (.invokevirtual 508, 3) := by decide +kernel
theorem dX12_range_48 : decode cX12_range 48 = .ok (.iconst 0, 1) := by decide +kernel
theorem dX12_range_49 : decode cX12_range 49 = .ok (.istore 5, 2) := by decide +kernel
theorem dX12_range_51 : decode cX12_range 51 = .ok (.iconst (-1), 1) := by decide +kernel
theorem dX12_range_52 : decode cX12_range 52 = .ok (.istore 6, 2) := by decide +kernel
theorem dX12_range_54 : decode cX12_range 54 = .ok (.iconst (-1), 1) := by decide +kernel
theorem dX12_range_55 : decode cX12_range 55 = .ok (.istore 7, 2) := by decide +kernel
theorem dX12_range_57 : decode cX12_range 57 = .ok (.iconst 0, 1) := by decide +kernel
theorem dX12_range_58 : decode cX12_range 58 = .ok (.istore 8, 2) := by decide +kernel
theorem dX12_range_60 : decode cX12_range 60 = .ok (.iconst 1, 1) := by decide +kernel
theorem dX12_range_61 : decode cX12_range 61 = .ok (.istore 9, 2) := by decide +kernel
theorem dX12_range_63 : decode cX12_range 63 = .ok (.iload 9, 2) := by decide +kernel
theorem dX12_range_65 : decode cX12_range 65 = .ok (.aload_n 0, 1) := by decide +kernel
theorem dX12_range_66 : decode cX12_range 66 = .ok (.getfield 457, 3) := by decide +kernel
theorem dX12_range_69 : decode cX12_range 69 = .ok (.if_icmp .gt 92, 3) := by decide +kernel
theorem dX12_range_161 : decode cX12_range 161 = .ok (.aload_n 0, 1) := by decide +kernel
theorem dX12_range_162 : decode cX12_range 162 = .ok (.iload_n 3, 1) := by decide +kernel
theorem dX12_range_163 : decode cX12_range 163 = .ok (.ifCond .lt 13, 3) := by decide +kernel
theorem dX12_range_166 : decode cX12_range 166 = .ok (.iload 6, 2) := by decide +kernel
theorem dX12_range_168 : decode cX12_range 168 = .ok (.iconst (-1), 1) := by decide +kernel
theorem dX12_range_169 : decode cX12_range 169 = .ok (.if_icmp .eq 7, 3) := by decide +kernel
theorem dX12_range_176 : decode cX12_range 176 = .ok (.iconst 1, 1) := by decide +kernel
theorem dX12_range_177 : decode cX12_range 177 = .ok (.invokevirtual 240, 3) := by decide +kernel
theorem dX12_range_180 : decode cX12_range 180 = .ok (.ifCond .eq 7, 3) := by decide +kernel
theorem dX12_range_183 : decode cX12_range 183 = .ok (.iconst 0, 1) := by decide +kernel
theorem dX12_range_184 : decode cX12_range 184 = .ok (.goto 12, 3) := by decide +kernel
theorem dX12_range_196 : decode cX12_range 196 = .ok (.ireturn, 1) := by decide +kernel
set_option maxHeartbeats 4000000 in
set_option maxRecDepth 100000 in
theorem m_range (l : Launch) (dC : Nat → ClassId) (dI : Nat → Nat → Nat) (k : Nat → ClassId) (mo : Nat) (V : Nat → Value) (aDg : Nat) (aRn : Nat) (aSo : Nat) (aHi : Nat) (aNr : Nat) (aNw : Nat) (aNl : Nat) (aNc : Nat) (aNp : Nat) (aNq : Nat) (aNs : Nat) (aNn : Nat) (v : Int32) (x1 : Int32) (x2 : Int32) (h9 : V 9 = .int 0) (h21 : V 21 = .int 0) (h47 : V 47 = .ref aDg) (h77 : V 77 = .ref aRn) (h80 : V 80 = .int (-1)) (h90 : V 90 = .ref aSo) (h92 : V 92 = .ref aHi) (h69 : V 69 = .ref aNr) (h70 : V 70 = .ref aNw) (h71 : V 71 = .ref aNl) (h72 : V 72 = .ref aNc) (h73 : V 73 = .ref aNp) (h74 : V 74 = .ref aNq) (h75 : V 75 = .ref aNs) (h76 : V 76 = .ref aNn) : Ct l dC dI k yX12_range (.code yX12_range cX12_range 11 (some .int)) ({ frames := 5, cells := 0, slots := 0, locals := 125 } : Room) [.ref mo, .int v, .int x1, .int x2] [(mo, .inr (10, fvM V)), (aNr, .inl (k 0, 16000, .inl (fun _ => 0))), (aNw, .inl (k 0, 16000, .inl (fun _ => 0))), (aNl, .inl (k 0, 16000, .inl (fun _ => 0))), (aNc, .inl (k 0, 16000, .inl (fun _ => 0))), (aNp, .inl (k 0, 16000, .inl (fun _ => 0))), (aNq, .inl (k 0, 16000, .inl (fun _ => 0))), (aNs, .inl (k 0, 16000, .inl (fun _ => 0))), (aNn, .inl (k 0, 16000, .inl (fun _ => 0))), (aRn, .inl (k 0, 769, .inl (fun _ => 0))), (aSo, .inl (k 0, 5, .inl (fun _ => 0))), (aDg, .inl (k 0, 6, .inl (fun _ => 0))), (aHi, .inl (k 0, 800, .inl (fun _ => 0)))] (fun r w => (∃ (V1 : Nat → Value), V1 0 = .int 1 ∧ r = some (.int 0) ∧ w = [(mo, .inr (10, fvM V1))])) := by
  refine ct_of (by decide) (Nat.le_of_ble_eq_true rfl) ?_
  intro p e s m args below meth c H locs B hr hnm ls hl
  have hx := B.1.1
  have hb := B.1.2.1
  have hl : lv_has ls 11 [(0, .ref mo), (1, .int v), (2, .int x1), (3, .int x2)] := hl
  refine lv_iload_n hx hb dX12_range_0 rfl (lv_at hl 1 rfl) ?_
  refine x_callS (rest := []) (wr := [(mo, .inr (10, fvM V)), (aNr, .inl (k 0, 16000, .inl (fun _ => 0))), (aNw, .inl (k 0, 16000, .inl (fun _ => 0))), (aNl, .inl (k 0, 16000, .inl (fun _ => 0))), (aNc, .inl (k 0, 16000, .inl (fun _ => 0))), (aNp, .inl (k 0, 16000, .inl (fun _ => 0))), (aNq, .inl (k 0, 16000, .inl (fun _ => 0))), (aNs, .inl (k 0, 16000, .inl (fun _ => 0))), (aNn, .inl (k 0, 16000, .inl (fun _ => 0))), (aRn, .inl (k 0, 769, .inl (fun _ => 0))), (aSo, .inl (k 0, 5, .inl (fun _ => 0))), (aDg, .inl (k 0, 6, .inl (fun _ => 0))), (aHi, .inl (k 0, 800, .inl (fun _ => 0)))]) (m_isVariant l dC dI k v) B mS_X12_isVariant mw_2271 hl [] [0, 1, 2, 3, 4, 5, 6, 7, 8, 9, 10, 11, 12] rfl rfl ⟨by decide, by decide⟩ (by decide) ⟨Nat.le_of_ble_eq_true rfl, Nat.le_of_ble_eq_true rfl⟩ (Nat.le_of_ble_eq_true rfl) rfl dX12_range_1 ⟨Nat.le_of_ble_eq_true rfl, Nat.le_of_ble_eq_true rfl⟩ (fun r w H locs hp B => ?_)
  rcases hp with ⟨z_1, rfl, rfl⟩ | ⟨z_2, rfl, rfl⟩
  · skip
    have B := bd_to (ws' := [(mo, .inr (10, fvM V)), (aNr, .inl (k 0, 16000, .inl (fun _ => 0))), (aNw, .inl (k 0, 16000, .inl (fun _ => 0))), (aNl, .inl (k 0, 16000, .inl (fun _ => 0))), (aNc, .inl (k 0, 16000, .inl (fun _ => 0))), (aNp, .inl (k 0, 16000, .inl (fun _ => 0))), (aNq, .inl (k 0, 16000, .inl (fun _ => 0))), (aNs, .inl (k 0, 16000, .inl (fun _ => 0))), (aNn, .inl (k 0, 16000, .inl (fun _ => 0))), (aRn, .inl (k 0, 769, .inl (fun _ => 0))), (aSo, .inl (k 0, 5, .inl (fun _ => 0))), (aDg, .inl (k 0, 6, .inl (fun _ => 0))), (aHi, .inl (k 0, 800, .inl (fun _ => 0)))]) rfl B
    refine lv_if_eq (tgt := 21) hx hb dX12_range_4 (by decide) (fun c9 => absurd c9 (by decide)) (fun _ => ?_)
    refine lv_iload_n hx hb dX12_range_7 rfl (lv_at hl 2 rfl) ?_
    refine lv_iconst (v := 0) hx hb dX12_range_8 (by decide) ?_
    refine lv_bipush (v := 7) hx hb dX12_range_9 (by decide) ?_
    refine x_callS (rest := []) (wr := [(mo, .inr (10, fvM V)), (aNr, .inl (k 0, 16000, .inl (fun _ => 0))), (aNw, .inl (k 0, 16000, .inl (fun _ => 0))), (aNl, .inl (k 0, 16000, .inl (fun _ => 0))), (aNc, .inl (k 0, 16000, .inl (fun _ => 0))), (aNp, .inl (k 0, 16000, .inl (fun _ => 0))), (aNq, .inl (k 0, 16000, .inl (fun _ => 0))), (aNs, .inl (k 0, 16000, .inl (fun _ => 0))), (aNn, .inl (k 0, 16000, .inl (fun _ => 0))), (aRn, .inl (k 0, 769, .inl (fun _ => 0))), (aSo, .inl (k 0, 5, .inl (fun _ => 0))), (aDg, .inl (k 0, 6, .inl (fun _ => 0))), (aHi, .inl (k 0, 800, .inl (fun _ => 0)))]) (m_in_0_7 l dC dI k x1) B mS_X12_in mw_2152 hl [] [0, 1, 2, 3, 4, 5, 6, 7, 8, 9, 10, 11, 12] rfl rfl ⟨by decide, by decide⟩ (by decide) ⟨Nat.le_of_ble_eq_true rfl, Nat.le_of_ble_eq_true rfl⟩ (Nat.le_of_ble_eq_true rfl) rfl dX12_range_11 ⟨Nat.le_of_ble_eq_true rfl, Nat.le_of_ble_eq_true rfl⟩ (fun r w H locs hp B => ?_)
    rcases hp with ⟨z_3, rfl, rfl⟩ | ⟨z_4, rfl, rfl⟩
    · skip
      have B := bd_to (ws' := [(mo, .inr (10, fvM V)), (aNr, .inl (k 0, 16000, .inl (fun _ => 0))), (aNw, .inl (k 0, 16000, .inl (fun _ => 0))), (aNl, .inl (k 0, 16000, .inl (fun _ => 0))), (aNc, .inl (k 0, 16000, .inl (fun _ => 0))), (aNp, .inl (k 0, 16000, .inl (fun _ => 0))), (aNq, .inl (k 0, 16000, .inl (fun _ => 0))), (aNs, .inl (k 0, 16000, .inl (fun _ => 0))), (aNn, .inl (k 0, 16000, .inl (fun _ => 0))), (aRn, .inl (k 0, 769, .inl (fun _ => 0))), (aSo, .inl (k 0, 5, .inl (fun _ => 0))), (aDg, .inl (k 0, 6, .inl (fun _ => 0))), (aHi, .inl (k 0, 800, .inl (fun _ => 0)))]) rfl B
      refine lv_if_eq (tgt := 21) hx hb dX12_range_14 (by decide) (fun c9 => absurd c9 (by decide)) (fun _ => ?_)
      refine lv_iconst (v := 1) hx hb dX12_range_17 (by decide) ?_
      refine lv_goto (tgt := 22) hx hb dX12_range_18 (by decide) ?_
      refine lv_istore (lv' := [(4, .int 1), (0, .ref mo), (1, .int v), (2, .int x1), (3, .int x2)]) hx hb dX12_range_22 hl (by decide) rfl (fun ls hl => ?_)
      refine lv_aload_n hx hb dX12_range_24 rfl (lv_at hl 1 rfl) ?_
      refine lv_iload hx hb dX12_range_25 (lv_at hl 0 rfl) ?_
      refine lv_if_eq (tgt := 34) hx hb dX12_range_27 (by decide) (fun c9 => absurd c9 (by decide)) (fun _ => ?_)
      refine lv_iconst (v := 0) hx hb dX12_range_30 (by decide) ?_
      refine lv_goto (tgt := 35) hx hb dX12_range_31 (by decide) ?_
      refine x_callV (rest := []) (wr := [(aNr, .inl (k 0, 16000, .inl (fun _ => 0))), (aNw, .inl (k 0, 16000, .inl (fun _ => 0))), (aNl, .inl (k 0, 16000, .inl (fun _ => 0))), (aNc, .inl (k 0, 16000, .inl (fun _ => 0))), (aNp, .inl (k 0, 16000, .inl (fun _ => 0))), (aNq, .inl (k 0, 16000, .inl (fun _ => 0))), (aNs, .inl (k 0, 16000, .inl (fun _ => 0))), (aNn, .inl (k 0, 16000, .inl (fun _ => 0))), (aRn, .inl (k 0, 769, .inl (fun _ => 0))), (aSo, .inl (k 0, 5, .inl (fun _ => 0))), (aDg, .inl (k 0, 6, .inl (fun _ => 0))), (aHi, .inl (k 0, 800, .inl (fun _ => 0)))]) (m_refused0 l dC dI k mo V) B mV_X12_refused mw_2155 hl [0] [1, 2, 3, 4, 5, 6, 7, 8, 9, 10, 11, 12] rfl rfl ⟨by decide, by decide⟩ (by decide) (q0 := 0) rfl rfl rfl ⟨Nat.le_of_ble_eq_true rfl, Nat.le_of_ble_eq_true rfl⟩ (Nat.le_of_ble_eq_true rfl) rfl dX12_range_35 ⟨Nat.le_of_ble_eq_true rfl, Nat.le_of_ble_eq_true rfl⟩ (fun r w H locs hp B => ?_)
      obtain ⟨V1_5, z_6, z_7, rfl, rfl⟩ := hp
      have B := bd_to (ws' := [(aNr, .inl (k 0, 16000, .inl (fun _ => 0))), (aNw, .inl (k 0, 16000, .inl (fun _ => 0))), (aNl, .inl (k 0, 16000, .inl (fun _ => 0))), (aNc, .inl (k 0, 16000, .inl (fun _ => 0))), (aNp, .inl (k 0, 16000, .inl (fun _ => 0))), (aNq, .inl (k 0, 16000, .inl (fun _ => 0))), (aNs, .inl (k 0, 16000, .inl (fun _ => 0))), (aNn, .inl (k 0, 16000, .inl (fun _ => 0))), (aRn, .inl (k 0, 769, .inl (fun _ => 0))), (aSo, .inl (k 0, 5, .inl (fun _ => 0))), (aDg, .inl (k 0, 6, .inl (fun _ => 0))), (aHi, .inl (k 0, 800, .inl (fun _ => 0))), (mo, .inr (10, fvM V1_5))]) rfl B
      refine lv_if_eq (tgt := 43) hx hb dX12_range_38 (by decide) (fun _ => ?_) (fun c9 => absurd (by decide) c9)
      refine lv_aload_n hx hb dX12_range_43 rfl (lv_at hl 1 rfl) ?_
      refine lv_iload_n hx hb dX12_range_44 rfl (lv_at hl 2 rfl) ?_
      refine x_callV (rest := []) (wr := []) (m_lay l dC dI k mo V1_5 aDg aRn aSo aHi aNr aNw aNl aNc aNp aNq aNs aNn v ((z_6 9 (by decide)).trans h9) ((z_6 21 (by decide)).trans h21) ((z_6 47 (by decide)).trans h47) ((z_6 77 (by decide)).trans h77) ((z_6 80 (by decide)).trans h80) ((z_6 90 (by decide)).trans h90) ((z_6 92 (by decide)).trans h92) ((z_6 69 (by decide)).trans h69) ((z_6 70 (by decide)).trans h70) ((z_6 71 (by decide)).trans h71) ((z_6 72 (by decide)).trans h72) ((z_6 73 (by decide)).trans h73) ((z_6 74 (by decide)).trans h74) ((z_6 75 (by decide)).trans h75) ((z_6 76 (by decide)).trans h76) (by first | omega | decide)) B mV_X12_lay mw_2329 hl [12, 0, 1, 2, 3, 4, 5, 6, 7, 8, 9, 10, 11] [] rfl rfl ⟨by decide, by decide⟩ (by decide) (q0 := 0) rfl rfl rfl ⟨Nat.le_of_ble_eq_true rfl, Nat.le_of_ble_eq_true rfl⟩ (Nat.le_of_ble_eq_true rfl) rfl dX12_range_45 ⟨Nat.le_of_ble_eq_true rfl, Nat.le_of_ble_eq_true rfl⟩ (fun r w H locs hp B => ?_)
      obtain ⟨V1_8, z_9, z_10, z_11, z_12, z_13, rfl, rfl⟩ := hp
      have B := bd_to (ws' := [(mo, .inr (10, fvM V1_8))]) rfl B
      refine lv_iconst (v := 0) hx hb dX12_range_48 (by decide) ?_
      refine lv_istore (lv' := [(5, .int 0), (4, .int 1), (0, .ref mo), (1, .int v), (2, .int x1), (3, .int x2)]) hx hb dX12_range_49 hl (by decide) rfl (fun ls hl => ?_)
      refine lv_iconst (v := (-1)) hx hb dX12_range_51 (by decide) ?_
      refine lv_istore (lv' := [(6, .int (-1)), (5, .int 0), (4, .int 1), (0, .ref mo), (1, .int v), (2, .int x1), (3, .int x2)]) hx hb dX12_range_52 hl (by decide) rfl (fun ls hl => ?_)
      refine lv_iconst (v := (-1)) hx hb dX12_range_54 (by decide) ?_
      refine lv_istore (lv' := [(7, .int (-1)), (6, .int (-1)), (5, .int 0), (4, .int 1), (0, .ref mo), (1, .int v), (2, .int x1), (3, .int x2)]) hx hb dX12_range_55 hl (by decide) rfl (fun ls hl => ?_)
      refine lv_iconst (v := 0) hx hb dX12_range_57 (by decide) ?_
      refine lv_istore (lv' := [(8, .int 0), (7, .int (-1)), (6, .int (-1)), (5, .int 0), (4, .int 1), (0, .ref mo), (1, .int v), (2, .int x1), (3, .int x2)]) hx hb dX12_range_58 hl (by decide) rfl (fun ls hl => ?_)
      refine lv_iconst (v := 1) hx hb dX12_range_60 (by decide) ?_
      refine lv_istore (lv' := [(9, .int 1), (8, .int 0), (7, .int (-1)), (6, .int (-1)), (5, .int 0), (4, .int 1), (0, .ref mo), (1, .int v), (2, .int x1), (3, .int x2)]) hx hb dX12_range_61 hl (by decide) rfl (fun ls hl => ?_)
      refine lv_iload hx hb dX12_range_63 (lv_at hl 0 rfl) ?_
      refine lv_aload_n hx hb dX12_range_65 rfl (lv_at hl 6 rfl) ?_
      refine x_get (ci := 10) (C := RX12) (T := TX12) (N := 93) (v := .int 0) B 0 rfl rfl in_X12 83 (by decide) mw_1947 (fun _ h9 => h9) (fvM_get (by decide) z_12) dX12_range_66 ?_
      refine lv_icmp_gt (tgt := 161) hx hb dX12_range_69 (by decide) (fun _ => ?_) (fun c9 => absurd (by decide) c9)
      refine lv_aload_n hx hb dX12_range_161 rfl (lv_at hl 6 rfl) ?_
      refine lv_iload_n hx hb dX12_range_162 rfl (lv_at hl 9 rfl) ?_
      refine lv_if_lt (tgt := 176) hx hb dX12_range_163 (by decide) (fun c_14 => ?_) (fun c_14 => ?_)
      · have zc_14 : x2.toInt < 0 := zlt c_14
        refine lv_iconst (v := 1) hx hb dX12_range_176 (by decide) ?_
        refine x_callV (rest := []) (wr := []) (m_refused1 l dC dI k mo V1_8) B mV_X12_refused mw_2155 hl [0] [] rfl rfl ⟨by decide, by decide⟩ (by decide) (q0 := 0) rfl rfl rfl ⟨Nat.le_of_ble_eq_true rfl, Nat.le_of_ble_eq_true rfl⟩ (Nat.le_of_ble_eq_true rfl) rfl dX12_range_177 ⟨Nat.le_of_ble_eq_true rfl, Nat.le_of_ble_eq_true rfl⟩ (fun r w H locs hp B => ?_)
        obtain ⟨V1_15, z_16, z_17, rfl, rfl⟩ := hp
        have B := bd_to (ws' := [(mo, .inr (10, fvM V1_15))]) rfl B
        refine lv_if_eq (tgt := 187) hx hb dX12_range_180 (by decide) (fun c9 => absurd c9 (by decide)) (fun _ => ?_)
        refine lv_iconst (v := 0) hx hb dX12_range_183 (by decide) ?_
        refine lv_goto (tgt := 196) hx hb dX12_range_184 (by decide) ?_
        have B := bd_sub (ws' := [(mo, .inr (10, fvM V1_15))]) [0] (by decide) rfl B
        exact x_iret B hr (⟨V1_15, z_17, rfl, rfl⟩) (Nat.le_of_ble_eq_true rfl) (Nat.le_of_ble_eq_true rfl) dX12_range_196
      · have zc_14 : 0 ≤ x2.toInt := znlt c_14
        refine lv_iload hx hb dX12_range_166 (lv_at hl 3 rfl) ?_
        refine lv_iconst (v := (-1)) hx hb dX12_range_168 (by decide) ?_
        refine lv_icmp_eq (tgt := 176) hx hb dX12_range_169 (by decide) (fun _ => ?_) (fun c9 => absurd (by decide) c9)
        refine lv_iconst (v := 1) hx hb dX12_range_176 (by decide) ?_
        refine x_callV (rest := []) (wr := []) (m_refused1 l dC dI k mo V1_8) B mV_X12_refused mw_2155 hl [0] [] rfl rfl ⟨by decide, by decide⟩ (by decide) (q0 := 0) rfl rfl rfl ⟨Nat.le_of_ble_eq_true rfl, Nat.le_of_ble_eq_true rfl⟩ (Nat.le_of_ble_eq_true rfl) rfl dX12_range_177 ⟨Nat.le_of_ble_eq_true rfl, Nat.le_of_ble_eq_true rfl⟩ (fun r w H locs hp B => ?_)
        obtain ⟨V1_18, z_19, z_20, rfl, rfl⟩ := hp
        have B := bd_to (ws' := [(mo, .inr (10, fvM V1_18))]) rfl B
        refine lv_if_eq (tgt := 187) hx hb dX12_range_180 (by decide) (fun c9 => absurd c9 (by decide)) (fun _ => ?_)
        refine lv_iconst (v := 0) hx hb dX12_range_183 (by decide) ?_
        refine lv_goto (tgt := 196) hx hb dX12_range_184 (by decide) ?_
        have B := bd_sub (ws' := [(mo, .inr (10, fvM V1_18))]) [0] (by decide) rfl B
        exact x_iret B hr (⟨V1_18, z_20, rfl, rfl⟩) (Nat.le_of_ble_eq_true rfl) (Nat.le_of_ble_eq_true rfl) dX12_range_196
    · skip
      have B := bd_to (ws' := [(mo, .inr (10, fvM V)), (aNr, .inl (k 0, 16000, .inl (fun _ => 0))), (aNw, .inl (k 0, 16000, .inl (fun _ => 0))), (aNl, .inl (k 0, 16000, .inl (fun _ => 0))), (aNc, .inl (k 0, 16000, .inl (fun _ => 0))), (aNp, .inl (k 0, 16000, .inl (fun _ => 0))), (aNq, .inl (k 0, 16000, .inl (fun _ => 0))), (aNs, .inl (k 0, 16000, .inl (fun _ => 0))), (aNn, .inl (k 0, 16000, .inl (fun _ => 0))), (aRn, .inl (k 0, 769, .inl (fun _ => 0))), (aSo, .inl (k 0, 5, .inl (fun _ => 0))), (aDg, .inl (k 0, 6, .inl (fun _ => 0))), (aHi, .inl (k 0, 800, .inl (fun _ => 0)))]) rfl B
      refine lv_if_eq (tgt := 21) hx hb dX12_range_14 (by decide) (fun _ => ?_) (fun c9 => absurd (by decide) c9)
      refine lv_iconst (v := 0) hx hb dX12_range_21 (by decide) ?_
      refine lv_istore (lv' := [(4, .int 0), (0, .ref mo), (1, .int v), (2, .int x1), (3, .int x2)]) hx hb dX12_range_22 hl (by decide) rfl (fun ls hl => ?_)
      refine lv_aload_n hx hb dX12_range_24 rfl (lv_at hl 1 rfl) ?_
      refine lv_iload hx hb dX12_range_25 (lv_at hl 0 rfl) ?_
      refine lv_if_eq (tgt := 34) hx hb dX12_range_27 (by decide) (fun _ => ?_) (fun c9 => absurd (by decide) c9)
      refine lv_iconst (v := 1) hx hb dX12_range_34 (by decide) ?_
      refine x_callV (rest := []) (wr := [(aNr, .inl (k 0, 16000, .inl (fun _ => 0))), (aNw, .inl (k 0, 16000, .inl (fun _ => 0))), (aNl, .inl (k 0, 16000, .inl (fun _ => 0))), (aNc, .inl (k 0, 16000, .inl (fun _ => 0))), (aNp, .inl (k 0, 16000, .inl (fun _ => 0))), (aNq, .inl (k 0, 16000, .inl (fun _ => 0))), (aNs, .inl (k 0, 16000, .inl (fun _ => 0))), (aNn, .inl (k 0, 16000, .inl (fun _ => 0))), (aRn, .inl (k 0, 769, .inl (fun _ => 0))), (aSo, .inl (k 0, 5, .inl (fun _ => 0))), (aDg, .inl (k 0, 6, .inl (fun _ => 0))), (aHi, .inl (k 0, 800, .inl (fun _ => 0)))]) (m_refused1 l dC dI k mo V) B mV_X12_refused mw_2155 hl [0] [1, 2, 3, 4, 5, 6, 7, 8, 9, 10, 11, 12] rfl rfl ⟨by decide, by decide⟩ (by decide) (q0 := 0) rfl rfl rfl ⟨Nat.le_of_ble_eq_true rfl, Nat.le_of_ble_eq_true rfl⟩ (Nat.le_of_ble_eq_true rfl) rfl dX12_range_35 ⟨Nat.le_of_ble_eq_true rfl, Nat.le_of_ble_eq_true rfl⟩ (fun r w H locs hp B => ?_)
      obtain ⟨V1_21, z_22, z_23, rfl, rfl⟩ := hp
      have B := bd_to (ws' := [(aNr, .inl (k 0, 16000, .inl (fun _ => 0))), (aNw, .inl (k 0, 16000, .inl (fun _ => 0))), (aNl, .inl (k 0, 16000, .inl (fun _ => 0))), (aNc, .inl (k 0, 16000, .inl (fun _ => 0))), (aNp, .inl (k 0, 16000, .inl (fun _ => 0))), (aNq, .inl (k 0, 16000, .inl (fun _ => 0))), (aNs, .inl (k 0, 16000, .inl (fun _ => 0))), (aNn, .inl (k 0, 16000, .inl (fun _ => 0))), (aRn, .inl (k 0, 769, .inl (fun _ => 0))), (aSo, .inl (k 0, 5, .inl (fun _ => 0))), (aDg, .inl (k 0, 6, .inl (fun _ => 0))), (aHi, .inl (k 0, 800, .inl (fun _ => 0))), (mo, .inr (10, fvM V1_21))]) rfl B
      refine lv_if_eq (tgt := 43) hx hb dX12_range_38 (by decide) (fun c9 => absurd c9 (by decide)) (fun _ => ?_)
      refine lv_iconst (v := 0) hx hb dX12_range_41 (by decide) ?_
      have B := bd_sub (ws' := [(mo, .inr (10, fvM V1_21))]) [12] (by decide) rfl B
      exact x_iret B hr (⟨V1_21, z_23, rfl, rfl⟩) (Nat.le_of_ble_eq_true rfl) (Nat.le_of_ble_eq_true rfl) dX12_range_42
  · skip
    have B := bd_to (ws' := [(mo, .inr (10, fvM V)), (aNr, .inl (k 0, 16000, .inl (fun _ => 0))), (aNw, .inl (k 0, 16000, .inl (fun _ => 0))), (aNl, .inl (k 0, 16000, .inl (fun _ => 0))), (aNc, .inl (k 0, 16000, .inl (fun _ => 0))), (aNp, .inl (k 0, 16000, .inl (fun _ => 0))), (aNq, .inl (k 0, 16000, .inl (fun _ => 0))), (aNs, .inl (k 0, 16000, .inl (fun _ => 0))), (aNn, .inl (k 0, 16000, .inl (fun _ => 0))), (aRn, .inl (k 0, 769, .inl (fun _ => 0))), (aSo, .inl (k 0, 5, .inl (fun _ => 0))), (aDg, .inl (k 0, 6, .inl (fun _ => 0))), (aHi, .inl (k 0, 800, .inl (fun _ => 0)))]) rfl B
    refine lv_if_eq (tgt := 21) hx hb dX12_range_4 (by decide) (fun _ => ?_) (fun c9 => absurd (by decide) c9)
    refine lv_iconst (v := 0) hx hb dX12_range_21 (by decide) ?_
    refine lv_istore (lv' := [(4, .int 0), (0, .ref mo), (1, .int v), (2, .int x1), (3, .int x2)]) hx hb dX12_range_22 hl (by decide) rfl (fun ls hl => ?_)
    refine lv_aload_n hx hb dX12_range_24 rfl (lv_at hl 1 rfl) ?_
    refine lv_iload hx hb dX12_range_25 (lv_at hl 0 rfl) ?_
    refine lv_if_eq (tgt := 34) hx hb dX12_range_27 (by decide) (fun _ => ?_) (fun c9 => absurd (by decide) c9)
    refine lv_iconst (v := 1) hx hb dX12_range_34 (by decide) ?_
    refine x_callV (rest := []) (wr := [(aNr, .inl (k 0, 16000, .inl (fun _ => 0))), (aNw, .inl (k 0, 16000, .inl (fun _ => 0))), (aNl, .inl (k 0, 16000, .inl (fun _ => 0))), (aNc, .inl (k 0, 16000, .inl (fun _ => 0))), (aNp, .inl (k 0, 16000, .inl (fun _ => 0))), (aNq, .inl (k 0, 16000, .inl (fun _ => 0))), (aNs, .inl (k 0, 16000, .inl (fun _ => 0))), (aNn, .inl (k 0, 16000, .inl (fun _ => 0))), (aRn, .inl (k 0, 769, .inl (fun _ => 0))), (aSo, .inl (k 0, 5, .inl (fun _ => 0))), (aDg, .inl (k 0, 6, .inl (fun _ => 0))), (aHi, .inl (k 0, 800, .inl (fun _ => 0)))]) (m_refused1 l dC dI k mo V) B mV_X12_refused mw_2155 hl [0] [1, 2, 3, 4, 5, 6, 7, 8, 9, 10, 11, 12] rfl rfl ⟨by decide, by decide⟩ (by decide) (q0 := 0) rfl rfl rfl ⟨Nat.le_of_ble_eq_true rfl, Nat.le_of_ble_eq_true rfl⟩ (Nat.le_of_ble_eq_true rfl) rfl dX12_range_35 ⟨Nat.le_of_ble_eq_true rfl, Nat.le_of_ble_eq_true rfl⟩ (fun r w H locs hp B => ?_)
    obtain ⟨V1_24, z_25, z_26, rfl, rfl⟩ := hp
    have B := bd_to (ws' := [(aNr, .inl (k 0, 16000, .inl (fun _ => 0))), (aNw, .inl (k 0, 16000, .inl (fun _ => 0))), (aNl, .inl (k 0, 16000, .inl (fun _ => 0))), (aNc, .inl (k 0, 16000, .inl (fun _ => 0))), (aNp, .inl (k 0, 16000, .inl (fun _ => 0))), (aNq, .inl (k 0, 16000, .inl (fun _ => 0))), (aNs, .inl (k 0, 16000, .inl (fun _ => 0))), (aNn, .inl (k 0, 16000, .inl (fun _ => 0))), (aRn, .inl (k 0, 769, .inl (fun _ => 0))), (aSo, .inl (k 0, 5, .inl (fun _ => 0))), (aDg, .inl (k 0, 6, .inl (fun _ => 0))), (aHi, .inl (k 0, 800, .inl (fun _ => 0))), (mo, .inr (10, fvM V1_24))]) rfl B
    refine lv_if_eq (tgt := 43) hx hb dX12_range_38 (by decide) (fun c9 => absurd c9 (by decide)) (fun _ => ?_)
    refine lv_iconst (v := 0) hx hb dX12_range_41 (by decide) ?_
    have B := bd_sub (ws' := [(mo, .inr (10, fvM V1_24))]) [12] (by decide) rfl B
    exact x_iret B hr (⟨V1_24, z_26, rfl, rfl⟩) (Nat.le_of_ble_eq_true rfl) (Nat.le_of_ble_eq_true rfl) dX12_range_42

end
