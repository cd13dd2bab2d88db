section
theorem mw_478 : (Jvm.Cond.fieldLink "Galleyforge" (54 : Nat) "Galleyforge" "spelledCount" "I") ∈ gt := gt_at 613 (by decide +kernel) (by decide +kernel)
theorem mw_512 : (Jvm.Cond.fieldLink "Galleyforge" (44 : Nat) "Galleyforge" "LETTER_WIDTHS" "[I") ∈ gt := gt_at 647 (by decide +kernel) (by decide +kernel)
theorem dX11_spell_0 : decode cX11_spell 0 = .ok (.iload_n 1, 1) := by decide +kernel
theorem dX11_spell_1 : decode cX11_spell 1 = .ok (.ifCond .lt 11, 3) := by decide +kernel
theorem dX11_spell_4 : decode cX11_spell 4 = .ok (.iload_n 1, 1) := by decide +kernel
theorem dX11_spell_5 : decode cX11_spell 5 = .ok (.getstatic 44, 3) := by decide +kernel
theorem dX11_spell_8 : decode cX11_spell 8 = .ok (.arraylength, 1) := by decide +kernel
theorem dX11_spell_9 : decode cX11_spell 9 = .ok (.if_icmp .lt 13, 3) := by decide +kernel
theorem dX11_spell_12 : decode cX11_spell 12 = .ok (.new 47, 3) := by decide +kernel
theorem dX11_spell_15 : decode cX11_spell 15 = .ok (.dup, 1) := by decide +kernel
theorem dX11_spell_16 : decode cX11_spell 16 = .ok (.ldc 49, 2) := by decide +kernel
theorem dX11_spell_18 : decode cX11_spell 18 = .ok (.invokespecial 51, 3) := by decide +kernel
theorem dX11_spell_21 : decode cX11_spell 21 = .ok (.athrow, 1) := by decide +kernel
theorem dX11_spell_22 : decode cX11_spell 22 = .ok (.aload_n 0, 1) := by decide +kernel
theorem dX11_spell_23 : decode cX11_spell 23 = .ok (.getfield 54, 3) := by decide +kernel
theorem dX11_spell_26 : decode cX11_spell 26 = .ok (.bipush 6, 2) := by decide +kernel
theorem dX11_spell_28 : decode cX11_spell 28 = .ok (.if_icmp .lt 13, 3) := by decide +kernel
theorem dX11_spell_41 : decode cX11_spell 41 = .ok (.aload_n 0, 1) := by decide +kernel
theorem dX11_spell_42 : decode cX11_spell 42 = .ok (.getfield 31, 3) := by decide +kernel
theorem dX11_spell_45 : decode cX11_spell 45 = .ok (.aload_n 0, 1) := by decide +kernel
theorem dX11_spell_46 : decode cX11_spell 46 = .ok (.getfield 54, 3) := by decide +kernel
theorem dX11_spell_49 : decode cX11_spell 49 = .ok (.iload_n 1, 1) := by decide +kernel
theorem dX11_spell_50 : decode cX11_spell 50 = .ok (.iastore, 1) := by decide +kernel
theorem dX11_spell_51 : decode cX11_spell 51 = .ok (.aload_n 0, 1) := by decide +kernel
theorem dX11_spell_52 : decode cX11_spell 52 = .ok (.dup, 1) := by decide +kernel
theorem dX11_spell_53 : decode cX11_spell 53 = .ok (.getfield 54, 3) := by decide +kernel
theorem dX11_spell_56 : decode cX11_spell 56 = .ok (.iconst 1, 1) := by decide +kernel
theorem dX11_spell_57 : decode cX11_spell 57 = .ok (.iadd, 1) := by decide +kernel
theorem dX11_spell_58 : decode cX11_spell 58 = .ok (.putfield 54, 3) := by decide +kernel
theorem dX11_spell_61 : decode cX11_spell 61 = .ok (.aload_n 0, 1) := by decide +kernel
theorem dX11_spell_62 : decode cX11_spell 62 = .ok (.getfield 54, 3) := by decide +kernel
theorem dX11_spell_65 : decode cX11_spell 65 = .ok (.ireturn, 1) := by decide +kernel
set_option maxHeartbeats 4000000 in
set_option maxRecDepth 100000 in
theorem c_spell (l : Launch) (dC : Nat → ClassId) (dI : Nat → Nat → Nat) (k : Nat → ClassId) (hl0 : l.stackTraces = false) (gx : Nat) (T : Nat) (LA : Nat) (sp : Nat) (dr : Nat) (x1 : Int32) : Xt l dC dI k yX11_spell (.code yX11_spell cX11_spell 2 (some .int)) ({ frames := 6, cells := 1, slots := 6, locals := 82 } : Room) [.ref gx, .int x1] [(gx, .inr (9, [.ref T, .ref LA, .ref sp, .int 0, .ref dr])), (sp, .inl (k 0, 6, .inl (fun _ => 0)))] (fun r w => ((0 ≤ x1.toInt ∧ x1.toInt ≤ 3) ∧ r = some (.int 1) ∧ w = [])) (fun E => (¬ (0 ≤ x1.toInt ∧ x1.toInt ≤ 3) ∧ E = "java/lang/IndexOutOfBoundsException")) := by
  refine xt_of (by decide) (Nat.le_of_ble_eq_true rfl) ?_
  intro p e s m args below meth c H locs B hr hex ls hl
  have hx := B.1.1
  have hb := B.1.2.1
  have hl : lv_has ls 2 [(0, .ref gx), (1, .int x1)] := hl
  refine lv_iload_n hx hb dX11_spell_0 rfl (lv_at hl 1 rfl) ?_
  refine lv_if_lt (tgt := 12) hx hb dX11_spell_1 (by decide) (fun c_1 => ?_) (fun c_1 => ?_)
  · have zc_1 : x1.toInt < 0 := zlt c_1
    exact x_thr (tx := "no such letter") xE_ioobe (⟨by omega, rfl⟩) hl0 B hex hl (by decide +kernel) dX11_spell_12 dX11_spell_15 dX11_spell_16 dX11_spell_18 dX11_spell_21 ⟨Nat.le_of_ble_eq_true rfl, Nat.le_of_ble_eq_true rfl, Nat.le_of_ble_eq_true rfl, Nat.le_of_ble_eq_true rfl⟩ ⟨Nat.le_of_ble_eq_true rfl, Nat.le_of_ble_eq_true rfl⟩
  · have zc_1 : 0 ≤ x1.toInt := znlt c_1
    refine lv_iload_n hx hb dX11_spell_4 rfl (lv_at hl 1 rfl) ?_
    obtain ⟨lw, hlw1, hlw2⟩ := B.2.1.2.2.2.2.1
    refine va_gets hx hb hlw1 B.2.2.2.2.2 B.1.2.2.2.1 (B.1.2.2.2.2.1 _ mw_512) (fun _ h9 => h9) dX11_spell_5 ?_
    refine x_lalen hlw2 B dX11_spell_8 ?_
    refine lv_seti (y := 4) (by decide) ?_
    refine lv_icmp_lt (tgt := 22) hx hb dX11_spell_9 (by decide) (fun c_2 => ?_) (fun c_2 => ?_)
    · have zc_2 : x1.toInt < 4 := zlt c_2
      refine lv_aload_n hx hb dX11_spell_22 rfl (lv_at hl 0 rfl) ?_
      refine x_get (ci := 9) (C := RX11) (T := TX11) (N := 5) (v := .int 0) B 0 rfl rfl in_X11 3 (by decide) mw_478 (fun _ h9 => h9) rfl dX11_spell_23 ?_
      refine lv_bipush (v := 6) hx hb dX11_spell_26 (by decide) ?_
      refine lv_icmp_lt (tgt := 41) hx hb dX11_spell_28 (by decide) (fun _ => ?_) (fun c9 => absurd (by decide) c9)
      refine lv_aload_n hx hb dX11_spell_41 rfl (lv_at hl 0 rfl) ?_
      refine x_get (ci := 9) (C := RX11) (T := TX11) (N := 5) (v := .ref sp) B 0 rfl rfl in_X11 2 (by decide) mw_477 (fun _ h9 => h9) rfl dX11_spell_42 ?_
      refine lv_aload_n hx hb dX11_spell_45 rfl (lv_at hl 0 rfl) ?_
      refine x_get (ci := 9) (C := RX11) (T := TX11) (N := 5) (v := .int 0) B 0 rfl rfl in_X11 3 (by decide) mw_478 (fun _ h9 => h9) rfl dX11_spell_46 ?_
      refine lv_iload_n hx hb dX11_spell_49 rfl (lv_at hl 1 rfl) ?_
      refine x_iast B 1 rfl (vpc (by decide)) dX11_spell_50 (j := 0) (by decide) (fun H locs B => ?_)
      have B := bd_to (ws' := [(gx, .inr (9, [.ref T, .ref LA, .ref sp, .int 0, .ref dr])), (sp, .inl (k 0, 6, .inl (upd (fun _ => 0) 0 x1)))]) rfl B
      refine lv_aload_n hx hb dX11_spell_51 rfl (lv_at hl 0 rfl) ?_
      refine lv_dup hx hb dX11_spell_52 rfl ?_
      refine x_get (ci := 9) (C := RX11) (T := TX11) (N := 5) (v := .int 0) B 0 rfl rfl in_X11 3 (by decide) mw_478 (fun _ h9 => h9) rfl dX11_spell_53 ?_
      refine lv_iconst (v := 1) hx hb dX11_spell_56 (by decide) ?_
      refine lv_iadd hx hb dX11_spell_57 ?_
      refine lv_seti (y := 1) (by decide) ?_
      refine x_put (ci := 9) (C := RX11) (T := TX11) (N := 5) (ty := .int) (v := .int 1) B tyX11_ok nmX11 0 rfl rfl in_X11 3 (by decide) mw_478 (fun _ h9 => h9) rfl (by decide +kernel) rfl rfl (Nat.le_of_ble_eq_true rfl) dX11_spell_58 (fun H locs B => ?_)
      have B := bd_to (ws' := [(gx, .inr (9, [.ref T, .ref LA, .ref sp, .int 1, .ref dr])), (sp, .inl (k 0, 6, .inl (upd (fun _ => 0) 0 x1)))]) rfl B
      refine lv_aload_n hx hb dX11_spell_61 rfl (lv_at hl 0 rfl) ?_
      refine x_get (ci := 9) (C := RX11) (T := TX11) (N := 5) (v := .int 1) B 0 rfl rfl in_X11 3 (by decide) mw_478 (fun _ h9 => h9) rfl dX11_spell_62 ?_
      have B := bd_sub (ws' := []) [] (by decide) rfl B
      exact vx_ret (x_iret B hr (⟨by omega, rfl, rfl⟩) (Nat.le_of_ble_eq_true rfl) (Nat.le_of_ble_eq_true rfl) dX11_spell_65)
    · have zc_2 : 4 ≤ x1.toInt := znlt c_2
      exact x_thr (tx := "no such letter") xE_ioobe (⟨by omega, rfl⟩) hl0 B hex hl (by decide +kernel) dX11_spell_12 dX11_spell_15 dX11_spell_16 dX11_spell_18 dX11_spell_21 ⟨Nat.le_of_ble_eq_true rfl, Nat.le_of_ble_eq_true rfl, Nat.le_of_ble_eq_true rfl, Nat.le_of_ble_eq_true rfl⟩ ⟨Nat.le_of_ble_eq_true rfl, Nat.le_of_ble_eq_true rfl⟩

theorem dX11_unspell_0 : decode cX11_unspell 0 = .ok (.aload_n 0, 1) := by decide +kernel
theorem dX11_unspell_1 : decode cX11_unspell 1 = .ok (.getfield 54, 3) := by decide +kernel
theorem dX11_unspell_4 : decode cX11_unspell 4 = .ok (.istore_n 1, 1) := by decide +kernel
theorem dX11_unspell_5 : decode cX11_unspell 5 = .ok (.aload_n 0, 1) := by decide +kernel
theorem dX11_unspell_6 : decode cX11_unspell 6 = .ok (.iconst 0, 1) := by decide +kernel
theorem dX11_unspell_7 : decode cX11_unspell 7 = .ok (.putfield 54, 3) := by decide +kernel
theorem dX11_unspell_10 : decode cX11_unspell 10 = .ok (.iload_n 1, 1) := by decide +kernel
theorem dX11_unspell_11 : decode cX11_unspell 11 = .ok (.ireturn, 1) := by decide +kernel
set_option maxHeartbeats 4000000 in
set_option maxRecDepth 100000 in
theorem c_unspell (l : Launch) (dC : Nat → ClassId) (dI : Nat → Nat → Nat) (k : Nat → ClassId) (gx : Nat) (T : Nat) (LA : Nat) (sp : Nat) (dr : Nat) : Ct l dC dI k yX11_unspell (.code yX11_unspell cX11_unspell 2 (some .int)) ({ frames := 0, cells := 0, slots := 0, locals := 0 } : Room) [.ref gx] [(gx, .inr (9, [.ref T, .ref LA, .ref sp, .int 0, .ref dr]))] (fun r w => (r = some (.int 0) ∧ w = [])) := by
  refine ct_of (by decide) (Nat.le_of_ble_eq_true rfl) ?_
  intro p e s m args below meth c H locs B hr hnm ls hl
  have hx := B.1.1
  have hb := B.1.2.1
  have hl : lv_has ls 2 [(0, .ref gx)] := hl
  refine lv_aload_n hx hb dX11_unspell_0 rfl (lv_at hl 0 rfl) ?_
  refine x_get (ci := 9) (C := RX11) (T := TX11) (N := 5) (v := .int 0) B 0 rfl rfl in_X11 3 (by decide) mw_478 (fun _ h9 => h9) rfl dX11_unspell_1 ?_
  refine lv_istore_n (lv' := [(1, .int 0), (0, .ref gx)]) hx hb dX11_unspell_4 rfl hl (by decide) rfl (fun ls hl => ?_)
  refine lv_aload_n hx hb dX11_unspell_5 rfl (lv_at hl 1 rfl) ?_
  refine lv_iconst (v := 0) hx hb dX11_unspell_6 (by decide) ?_
  refine x_put (ci := 9) (C := RX11) (T := TX11) (N := 5) (ty := .int) (v := .int 0) B tyX11_ok nmX11 0 rfl rfl in_X11 3 (by decide) mw_478 (fun _ h9 => h9) rfl (by decide +kernel) rfl rfl (Nat.le_of_ble_eq_true rfl) dX11_unspell_7 (fun H locs B => ?_)
  have B := bd_to (ws' := [(gx, .inr (9, [.ref T, .ref LA, .ref sp, .int 0, .ref dr]))]) rfl B
  refine lv_iload_n hx hb dX11_unspell_10 rfl (lv_at hl 0 rfl) ?_
  have B := bd_sub (ws' := []) [] (by decide) rfl B
  exact x_iret B hr (⟨rfl, rfl⟩) (Nat.le_of_ble_eq_true rfl) (Nat.le_of_ble_eq_true rfl) dX11_unspell_11

theorem dX11_blocks_0 : decode cX11_blocks 0 = .ok (.aload_n 0, 1) := by decide +kernel
theorem dX11_blocks_1 : decode cX11_blocks 1 = .ok (.getfield 12, 3) := by decide +kernel
theorem dX11_blocks_4 : decode cX11_blocks 4 = .ok (.getfield 153, 3) := by decide +kernel
theorem dX11_blocks_7 : decode cX11_blocks 7 = .ok (.invokevirtual 85, 3) := by decide +kernel
theorem dX11_blocks_10 : decode cX11_blocks 10 = .ok (.ireturn, 1) := by decide +kernel
set_option maxHeartbeats 4000000 in
set_option maxRecDepth 100000 in
theorem c_blocks (l : Launch) (dC : Nat → ClassId) (dI : Nat → Nat → Nat) (k : Nat → ClassId) (gx : Nat) (T : Nat) (LA : Nat) (sp : Nat) (dr : Nat) (bl : Nat) (pt : Nat) (fk : Nat) (fh : Nat) (ky : Nat) : Ct l dC dI k yX11_blocks (.code yX11_blocks cX11_blocks 1 (some .int)) ({ frames := 1, cells := 0, slots := 0, locals := 20 } : Room) [.ref gx] [(gx, .inr (9, [.ref T, .ref LA, .ref sp, .int 0, .ref dr])), (T, .inr (8, [.ref bl, .ref pt, .ref fk, .ref fh, .int 0, .ref ky, .int 60, .int 12])), (bl, .inr (11, [.int 0, .ref (dI 99 1), .int 0]))] (fun r w => (r = some (.int 0) ∧ w = [])) := by
  refine ct_of (by decide) (Nat.le_of_ble_eq_true rfl) ?_
  intro p e s m args below meth c H locs B hr hnm ls hl
  have hx := B.1.1
  have hb := B.1.2.1
  have hl : lv_has ls 1 [(0, .ref gx)] := hl
  refine lv_aload_n hx hb dX11_blocks_0 rfl (lv_at hl 0 rfl) ?_
  refine x_get (ci := 9) (C := RX11) (T := TX11) (N := 5) (v := .ref T) B 0 rfl rfl in_X11 0 (by decide) mw_475 (fun _ h9 => h9) rfl dX11_blocks_1 ?_
  refine x_get (ci := 8) (C := RX9) (T := TX9) (N := 8) (v := .ref bl) B 1 rfl rfl in_X9 0 (by decide) mw_79 (fun _ h9 => h9) rfl dX11_blocks_4 ?_
  refine x_callV (rest := []) (wr := [(gx, .inr (9, [.ref T, .ref LA, .ref sp, .int 0, .ref dr])), (T, .inr (8, [.ref bl, .ref pt, .ref fk, .ref fh, .int 0, .ref ky, .int 60, .int 12]))]) (c_size l dC dI k bl (dI 99 1) 0 0) B mV_Jx4a65c_size_8abf5 mw_499 hl [2] [0, 1] rfl rfl ⟨by decide, by decide⟩ (by decide) (q0 := 0) rfl rfl rfl ⟨Nat.le_of_ble_eq_true rfl, Nat.le_of_ble_eq_true rfl⟩ (Nat.le_of_ble_eq_true rfl) rfl dX11_blocks_7 ⟨Nat.le_of_ble_eq_true rfl, Nat.le_of_ble_eq_true rfl⟩ (fun r w H locs hp B => ?_)
  obtain ⟨rfl, rfl⟩ := hp
  have B := bd_to (ws' := [(gx, .inr (9, [.ref T, .ref LA, .ref sp, .int 0, .ref dr])), (T, .inr (8, [.ref bl, .ref pt, .ref fk, .ref fh, .int 0, .ref ky, .int 60, .int 12])), (bl, .inr (11, [.int 0, .ref (dI 99 1), .int 0]))]) rfl B
  have B := bd_sub (ws' := []) [] (by decide) rfl B
  exact x_iret B hr (⟨rfl, rfl⟩) (Nat.le_of_ble_eq_true rfl) (Nat.le_of_ble_eq_true rfl) dX11_blocks_10

theorem dX11_leastMark_0 : decode cX11_leastMark 0 = .ok (.iload_n 0, 1) := by decide +kernel
theorem dX11_leastMark_1 : decode cX11_leastMark 1 = .ok (.ifCond .ne 7, 3) := by decide +kernel
theorem dX11_leastMark_4 : decode cX11_leastMark 4 = .ok (.iconst 1, 1) := by decide +kernel
theorem dX11_leastMark_5 : decode cX11_leastMark 5 = .ok (.goto 4, 3) := by decide +kernel
theorem dX11_leastMark_8 : decode cX11_leastMark 8 = .ok (.iconst 0, 1) := by decide +kernel
theorem dX11_leastMark_9 : decode cX11_leastMark 9 = .ok (.ireturn, 1) := by decide +kernel
set_option maxHeartbeats 4000000 in
set_option maxRecDepth 100000 in
theorem c_leastMark (l : Launch) (dC : Nat → ClassId) (dI : Nat → Nat → Nat) (k : Nat → ClassId) (x1 : Int32) : Ct l dC dI k yX11_leastMark (.code yX11_leastMark cX11_leastMark 1 (some .int)) ({ frames := 0, cells := 0, slots := 0, locals := 0 } : Room) [.int x1] [] (fun r w => ((0 ≤ x1.toInt ∧ x1.toInt ≤ 0) ∧ r = some (.int 1) ∧ w = []) ∨ (¬ (0 ≤ x1.toInt ∧ x1.toInt ≤ 0) ∧ r = some (.int 0) ∧ w = [])) := by
  refine ct_of (by decide) (Nat.le_of_ble_eq_true rfl) ?_
  intro p e s m args below meth c H locs B hr hnm ls hl
  have hx := B.1.1
  have hb := B.1.2.1
  have hl : lv_has ls 1 [(0, .int x1)] := hl
  refine lv_iload_n hx hb dX11_leastMark_0 rfl (lv_at hl 0 rfl) ?_
  refine lv_if_ne (tgt := 8) hx hb dX11_leastMark_1 (by decide) (fun c_1 => ?_) (fun c_1 => ?_)
  · have zc_1 : x1.toInt ≠ 0 := zne c_1
    refine lv_iconst (v := 0) hx hb dX11_leastMark_8 (by decide) ?_
    have B := bd_sub (ws' := []) [] (by decide) rfl B
    exact x_iret B hr (Or.inr (⟨by omega, rfl, rfl⟩)) (Nat.le_of_ble_eq_true rfl) (Nat.le_of_ble_eq_true rfl) dX11_leastMark_9
  · have zc_1 : x1.toInt = 0 := znne c_1
    refine lv_iconst (v := 1) hx hb dX11_leastMark_4 (by decide) ?_
    refine lv_goto (tgt := 9) hx hb dX11_leastMark_5 (by decide) ?_
    have B := bd_sub (ws' := []) [] (by decide) rfl B
    exact x_iret B hr (Or.inl (⟨by omega, rfl, rfl⟩)) (Nat.le_of_ble_eq_true rfl) (Nat.le_of_ble_eq_true rfl) dX11_leastMark_9

theorem mw_91 : (Jvm.Cond.fieldLink "Galleyforge" (205 : Nat) "Galleyforge$Text" "figureCount" "I") ∈ gt := gt_at 226 (by decide +kernel) (by decide +kernel)
theorem dX11_mostMark_0 : decode cX11_mostMark 0 = .ok (.iload_n 1, 1) := by decide +kernel
theorem dX11_mostMark_1 : decode cX11_mostMark 1 = .ok (.tableswitch 48 0 3 #[31, 33, 43, 45], 31) := by decide +kernel
theorem dX11_mostMark_32 : decode cX11_mostMark 32 = .ok (.iconst 5, 1) := by decide +kernel
theorem dX11_mostMark_33 : decode cX11_mostMark 33 = .ok (.ireturn, 1) := by decide +kernel
theorem dX11_mostMark_34 : decode cX11_mostMark 34 = .ok (.aload_n 0, 1) := by decide +kernel
theorem dX11_mostMark_35 : decode cX11_mostMark 35 = .ok (.getfield 12, 3) := by decide +kernel
theorem dX11_mostMark_38 : decode cX11_mostMark 38 = .ok (.getfield 205, 3) := by decide +kernel
theorem dX11_mostMark_41 : decode cX11_mostMark 41 = .ok (.iconst 1, 1) := by decide +kernel
theorem dX11_mostMark_42 : decode cX11_mostMark 42 = .ok (.isub, 1) := by decide +kernel
theorem dX11_mostMark_43 : decode cX11_mostMark 43 = .ok (.ireturn, 1) := by decide +kernel
theorem dX11_mostMark_44 : decode cX11_mostMark 44 = .ok (.iconst 5, 1) := by decide +kernel
theorem dX11_mostMark_45 : decode cX11_mostMark 45 = .ok (.ireturn, 1) := by decide +kernel
theorem dX11_mostMark_46 : decode cX11_mostMark 46 = .ok (.bipush 7, 2) := by decide +kernel
theorem dX11_mostMark_48 : decode cX11_mostMark 48 = .ok (.ireturn, 1) := by decide +kernel
theorem dX11_mostMark_49 : decode cX11_mostMark 49 = .ok (.iconst 1, 1) := by decide +kernel
theorem dX11_mostMark_50 : decode cX11_mostMark 50 = .ok (.ireturn, 1) := by decide +kernel
set_option maxHeartbeats 4000000 in
set_option maxRecDepth 100000 in
theorem c_mostMark (l : Launch) (dC : Nat → ClassId) (dI : Nat → Nat → Nat) (k : Nat → ClassId) (gx : Nat) (T : Nat) (LA : Nat) (sp : Nat) (dr : Nat) (bl : Nat) (pt : Nat) (fk : Nat) (fh : Nat) (ky : Nat) (x1 : Int32) (hx1 : 0 ≤ x1.toInt ∧ x1.toInt ≤ 4) : Ct l dC dI k yX11_mostMark (.code yX11_mostMark cX11_mostMark 2 (some .int)) ({ frames := 0, cells := 0, slots := 0, locals := 0 } : Room) [.ref gx, .int x1] [(gx, .inr (9, [.ref T, .ref LA, .ref sp, .int 0, .ref dr])), (T, .inr (8, [.ref bl, .ref pt, .ref fk, .ref fh, .int 0, .ref ky, .int 60, .int 12]))] (fun r w => ((0 ≤ x1.toInt ∧ x1.toInt ≤ 0) ∧ r = some (.int 5) ∧ w = [(gx, .inr (9, [.ref T, .ref LA, .ref sp, .int 0, .ref dr])), (T, .inr (8, [.ref bl, .ref pt, .ref fk, .ref fh, .int 0, .ref ky, .int 60, .int 12]))]) ∨ ((1 ≤ x1.toInt ∧ x1.toInt ≤ 1) ∧ r = some (.int (-1)) ∧ w = [(gx, .inr (9, [.ref T, .ref LA, .ref sp, .int 0, .ref dr])), (T, .inr (8, [.ref bl, .ref pt, .ref fk, .ref fh, .int 0, .ref ky, .int 60, .int 12]))]) ∨ ((2 ≤ x1.toInt ∧ x1.toInt ≤ 2) ∧ r = some (.int 5) ∧ w = [(gx, .inr (9, [.ref T, .ref LA, .ref sp, .int 0, .ref dr])), (T, .inr (8, [.ref bl, .ref pt, .ref fk, .ref fh, .int 0, .ref ky, .int 60, .int 12]))]) ∨ ((3 ≤ x1.toInt ∧ x1.toInt ≤ 3) ∧ r = some (.int 7) ∧ w = [(gx, .inr (9, [.ref T, .ref LA, .ref sp, .int 0, .ref dr])), (T, .inr (8, [.ref bl, .ref pt, .ref fk, .ref fh, .int 0, .ref ky, .int 60, .int 12]))]) ∨ ((4 ≤ x1.toInt ∧ x1.toInt ≤ 4) ∧ r = some (.int 1) ∧ w = [(gx, .inr (9, [.ref T, .ref LA, .ref sp, .int 0, .ref dr])), (T, .inr (8, [.ref bl, .ref pt, .ref fk, .ref fh, .int 0, .ref ky, .int 60, .int 12]))])) := by
  refine ct_of (by decide) (Nat.le_of_ble_eq_true rfl) ?_
  intro p e s m args below meth c H locs B hr hnm ls hl
  have hx := B.1.1
  have hb := B.1.2.1
  have hl : lv_has ls 2 [(0, .ref gx), (1, .int x1)] := hl
  refine lv_iload_n hx hb dX11_mostMark_0 rfl (lv_at hl 1 rfl) ?_
  have zc_1 : x1.toInt = 0 ∨ x1.toInt = 1 ∨ x1.toInt = 2 ∨ x1.toInt = 3 ∨ x1.toInt = 4 := by omega
  rcases zc_1 with zc_1 | zc_1 | zc_1 | zc_1 | zc_1
  · have ec_1 : x1 = 0 := zint (by rw [zc_1]; decide)
    refine lv_tableIn (off := 31) (tgt := 32) hx hb dX11_mostMark_1 (by rw [ec_1]; decide) (by rw [ec_1]; decide) (by rw [ec_1]; decide) (by decide) ?_
    refine lv_iconst (v := 5) hx hb dX11_mostMark_32 (by decide) ?_
    have B := bd_sub (ws' := [(gx, .inr (9, [.ref T, .ref LA, .ref sp, .int 0, .ref dr])), (T, .inr (8, [.ref bl, .ref pt, .ref fk, .ref fh, .int 0, .ref ky, .int 60, .int 12]))]) [0, 1] (by decide) rfl B
    exact x_iret B hr (Or.inl (⟨by omega, rfl, rfl⟩)) (Nat.le_of_ble_eq_true rfl) (Nat.le_of_ble_eq_true rfl) dX11_mostMark_33
  · have ec_1 : x1 = 1 := zint (by rw [zc_1]; decide)
    refine lv_tableIn (off := 33) (tgt := 34) hx hb dX11_mostMark_1 (by rw [ec_1]; decide) (by rw [ec_1]; decide) (by rw [ec_1]; decide) (by decide) ?_
    refine lv_aload_n hx hb dX11_mostMark_34 rfl (lv_at hl 0 rfl) ?_
    refine x_get (ci := 9) (C := RX11) (T := TX11) (N := 5) (v := .ref T) B 0 rfl rfl in_X11 0 (by decide) mw_475 (fun _ h9 => h9) rfl dX11_mostMark_35 ?_
    refine x_get (ci := 8) (C := RX9) (T := TX9) (N := 8) (v := .int 0) B 1 rfl rfl in_X9 4 (by decide) mw_91 (fun _ h9 => h9) rfl dX11_mostMark_38 ?_
    refine lv_iconst (v := 1) hx hb dX11_mostMark_41 (by decide) ?_
    refine lv_isub hx hb dX11_mostMark_42 ?_
    refine lv_seti (y := (-1)) (by decide) ?_
    have B := bd_sub (ws' := [(gx, .inr (9, [.ref T, .ref LA, .ref sp, .int 0, .ref dr])), (T, .inr (8, [.ref bl, .ref pt, .ref fk, .ref fh, .int 0, .ref ky, .int 60, .int 12]))]) [0, 1] (by decide) rfl B
    exact x_iret B hr (Or.inr (Or.inl (⟨by omega, rfl, rfl⟩))) (Nat.le_of_ble_eq_true rfl) (Nat.le_of_ble_eq_true rfl) dX11_mostMark_43
  · have ec_1 : x1 = 2 := zint (by rw [zc_1]; decide)
    refine lv_tableIn (off := 43) (tgt := 44) hx hb dX11_mostMark_1 (by rw [ec_1]; decide) (by rw [ec_1]; decide) (by rw [ec_1]; decide) (by decide) ?_
    refine lv_iconst (v := 5) hx hb dX11_mostMark_44 (by decide) ?_
    have B := bd_sub (ws' := [(gx, .inr (9, [.ref T, .ref LA, .ref sp, .int 0, .ref dr])), (T, .inr (8, [.ref bl, .ref pt, .ref fk, .ref fh, .int 0, .ref ky, .int 60, .int 12]))]) [0, 1] (by decide) rfl B
    exact x_iret B hr (Or.inr (Or.inr (Or.inl (⟨by omega, rfl, rfl⟩)))) (Nat.le_of_ble_eq_true rfl) (Nat.le_of_ble_eq_true rfl) dX11_mostMark_45
  · have ec_1 : x1 = 3 := zint (by rw [zc_1]; decide)
    refine lv_tableIn (off := 45) (tgt := 46) hx hb dX11_mostMark_1 (by rw [ec_1]; decide) (by rw [ec_1]; decide) (by rw [ec_1]; decide) (by decide) ?_
    refine lv_bipush (v := 7) hx hb dX11_mostMark_46 (by decide) ?_
    have B := bd_sub (ws' := [(gx, .inr (9, [.ref T, .ref LA, .ref sp, .int 0, .ref dr])), (T, .inr (8, [.ref bl, .ref pt, .ref fk, .ref fh, .int 0, .ref ky, .int 60, .int 12]))]) [0, 1] (by decide) rfl B
    exact x_iret B hr (Or.inr (Or.inr (Or.inr (Or.inl (⟨by omega, rfl, rfl⟩))))) (Nat.le_of_ble_eq_true rfl) (Nat.le_of_ble_eq_true rfl) dX11_mostMark_48
  · have ec_1 : x1 = 4 := zint (by rw [zc_1]; decide)
    refine lv_tableOut (tgt := 49) hx hb dX11_mostMark_1 (by rw [ec_1]; decide) (by decide) ?_
    refine lv_iconst (v := 1) hx hb dX11_mostMark_49 (by decide) ?_
    have B := bd_sub (ws' := [(gx, .inr (9, [.ref T, .ref LA, .ref sp, .int 0, .ref dr])), (T, .inr (8, [.ref bl, .ref pt, .ref fk, .ref fh, .int 0, .ref ky, .int 60, .int 12]))]) [0, 1] (by decide) rfl B
    exact x_iret B hr (Or.inr (Or.inr (Or.inr (Or.inr (⟨by omega, rfl, rfl⟩))))) (Nat.le_of_ble_eq_true rfl) (Nat.le_of_ble_eq_true rfl) dX11_mostMark_50

theorem mw_607 : (Jvm.Cond.methodLink "Galleyforge" (65 : Nat) ({ cls := "Galleyforge", name := "leastMark", desc := "(I)I" } : Jvm.MethodName)) ∈ gt := gt_at 742 (by decide +kernel) (by decide +kernel)
theorem mw_608 : (Jvm.Cond.static ({ cls := "Galleyforge", name := "leastMark", desc := "(I)I" } : Jvm.MethodName)) ∈ gt := gt_at 743 (by decide +kernel) (by decide +kernel)
theorem mw_609 : (Jvm.Cond.code ({ cls := "Galleyforge", name := "leastMark", desc := "(I)I" } : Jvm.MethodName) prog_1_method_55_code (1 : Nat) (Option.some Jvm.ClassFile.FieldType.int)) ∈ gt := gt_at 744 (by decide +kernel) (by decide +kernel)
theorem mw_610 : (Jvm.Cond.methodLink "Galleyforge" (69 : Nat) ({ cls := "Galleyforge", name := "mostMark", desc := "(I)I" } : Jvm.MethodName)) ∈ gt := gt_at 745 (by decide +kernel) (by decide +kernel)
theorem mw_612 : (Jvm.Cond.instanceMethod ({ cls := "Galleyforge", name := "mostMark", desc := "(I)I" } : Jvm.MethodName)) ∈ gt := gt_at 747 (by decide +kernel) (by decide +kernel)
theorem mw_613 : (Jvm.Cond.code ({ cls := "Galleyforge", name := "mostMark", desc := "(I)I" } : Jvm.MethodName) prog_1_method_56_code (2 : Nat) (Option.some Jvm.ClassFile.FieldType.int)) ∈ gt := gt_at 748 (by decide +kernel) (by decide +kernel)
theorem mS_X11_leastMark : mS yX11_leastMark cX11_leastMark 1 (some .int) 1 := ⟨⟨mw_609, mw_1, by decide, by decide, by decide +kernel⟩, mw_608⟩
theorem ms_1 : Cond.selects "Galleyforge" (⟨"Galleyforge", "mostMark", "(I)I"⟩ : MethodName) (⟨"Galleyforge", "mostMark", "(I)I"⟩ : MethodName) ∈ gt := gt_at 1 (by decide +kernel) (by decide +kernel)
theorem mV_X11_mostMark : mV yX11_mostMark cX11_mostMark 2 (some .int) 1 := ⟨⟨mw_613, mw_1, by decide, by decide, by decide +kernel⟩, mw_612, ms_1⟩
theorem dX11_mark_0 : decode cX11_mark 0 = .ok (.iload_n 1, 1) := by decide +kernel
theorem dX11_mark_1 : decode cX11_mark 1 = .ok (.ifCond .lt 8, 3) := by decide +kernel
theorem dX11_mark_4 : decode cX11_mark 4 = .ok (.iload_n 1, 1) := by decide +kernel
theorem dX11_mark_5 : decode cX11_mark 5 = .ok (.iconst 4, 1) := by decide +kernel
theorem dX11_mark_6 : decode cX11_mark 6 = .ok (.if_icmp .le 13, 3) := by decide +kernel
theorem dX11_mark_9 : decode cX11_mark 9 = .ok (.new 47, 3) := by decide +kernel
theorem dX11_mark_12 : decode cX11_mark 12 = .ok (.dup, 1) := by decide +kernel
theorem dX11_mark_13 : decode cX11_mark 13 = .ok (.ldc 63, 2) := by decide +kernel
theorem dX11_mark_15 : decode cX11_mark 15 = .ok (.invokespecial 51, 3) := by decide +kernel
theorem dX11_mark_18 : decode cX11_mark 18 = .ok (.athrow, 1) := by decide +kernel
theorem dX11_mark_19 : decode cX11_mark 19 = .ok (.iload_n 2, 1) := by decide +kernel
theorem dX11_mark_20 : decode cX11_mark 20 = .ok (.iconst (-1), 1) := by decide +kernel
theorem dX11_mark_21 : decode cX11_mark 21 = .ok (.if_icmp .eq 30, 3) := by decide +kernel
theorem dX11_mark_24 : decode cX11_mark 24 = .ok (.iload_n 2, 1) := by decide +kernel
theorem dX11_mark_25 : decode cX11_mark 25 = .ok (.iload_n 1, 1) := by decide +kernel
theorem dX11_mark_26 : decode cX11_mark 26 = .ok (.invokestatic 65, 3) := by decide +kernel
theorem dX11_mark_29 : decode cX11_mark 29 = .ok (.if_icmp .lt 12, 3) := by decide +kernel
theorem dX11_mark_32 : decode cX11_mark 32 = .ok (.iload_n 2, 1) := by decide +kernel
theorem dX11_mark_33 : decode cX11_mark 33 = .ok (.aload_n 0, 1) := by decide +kernel
theorem dX11_mark_34 : decode cX11_mark 34 = .ok (.iload_n 1, 1) := by decide +kernel
theorem dX11_mark_35 : decode cX11_mark 35 = .ok (.invokevirtual 69, 3) := by decide +kernel
theorem dX11_mark_38 : decode cX11_mark 38 = .ok (.if_icmp .le 13, 3) := by decide +kernel
theorem dX11_mark_41 : decode cX11_mark 41 = .ok (.new 72, 3) := by decide +kernel
theorem dX11_mark_44 : decode cX11_mark 44 = .ok (.dup, 1) := by decide +kernel
theorem dX11_mark_45 : decode cX11_mark 45 = .ok (.ldc 74, 2) := by decide +kernel
theorem dX11_mark_47 : decode cX11_mark 47 = .ok (.invokespecial 76, 3) := by decide +kernel
theorem dX11_mark_50 : decode cX11_mark 50 = .ok (.athrow, 1) := by decide +kernel
theorem dX11_mark_51 : decode cX11_mark 51 = .ok (.aload_n 0, 1) := by decide +kernel
theorem dX11_mark_52 : decode cX11_mark 52 = .ok (.getfield 35, 3) := by decide +kernel
theorem dX11_mark_55 : decode cX11_mark 55 = .ok (.iload_n 1, 1) := by decide +kernel
theorem dX11_mark_56 : decode cX11_mark 56 = .ok (.iaload, 1) := by decide +kernel
theorem dX11_mark_57 : decode cX11_mark 57 = .ok (.istore_n 3, 1) := by decide +kernel
theorem dX11_mark_58 : decode cX11_mark 58 = .ok (.aload_n 0, 1) := by decide +kernel
theorem dX11_mark_59 : decode cX11_mark 59 = .ok (.getfield 35, 3) := by decide +kernel
theorem dX11_mark_62 : decode cX11_mark 62 = .ok (.iload_n 1, 1) := by decide +kernel
theorem dX11_mark_63 : decode cX11_mark 63 = .ok (.iload_n 2, 1) := by decide +kernel
theorem dX11_mark_64 : decode cX11_mark 64 = .ok (.iastore, 1) := by decide +kernel
theorem dX11_mark_65 : decode cX11_mark 65 = .ok (.iload_n 3, 1) := by decide +kernel
theorem dX11_mark_66 : decode cX11_mark 66 = .ok (.ireturn, 1) := by decide +kernel
set_option maxHeartbeats 4000000 in
set_option maxRecDepth 100000 in
theorem c_mark (l : Launch) (dC : Nat → ClassId) (dI : Nat → Nat → Nat) (k : Nat → ClassId) (hl0 : l.stackTraces = false) (gx : Nat) (T : Nat) (LA : Nat) (sp : Nat) (dr : Nat) (bl : Nat) (pt : Nat) (fk : Nat) (fh : Nat) (ky : Nat) (x1 : Int32) (x2 : Int32) (gd : Nat → Int32) (hgd : ∀ j, j < 5 → gd j = -1) : Xt l dC dI k yX11_mark (.code yX11_mark cX11_mark 4 (some .int)) ({ frames := 6, cells := 1, slots := 6, locals := 82 } : Room) [.ref gx, .int x1, .int x2] [(gx, .inr (9, [.ref T, .ref LA, .ref sp, .int 0, .ref dr])), (T, .inr (8, [.ref bl, .ref pt, .ref fk, .ref fh, .int 0, .ref ky, .int 60, .int 12])), (dr, .inl (k 0, 5, .inl gd))] (fun r w => ((0 ≤ x1.toInt ∧ x1.toInt ≤ 4) ∧ (x2.toInt = -1 ∨ (x1.toInt = 0 ∧ 1 ≤ x2.toInt ∧ x2.toInt ≤ 5) ∨ (x1.toInt = 2 ∧ 0 ≤ x2.toInt ∧ x2.toInt ≤ 5) ∨ (x1.toInt = 3 ∧ 0 ≤ x2.toInt ∧ x2.toInt ≤ 7) ∨ (x1.toInt = 4 ∧ 0 ≤ x2.toInt ∧ x2.toInt ≤ 1)) ∧ r = some (.int (-1)) ∧ w = [])) (fun E => (¬ (0 ≤ x1.toInt ∧ x1.toInt ≤ 4) ∧ E = "java/lang/IndexOutOfBoundsException") ∨ ((0 ≤ x1.toInt ∧ x1.toInt ≤ 4) ∧ ¬ (x2.toInt = -1 ∨ (x1.toInt = 0 ∧ 1 ≤ x2.toInt ∧ x2.toInt ≤ 5) ∨ (x1.toInt = 2 ∧ 0 ≤ x2.toInt ∧ x2.toInt ≤ 5) ∨ (x1.toInt = 3 ∧ 0 ≤ x2.toInt ∧ x2.toInt ≤ 7) ∨ (x1.toInt = 4 ∧ 0 ≤ x2.toInt ∧ x2.toInt ≤ 1)) ∧ E = "java/lang/IllegalArgumentException")) := by
  refine xt_of (by decide) (Nat.le_of_ble_eq_true rfl) ?_
  intro p e s m args below meth c H locs B hr hex ls hl
  have hx := B.1.1
  have hb := B.1.2.1
  have hl : lv_has ls 4 [(0, .ref gx), (1, .int x1), (2, .int x2)] := hl
  refine lv_iload_n hx hb dX11_mark_0 rfl (lv_at hl 1 rfl) ?_
  refine lv_if_lt (tgt := 9) hx hb dX11_mark_1 (by decide) (fun c_1 => ?_) (fun c_1 => ?_)
  · have zc_1 : x1.toInt < 0 := zlt c_1
    exact x_thr (tx := "no such thing to draft") xE_ioobe (Or.inl (⟨by omega, rfl⟩)) hl0 B hex hl (by decide +kernel) dX11_mark_9 dX11_mark_12 dX11_mark_13 dX11_mark_15 dX11_mark_18 ⟨Nat.le_of_ble_eq_true rfl, Nat.le_of_ble_eq_true rfl, Nat.le_of_ble_eq_true rfl, Nat.le_of_ble_eq_true rfl⟩ ⟨Nat.le_of_ble_eq_true rfl, Nat.le_of_ble_eq_true rfl⟩
  · have zc_1 : 0 ≤ x1.toInt := znlt c_1
    refine lv_iload_n hx hb dX11_mark_4 rfl (lv_at hl 1 rfl) ?_
    refine lv_iconst (v := 4) hx hb dX11_mark_5 (by decide) ?_
    refine lv_icmp_le (tgt := 19) hx hb dX11_mark_6 (by decide) (fun c_2 => ?_) (fun c_2 => ?_)
    · have zc_2 : x1.toInt ≤ 4 := zle c_2
      refine lv_iload_n hx hb dX11_mark_19 rfl (lv_at hl 2 rfl) ?_
      refine lv_iconst (v := (-1)) hx hb dX11_mark_20 (by decide) ?_
      refine lv_icmp_eq (tgt := 51) hx hb dX11_mark_21 (by decide) (fun c_3 => ?_) (fun c_3 => ?_)
      · have zc_3 : x2.toInt = (-1) := zeq c_3
        refine lv_aload_n hx hb dX11_mark_51 rfl (lv_at hl 0 rfl) ?_
        refine x_get (ci := 9) (C := RX11) (T := TX11) (N := 5) (v := .ref dr) B 0 rfl rfl in_X11 4 (by decide) mw_479 (fun _ h9 => h9) rfl dX11_mark_52 ?_
        refine lv_iload_n hx hb dX11_mark_55 rfl (lv_at hl 1 rfl) ?_
        refine x_iald (v := (-1)) B 2 rfl (zin (by omega) (by omega)) dX11_mark_56 (hgd _ (zcl (by omega) (by omega))) ?_
        refine lv_istore_n (lv' := [(3, .int (-1)), (0, .ref gx), (1, .int x1), (2, .int x2)]) hx hb dX11_mark_57 rfl hl (by decide) rfl (fun ls hl => ?_)
        refine lv_aload_n hx hb dX11_mark_58 rfl (lv_at hl 1 rfl) ?_
        refine x_get (ci := 9) (C := RX11) (T := TX11) (N := 5) (v := .ref dr) B 0 rfl rfl in_X11 4 (by decide) mw_479 (fun _ h9 => h9) rfl dX11_mark_59 ?_
        refine lv_iload_n hx hb dX11_mark_62 rfl (lv_at hl 2 rfl) ?_
        refine lv_iload_n hx hb dX11_mark_63 rfl (lv_at hl 3 rfl) ?_
        refine lv_seti (y := (-1)) (zint (by rw [show ((-1) : Int32).toInt = (-1) by decide]; omega)) ?_
        refine x_iast B 2 rfl (zin (by omega) (by omega)) dX11_mark_64 (j := (x1.toNatClampNeg)) rfl (fun H locs B => ?_)
        have B := bd_to (ws' := [(gx, .inr (9, [.ref T, .ref LA, .ref sp, .int 0, .ref dr])), (T, .inr (8, [.ref bl, .ref pt, .ref fk, .ref fh, .int 0, .ref ky, .int 60, .int 12])), (dr, .inl (k 0, 5, .inl (upd gd (x1.toNatClampNeg) (-1))))]) rfl B
        refine lv_iload_n hx hb dX11_mark_65 rfl (lv_at hl 0 rfl) ?_
        have B := bd_sub (ws' := []) [] (by decide) rfl B
        exact vx_ret (x_iret B hr (⟨by omega, by omega, rfl, rfl⟩) (Nat.le_of_ble_eq_true rfl) (Nat.le_of_ble_eq_true rfl) dX11_mark_66)
      · have zc_3 : x2.toInt ≠ (-1) := zne c_3
        refine lv_iload_n hx hb dX11_mark_24 rfl (lv_at hl 2 rfl) ?_
        refine lv_iload_n hx hb dX11_mark_25 rfl (lv_at hl 1 rfl) ?_
        refine x_callS (rest := [.int x2]) (wr := [(gx, .inr (9, [.ref T, .ref LA, .ref sp, .int 0, .ref dr])), (T, .inr (8, [.ref bl, .ref pt, .ref fk, .ref fh, .int 0, .ref ky, .int 60, .int 12])), (dr, .inl (k 0, 5, .inl gd))]) (c_leastMark l dC dI k x1) B mS_X11_leastMark mw_607 hl [] [0, 1, 2] rfl rfl ⟨by decide, by decide⟩ (by decide) ⟨Nat.le_of_ble_eq_true rfl, Nat.le_of_ble_eq_true rfl⟩ (Nat.le_of_ble_eq_true rfl) rfl dX11_mark_26 ⟨Nat.le_of_ble_eq_true rfl, Nat.le_of_ble_eq_true rfl⟩ (fun r w H locs hp B => ?_)
        rcases hp with ⟨z_4, rfl, rfl⟩ | ⟨z_5, rfl, rfl⟩
        · skip
          have B := bd_to (ws' := [(gx, .inr (9, [.ref T, .ref LA, .ref sp, .int 0, .ref dr])), (T, .inr (8, [.ref bl, .ref pt, .ref fk, .ref fh, .int 0, .ref ky, .int 60, .int 12])), (dr, .inl (k 0, 5, .inl gd))]) rfl B
          refine lv_icmp_lt (tgt := 41) hx hb dX11_mark_29 (by decide) (fun c_6 => ?_) (fun c_6 => ?_)
          · have zc_6 : x2.toInt < 1 := zlt c_6
            exact x_thr (tx := "not a value for this") xE_iae (Or.inr (⟨by omega, by omega, rfl⟩)) hl0 B hex hl (by decide +kernel) dX11_mark_41 dX11_mark_44 dX11_mark_45 dX11_mark_47 dX11_mark_50 ⟨Nat.le_of_ble_eq_true rfl, Nat.le_of_ble_eq_true rfl, Nat.le_of_ble_eq_true rfl, Nat.le_of_ble_eq_true rfl⟩ ⟨Nat.le_of_ble_eq_true rfl, Nat.le_of_ble_eq_true rfl⟩
          · have zc_6 : 1 ≤ x2.toInt := znlt c_6
            refine lv_iload_n hx hb dX11_mark_32 rfl (lv_at hl 2 rfl) ?_
            refine lv_aload_n hx hb dX11_mark_33 rfl (lv_at hl 0 rfl) ?_
            refine lv_iload_n hx hb dX11_mark_34 rfl (lv_at hl 1 rfl) ?_
            refine lv_seti (y := 0) (zint (by rw [show (0 : Int32).toInt = 0 by decide]; omega)) ?_
            refine x_callV (rest := [.int x2]) (wr := [(dr, .inl (k 0, 5, .inl gd))]) (c_mostMark l dC dI k gx T LA sp dr bl pt fk fh ky 0 (by first | omega | decide)) B mV_X11_mostMark mw_610 hl [0, 1] [2] rfl rfl ⟨by decide, by decide⟩ (by decide) (q0 := 0) rfl rfl rfl ⟨Nat.le_of_ble_eq_true rfl, Nat.le_of_ble_eq_true rfl⟩ (Nat.le_of_ble_eq_true rfl) rfl dX11_mark_35 ⟨Nat.le_of_ble_eq_true rfl, Nat.le_of_ble_eq_true rfl⟩ (fun r w H locs hp B => ?_)
            rcases hp with ⟨z_7, rfl, rfl⟩ | ⟨z_8, rfl, rfl⟩ | ⟨z_9, rfl, rfl⟩ | ⟨z_10, rfl, rfl⟩ | ⟨z_11, rfl, rfl⟩
            · skip
              have B := bd_to (ws' := [(dr, .inl (k 0, 5, .inl gd)), (gx, .inr (9, [.ref T, .ref LA, .ref sp, .int 0, .ref dr])), (T, .inr (8, [.ref bl, .ref pt, .ref fk, .ref fh, .int 0, .ref ky, .int 60, .int 12]))]) rfl B
              refine lv_icmp_le (tgt := 51) hx hb dX11_mark_38 (by decide) (fun c_12 => ?_) (fun c_12 => ?_)
              · have zc_12 : x2.toInt ≤ 5 := zle c_12
                refine lv_aload_n hx hb dX11_mark_51 rfl (lv_at hl 0 rfl) ?_
                refine x_get (ci := 9) (C := RX11) (T := TX11) (N := 5) (v := .ref dr) B 1 rfl rfl in_X11 4 (by decide) mw_479 (fun _ h9 => h9) rfl dX11_mark_52 ?_
                refine lv_iload_n hx hb dX11_mark_55 rfl (lv_at hl 1 rfl) ?_
                refine lv_seti (y := 0) (zint (by rw [show (0 : Int32).toInt = 0 by decide]; omega)) ?_
                refine x_iald (v := (-1)) B 0 rfl (vpc (by decide)) dX11_mark_56 (hgd _ (by decide)) ?_
                refine lv_istore_n (lv' := [(3, .int (-1)), (0, .ref gx), (1, .int x1), (2, .int x2)]) hx hb dX11_mark_57 rfl hl (by decide) rfl (fun ls hl => ?_)
                refine lv_aload_n hx hb dX11_mark_58 rfl (lv_at hl 1 rfl) ?_
                refine x_get (ci := 9) (C := RX11) (T := TX11) (N := 5) (v := .ref dr) B 1 rfl rfl in_X11 4 (by decide) mw_479 (fun _ h9 => h9) rfl dX11_mark_59 ?_
                refine lv_iload_n hx hb dX11_mark_62 rfl (lv_at hl 2 rfl) ?_
                refine lv_seti (y := 0) (zint (by rw [show (0 : Int32).toInt = 0 by decide]; omega)) ?_
                refine lv_iload_n hx hb dX11_mark_63 rfl (lv_at hl 3 rfl) ?_
                refine x_iast B 0 rfl (vpc (by decide)) dX11_mark_64 (j := 0) (by decide) (fun H locs B => ?_)
                have B := bd_to (ws' := [(dr, .inl (k 0, 5, .inl (upd gd 0 x2))), (gx, .inr (9, [.ref T, .ref LA, .ref sp, .int 0, .ref dr])), (T, .inr (8, [.ref bl, .ref pt, .ref fk, .ref fh, .int 0, .ref ky, .int 60, .int 12]))]) rfl B
                refine lv_iload_n hx hb dX11_mark_65 rfl (lv_at hl 0 rfl) ?_
                have B := bd_sub (ws' := []) [] (by decide) rfl B
                exact vx_ret (x_iret B hr (⟨by omega, by omega, rfl, rfl⟩) (Nat.le_of_ble_eq_true rfl) (Nat.le_of_ble_eq_true rfl) dX11_mark_66)
              · have zc_12 : 5 < x2.toInt := znle c_12
                exact x_thr (tx := "not a value for this") xE_iae (Or.inr (⟨by omega, by omega, rfl⟩)) hl0 B hex hl (by decide +kernel) dX11_mark_41 dX11_mark_44 dX11_mark_45 dX11_mark_47 dX11_mark_50 ⟨Nat.le_of_ble_eq_true rfl, Nat.le_of_ble_eq_true rfl, Nat.le_of_ble_eq_true rfl, Nat.le_of_ble_eq_true rfl⟩ ⟨Nat.le_of_ble_eq_true rfl, Nat.le_of_ble_eq_true rfl⟩
            · skip
              exfalso; first | omega | exact absurd z_8 (by decide)
            · skip
              exfalso; first | omega | exact absurd z_9 (by decide)
            · skip
              exfalso; first | omega | exact absurd z_10 (by decide)
            · skip
              exfalso; first | omega | exact absurd z_11 (by decide)
        · skip
          have B := bd_to (ws' := [(gx, .inr (9, [.ref T, .ref LA, .ref sp, .int 0, .ref dr])), (T, .inr (8, [.ref bl, .ref pt, .ref fk, .ref fh, .int 0, .ref ky, .int 60, .int 12])), (dr, .inl (k 0, 5, .inl gd))]) rfl B
          refine lv_icmp_lt (tgt := 41) hx hb dX11_mark_29 (by decide) (fun c_13 => ?_) (fun c_13 => ?_)
          · have zc_13 : x2.toInt < 0 := zlt c_13
            exact x_thr (tx := "not a value for this") xE_iae (Or.inr (⟨by omega, by omega, rfl⟩)) hl0 B hex hl (by decide +kernel) dX11_mark_41 dX11_mark_44 dX11_mark_45 dX11_mark_47 dX11_mark_50 ⟨Nat.le_of_ble_eq_true rfl, Nat.le_of_ble_eq_true rfl, Nat.le_of_ble_eq_true rfl, Nat.le_of_ble_eq_true rfl⟩ ⟨Nat.le_of_ble_eq_true rfl, Nat.le_of_ble_eq_true rfl⟩
          · have zc_13 : 0 ≤ x2.toInt := znlt c_13
            refine lv_iload_n hx hb dX11_mark_32 rfl (lv_at hl 2 rfl) ?_
            refine lv_aload_n hx hb dX11_mark_33 rfl (lv_at hl 0 rfl) ?_
            refine lv_iload_n hx hb dX11_mark_34 rfl (lv_at hl 1 rfl) ?_
            refine x_callV (rest := [.int x2]) (wr := [(dr, .inl (k 0, 5, .inl gd))]) (c_mostMark l dC dI k gx T LA sp dr bl pt fk fh ky x1 (by first | omega | decide)) B mV_X11_mostMark mw_610 hl [0, 1] [2] rfl rfl ⟨by decide, by decide⟩ (by decide) (q0 := 0) rfl rfl rfl ⟨Nat.le_of_ble_eq_true rfl, Nat.le_of_ble_eq_true rfl⟩ (Nat.le_of_ble_eq_true rfl) rfl dX11_mark_35 ⟨Nat.le_of_ble_eq_true rfl, Nat.le_of_ble_eq_true rfl⟩ (fun r w H locs hp B => ?_)
            rcases hp with ⟨z_14, rfl, rfl⟩ | ⟨z_15, rfl, rfl⟩ | ⟨z_16, rfl, rfl⟩ | ⟨z_17, rfl, rfl⟩ | ⟨z_18, rfl, rfl⟩
            · skip
              exfalso; first | omega | exact absurd z_14 (by decide)
            · skip
              have B := bd_to (ws' := [(dr, .inl (k 0, 5, .inl gd)), (gx, .inr (9, [.ref T, .ref LA, .ref sp, .int 0, .ref dr])), (T, .inr (8, [.ref bl, .ref pt, .ref fk, .ref fh, .int 0, .ref ky, .int 60, .int 12]))]) rfl B
              refine lv_icmp_le (tgt := 51) hx hb dX11_mark_38 (by decide) (fun c9 => by have z9 : x2.toInt ≤ (-1) := zle c9; omega) (fun c_19 => ?_)
              exact x_thr (tx := "not a value for this") xE_iae (Or.inr (⟨by omega, by omega, rfl⟩)) hl0 B hex hl (by decide +kernel) dX11_mark_41 dX11_mark_44 dX11_mark_45 dX11_mark_47 dX11_mark_50 ⟨Nat.le_of_ble_eq_true rfl, Nat.le_of_ble_eq_true rfl, Nat.le_of_ble_eq_true rfl, Nat.le_of_ble_eq_true rfl⟩ ⟨Nat.le_of_ble_eq_true rfl, Nat.le_of_ble_eq_true rfl⟩
            · skip
              have B := bd_to (ws' := [(dr, .inl (k 0, 5, .inl gd)), (gx, .inr (9, [.ref T, .ref LA, .ref sp, .int 0, .ref dr])), (T, .inr (8, [.ref bl, .ref pt, .ref fk, .ref fh, .int 0, .ref ky, .int 60, .int 12]))]) rfl B
              refine lv_icmp_le (tgt := 51) hx hb dX11_mark_38 (by decide) (fun c_20 => ?_) (fun c_20 => ?_)
              · have zc_20 : x2.toInt ≤ 5 := zle c_20
                refine lv_aload_n hx hb dX11_mark_51 rfl (lv_at hl 0 rfl) ?_
                refine x_get (ci := 9) (C := RX11) (T := TX11) (N := 5) (v := .ref dr) B 1 rfl rfl in_X11 4 (by decide) mw_479 (fun _ h9 => h9) rfl dX11_mark_52 ?_
                refine lv_iload_n hx hb dX11_mark_55 rfl (lv_at hl 1 rfl) ?_
                refine lv_seti (y := 2) (zint (by rw [show (2 : Int32).toInt = 2 by decide]; omega)) ?_
                refine x_iald (v := (-1)) B 0 rfl (vpc (by decide)) dX11_mark_56 (hgd _ (by decide)) ?_
                refine lv_istore_n (lv' := [(3, .int (-1)), (0, .ref gx), (1, .int x1), (2, .int x2)]) hx hb dX11_mark_57 rfl hl (by decide) rfl (fun ls hl => ?_)
                refine lv_aload_n hx hb dX11_mark_58 rfl (lv_at hl 1 rfl) ?_
                refine x_get (ci := 9) (C := RX11) (T := TX11) (N := 5) (v := .ref dr) B 1 rfl rfl in_X11 4 (by decide) mw_479 (fun _ h9 => h9) rfl dX11_mark_59 ?_
                refine lv_iload_n hx hb dX11_mark_62 rfl (lv_at hl 2 rfl) ?_
                refine lv_seti (y := 2) (zint (by rw [show (2 : Int32).toInt = 2 by decide]; omega)) ?_
                refine lv_iload_n hx hb dX11_mark_63 rfl (lv_at hl 3 rfl) ?_
                refine x_iast B 0 rfl (vpc (by decide)) dX11_mark_64 (j := 2) (by decide) (fun H locs B => ?_)
                have B := bd_to (ws' := [(dr, .inl (k 0, 5, .inl (upd gd 2 x2))), (gx, .inr (9, [.ref T, .ref LA, .ref sp, .int 0, .ref dr])), (T, .inr (8, [.ref bl, .ref pt, .ref fk, .ref fh, .int 0, .ref ky, .int 60, .int 12]))]) rfl B
                refine lv_iload_n hx hb dX11_mark_65 rfl (lv_at hl 0 rfl) ?_
                have B := bd_sub (ws' := []) [] (by decide) rfl B
                exact vx_ret (x_iret B hr (⟨by omega, by omega, rfl, rfl⟩) (Nat.le_of_ble_eq_true rfl) (Nat.le_of_ble_eq_true rfl) dX11_mark_66)
              · have zc_20 : 5 < x2.toInt := znle c_20
                exact x_thr (tx := "not a value for this") xE_iae (Or.inr (⟨by omega, by omega, rfl⟩)) hl0 B hex hl (by decide +kernel) dX11_mark_41 dX11_mark_44 dX11_mark_45 dX11_mark_47 dX11_mark_50 ⟨Nat.le_of_ble_eq_true rfl, Nat.le_of_ble_eq_true rfl, Nat.le_of_ble_eq_true rfl, Nat.le_of_ble_eq_true rfl⟩ ⟨Nat.le_of_ble_eq_true rfl, Nat.le_of_ble_eq_true rfl⟩
            · skip
              have B := bd_to (ws' := [(dr, .inl (k 0, 5, .inl gd)), (gx, .inr (9, [.ref T, .ref LA, .ref sp, .int 0, .ref dr])), (T, .inr (8, [.ref bl, .ref pt, .ref fk, .ref fh, .int 0, .ref ky, .int 60, .int 12]))]) rfl B
              refine lv_icmp_le (tgt := 51) hx hb dX11_mark_38 (by decide) (fun c_21 => ?_) (fun c_21 => ?_)
              · have zc_21 : x2.toInt ≤ 7 := zle c_21
                refine lv_aload_n hx hb dX11_mark_51 rfl (lv_at hl 0 rfl) ?_
                refine x_get (ci := 9) (C := RX11) (T := TX11) (N := 5) (v := .ref dr) B 1 rfl rfl in_X11 4 (by decide) mw_479 (fun _ h9 => h9) rfl dX11_mark_52 ?_
                refine lv_iload_n hx hb dX11_mark_55 rfl (lv_at hl 1 rfl) ?_
                refine lv_seti (y := 3) (zint (by rw [show (3 : Int32).toInt = 3 by decide]; omega)) ?_
                refine x_iald (v := (-1)) B 0 rfl (vpc (by decide)) dX11_mark_56 (hgd _ (by decide)) ?_
                refine lv_istore_n (lv' := [(3, .int (-1)), (0, .ref gx), (1, .int x1), (2, .int x2)]) hx hb dX11_mark_57 rfl hl (by decide) rfl (fun ls hl => ?_)
                refine lv_aload_n hx hb dX11_mark_58 rfl (lv_at hl 1 rfl) ?_
                refine x_get (ci := 9) (C := RX11) (T := TX11) (N := 5) (v := .ref dr) B 1 rfl rfl in_X11 4 (by decide) mw_479 (fun _ h9 => h9) rfl dX11_mark_59 ?_
                refine lv_iload_n hx hb dX11_mark_62 rfl (lv_at hl 2 rfl) ?_
                refine lv_seti (y := 3) (zint (by rw [show (3 : Int32).toInt = 3 by decide]; omega)) ?_
                refine lv_iload_n hx hb dX11_mark_63 rfl (lv_at hl 3 rfl) ?_
                refine x_iast B 0 rfl (vpc (by decide)) dX11_mark_64 (j := 3) (by decide) (fun H locs B => ?_)
                have B := bd_to (ws' := [(dr, .inl (k 0, 5, .inl (upd gd 3 x2))), (gx, .inr (9, [.ref T, .ref LA, .ref sp, .int 0, .ref dr])), (T, .inr (8, [.ref bl, .ref pt, .ref fk, .ref fh, .int 0, .ref ky, .int 60, .int 12]))]) rfl B
                refine lv_iload_n hx hb dX11_mark_65 rfl (lv_at hl 0 rfl) ?_
                have B := bd_sub (ws' := []) [] (by decide) rfl B
                exact vx_ret (x_iret B hr (⟨by omega, by omega, rfl, rfl⟩) (Nat.le_of_ble_eq_true rfl) (Nat.le_of_ble_eq_true rfl) dX11_mark_66)
              · have zc_21 : 7 < x2.toInt := znle c_21
                exact x_thr (tx := "not a value for this") xE_iae (Or.inr (⟨by omega, by omega, rfl⟩)) hl0 B hex hl (by decide +kernel) dX11_mark_41 dX11_mark_44 dX11_mark_45 dX11_mark_47 dX11_mark_50 ⟨Nat.le_of_ble_eq_true rfl, Nat.le_of_ble_eq_true rfl, Nat.le_of_ble_eq_true rfl, Nat.le_of_ble_eq_true rfl⟩ ⟨Nat.le_of_ble_eq_true rfl, Nat.le_of_ble_eq_true rfl⟩
            · skip
              have B := bd_to (ws' := [(dr, .inl (k 0, 5, .inl gd)), (gx, .inr (9, [.ref T, .ref LA, .ref sp, .int 0, .ref dr])), (T, .inr (8, [.ref bl, .ref pt, .ref fk, .ref fh, .int 0, .ref ky, .int 60, .int 12]))]) rfl B
              refine lv_icmp_le (tgt := 51) hx hb dX11_mark_38 (by decide) (fun c_22 => ?_) (fun c_22 => ?_)
              · have zc_22 : x2.toInt ≤ 1 := zle c_22
                refine lv_aload_n hx hb dX11_mark_51 rfl (lv_at hl 0 rfl) ?_
                refine x_get (ci := 9) (C := RX11) (T := TX11) (N := 5) (v := .ref dr) B 1 rfl rfl in_X11 4 (by decide) mw_479 (fun _ h9 => h9) rfl dX11_mark_52 ?_
                refine lv_iload_n hx hb dX11_mark_55 rfl (lv_at hl 1 rfl) ?_
                refine lv_seti (y := 4) (zint (by rw [show (4 : Int32).toInt = 4 by decide]; omega)) ?_
                refine x_iald (v := (-1)) B 0 rfl (vpc (by decide)) dX11_mark_56 (hgd _ (by decide)) ?_
                refine lv_istore_n (lv' := [(3, .int (-1)), (0, .ref gx), (1, .int x1), (2, .int x2)]) hx hb dX11_mark_57 rfl hl (by decide) rfl (fun ls hl => ?_)
                refine lv_aload_n hx hb dX11_mark_58 rfl (lv_at hl 1 rfl) ?_
                refine x_get (ci := 9) (C := RX11) (T := TX11) (N := 5) (v := .ref dr) B 1 rfl rfl in_X11 4 (by decide) mw_479 (fun _ h9 => h9) rfl dX11_mark_59 ?_
                refine lv_iload_n hx hb dX11_mark_62 rfl (lv_at hl 2 rfl) ?_
                refine lv_seti (y := 4) (zint (by rw [show (4 : Int32).toInt = 4 by decide]; omega)) ?_
                refine lv_iload_n hx hb dX11_mark_63 rfl (lv_at hl 3 rfl) ?_
                refine x_iast B 0 rfl (vpc (by decide)) dX11_mark_64 (j := 4) (by decide) (fun H locs B => ?_)
                have B := bd_to (ws' := [(dr, .inl (k 0, 5, .inl (upd gd 4 x2))), (gx, .inr (9, [.ref T, .ref LA, .ref sp, .int 0, .ref dr])), (T, .inr (8, [.ref bl, .ref pt, .ref fk, .ref fh, .int 0, .ref ky, .int 60, .int 12]))]) rfl B
                refine lv_iload_n hx hb dX11_mark_65 rfl (lv_at hl 0 rfl) ?_
                have B := bd_sub (ws' := []) [] (by decide) rfl B
                exact vx_ret (x_iret B hr (⟨by omega, by omega, rfl, rfl⟩) (Nat.le_of_ble_eq_true rfl) (Nat.le_of_ble_eq_true rfl) dX11_mark_66)
              · have zc_22 : 1 < x2.toInt := znle c_22
                exact x_thr (tx := "not a value for this") xE_iae (Or.inr (⟨by omega, by omega, rfl⟩)) hl0 B hex hl (by decide +kernel) dX11_mark_41 dX11_mark_44 dX11_mark_45 dX11_mark_47 dX11_mark_50 ⟨Nat.le_of_ble_eq_true rfl, Nat.le_of_ble_eq_true rfl, Nat.le_of_ble_eq_true rfl, Nat.le_of_ble_eq_true rfl⟩ ⟨Nat.le_of_ble_eq_true rfl, Nat.le_of_ble_eq_true rfl⟩
    · have zc_2 : 4 < x1.toInt := znle c_2
      exact x_thr (tx := "no such thing to draft") xE_ioobe (Or.inl (⟨by omega, rfl⟩)) hl0 B hex hl (by decide +kernel) dX11_mark_9 dX11_mark_12 dX11_mark_13 dX11_mark_15 dX11_mark_18 ⟨Nat.le_of_ble_eq_true rfl, Nat.le_of_ble_eq_true rfl, Nat.le_of_ble_eq_true rfl, Nat.le_of_ble_eq_true rfl⟩ ⟨Nat.le_of_ble_eq_true rfl, Nat.le_of_ble_eq_true rfl⟩

theorem dX11_pattern_0 : decode cX11_pattern 0 = .ok (.iload_n 1, 1) := by decide +kernel
theorem dX11_pattern_1 : decode cX11_pattern 1 = .ok (.ifCond .lt 21, 3) := by decide +kernel
theorem dX11_pattern_4 : decode cX11_pattern 4 = .ok (.iload_n 1, 1) := by decide +kernel
theorem dX11_pattern_5 : decode cX11_pattern 5 = .ok (.aload_n 0, 1) := by decide +kernel
theorem dX11_pattern_6 : decode cX11_pattern 6 = .ok (.getfield 54, 3) := by decide +kernel
theorem dX11_pattern_9 : decode cX11_pattern 9 = .ok (.if_icmp .gt 13, 3) := by decide +kernel
theorem dX11_pattern_12 : decode cX11_pattern 12 = .ok (.iload_n 2, 1) := by decide +kernel
theorem dX11_pattern_13 : decode cX11_pattern 13 = .ok (.iconst 1, 1) := by decide +kernel
theorem dX11_pattern_14 : decode cX11_pattern 14 = .ok (.if_icmp .lt 8, 3) := by decide +kernel
theorem dX11_pattern_17 : decode cX11_pattern 17 = .ok (.iload_n 2, 1) := by decide +kernel
theorem dX11_pattern_18 : decode cX11_pattern 18 = .ok (.iconst 5, 1) := by decide +kernel
theorem dX11_pattern_19 : decode cX11_pattern 19 = .ok (.if_icmp .le 13, 3) := by decide +kernel
theorem dX11_pattern_22 : decode cX11_pattern 22 = .ok (.new 72, 3) := by decide +kernel
theorem dX11_pattern_25 : decode cX11_pattern 25 = .ok (.dup, 1) := by decide +kernel
theorem dX11_pattern_26 : decode cX11_pattern 26 = .ok (.ldc 77, 2) := by decide +kernel
theorem dX11_pattern_28 : decode cX11_pattern 28 = .ok (.invokespecial 76, 3) := by decide +kernel
theorem dX11_pattern_31 : decode cX11_pattern 31 = .ok (.athrow, 1) := by decide +kernel
theorem dX11_pattern_32 : decode cX11_pattern 32 = .ok (.aload_n 0, 1) := by decide +kernel
theorem dX11_pattern_33 : decode cX11_pattern 33 = .ok (.getfield 54, 3) := by decide +kernel
theorem dX11_pattern_36 : decode cX11_pattern 36 = .ok (.ifCond .eq 11, 3) := by decide +kernel
theorem dX11_pattern_47 : decode cX11_pattern 47 = .ok (.new 58, 3) := by decide +kernel
theorem dX11_pattern_50 : decode cX11_pattern 50 = .ok (.dup, 1) := by decide +kernel
theorem dX11_pattern_51 : decode cX11_pattern 51 = .ok (.ldc 79, 2) := by decide +kernel
theorem dX11_pattern_53 : decode cX11_pattern 53 = .ok (.invokespecial 62, 3) := by decide +kernel
theorem dX11_pattern_56 : decode cX11_pattern 56 = .ok (.athrow, 1) := by decide +kernel
set_option maxHeartbeats 4000000 in
set_option maxRecDepth 100000 in
theorem c_pattern (l : Launch) (dC : Nat → ClassId) (dI : Nat → Nat → Nat) (k : Nat → ClassId) (hl0 : l.stackTraces = false) (gx : Nat) (T : Nat) (LA : Nat) (sp : Nat) (dr : Nat) (x1 : Int32) (x2 : Int32) : Xt l dC dI k yX11_pattern (.code yX11_pattern cX11_pattern 3 (some .int)) ({ frames := 6, cells := 1, slots := 6, locals := 82 } : Room) [.ref gx, .int x1, .int x2] [(gx, .inr (9, [.ref T, .ref LA, .ref sp, .int 0, .ref dr]))] (fun r w => False) (fun E => (¬ (x1.toInt = 0 ∧ 1 ≤ x2.toInt ∧ x2.toInt ≤ 5) ∧ E = "java/lang/IllegalArgumentException") ∨ ((x1.toInt = 0 ∧ 1 ≤ x2.toInt ∧ x2.toInt ≤ 5) ∧ E = "java/lang/IllegalStateException")) := by
  refine xt_of (by decide) (Nat.le_of_ble_eq_true rfl) ?_
  intro p e s m args below meth c H locs B hr hex ls hl
  have hx := B.1.1
  have hb := B.1.2.1
  have hl : lv_has ls 3 [(0, .ref gx), (1, .int x1), (2, .int x2)] := hl
  refine lv_iload_n hx hb dX11_pattern_0 rfl (lv_at hl 1 rfl) ?_
  refine lv_if_lt (tgt := 22) hx hb dX11_pattern_1 (by decide) (fun c_1 => ?_) (fun c_1 => ?_)
  · have zc_1 : x1.toInt < 0 := zlt c_1
    exact x_thr (tx := "gap or level out of range") xE_iae (Or.inl (⟨by omega, rfl⟩)) hl0 B hex hl (by decide +kernel) dX11_pattern_22 dX11_pattern_25 dX11_pattern_26 dX11_pattern_28 dX11_pattern_31 ⟨Nat.le_of_ble_eq_true rfl, Nat.le_of_ble_eq_true rfl, Nat.le_of_ble_eq_true rfl, Nat.le_of_ble_eq_true rfl⟩ ⟨Nat.le_of_ble_eq_true rfl, Nat.le_of_ble_eq_true rfl⟩
  · have zc_1 : 0 ≤ x1.toInt := znlt c_1
    refine lv_iload_n hx hb dX11_pattern_4 rfl (lv_at hl 1 rfl) ?_
    refine lv_aload_n hx hb dX11_pattern_5 rfl (lv_at hl 0 rfl) ?_
    refine x_get (ci := 9) (C := RX11) (T := TX11) (N := 5) (v := .int 0) B 0 rfl rfl in_X11 3 (by decide) mw_478 (fun _ h9 => h9) rfl dX11_pattern_6 ?_
    refine lv_icmp_gt (tgt := 22) hx hb dX11_pattern_9 (by decide) (fun c_2 => ?_) (fun c_2 => ?_)
    · have zc_2 : 0 < x1.toInt := zgt c_2
      exact x_thr (tx := "gap or level out of range") xE_iae (Or.inl (⟨by omega, rfl⟩)) hl0 B hex hl (by decide +kernel) dX11_pattern_22 dX11_pattern_25 dX11_pattern_26 dX11_pattern_28 dX11_pattern_31 ⟨Nat.le_of_ble_eq_true rfl, Nat.le_of_ble_eq_true rfl, Nat.le_of_ble_eq_true rfl, Nat.le_of_ble_eq_true rfl⟩ ⟨Nat.le_of_ble_eq_true rfl, Nat.le_of_ble_eq_true rfl⟩
    · have zc_2 : x1.toInt ≤ 0 := zngt c_2
      refine lv_iload_n hx hb dX11_pattern_12 rfl (lv_at hl 2 rfl) ?_
      refine lv_iconst (v := 1) hx hb dX11_pattern_13 (by decide) ?_
      refine lv_icmp_lt (tgt := 22) hx hb dX11_pattern_14 (by decide) (fun c_3 => ?_) (fun c_3 => ?_)
      · have zc_3 : x2.toInt < 1 := zlt c_3
        exact x_thr (tx := "gap or level out of range") xE_iae (Or.inl (⟨by omega, rfl⟩)) hl0 B hex hl (by decide +kernel) dX11_pattern_22 dX11_pattern_25 dX11_pattern_26 dX11_pattern_28 dX11_pattern_31 ⟨Nat.le_of_ble_eq_true rfl, Nat.le_of_ble_eq_true rfl, Nat.le_of_ble_eq_true rfl, Nat.le_of_ble_eq_true rfl⟩ ⟨Nat.le_of_ble_eq_true rfl, Nat.le_of_ble_eq_true rfl⟩
      · have zc_3 : 1 ≤ x2.toInt := znlt c_3
        refine lv_iload_n hx hb dX11_pattern_17 rfl (lv_at hl 2 rfl) ?_
        refine lv_iconst (v := 5) hx hb dX11_pattern_18 (by decide) ?_
        refine lv_icmp_le (tgt := 32) hx hb dX11_pattern_19 (by decide) (fun c_4 => ?_) (fun c_4 => ?_)
        · have zc_4 : x2.toInt ≤ 5 := zle c_4
          refine lv_aload_n hx hb dX11_pattern_32 rfl (lv_at hl 0 rfl) ?_
          refine x_get (ci := 9) (C := RX11) (T := TX11) (N := 5) (v := .int 0) B 0 rfl rfl in_X11 3 (by decide) mw_478 (fun _ h9 => h9) rfl dX11_pattern_33 ?_
          refine lv_if_eq (tgt := 47) hx hb dX11_pattern_36 (by decide) (fun _ => ?_) (fun c9 => absurd (by decide) c9)
          exact x_thr (tx := "no text for a pattern") xE_ise (Or.inr (⟨by omega, rfl⟩)) hl0 B hex hl (by decide +kernel) dX11_pattern_47 dX11_pattern_50 dX11_pattern_51 dX11_pattern_53 dX11_pattern_56 ⟨Nat.le_of_ble_eq_true rfl, Nat.le_of_ble_eq_true rfl, Nat.le_of_ble_eq_true rfl, Nat.le_of_ble_eq_true rfl⟩ ⟨Nat.le_of_ble_eq_true rfl, Nat.le_of_ble_eq_true rfl⟩
        · have zc_4 : 5 < x2.toInt := znle c_4
          exact x_thr (tx := "gap or level out of range") xE_iae (Or.inl (⟨by omega, rfl⟩)) hl0 B hex hl (by decide +kernel) dX11_pattern_22 dX11_pattern_25 dX11_pattern_26 dX11_pattern_28 dX11_pattern_31 ⟨Nat.le_of_ble_eq_true rfl, Nat.le_of_ble_eq_true rfl, Nat.le_of_ble_eq_true rfl, Nat.le_of_ble_eq_true rfl⟩ ⟨Nat.le_of_ble_eq_true rfl, Nat.le_of_ble_eq_true rfl⟩

theorem dX11_word_0 : decode cX11_word 0 = .ok (.aload_n 0, 1) := by decide +kernel
theorem dX11_word_1 : decode cX11_word 1 = .ok (.iload_n 1, 1) := by decide +kernel
theorem dX11_word_2 : decode cX11_word 2 = .ok (.invokevirtual 109, 3) := by decide +kernel
set_option maxHeartbeats 4000000 in
set_option maxRecDepth 100000 in
theorem c_word (l : Launch) (dC : Nat → ClassId) (dI : Nat → Nat → Nat) (k : Nat → ClassId) (hl0 : l.stackTraces = false) (gx : Nat) (T : Nat) (LA : Nat) (sp : Nat) (dr : Nat) (bl : Nat) (pt : Nat) (fk : Nat) (fh : Nat) (ky : Nat) (x1 : Int32) (x2 : Int32) : Xt l dC dI k yX11_word (.code yX11_word cX11_word 5 (some .int)) ({ frames := 8, cells := 1, slots := 6, locals := 124 } : Room) [.ref gx, .int x1, .int x2] [(gx, .inr (9, [.ref T, .ref LA, .ref sp, .int 0, .ref dr])), (T, .inr (8, [.ref bl, .ref pt, .ref fk, .ref fh, .int 0, .ref ky, .int 60, .int 12])), (bl, .inr (11, [.int 0, .ref (dI 99 1), .int 0]))] (fun r w => False) (fun E => (E = "java/lang/IndexOutOfBoundsException")) := by
  refine xt_of (by decide) (Nat.le_of_ble_eq_true rfl) ?_
  intro p e s m args below meth c H locs B hr hex ls hl
  have hx := B.1.1
  have hb := B.1.2.1
  have hl : lv_has ls 5 [(0, .ref gx), (1, .int x1), (2, .int x2)] := hl
  refine lv_aload_n hx hb dX11_word_0 rfl (lv_at hl 0 rfl) ?_
  refine lv_iload_n hx hb dX11_word_1 rfl (lv_at hl 1 rfl) ?_
  refine x_callVx (rest := []) (wr := []) (c_blockAt l dC dI k hl0 gx T LA sp dr bl pt fk fh ky x1) B mV_X11_blockAt mw_783 hl [0, 1, 2] [] rfl rfl ⟨by decide, by decide⟩ (by decide) (q0 := 0) rfl rfl rfl ⟨Nat.le_of_ble_eq_true rfl, Nat.le_of_ble_eq_true rfl⟩ (Nat.le_of_ble_eq_true rfl) rfl dX11_word_2 ⟨Nat.le_of_ble_eq_true rfl, Nat.le_of_ble_eq_true rfl⟩ (fun E ce q9 H locs hp B h1 h2 h3 => ?_) (fun r w H locs hp B => ?_)
  · rcases hp with rfl
    exact x_out hex (rfl) B h1 h2 h3 (Nat.le_of_ble_eq_true rfl) (Nat.le_of_ble_eq_true rfl)
  · exact hp.elim

theorem dX11_reference_0 : decode cX11_reference 0 = .ok (.aload_n 0, 1) := by decide +kernel
theorem dX11_reference_1 : decode cX11_reference 1 = .ok (.iload_n 1, 1) := by decide +kernel
theorem dX11_reference_2 : decode cX11_reference 2 = .ok (.invokevirtual 109, 3) := by decide +kernel
set_option maxHeartbeats 4000000 in
set_option maxRecDepth 100000 in
theorem c_reference (l : Launch) (dC : Nat → ClassId) (dI : Nat → Nat → Nat) (k : Nat → ClassId) (hl0 : l.stackTraces = false) (gx : Nat) (T : Nat) (LA : Nat) (sp : Nat) (dr : Nat) (bl : Nat) (pt : Nat) (fk : Nat) (fh : Nat) (ky : Nat) (x1 : Int32) (x2 : Int32) (x3 : Int32) : Xt l dC dI k yX11_reference (.code yX11_reference cX11_reference 5 (some .int)) ({ frames := 8, cells := 1, slots := 6, locals := 124 } : Room) [.ref gx, .int x1, .int x2, .int x3] [(gx, .inr (9, [.ref T, .ref LA, .ref sp, .int 0, .ref dr])), (T, .inr (8, [.ref bl, .ref pt, .ref fk, .ref fh, .int 0, .ref ky, .int 60, .int 12])), (bl, .inr (11, [.int 0, .ref (dI 99 1), .int 0]))] (fun r w => False) (fun E => (E = "java/lang/IndexOutOfBoundsException")) := by
  refine xt_of (by decide) (Nat.le_of_ble_eq_true rfl) ?_
  intro p e s m args below meth c H locs B hr hex ls hl
  have hx := B.1.1
  have hb := B.1.2.1
  have hl : lv_has ls 5 [(0, .ref gx), (1, .int x1), (2, .int x2), (3, .int x3)] := hl
  refine lv_aload_n hx hb dX11_reference_0 rfl (lv_at hl 0 rfl) ?_
  refine lv_iload_n hx hb dX11_reference_1 rfl (lv_at hl 1 rfl) ?_
  refine x_callVx (rest := []) (wr := []) (c_blockAt l dC dI k hl0 gx T LA sp dr bl pt fk fh ky x1) B mV_X11_blockAt mw_783 hl [0, 1, 2] [] rfl rfl ⟨by decide, by decide⟩ (by decide) (q0 := 0) rfl rfl rfl ⟨Nat.le_of_ble_eq_true rfl, Nat.le_of_ble_eq_true rfl⟩ (Nat.le_of_ble_eq_true rfl) rfl dX11_reference_2 ⟨Nat.le_of_ble_eq_true rfl, Nat.le_of_ble_eq_true rfl⟩ (fun E ce q9 H locs hp B h1 h2 h3 => ?_) (fun r w H locs hp B => ?_)
  · rcases hp with rfl
    exact x_out hex (rfl) B h1 h2 h3 (Nat.le_of_ble_eq_true rfl) (Nat.le_of_ble_eq_true rfl)
  · exact hp.elim

theorem dX11_take_0 : decode cX11_take 0 = .ok (.aload_n 0, 1) := by decide +kernel
theorem dX11_take_1 : decode cX11_take 1 = .ok (.iload_n 1, 1) := by decide +kernel
theorem dX11_take_2 : decode cX11_take 2 = .ok (.invokevirtual 109, 3) := by decide +kernel
set_option maxHeartbeats 4000000 in
set_option maxRecDepth 100000 in
theorem c_take (l : Launch) (dC : Nat → ClassId) (dI : Nat → Nat → Nat) (k : Nat → ClassId) (hl0 : l.stackTraces = false) (gx : Nat) (T : Nat) (LA : Nat) (sp : Nat) (dr : Nat) (bl : Nat) (pt : Nat) (fk : Nat) (fh : Nat) (ky : Nat) (x1 : Int32) (x2 : Int32) : Xt l dC dI k yX11_take (.code yX11_take cX11_take 4 (some .int)) ({ frames := 8, cells := 1, slots := 6, locals := 124 } : Room) [.ref gx, .int x1, .int x2] [(gx, .inr (9, [.ref T, .ref LA, .ref sp, .int 0, .ref dr])), (T, .inr (8, [.ref bl, .ref pt, .ref fk, .ref fh, .int 0, .ref ky, .int 60, .int 12])), (bl, .inr (11, [.int 0, .ref (dI 99 1), .int 0]))] (fun r w => False) (fun E => (E = "java/lang/IndexOutOfBoundsException")) := by
  refine xt_of (by decide) (Nat.le_of_ble_eq_true rfl) ?_
  intro p e s m args below meth c H locs B hr hex ls hl
  have hx := B.1.1
  have hb := B.1.2.1
  have hl : lv_has ls 4 [(0, .ref gx), (1, .int x1), (2, .int x2)] := hl
  refine lv_aload_n hx hb dX11_take_0 rfl (lv_at hl 0 rfl) ?_
  refine lv_iload_n hx hb dX11_take_1 rfl (lv_at hl 1 rfl) ?_
  refine x_callVx (rest := []) (wr := []) (c_blockAt l dC dI k hl0 gx T LA sp dr bl pt fk fh ky x1) B mV_X11_blockAt mw_783 hl [0, 1, 2] [] rfl rfl ⟨by decide, by decide⟩ (by decide) (q0 := 0) rfl rfl rfl ⟨Nat.le_of_ble_eq_true rfl, Nat.le_of_ble_eq_true rfl⟩ (Nat.le_of_ble_eq_true rfl) rfl dX11_take_2 ⟨Nat.le_of_ble_eq_true rfl, Nat.le_of_ble_eq_true rfl⟩ (fun E ce q9 H locs hp B h1 h2 h3 => ?_) (fun r w H locs hp B => ?_)
  · rcases hp with rfl
    exact x_out hex (rfl) B h1 h2 h3 (Nat.le_of_ble_eq_true rfl) (Nat.le_of_ble_eq_true rfl)
  · exact hp.elim

theorem dX11_remove_0 : decode cX11_remove 0 = .ok (.aload_n 0, 1) := by decide +kernel
theorem dX11_remove_1 : decode cX11_remove 1 = .ok (.iload_n 1, 1) := by decide +kernel
theorem dX11_remove_2 : decode cX11_remove 2 = .ok (.invokevirtual 168, 3) := by decide +kernel
set_option maxHeartbeats 4000000 in
set_option maxRecDepth 100000 in
theorem c_remove (l : Launch) (dC : Nat → ClassId) (dI : Nat → Nat → Nat) (k : Nat → ClassId) (hl0 : l.stackTraces = false) (gx : Nat) (T : Nat) (LA : Nat) (sp : Nat) (dr : Nat) (bl : Nat) (pt : Nat) (fk : Nat) (fh : Nat) (ky : Nat) (x1 : Int32) : Xt l dC dI k yX11_remove (.code yX11_remove cX11_remove 2 (some .int)) ({ frames := 7, cells := 1, slots := 6, locals := 103 } : Room) [.ref gx, .int x1] [(gx, .inr (9, [.ref T, .ref LA, .ref sp, .int 0, .ref dr])), (T, .inr (8, [.ref bl, .ref pt, .ref fk, .ref fh, .int 0, .ref ky, .int 60, .int 12])), (bl, .inr (11, [.int 0, .ref (dI 99 1), .int 0]))] (fun r w => False) (fun E => (E = "java/lang/IndexOutOfBoundsException")) := by
  refine xt_of (by decide) (Nat.le_of_ble_eq_true rfl) ?_
  intro p e s m args below meth c H locs B hr hex ls hl
  have hx := B.1.1
  have hb := B.1.2.1
  have hl : lv_has ls 2 [(0, .ref gx), (1, .int x1)] := hl
  refine lv_aload_n hx hb dX11_remove_0 rfl (lv_at hl 0 rfl) ?_
  refine lv_iload_n hx hb dX11_remove_1 rfl (lv_at hl 1 rfl) ?_
  refine x_callVx (rest := []) (wr := []) (c_checkBlock l dC dI k hl0 gx T LA sp dr bl pt fk fh ky x1) B mV_X11_checkBlock mw_787 hl [0, 1, 2] [] rfl rfl ⟨by decide, by decide⟩ (by decide) (q0 := 0) rfl rfl rfl ⟨Nat.le_of_ble_eq_true rfl, Nat.le_of_ble_eq_true rfl⟩ (Nat.le_of_ble_eq_true rfl) rfl dX11_remove_2 ⟨Nat.le_of_ble_eq_true rfl, Nat.le_of_ble_eq_true rfl⟩ (fun E ce q9 H locs hp B h1 h2 h3 => ?_) (fun r w H locs hp B => ?_)
  · rcases hp with rfl
    exact x_out hex (rfl) B h1 h2 h3 (Nat.le_of_ble_eq_true rfl) (Nat.le_of_ble_eq_true rfl)
  · exact hp.elim

theorem dX11_style_0 : decode cX11_style 0 = .ok (.aload_n 0, 1) := by decide +kernel
theorem dX11_style_1 : decode cX11_style 1 = .ok (.iload_n 1, 1) := by decide +kernel
theorem dX11_style_2 : decode cX11_style 2 = .ok (.invokevirtual 109, 3) := by decide +kernel
set_option maxHeartbeats 4000000 in
set_option maxRecDepth 100000 in
theorem c_style (l : Launch) (dC : Nat → ClassId) (dI : Nat → Nat → Nat) (k : Nat → ClassId) (hl0 : l.stackTraces = false) (gx : Nat) (T : Nat) (LA : Nat) (sp : Nat) (dr : Nat) (bl : Nat) (pt : Nat) (fk : Nat) (fh : Nat) (ky : Nat) (x1 : Int32) (x2 : Int32) (x3 : Int32) : Xt l dC dI k yX11_style (.code yX11_style cX11_style 6 (some .int)) ({ frames := 8, cells := 1, slots := 6, locals := 124 } : Room) [.ref gx, .int x1, .int x2, .int x3] [(gx, .inr (9, [.ref T, .ref LA, .ref sp, .int 0, .ref dr])), (T, .inr (8, [.ref bl, .ref pt, .ref fk, .ref fh, .int 0, .ref ky, .int 60, .int 12])), (bl, .inr (11, [.int 0, .ref (dI 99 1), .int 0]))] (fun r w => False) (fun E => (E = "java/lang/IndexOutOfBoundsException")) := by
  refine xt_of (by decide) (Nat.le_of_ble_eq_true rfl) ?_
  intro p e s m args below meth c H locs B hr hex ls hl
  have hx := B.1.1
  have hb := B.1.2.1
  have hl : lv_has ls 6 [(0, .ref gx), (1, .int x1), (2, .int x2), (3, .int x3)] := hl
  refine lv_aload_n hx hb dX11_style_0 rfl (lv_at hl 0 rfl) ?_
  refine lv_iload_n hx hb dX11_style_1 rfl (lv_at hl 1 rfl) ?_
  refine x_callVx (rest := []) (wr := []) (c_blockAt l dC dI k hl0 gx T LA sp dr bl pt fk fh ky x1) B mV_X11_blockAt mw_783 hl [0, 1, 2] [] rfl rfl ⟨by decide, by decide⟩ (by decide) (q0 := 0) rfl rfl rfl ⟨Nat.le_of_ble_eq_true rfl, Nat.le_of_ble_eq_true rfl⟩ (Nat.le_of_ble_eq_true rfl) rfl dX11_style_2 ⟨Nat.le_of_ble_eq_true rfl, Nat.le_of_ble_eq_true rfl⟩ (fun E ce q9 H locs hp B h1 h2 h3 => ?_) (fun r w H locs hp B => ?_)
  · rcases hp with rfl
    exact x_out hex (rfl) B h1 h2 h3 (Nat.le_of_ble_eq_true rfl) (Nat.le_of_ble_eq_true rfl)
  · exact hp.elim

theorem dX11_cell_0 : decode cX11_cell 0 = .ok (.aload_n 0, 1) := by decide +kernel
theorem dX11_cell_1 : decode cX11_cell 1 = .ok (.iload_n 1, 1) := by decide +kernel
theorem dX11_cell_2 : decode cX11_cell 2 = .ok (.invokevirtual 109, 3) := by decide +kernel
set_option maxHeartbeats 4000000 in
set_option maxRecDepth 100000 in
theorem c_cell (l : Launch) (dC : Nat → ClassId) (dI : Nat → Nat → Nat) (k : Nat → ClassId) (hl0 : l.stackTraces = false) (gx : Nat) (T : Nat) (LA : Nat) (sp : Nat) (dr : Nat) (bl : Nat) (pt : Nat) (fk : Nat) (fh : Nat) (ky : Nat) (x1 : Int32) (x2 : Int32) (x3 : Int32) (x4 : Int32) (x5 : Int32) (x6 : Int32) : Xt l dC dI k yX11_cell (.code yX11_cell cX11_cell 8 (some .int)) ({ frames := 8, cells := 1, slots := 6, locals := 124 } : Room) [.ref gx, .int x1, .int x2, .int x3, .int x4, .int x5, .int x6] [(gx, .inr (9, [.ref T, .ref LA, .ref sp, .int 0, .ref dr])), (T, .inr (8, [.ref bl, .ref pt, .ref fk, .ref fh, .int 0, .ref ky, .int 60, .int 12])), (bl, .inr (11, [.int 0, .ref (dI 99 1), .int 0]))] (fun r w => False) (fun E => (E = "java/lang/IndexOutOfBoundsException")) := by
  refine xt_of (by decide) (Nat.le_of_ble_eq_true rfl) ?_
  intro p e s m args below meth c H locs B hr hex ls hl
  have hx := B.1.1
  have hb := B.1.2.1
  have hl : lv_has ls 8 [(0, .ref gx), (1, .int x1), (2, .int x2), (3, .int x3), (4, .int x4), (5, .int x5), (6, .int x6)] := hl
  refine lv_aload_n hx hb dX11_cell_0 rfl (lv_at hl 0 rfl) ?_
  refine lv_iload_n hx hb dX11_cell_1 rfl (lv_at hl 1 rfl) ?_
  refine x_callVx (rest := []) (wr := []) (c_blockAt l dC dI k hl0 gx T LA sp dr bl pt fk fh ky x1) B mV_X11_blockAt mw_783 hl [0, 1, 2] [] rfl rfl ⟨by decide, by decide⟩ (by decide) (q0 := 0) rfl rfl rfl ⟨Nat.le_of_ble_eq_true rfl, Nat.le_of_ble_eq_true rfl⟩ (Nat.le_of_ble_eq_true rfl) rfl dX11_cell_2 ⟨Nat.le_of_ble_eq_true rfl, Nat.le_of_ble_eq_true rfl⟩ (fun E ce q9 H locs hp B h1 h2 h3 => ?_) (fun r w H locs hp B => ?_)
  · rcases hp with rfl
    exact x_out hex (rfl) B h1 h2 h3 (Nat.le_of_ble_eq_true rfl) (Nat.le_of_ble_eq_true rfl)
  · exact hp.elim

theorem dX11_words_0 : decode cX11_words 0 = .ok (.aload_n 0, 1) := by decide +kernel
theorem dX11_words_1 : decode cX11_words 1 = .ok (.iload_n 1, 1) := by decide +kernel
theorem dX11_words_2 : decode cX11_words 2 = .ok (.invokevirtual 109, 3) := by decide +kernel
set_option maxHeartbeats 4000000 in
set_option maxRecDepth 100000 in
theorem c_words (l : Launch) (dC : Nat → ClassId) (dI : Nat → Nat → Nat) (k : Nat → ClassId) (hl0 : l.stackTraces = false) (gx : Nat) (T : Nat) (LA : Nat) (sp : Nat) (dr : Nat) (bl : Nat) (pt : Nat) (fk : Nat) (fh : Nat) (ky : Nat) (x1 : Int32) : Xt l dC dI k yX11_words (.code yX11_words cX11_words 2 (some .int)) ({ frames := 8, cells := 1, slots := 6, locals := 124 } : Room) [.ref gx, .int x1] [(gx, .inr (9, [.ref T, .ref LA, .ref sp, .int 0, .ref dr])), (T, .inr (8, [.ref bl, .ref pt, .ref fk, .ref fh, .int 0, .ref ky, .int 60, .int 12])), (bl, .inr (11, [.int 0, .ref (dI 99 1), .int 0]))] (fun r w => False) (fun E => (E = "java/lang/IndexOutOfBoundsException")) := by
  refine xt_of (by decide) (Nat.le_of_ble_eq_true rfl) ?_
  intro p e s m args below meth c H locs B hr hex ls hl
  have hx := B.1.1
  have hb := B.1.2.1
  have hl : lv_has ls 2 [(0, .ref gx), (1, .int x1)] := hl
  refine lv_aload_n hx hb dX11_words_0 rfl (lv_at hl 0 rfl) ?_
  refine lv_iload_n hx hb dX11_words_1 rfl (lv_at hl 1 rfl) ?_
  refine x_callVx (rest := []) (wr := []) (c_blockAt l dC dI k hl0 gx T LA sp dr bl pt fk fh ky x1) B mV_X11_blockAt mw_783 hl [0, 1, 2] [] rfl rfl ⟨by decide, by decide⟩ (by decide) (q0 := 0) rfl rfl rfl ⟨Nat.le_of_ble_eq_true rfl, Nat.le_of_ble_eq_true rfl⟩ (Nat.le_of_ble_eq_true rfl) rfl dX11_words_2 ⟨Nat.le_of_ble_eq_true rfl, Nat.le_of_ble_eq_true rfl⟩ (fun E ce q9 H locs hp B h1 h2 h3 => ?_) (fun r w H locs hp B => ?_)
  · rcases hp with rfl
    exact x_out hex (rfl) B h1 h2 h3 (Nat.le_of_ble_eq_true rfl) (Nat.le_of_ble_eq_true rfl)
  · exact hp.elim

theorem dX11_gaps_0 : decode cX11_gaps 0 = .ok (.aload_n 0, 1) := by decide +kernel
theorem dX11_gaps_1 : decode cX11_gaps 1 = .ok (.iload_n 1, 1) := by decide +kernel
theorem dX11_gaps_2 : decode cX11_gaps 2 = .ok (.invokevirtual 109, 3) := by decide +kernel
set_option maxHeartbeats 4000000 in
set_option maxRecDepth 100000 in
theorem c_gaps (l : Launch) (dC : Nat → ClassId) (dI : Nat → Nat → Nat) (k : Nat → ClassId) (hl0 : l.stackTraces = false) (gx : Nat) (T : Nat) (LA : Nat) (sp : Nat) (dr : Nat) (bl : Nat) (pt : Nat) (fk : Nat) (fh : Nat) (ky : Nat) (x1 : Int32) (x2 : Int32) : Xt l dC dI k yX11_gaps (.code yX11_gaps cX11_gaps 4 (some .int)) ({ frames := 8, cells := 1, slots := 6, locals := 124 } : Room) [.ref gx, .int x1, .int x2] [(gx, .inr (9, [.ref T, .ref LA, .ref sp, .int 0, .ref dr])), (T, .inr (8, [.ref bl, .ref pt, .ref fk, .ref fh, .int 0, .ref ky, .int 60, .int 12])), (bl, .inr (11, [.int 0, .ref (dI 99 1), .int 0]))] (fun r w => False) (fun E => (E = "java/lang/IndexOutOfBoundsException")) := by
  refine xt_of (by decide) (Nat.le_of_ble_eq_true rfl) ?_
  intro p e s m args below meth c H locs B hr hex ls hl
  have hx := B.1.1
  have hb := B.1.2.1
  have hl : lv_has ls 4 [(0, .ref gx), (1, .int x1), (2, .int x2)] := hl
  refine lv_aload_n hx hb dX11_gaps_0 rfl (lv_at hl 0 rfl) ?_
  refine lv_iload_n hx hb dX11_gaps_1 rfl (lv_at hl 1 rfl) ?_
  refine x_callVx (rest := []) (wr := []) (c_blockAt l dC dI k hl0 gx T LA sp dr bl pt fk fh ky x1) B mV_X11_blockAt mw_783 hl [0, 1, 2] [] rfl rfl ⟨by decide, by decide⟩ (by decide) (q0 := 0) rfl rfl rfl ⟨Nat.le_of_ble_eq_true rfl, Nat.le_of_ble_eq_true rfl⟩ (Nat.le_of_ble_eq_true rfl) rfl dX11_gaps_2 ⟨Nat.le_of_ble_eq_true rfl, Nat.le_of_ble_eq_true rfl⟩ (fun E ce q9 H locs hp B h1 h2 h3 => ?_) (fun r w H locs hp B => ?_)
  · rcases hp with rfl
    exact x_out hex (rfl) B h1 h2 h3 (Nat.le_of_ble_eq_true rfl) (Nat.le_of_ble_eq_true rfl)
  · exact hp.elim

theorem dX11_number_0 : decode cX11_number 0 = .ok (.iload_n 1, 1) := by decide +kernel
theorem dX11_number_1 : decode cX11_number 1 = .ok (.invokestatic 238, 3) := by decide +kernel
theorem dX11_number_4 : decode cX11_number 4 = .ok (.aload_n 0, 1) := by decide +kernel
theorem dX11_number_5 : decode cX11_number 5 = .ok (.iload_n 2, 1) := by decide +kernel
theorem dX11_number_6 : decode cX11_number 6 = .ok (.invokevirtual 109, 3) := by decide +kernel
set_option maxHeartbeats 4000000 in
set_option maxRecDepth 100000 in
theorem c_number (l : Launch) (dC : Nat → ClassId) (dI : Nat → Nat → Nat) (k : Nat → ClassId) (hl0 : l.stackTraces = false) (gx : Nat) (T : Nat) (LA : Nat) (sp : Nat) (dr : Nat) (bl : Nat) (pt : Nat) (fk : Nat) (fh : Nat) (ky : Nat) (x1 : Int32) (x2 : Int32) : Xt l dC dI k yX11_number (.code yX11_number cX11_number 4 (some .int)) ({ frames := 8, cells := 2, slots := 12, locals := 124 } : Room) [.ref gx, .int x1, .int x2] [(gx, .inr (9, [.ref T, .ref LA, .ref sp, .int 0, .ref dr])), (T, .inr (8, [.ref bl, .ref pt, .ref fk, .ref fh, .int 0, .ref ky, .int 60, .int 12])), (bl, .inr (11, [.int 0, .ref (dI 99 1), .int 0]))] (fun r w => False) (fun E => (E = "java/lang/IndexOutOfBoundsException")) := by
  refine xt_of (by decide) (Nat.le_of_ble_eq_true rfl) ?_
  intro p e s m args below meth c H locs B hr hex ls hl
  have hx := B.1.1
  have hb := B.1.2.1
  have hl : lv_has ls 4 [(0, .ref gx), (1, .int x1), (2, .int x2)] := hl
  refine lv_iload_n hx hb dX11_number_0 rfl (lv_at hl 1 rfl) ?_
  refine x_callSx (rest := []) (wr := [(gx, .inr (9, [.ref T, .ref LA, .ref sp, .int 0, .ref dr])), (T, .inr (8, [.ref bl, .ref pt, .ref fk, .ref fh, .int 0, .ref ky, .int 60, .int 12])), (bl, .inr (11, [.int 0, .ref (dI 99 1), .int 0]))]) (c_checkVariant l dC dI k hl0 x1) B mS_X11_checkVariant mw_1286 hl [] [0, 1, 2] rfl rfl ⟨by decide, by decide⟩ (by decide) ⟨Nat.le_of_ble_eq_true rfl, Nat.le_of_ble_eq_true rfl⟩ (Nat.le_of_ble_eq_true rfl) rfl dX11_number_1 ⟨Nat.le_of_ble_eq_true rfl, Nat.le_of_ble_eq_true rfl⟩ (fun E ce q9 H locs hp B h1 h2 h3 => ?_) (fun r w H locs hp B => ?_)
  · rcases hp with ⟨z0_0, rfl⟩
    exact x_out hex (rfl) B h1 h2 h3 (Nat.le_of_ble_eq_true rfl) (Nat.le_of_ble_eq_true rfl)
  · skip
    obtain ⟨z_2, rfl, rfl⟩ := hp
    have B := bd_to (ws' := [(gx, .inr (9, [.ref T, .ref LA, .ref sp, .int 0, .ref dr])), (T, .inr (8, [.ref bl, .ref pt, .ref fk, .ref fh, .int 0, .ref ky, .int 60, .int 12])), (bl, .inr (11, [.int 0, .ref (dI 99 1), .int 0]))]) rfl B
    refine lv_aload_n hx hb dX11_number_4 rfl (lv_at hl 0 rfl) ?_
    refine lv_iload_n hx hb dX11_number_5 rfl (lv_at hl 2 rfl) ?_
    refine x_callVx (rest := []) (wr := []) (c_blockAt l dC dI k hl0 gx T LA sp dr bl pt fk fh ky x2) B mV_X11_blockAt mw_783 hl [0, 1, 2] [] rfl rfl ⟨by decide, by decide⟩ (by decide) (q0 := 0) rfl rfl rfl ⟨Nat.le_of_ble_eq_true rfl, Nat.le_of_ble_eq_true rfl⟩ (Nat.le_of_ble_eq_true rfl) rfl dX11_number_6 ⟨Nat.le_of_ble_eq_true rfl, Nat.le_of_ble_eq_true rfl⟩ (fun E ce q9 H locs hp B h1 h2 h3 => ?_) (fun r w H locs hp B => ?_)
    · rcases hp with rfl
      exact x_out hex (rfl) B h1 h2 h3 (Nat.le_of_ble_eq_true rfl) (Nat.le_of_ble_eq_true rfl)
    · exact hp.elim

theorem mw_1315 : (Jvm.Cond.methodLink "Galleyforge" (259 : Nat) ({ cls := "Galleyforge", name := "tableAt", desc := "(I)LGalleyforge$Table;" } : Jvm.MethodName)) ∈ gt := gt_at 1450 (by decide +kernel) (by decide +kernel)
theorem mw_1317 : (Jvm.Cond.instanceMethod ({ cls := "Galleyforge", name := "tableAt", desc := "(I)LGalleyforge$Table;" } : Jvm.MethodName)) ∈ gt := gt_at 1452 (by decide +kernel) (by decide +kernel)
theorem mw_1318 : (Jvm.Cond.code ({ cls := "Galleyforge", name := "tableAt", desc := "(I)LGalleyforge$Table;" } : Jvm.MethodName) prog_1_method_50_code (3 : Nat) (Option.some (Jvm.ClassFile.FieldType.object "Galleyforge$Table"))) ∈ gt := gt_at 1453 (by decide +kernel) (by decide +kernel)
theorem ms_13 : Cond.selects "Galleyforge" (⟨"Galleyforge", "tableAt", "(I)LGalleyforge$Table;"⟩ : MethodName) (⟨"Galleyforge", "tableAt", "(I)LGalleyforge$Table;"⟩ : MethodName) ∈ gt := gt_at 13 (by decide +kernel) (by decide +kernel)
theorem mV_X11_tableAt : mV yX11_tableAt cX11_tableAt 3 (some (.object "Galleyforge$Table")) 1 := ⟨⟨mw_1318, mw_1, by decide, by decide, by decide +kernel⟩, mw_1317, ms_13⟩
theorem dX11_columnWidth_0 : decode cX11_columnWidth 0 = .ok (.aload_n 0, 1) := by decide +kernel
theorem dX11_columnWidth_1 : decode cX11_columnWidth 1 = .ok (.iload_n 1, 1) := by decide +kernel
theorem dX11_columnWidth_2 : decode cX11_columnWidth 2 = .ok (.invokevirtual 259, 3) := by decide +kernel
set_option maxHeartbeats 4000000 in
set_option maxRecDepth 100000 in
theorem c_columnWidth (l : Launch) (dC : Nat → ClassId) (dI : Nat → Nat → Nat) (k : Nat → ClassId) (hl0 : l.stackTraces = false) (gx : Nat) (T : Nat) (LA : Nat) (sp : Nat) (dr : Nat) (bl : Nat) (pt : Nat) (fk : Nat) (fh : Nat) (ky : Nat) (x1 : Int32) (x2 : Int32) : Xt l dC dI k yX11_columnWidth (.code yX11_columnWidth cX11_columnWidth 4 (some .int)) ({ frames := 9, cells := 1, slots := 6, locals := 146 } : Room) [.ref gx, .int x1, .int x2] [(gx, .inr (9, [.ref T, .ref LA, .ref sp, .int 0, .ref dr])), (T, .inr (8, [.ref bl, .ref pt, .ref fk, .ref fh, .int 0, .ref ky, .int 60, .int 12])), (bl, .inr (11, [.int 0, .ref (dI 99 1), .int 0]))] (fun r w => False) (fun E => (E = "java/lang/IndexOutOfBoundsException")) := by
  refine xt_of (by decide) (Nat.le_of_ble_eq_true rfl) ?_
  intro p e s m args below meth c H locs B hr hex ls hl
  have hx := B.1.1
  have hb := B.1.2.1
  have hl : lv_has ls 4 [(0, .ref gx), (1, .int x1), (2, .int x2)] := hl
  refine lv_aload_n hx hb dX11_columnWidth_0 rfl (lv_at hl 0 rfl) ?_
  refine lv_iload_n hx hb dX11_columnWidth_1 rfl (lv_at hl 1 rfl) ?_
  refine x_callVx (rest := []) (wr := []) (c_tableAt l dC dI k hl0 gx T LA sp dr bl pt fk fh ky x1) B mV_X11_tableAt mw_1315 hl [0, 1, 2] [] rfl rfl ⟨by decide, by decide⟩ (by decide) (q0 := 0) rfl rfl rfl ⟨Nat.le_of_ble_eq_true rfl, Nat.le_of_ble_eq_true rfl⟩ (Nat.le_of_ble_eq_true rfl) rfl dX11_columnWidth_2 ⟨Nat.le_of_ble_eq_true rfl, Nat.le_of_ble_eq_true rfl⟩ (fun E ce q9 H locs hp B h1 h2 h3 => ?_) (fun r w H locs hp B => ?_)
  · rcases hp with rfl
    exact x_out hex (rfl) B h1 h2 h3 (Nat.le_of_ble_eq_true rfl) (Nat.le_of_ble_eq_true rfl)
  · exact hp.elim

theorem dX11_rowHeight_0 : decode cX11_rowHeight 0 = .ok (.aload_n 0, 1) := by decide +kernel
theorem dX11_rowHeight_1 : decode cX11_rowHeight 1 = .ok (.iload_n 1, 1) := by decide +kernel
theorem dX11_rowHeight_2 : decode cX11_rowHeight 2 = .ok (.invokevirtual 259, 3) := by decide +kernel
set_option maxHeartbeats 4000000 in
set_option maxRecDepth 100000 in
theorem c_rowHeight (l : Launch) (dC : Nat → ClassId) (dI : Nat → Nat → Nat) (k : Nat → ClassId) (hl0 : l.stackTraces = false) (gx : Nat) (T : Nat) (LA : Nat) (sp : Nat) (dr : Nat) (bl : Nat) (pt : Nat) (fk : Nat) (fh : Nat) (ky : Nat) (x1 : Int32) (x2 : Int32) : Xt l dC dI k yX11_rowHeight (.code yX11_rowHeight cX11_rowHeight 4 (some .int)) ({ frames := 9, cells := 1, slots := 6, locals := 146 } : Room) [.ref gx, .int x1, .int x2] [(gx, .inr (9, [.ref T, .ref LA, .ref sp, .int 0, .ref dr])), (T, .inr (8, [.ref bl, .ref pt, .ref fk, .ref fh, .int 0, .ref ky, .int 60, .int 12])), (bl, .inr (11, [.int 0, .ref (dI 99 1), .int 0]))] (fun r w => False) (fun E => (E = "java/lang/IndexOutOfBoundsException")) := by
  refine xt_of (by decide) (Nat.le_of_ble_eq_true rfl) ?_
  intro p e s m args below meth c H locs B hr hex ls hl
  have hx := B.1.1
  have hb := B.1.2.1
  have hl : lv_has ls 4 [(0, .ref gx), (1, .int x1), (2, .int x2)] := hl
  refine lv_aload_n hx hb dX11_rowHeight_0 rfl (lv_at hl 0 rfl) ?_
  refine lv_iload_n hx hb dX11_rowHeight_1 rfl (lv_at hl 1 rfl) ?_
  refine x_callVx (rest := []) (wr := []) (c_tableAt l dC dI k hl0 gx T LA sp dr bl pt fk fh ky x1) B mV_X11_tableAt mw_1315 hl [0, 1, 2] [] rfl rfl ⟨by decide, by decide⟩ (by decide) (q0 := 0) rfl rfl rfl ⟨Nat.le_of_ble_eq_true rfl, Nat.le_of_ble_eq_true rfl⟩ (Nat.le_of_ble_eq_true rfl) rfl dX11_rowHeight_2 ⟨Nat.le_of_ble_eq_true rfl, Nat.le_of_ble_eq_true rfl⟩ (fun E ce q9 H locs hp B h1 h2 h3 => ?_) (fun r w H locs hp B => ?_)
  · rcases hp with rfl
    exact x_out hex (rfl) B h1 h2 h3 (Nat.le_of_ble_eq_true rfl) (Nat.le_of_ble_eq_true rfl)
  · exact hp.elim

theorem dX11_lines_0 : decode cX11_lines 0 = .ok (.iload_n 1, 1) := by decide +kernel
theorem dX11_lines_1 : decode cX11_lines 1 = .ok (.invokestatic 238, 3) := by decide +kernel
theorem dX11_lines_4 : decode cX11_lines 4 = .ok (.aload_n 0, 1) := by decide +kernel
theorem dX11_lines_5 : decode cX11_lines 5 = .ok (.iload_n 2, 1) := by decide +kernel
theorem dX11_lines_6 : decode cX11_lines 6 = .ok (.invokevirtual 168, 3) := by decide +kernel
set_option maxHeartbeats 4000000 in
set_option maxRecDepth 100000 in
theorem c_lines (l : Launch) (dC : Nat → ClassId) (dI : Nat → Nat → Nat) (k : Nat → ClassId) (hl0 : l.stackTraces = false) (gx : Nat) (T : Nat) (LA : Nat) (sp : Nat) (dr : Nat) (bl : Nat) (pt : Nat) (fk : Nat) (fh : Nat) (ky : Nat) (x1 : Int32) (x2 : Int32) : Xt l dC dI k yX11_lines (.code yX11_lines cX11_lines 3 (some .int)) ({ frames := 7, cells := 2, slots := 12, locals := 103 } : Room) [.ref gx, .int x1, .int x2] [(gx, .inr (9, [.ref T, .ref LA, .ref sp, .int 0, .ref dr])), (T, .inr (8, [.ref bl, .ref pt, .ref fk, .ref fh, .int 0, .ref ky, .int 60, .int 12])), (bl, .inr (11, [.int 0, .ref (dI 99 1), .int 0]))] (fun r w => False) (fun E => (E = "java/lang/IndexOutOfBoundsException")) := by
  refine xt_of (by decide) (Nat.le_of_ble_eq_true rfl) ?_
  intro p e s m args below meth c H locs B hr hex ls hl
  have hx := B.1.1
  have hb := B.1.2.1
  have hl : lv_has ls 3 [(0, .ref gx), (1, .int x1), (2, .int x2)] := hl
  refine lv_iload_n hx hb dX11_lines_0 rfl (lv_at hl 1 rfl) ?_
  refine x_callSx (rest := []) (wr := [(gx, .inr (9, [.ref T, .ref LA, .ref sp, .int 0, .ref dr])), (T, .inr (8, [.ref bl, .ref pt, .ref fk, .ref fh, .int 0, .ref ky, .int 60, .int 12])), (bl, .inr (11, [.int 0, .ref (dI 99 1), .int 0]))]) (c_checkVariant l dC dI k hl0 x1) B mS_X11_checkVariant mw_1286 hl [] [0, 1, 2] rfl rfl ⟨by decide, by decide⟩ (by decide) ⟨Nat.le_of_ble_eq_true rfl, Nat.le_of_ble_eq_true rfl⟩ (Nat.le_of_ble_eq_true rfl) rfl dX11_lines_1 ⟨Nat.le_of_ble_eq_true rfl, Nat.le_of_ble_eq_true rfl⟩ (fun E ce q9 H locs hp B h1 h2 h3 => ?_) (fun r w H locs hp B => ?_)
  · rcases hp with ⟨z0_0, rfl⟩
    exact x_out hex (rfl) B h1 h2 h3 (Nat.le_of_ble_eq_true rfl) (Nat.le_of_ble_eq_true rfl)
  · skip
    obtain ⟨z_2, rfl, rfl⟩ := hp
    have B := bd_to (ws' := [(gx, .inr (9, [.ref T, .ref LA, .ref sp, .int 0, .ref dr])), (T, .inr (8, [.ref bl, .ref pt, .ref fk, .ref fh, .int 0, .ref ky, .int 60, .int 12])), (bl, .inr (11, [.int 0, .ref (dI 99 1), .int 0]))]) rfl B
    refine lv_aload_n hx hb dX11_lines_4 rfl (lv_at hl 0 rfl) ?_
    refine lv_iload_n hx hb dX11_lines_5 rfl (lv_at hl 2 rfl) ?_
    refine x_callVx (rest := []) (wr := []) (c_checkBlock l dC dI k hl0 gx T LA sp dr bl pt fk fh ky x2) B mV_X11_checkBlock mw_787 hl [0, 1, 2] [] rfl rfl ⟨by decide, by decide⟩ (by decide) (q0 := 0) rfl rfl rfl ⟨Nat.le_of_ble_eq_true rfl, Nat.le_of_ble_eq_true rfl⟩ (Nat.le_of_ble_eq_true rfl) rfl dX11_lines_6 ⟨Nat.le_of_ble_eq_true rfl, Nat.le_of_ble_eq_true rfl⟩ (fun E ce q9 H locs hp B h1 h2 h3 => ?_) (fun r w H locs hp B => ?_)
    · rcases hp with rfl
      exact x_out hex (rfl) B h1 h2 h3 (Nat.le_of_ble_eq_true rfl) (Nat.le_of_ble_eq_true rfl)
    · exact hp.elim

theorem dX11_demerits_0 : decode cX11_demerits 0 = .ok (.iload_n 1, 1) := by decide +kernel
theorem dX11_demerits_1 : decode cX11_demerits 1 = .ok (.invokestatic 238, 3) := by decide +kernel
theorem dX11_demerits_4 : decode cX11_demerits 4 = .ok (.aload_n 0, 1) := by decide +kernel
theorem dX11_demerits_5 : decode cX11_demerits 5 = .ok (.iload_n 2, 1) := by decide +kernel
theorem dX11_demerits_6 : decode cX11_demerits 6 = .ok (.invokevirtual 168, 3) := by decide +kernel
set_option maxHeartbeats 4000000 in
set_option maxRecDepth 100000 in
theorem c_demerits (l : Launch) (dC : Nat → ClassId) (dI : Nat → Nat → Nat) (k : Nat → ClassId) (hl0 : l.stackTraces = false) (gx : Nat) (T : Nat) (LA : Nat) (sp : Nat) (dr : Nat) (bl : Nat) (pt : Nat) (fk : Nat) (fh : Nat) (ky : Nat) (x1 : Int32) (x2 : Int32) : Xt l dC dI k yX11_demerits (.code yX11_demerits cX11_demerits 3 (some .long)) ({ frames := 7, cells := 2, slots := 12, locals := 103 } : Room) [.ref gx, .int x1, .int x2] [(gx, .inr (9, [.ref T, .ref LA, .ref sp, .int 0, .ref dr])), (T, .inr (8, [.ref bl, .ref pt, .ref fk, .ref fh, .int 0, .ref ky, .int 60, .int 12])), (bl, .inr (11, [.int 0, .ref (dI 99 1), .int 0]))] (fun r w => False) (fun E => (E = "java/lang/IndexOutOfBoundsException")) := by
  refine xt_of (by decide) (Nat.le_of_ble_eq_true rfl) ?_
  intro p e s m args below meth c H locs B hr hex ls hl
  have hx := B.1.1
  have hb := B.1.2.1
  have hl : lv_has ls 3 [(0, .ref gx), (1, .int x1), (2, .int x2)] := hl
  refine lv_iload_n hx hb dX11_demerits_0 rfl (lv_at hl 1 rfl) ?_
  refine x_callSx (rest := []) (wr := [(gx, .inr (9, [.ref T, .ref LA, .ref sp, .int 0, .ref dr])), (T, .inr (8, [.ref bl, .ref pt, .ref fk, .ref fh, .int 0, .ref ky, .int 60, .int 12])), (bl, .inr (11, [.int 0, .ref (dI 99 1), .int 0]))]) (c_checkVariant l dC dI k hl0 x1) B mS_X11_checkVariant mw_1286 hl [] [0, 1, 2] rfl rfl ⟨by decide, by decide⟩ (by decide) ⟨Nat.le_of_ble_eq_true rfl, Nat.le_of_ble_eq_true rfl⟩ (Nat.le_of_ble_eq_true rfl) rfl dX11_demerits_1 ⟨Nat.le_of_ble_eq_true rfl, Nat.le_of_ble_eq_true rfl⟩ (fun E ce q9 H locs hp B h1 h2 h3 => ?_) (fun r w H locs hp B => ?_)
  · rcases hp with ⟨z0_0, rfl⟩
    exact x_out hex (rfl) B h1 h2 h3 (Nat.le_of_ble_eq_true rfl) (Nat.le_of_ble_eq_true rfl)
  · skip
    obtain ⟨z_2, rfl, rfl⟩ := hp
    have B := bd_to (ws' := [(gx, .inr (9, [.ref T, .ref LA, .ref sp, .int 0, .ref dr])), (T, .inr (8, [.ref bl, .ref pt, .ref fk, .ref fh, .int 0, .ref ky, .int 60, .int 12])), (bl, .inr (11, [.int 0, .ref (dI 99 1), .int 0]))]) rfl B
    refine lv_aload_n hx hb dX11_demerits_4 rfl (lv_at hl 0 rfl) ?_
    refine lv_iload_n hx hb dX11_demerits_5 rfl (lv_at hl 2 rfl) ?_
    refine x_callVx (rest := []) (wr := []) (c_checkBlock l dC dI k hl0 gx T LA sp dr bl pt fk fh ky x2) B mV_X11_checkBlock mw_787 hl [0, 1, 2] [] rfl rfl ⟨by decide, by decide⟩ (by decide) (q0 := 0) rfl rfl rfl ⟨Nat.le_of_ble_eq_true rfl, Nat.le_of_ble_eq_true rfl⟩ (Nat.le_of_ble_eq_true rfl) rfl dX11_demerits_6 ⟨Nat.le_of_ble_eq_true rfl, Nat.le_of_ble_eq_true rfl⟩ (fun E ce q9 H locs hp B h1 h2 h3 => ?_) (fun r w H locs hp B => ?_)
    · rcases hp with rfl
      exact x_out hex (rfl) B h1 h2 h3 (Nat.le_of_ble_eq_true rfl) (Nat.le_of_ble_eq_true rfl)
    · exact hp.elim

theorem dX11_demeritsByAll_0 : decode cX11_demeritsByAll 0 = .ok (.iload_n 1, 1) := by decide +kernel
theorem dX11_demeritsByAll_1 : decode cX11_demeritsByAll 1 = .ok (.invokestatic 238, 3) := by decide +kernel
theorem dX11_demeritsByAll_4 : decode cX11_demeritsByAll 4 = .ok (.aload_n 0, 1) := by decide +kernel
theorem dX11_demeritsByAll_5 : decode cX11_demeritsByAll 5 = .ok (.iload_n 2, 1) := by decide +kernel
theorem dX11_demeritsByAll_6 : decode cX11_demeritsByAll 6 = .ok (.invokevirtual 168, 3) := by decide +kernel
set_option maxHeartbeats 4000000 in
set_option maxRecDepth 100000 in
theorem c_demeritsByAll (l : Launch) (dC : Nat → ClassId) (dI : Nat → Nat → Nat) (k : Nat → ClassId) (hl0 : l.stackTraces = false) (gx : Nat) (T : Nat) (LA : Nat) (sp : Nat) (dr : Nat) (bl : Nat) (pt : Nat) (fk : Nat) (fh : Nat) (ky : Nat) (x1 : Int32) (x2 : Int32) : Xt l dC dI k yX11_demeritsByAll (.code yX11_demeritsByAll cX11_demeritsByAll 3 (some .long)) ({ frames := 7, cells := 2, slots := 12, locals := 103 } : Room) [.ref gx, .int x1, .int x2] [(gx, .inr (9, [.ref T, .ref LA, .ref sp, .int 0, .ref dr])), (T, .inr (8, [.ref bl, .ref pt, .ref fk, .ref fh, .int 0, .ref ky, .int 60, .int 12])), (bl, .inr (11, [.int 0, .ref (dI 99 1), .int 0]))] (fun r w => False) (fun E => (E = "java/lang/IndexOutOfBoundsException")) := by
  refine xt_of (by decide) (Nat.le_of_ble_eq_true rfl) ?_
  intro p e s m args below meth c H locs B hr hex ls hl
  have hx := B.1.1
  have hb := B.1.2.1
  have hl : lv_has ls 3 [(0, .ref gx), (1, .int x1), (2, .int x2)] := hl
  refine lv_iload_n hx hb dX11_demeritsByAll_0 rfl (lv_at hl 1 rfl) ?_
  refine x_callSx (rest := []) (wr := [(gx, .inr (9, [.ref T, .ref LA, .ref sp, .int 0, .ref dr])), (T, .inr (8, [.ref bl, .ref pt, .ref fk, .ref fh, .int 0, .ref ky, .int 60, .int 12])), (bl, .inr (11, [.int 0, .ref (dI 99 1), .int 0]))]) (c_checkVariant l dC dI k hl0 x1) B mS_X11_checkVariant mw_1286 hl [] [0, 1, 2] rfl rfl ⟨by decide, by decide⟩ (by decide) ⟨Nat.le_of_ble_eq_true rfl, Nat.le_of_ble_eq_true rfl⟩ (Nat.le_of_ble_eq_true rfl) rfl dX11_demeritsByAll_1 ⟨Nat.le_of_ble_eq_true rfl, Nat.le_of_ble_eq_true rfl⟩ (fun E ce q9 H locs hp B h1 h2 h3 => ?_) (fun r w H locs hp B => ?_)
  · rcases hp with ⟨z0_0, rfl⟩
    exact x_out hex (rfl) B h1 h2 h3 (Nat.le_of_ble_eq_true rfl) (Nat.le_of_ble_eq_true rfl)
  · skip
    obtain ⟨z_2, rfl, rfl⟩ := hp
    have B := bd_to (ws' := [(gx, .inr (9, [.ref T, .ref LA, .ref sp, .int 0, .ref dr])), (T, .inr (8, [.ref bl, .ref pt, .ref fk, .ref fh, .int 0, .ref ky, .int 60, .int 12])), (bl, .inr (11, [.int 0, .ref (dI 99 1), .int 0]))]) rfl B
    refine lv_aload_n hx hb dX11_demeritsByAll_4 rfl (lv_at hl 0 rfl) ?_
    refine lv_iload_n hx hb dX11_demeritsByAll_5 rfl (lv_at hl 2 rfl) ?_
    refine x_callVx (rest := []) (wr := []) (c_checkBlock l dC dI k hl0 gx T LA sp dr bl pt fk fh ky x2) B mV_X11_checkBlock mw_787 hl [0, 1, 2] [] rfl rfl ⟨by decide, by decide⟩ (by decide) (q0 := 0) rfl rfl rfl ⟨Nat.le_of_ble_eq_true rfl, Nat.le_of_ble_eq_true rfl⟩ (Nat.le_of_ble_eq_true rfl) rfl dX11_demeritsByAll_6 ⟨Nat.le_of_ble_eq_true rfl, Nat.le_of_ble_eq_true rfl⟩ (fun E ce q9 H locs hp B h1 h2 h3 => ?_) (fun r w H locs hp B => ?_)
    · rcases hp with rfl
      exact x_out hex (rfl) B h1 h2 h3 (Nat.le_of_ble_eq_true rfl) (Nat.le_of_ble_eq_true rfl)
    · exact hp.elim

theorem dX11_whereIs_0 : decode cX11_whereIs 0 = .ok (.iload_n 1, 1) := by decide +kernel
theorem dX11_whereIs_1 : decode cX11_whereIs 1 = .ok (.invokestatic 238, 3) := by decide +kernel
theorem dX11_whereIs_4 : decode cX11_whereIs 4 = .ok (.aload_n 0, 1) := by decide +kernel
theorem dX11_whereIs_5 : decode cX11_whereIs 5 = .ok (.iload_n 2, 1) := by decide +kernel
theorem dX11_whereIs_6 : decode cX11_whereIs 6 = .ok (.invokevirtual 109, 3) := by decide +kernel
set_option maxHeartbeats 4000000 in
set_option maxRecDepth 100000 in
theorem c_whereIs (l : Launch) (dC : Nat → ClassId) (dI : Nat → Nat → Nat) (k : Nat → ClassId) (hl0 : l.stackTraces = false) (gx : Nat) (T : Nat) (LA : Nat) (sp : Nat) (dr : Nat) (bl : Nat) (pt : Nat) (fk : Nat) (fh : Nat) (ky : Nat) (x1 : Int32) (x2 : Int32) (x3 : Int32) : Xt l dC dI k yX11_whereIs (.code yX11_whereIs cX11_whereIs 7 (some .int)) ({ frames := 8, cells := 2, slots := 12, locals := 124 } : Room) [.ref gx, .int x1, .int x2, .int x3] [(gx, .inr (9, [.ref T, .ref LA, .ref sp, .int 0, .ref dr])), (T, .inr (8, [.ref bl, .ref pt, .ref fk, .ref fh, .int 0, .ref ky, .int 60, .int 12])), (bl, .inr (11, [.int 0, .ref (dI 99 1), .int 0]))] (fun r w => False) (fun E => (E = "java/lang/IndexOutOfBoundsException")) := by
  refine xt_of (by decide) (Nat.le_of_ble_eq_true rfl) ?_
  intro p e s m args below meth c H locs B hr hex ls hl
  have hx := B.1.1
  have hb := B.1.2.1
  have hl : lv_has ls 7 [(0, .ref gx), (1, .int x1), (2, .int x2), (3, .int x3)] := hl
  refine lv_iload_n hx hb dX11_whereIs_0 rfl (lv_at hl 1 rfl) ?_
  refine x_callSx (rest := []) (wr := [(gx, .inr (9, [.ref T, .ref LA, .ref sp, .int 0, .ref dr])), (T, .inr (8, [.ref bl, .ref pt, .ref fk, .ref fh, .int 0, .ref ky, .int 60, .int 12])), (bl, .inr (11, [.int 0, .ref (dI 99 1), .int 0]))]) (c_checkVariant l dC dI k hl0 x1) B mS_X11_checkVariant mw_1286 hl [] [0, 1, 2] rfl rfl ⟨by decide, by decide⟩ (by decide) ⟨Nat.le_of_ble_eq_true rfl, Nat.le_of_ble_eq_true rfl⟩ (Nat.le_of_ble_eq_true rfl) rfl dX11_whereIs_1 ⟨Nat.le_of_ble_eq_true rfl, Nat.le_of_ble_eq_true rfl⟩ (fun E ce q9 H locs hp B h1 h2 h3 => ?_) (fun r w H locs hp B => ?_)
  · rcases hp with ⟨z0_0, rfl⟩
    exact x_out hex (rfl) B h1 h2 h3 (Nat.le_of_ble_eq_true rfl) (Nat.le_of_ble_eq_true rfl)
  · skip
    obtain ⟨z_2, rfl, rfl⟩ := hp
    have B := bd_to (ws' := [(gx, .inr (9, [.ref T, .ref LA, .ref sp, .int 0, .ref dr])), (T, .inr (8, [.ref bl, .ref pt, .ref fk, .ref fh, .int 0, .ref ky, .int 60, .int 12])), (bl, .inr (11, [.int 0, .ref (dI 99 1), .int 0]))]) rfl B
    refine lv_aload_n hx hb dX11_whereIs_4 rfl (lv_at hl 0 rfl) ?_
    refine lv_iload_n hx hb dX11_whereIs_5 rfl (lv_at hl 2 rfl) ?_
    refine x_callVx (rest := []) (wr := []) (c_blockAt l dC dI k hl0 gx T LA sp dr bl pt fk fh ky x2) B mV_X11_blockAt mw_783 hl [0, 1, 2] [] rfl rfl ⟨by decide, by decide⟩ (by decide) (q0 := 0) rfl rfl rfl ⟨Nat.le_of_ble_eq_true rfl, Nat.le_of_ble_eq_true rfl⟩ (Nat.le_of_ble_eq_true rfl) rfl dX11_whereIs_6 ⟨Nat.le_of_ble_eq_true rfl, Nat.le_of_ble_eq_true rfl⟩ (fun E ce q9 H locs hp B h1 h2 h3 => ?_) (fun r w H locs hp B => ?_)
    · rcases hp with rfl
      exact x_out hex (rfl) B h1 h2 h3 (Nat.le_of_ble_eq_true rfl) (Nat.le_of_ble_eq_true rfl)
    · exact hp.elim

theorem dX11_figureAt_0 : decode cX11_figureAt 0 = .ok (.iload_n 1, 1) := by decide +kernel
theorem dX11_figureAt_1 : decode cX11_figureAt 1 = .ok (.invokestatic 238, 3) := by decide +kernel
theorem dX11_figureAt_4 : decode cX11_figureAt 4 = .ok (.iload_n 2, 1) := by decide +kernel
theorem dX11_figureAt_5 : decode cX11_figureAt 5 = .ok (.ifCond .lt 14, 3) := by decide +kernel
theorem dX11_figureAt_8 : decode cX11_figureAt 8 = .ok (.iload_n 2, 1) := by decide +kernel
theorem dX11_figureAt_9 : decode cX11_figureAt 9 = .ok (.aload_n 0, 1) := by decide +kernel
theorem dX11_figureAt_10 : decode cX11_figureAt 10 = .ok (.getfield 12, 3) := by decide +kernel
theorem dX11_figureAt_13 : decode cX11_figureAt 13 = .ok (.getfield 205, 3) := by decide +kernel
theorem dX11_figureAt_16 : decode cX11_figureAt 16 = .ok (.if_icmp .lt 14, 3) := by decide +kernel
theorem dX11_figureAt_19 : decode cX11_figureAt 19 = .ok (.new 47, 3) := by decide +kernel
theorem dX11_figureAt_22 : decode cX11_figureAt 22 = .ok (.dup, 1) := by decide +kernel
theorem dX11_figureAt_23 : decode cX11_figureAt 23 = .ok (.ldc_w 364, 3) := by decide +kernel
theorem dX11_figureAt_26 : decode cX11_figureAt 26 = .ok (.invokespecial 51, 3) := by decide +kernel
theorem dX11_figureAt_29 : decode cX11_figureAt 29 = .ok (.athrow, 1) := by decide +kernel
set_option maxHeartbeats 4000000 in
set_option maxRecDepth 100000 in
theorem c_figureAt (l : Launch) (dC : Nat → ClassId) (dI : Nat → Nat → Nat) (k : Nat → ClassId) (hl0 : l.stackTraces = false) (gx : Nat) (T : Nat) (LA : Nat) (sp : Nat) (dr : Nat) (bl : Nat) (pt : Nat) (fk : Nat) (fh : Nat) (ky : Nat) (x1 : Int32) (x2 : Int32) : Xt l dC dI k yX11_figureAt (.code yX11_figureAt cX11_figureAt 3 (some .int)) ({ frames := 7, cells := 2, slots := 12, locals := 102 } : Room) [.ref gx, .int x1, .int x2] [(gx, .inr (9, [.ref T, .ref LA, .ref sp, .int 0, .ref dr])), (T, .inr (8, [.ref bl, .ref pt, .ref fk, .ref fh, .int 0, .ref ky, .int 60, .int 12])), (bl, .inr (11, [.int 0, .ref (dI 99 1), .int 0]))] (fun r w => False) (fun E => (E = "java/lang/IndexOutOfBoundsException")) := by
  refine xt_of (by decide) (Nat.le_of_ble_eq_true rfl) ?_
  intro p e s m args below meth c H locs B hr hex ls hl
  have hx := B.1.1
  have hb := B.1.2.1
  have hl : lv_has ls 3 [(0, .ref gx), (1, .int x1), (2, .int x2)] := hl
  refine lv_iload_n hx hb dX11_figureAt_0 rfl (lv_at hl 1 rfl) ?_
  refine x_callSx (rest := []) (wr := [(gx, .inr (9, [.ref T, .ref LA, .ref sp, .int 0, .ref dr])), (T, .inr (8, [.ref bl, .ref pt, .ref fk, .ref fh, .int 0, .ref ky, .int 60, .int 12])), (bl, .inr (11, [.int 0, .ref (dI 99 1), .int 0]))]) (c_checkVariant l dC dI k hl0 x1) B mS_X11_checkVariant mw_1286 hl [] [0, 1, 2] rfl rfl ⟨by decide, by decide⟩ (by decide) ⟨Nat.le_of_ble_eq_true rfl, Nat.le_of_ble_eq_true rfl⟩ (Nat.le_of_ble_eq_true rfl) rfl dX11_figureAt_1 ⟨Nat.le_of_ble_eq_true rfl, Nat.le_of_ble_eq_true rfl⟩ (fun E ce q9 H locs hp B h1 h2 h3 => ?_) (fun r w H locs hp B => ?_)
  · rcases hp with ⟨z0_0, rfl⟩
    exact x_out hex (rfl) B h1 h2 h3 (Nat.le_of_ble_eq_true rfl) (Nat.le_of_ble_eq_true rfl)
  · skip
    obtain ⟨z_2, rfl, rfl⟩ := hp
    have B := bd_to (ws' := [(gx, .inr (9, [.ref T, .ref LA, .ref sp, .int 0, .ref dr])), (T, .inr (8, [.ref bl, .ref pt, .ref fk, .ref fh, .int 0, .ref ky, .int 60, .int 12])), (bl, .inr (11, [.int 0, .ref (dI 99 1), .int 0]))]) rfl B
    refine lv_iload_n hx hb dX11_figureAt_4 rfl (lv_at hl 2 rfl) ?_
    refine lv_if_lt (tgt := 19) hx hb dX11_figureAt_5 (by decide) (fun c_3 => ?_) (fun c_3 => ?_)
    · have zc_3 : x2.toInt < 0 := zlt c_3
      exact x_thrW (tx := "no such figure") xE_ioobe (rfl) hl0 B hex hl (by decide +kernel) dX11_figureAt_19 dX11_figureAt_22 dX11_figureAt_23 dX11_figureAt_26 dX11_figureAt_29 ⟨Nat.le_of_ble_eq_true rfl, Nat.le_of_ble_eq_true rfl, Nat.le_of_ble_eq_true rfl, Nat.le_of_ble_eq_true rfl⟩ ⟨Nat.le_of_ble_eq_true rfl, Nat.le_of_ble_eq_true rfl⟩
    · have zc_3 : 0 ≤ x2.toInt := znlt c_3
      refine lv_iload_n hx hb dX11_figureAt_8 rfl (lv_at hl 2 rfl) ?_
      refine lv_aload_n hx hb dX11_figureAt_9 rfl (lv_at hl 0 rfl) ?_
      refine x_get (ci := 9) (C := RX11) (T := TX11) (N := 5) (v := .ref T) B 0 rfl rfl in_X11 0 (by decide) mw_475 (fun _ h9 => h9) rfl dX11_figureAt_10 ?_
      refine x_get (ci := 8) (C := RX9) (T := TX9) (N := 8) (v := .int 0) B 1 rfl rfl in_X9 4 (by decide) mw_91 (fun _ h9 => h9) rfl dX11_figureAt_13 ?_
      refine lv_icmp_lt (tgt := 30) hx hb dX11_figureAt_16 (by decide) (fun c9 => by have z9 : x2.toInt < 0 := zlt c9; omega) (fun c_4 => ?_)
      exact x_thrW (tx := "no such figure") xE_ioobe (rfl) hl0 B hex hl (by decide +kernel) dX11_figureAt_19 dX11_figureAt_22 dX11_figureAt_23 dX11_figureAt_26 dX11_figureAt_29 ⟨Nat.le_of_ble_eq_true rfl, Nat.le_of_ble_eq_true rfl, Nat.le_of_ble_eq_true rfl, Nat.le_of_ble_eq_true rfl⟩ ⟨Nat.le_of_ble_eq_true rfl, Nat.le_of_ble_eq_true rfl⟩

end
