section
theorem mw_506 : (Jvm.Cond.classLink "GalleyforgeLaw" (13 : Nat) "java/lang/IndexOutOfBoundsException") ∈ gt := gt_at 641 (by decide +kernel) (by decide +kernel)
theorem mw_508 : (Jvm.Cond.methodLink "GalleyforgeLaw" (7 : Nat) ({ cls := "Galleyforge", name := "spell", desc := "(I)I" } : Jvm.MethodName)) ∈ gt := gt_at 643 (by decide +kernel) (by decide +kernel)
theorem mw_509 : (Jvm.Cond.instanceMethod ({ cls := "Galleyforge", name := "spell", desc := "(I)I" } : Jvm.MethodName)) ∈ gt := gt_at 644 (by decide +kernel) (by decide +kernel)
theorem mw_510 : (Jvm.Cond.selects "Galleyforge" ({ cls := "Galleyforge", name := "spell", desc := "(I)I" } : Jvm.MethodName) ({ cls := "Galleyforge", name := "spell", desc := "(I)I" } : Jvm.MethodName)) ∈ gt := gt_at 645 (by decide +kernel) (by decide +kernel)
theorem mw_511 : (Jvm.Cond.code ({ cls := "Galleyforge", name := "spell", desc := "(I)I" } : Jvm.MethodName) prog_1_method_2_code (2 : Nat) (Option.some Jvm.ClassFile.FieldType.int)) ∈ gt := gt_at 646 (by decide +kernel) (by decide +kernel)
theorem mV_X11_spell : mV yX11_spell cX11_spell 2 (some .int) 1 := ⟨⟨mw_511, mw_1, by decide, by decide, by decide +kernel⟩, mw_509, mw_510⟩
theorem dL_spell_0 : decode cL_spell 0 = .ok (.aload_n 2, 1) := by decide +kernel
theorem dL_spell_1 : decode cL_spell 1 = .ok (.iconst 0, 1) := by decide +kernel
theorem dL_spell_2 : decode cL_spell 2 = .ok (.aload_n 0, 1) := by decide +kernel
theorem dL_spell_3 : decode cL_spell 3 = .ok (.iload_n 1, 1) := by decide +kernel
theorem dL_spell_4 : decode cL_spell 4 = .ok (.invokevirtual 7, 3) := by decide +kernel
theorem dL_spell_7 : decode cL_spell 7 = .ok (.i2l, 1) := by decide +kernel
theorem dL_spell_8 : decode cL_spell 8 = .ok (.lastore, 1) := by decide +kernel
theorem dL_spell_9 : decode cL_spell 9 = .ok (.goto 9, 3) := by decide +kernel
theorem dL_spell_12 : decode cL_spell 12 = .ok (.astore_n 3, 1) := by decide +kernel
theorem dL_spell_13 : decode cL_spell 13 = .ok (.iconst 1, 1) := by decide +kernel
theorem dL_spell_14 : decode cL_spell 14 = .ok (.ireturn, 1) := by decide +kernel
theorem dL_spell_18 : decode cL_spell 18 = .ok (.iconst 0, 1) := by decide +kernel
theorem dL_spell_19 : decode cL_spell 19 = .ok (.ireturn, 1) := by decide +kernel
set_option maxHeartbeats 4000000 in
set_option maxRecDepth 100000 in
theorem w_spell (l : Launch) (dC : Nat → ClassId) (dI : Nat → Nat → Nat) (k : Nat → ClassId) (hl0 : l.stackTraces = false) (gx : Nat) (T : Nat) (LA : Nat) (sp : Nat) (dr : Nat) (x1 : Int32) (ou : Nat) : Ct l dC dI k yL_spell (.codeWith yL_spell cL_spell 4 (some .int) [(0, 9, 12, 13), (0, 9, 15, 15)]) ({ frames := 7, cells := 1, slots := 6, locals := 103 } : Room) [.ref gx, .int x1, .ref ou] [(gx, .inr (9, [.ref T, .ref LA, .ref sp, .int 0, .ref dr])), (sp, .inl (k 0, 6, .inl (fun _ => 0))), (ou, .inl (k 2, 1, .inr (.inl (fun _ => 0))))] (fun r w => ((0 ≤ x1.toInt ∧ x1.toInt ≤ 3) ∧ r = some (.int 0) ∧ w = [(ou, .inl (k 2, 1, .inr (.inl (vp_updL (fun _ => 0) 0 1))))]) ∨ (¬ (0 ≤ x1.toInt ∧ x1.toInt ≤ 3) ∧ r = some (.int 1) ∧ w = [])) := by
  refine cw_of (by decide) (Nat.le_of_ble_eq_true rfl) ?_
  intro p e s m args below meth c H locs B hr hT ls hl
  have hx := B.1.1
  have hb := B.1.2.1
  have hl : lv_has ls 4 [(0, .ref gx), (1, .int x1), (2, .ref ou)] := hl
  refine lv_aload_n hx hb dL_spell_0 rfl (lv_at hl 2 rfl) ?_
  refine lv_iconst (v := 0) hx hb dL_spell_1 (by decide) ?_
  refine lv_aload_n hx hb dL_spell_2 rfl (lv_at hl 0 rfl) ?_
  refine lv_iload_n hx hb dL_spell_3 rfl (lv_at hl 1 rfl) ?_
  refine x_callVx (rest := [.int 0, .ref ou]) (wr := [(ou, .inl (k 2, 1, .inr (.inl (fun _ => 0))))]) (c_spell l dC dI k hl0 gx T LA sp dr x1) B mV_X11_spell mw_508 hl [0, 1] [2] rfl rfl ⟨by decide, by decide⟩ (by decide) (q0 := 0) rfl rfl rfl ⟨Nat.le_of_ble_eq_true rfl, Nat.le_of_ble_eq_true rfl⟩ (Nat.le_of_ble_eq_true rfl) rfl dL_spell_4 ⟨Nat.le_of_ble_eq_true rfl, Nat.le_of_ble_eq_true rfl⟩ (fun E ce q9 H locs hp B h1 h2 h3 => ?_) (fun r w H locs hp B => ?_)
  · rcases hp with ⟨z0_0, rfl⟩
    refine vx_catch B.1.2.2.2.1 [] ⟨0, 9, 12, 13⟩ [⟨0, 9, 15, 15⟩] (hT.trans rfl) (fun z hz => by cases hz) (by decide) (by decide) (B.1.2.2.2.2.1 _ mw_506) (ca.use (B.2.1.2.2.2.2.2.2.1.1 _ (by decide +kernel))) h1 h2 h3 ?_
    skip
    have B := bd_to (ws' := [(ou, .inl (k 2, 1, .inr (.inl (fun _ => 0))))]) rfl B
    refine lv_astore_n (lv' := [(3, .ref q9), (0, .ref gx), (1, .int x1), (2, .ref ou)]) hx hb dL_spell_12 rfl hl (by decide) rfl (fun ls hl => ?_)
    refine lv_iconst (v := 1) hx hb dL_spell_13 (by decide) ?_
    have B := bd_sub (ws' := []) [] (by decide) rfl B
    exact x_iret B hr (Or.inr (⟨by omega, rfl, rfl⟩)) (Nat.le_of_ble_eq_true rfl) (Nat.le_of_ble_eq_true rfl) dL_spell_14
  · skip
    obtain ⟨z_2, rfl, rfl⟩ := hp
    have B := bd_to (ws' := [(ou, .inl (k 2, 1, .inr (.inl (fun _ => 0))))]) rfl B
    refine lv_i2l (v := 1) hx hb dL_spell_7 (by decide) ?_
    refine x_last B 0 rfl (vpc (by decide)) dL_spell_8 (j := 0) (by decide) (fun H locs B => ?_)
    have B := bd_to (ws' := [(ou, .inl (k 2, 1, .inr (.inl (vp_updL (fun _ => 0) 0 1))))]) rfl B
    refine lv_goto (tgt := 18) hx hb dL_spell_9 (by decide) ?_
    refine lv_iconst (v := 0) hx hb dL_spell_18 (by decide) ?_
    have B := bd_sub (ws' := [(ou, .inl (k 2, 1, .inr (.inl (vp_updL (fun _ => 0) 0 1))))]) [0] (by decide) rfl B
    exact x_iret B hr (Or.inl (⟨by omega, rfl, rfl⟩)) (Nat.le_of_ble_eq_true rfl) (Nat.le_of_ble_eq_true rfl) dL_spell_19

theorem mw_601 : (Jvm.Cond.classLink "GalleyforgeLaw" (21 : Nat) "java/lang/IllegalArgumentException") ∈ gt := gt_at 736 (by decide +kernel) (by decide +kernel)
theorem mw_602 : (Jvm.Cond.methodLink "GalleyforgeLaw" (17 : Nat) ({ cls := "Galleyforge", name := "mark", desc := "(II)I" } : Jvm.MethodName)) ∈ gt := gt_at 737 (by decide +kernel) (by decide +kernel)
theorem mw_603 : (Jvm.Cond.instanceMethod ({ cls := "Galleyforge", name := "mark", desc := "(II)I" } : Jvm.MethodName)) ∈ gt := gt_at 738 (by decide +kernel) (by decide +kernel)
theorem mw_604 : (Jvm.Cond.selects "Galleyforge" ({ cls := "Galleyforge", name := "mark", desc := "(II)I" } : Jvm.MethodName) ({ cls := "Galleyforge", name := "mark", desc := "(II)I" } : Jvm.MethodName)) ∈ gt := gt_at 739 (by decide +kernel) (by decide +kernel)
theorem mw_605 : (Jvm.Cond.code ({ cls := "Galleyforge", name := "mark", desc := "(II)I" } : Jvm.MethodName) prog_1_method_4_code (4 : Nat) (Option.some Jvm.ClassFile.FieldType.int)) ∈ gt := gt_at 740 (by decide +kernel) (by decide +kernel)
theorem mV_X11_mark : mV yX11_mark cX11_mark 4 (some .int) 2 := ⟨⟨mw_605, mw_1, by decide, by decide, by decide +kernel⟩, mw_603, mw_604⟩
theorem dL_mark_0 : decode cL_mark 0 = .ok (.aload_n 3, 1) := by decide +kernel
theorem dL_mark_1 : decode cL_mark 1 = .ok (.iconst 0, 1) := by decide +kernel
theorem dL_mark_2 : decode cL_mark 2 = .ok (.aload_n 0, 1) := by decide +kernel
theorem dL_mark_3 : decode cL_mark 3 = .ok (.iload_n 1, 1) := by decide +kernel
theorem dL_mark_4 : decode cL_mark 4 = .ok (.iload_n 2, 1) := by decide +kernel
theorem dL_mark_5 : decode cL_mark 5 = .ok (.invokevirtual 17, 3) := by decide +kernel
theorem dL_mark_8 : decode cL_mark 8 = .ok (.i2l, 1) := by decide +kernel
theorem dL_mark_9 : decode cL_mark 9 = .ok (.lastore, 1) := by decide +kernel
theorem dL_mark_10 : decode cL_mark 10 = .ok (.goto 11, 3) := by decide +kernel
theorem dL_mark_13 : decode cL_mark 13 = .ok (.astore 4, 2) := by decide +kernel
theorem dL_mark_15 : decode cL_mark 15 = .ok (.iconst 1, 1) := by decide +kernel
theorem dL_mark_16 : decode cL_mark 16 = .ok (.ireturn, 1) := by decide +kernel
theorem dL_mark_17 : decode cL_mark 17 = .ok (.astore 4, 2) := by decide +kernel
theorem dL_mark_19 : decode cL_mark 19 = .ok (.iconst 2, 1) := by decide +kernel
theorem dL_mark_20 : decode cL_mark 20 = .ok (.ireturn, 1) := by decide +kernel
theorem dL_mark_21 : decode cL_mark 21 = .ok (.iconst 0, 1) := by decide +kernel
theorem dL_mark_22 : decode cL_mark 22 = .ok (.ireturn, 1) := by decide +kernel
set_option maxHeartbeats 4000000 in
set_option maxRecDepth 100000 in
theorem w_mark (l : Launch) (dC : Nat → ClassId) (dI : Nat → Nat → Nat) (k : Nat → ClassId) (hl0 : l.stackTraces = false) (gx : Nat) (T : Nat) (LA : Nat) (sp : Nat) (dr : Nat) (bl : Nat) (pt : Nat) (fk : Nat) (fh : Nat) (ky : Nat) (x1 : Int32) (x2 : Int32) (gd : Nat → Int32) (ou : Nat) (hgd : ∀ j, j < 5 → gd j = -1) : Ct l dC dI k yL_mark (.codeWith yL_mark cL_mark 5 (some .int) [(0, 10, 13, 13), (0, 10, 17, 21)]) ({ frames := 7, cells := 1, slots := 6, locals := 105 } : Room) [.ref gx, .int x1, .int x2, .ref ou] [(gx, .inr (9, [.ref T, .ref LA, .ref sp, .int 0, .ref dr])), (T, .inr (8, [.ref bl, .ref pt, .ref fk, .ref fh, .int 0, .ref ky, .int 60, .int 12])), (dr, .inl (k 0, 5, .inl gd)), (ou, .inl (k 2, 1, .inr (.inl (fun _ => 0))))] (fun r w => ((0 ≤ x1.toInt ∧ x1.toInt ≤ 4) ∧ (x2.toInt = -1 ∨ (x1.toInt = 0 ∧ 1 ≤ x2.toInt ∧ x2.toInt ≤ 5) ∨ (x1.toInt = 2 ∧ 0 ≤ x2.toInt ∧ x2.toInt ≤ 5) ∨ (x1.toInt = 3 ∧ 0 ≤ x2.toInt ∧ x2.toInt ≤ 7) ∨ (x1.toInt = 4 ∧ 0 ≤ x2.toInt ∧ x2.toInt ≤ 1)) ∧ r = some (.int 0) ∧ w = [(ou, .inl (k 2, 1, .inr (.inl (vp_updL (fun _ => 0) 0 (-1)))))]) ∨ (¬ (0 ≤ x1.toInt ∧ x1.toInt ≤ 4) ∧ r = some (.int 1) ∧ w = []) ∨ ((0 ≤ x1.toInt ∧ x1.toInt ≤ 4) ∧ ¬ (x2.toInt = -1 ∨ (x1.toInt = 0 ∧ 1 ≤ x2.toInt ∧ x2.toInt ≤ 5) ∨ (x1.toInt = 2 ∧ 0 ≤ x2.toInt ∧ x2.toInt ≤ 5) ∨ (x1.toInt = 3 ∧ 0 ≤ x2.toInt ∧ x2.toInt ≤ 7) ∨ (x1.toInt = 4 ∧ 0 ≤ x2.toInt ∧ x2.toInt ≤ 1)) ∧ r = some (.int 2) ∧ w = [])) := by
  refine cw_of (by decide) (Nat.le_of_ble_eq_true rfl) ?_
  intro p e s m args below meth c H locs B hr hT ls hl
  have hx := B.1.1
  have hb := B.1.2.1
  have hl : lv_has ls 5 [(0, .ref gx), (1, .int x1), (2, .int x2), (3, .ref ou)] := hl
  refine lv_aload_n hx hb dL_mark_0 rfl (lv_at hl 3 rfl) ?_
  refine lv_iconst (v := 0) hx hb dL_mark_1 (by decide) ?_
  refine lv_aload_n hx hb dL_mark_2 rfl (lv_at hl 0 rfl) ?_
  refine lv_iload_n hx hb dL_mark_3 rfl (lv_at hl 1 rfl) ?_
  refine lv_iload_n hx hb dL_mark_4 rfl (lv_at hl 2 rfl) ?_
  refine x_callVx (rest := [.int 0, .ref ou]) (wr := [(ou, .inl (k 2, 1, .inr (.inl (fun _ => 0))))]) (c_mark l dC dI k hl0 gx T LA sp dr bl pt fk fh ky x1 x2 gd hgd) B mV_X11_mark mw_602 hl [0, 1, 2] [3] rfl rfl ⟨by decide, by decide⟩ (by decide) (q0 := 0) rfl rfl rfl ⟨Nat.le_of_ble_eq_true rfl, Nat.le_of_ble_eq_true rfl⟩ (Nat.le_of_ble_eq_true rfl) rfl dL_mark_5 ⟨Nat.le_of_ble_eq_true rfl, Nat.le_of_ble_eq_true rfl⟩ (fun E ce q9 H locs hp B h1 h2 h3 => ?_) (fun r w H locs hp B => ?_)
  · rcases hp with ⟨z0_0, rfl⟩ | ⟨z0_0, z0_1, rfl⟩
    · refine vx_catch B.1.2.2.2.1 [] ⟨0, 10, 13, 13⟩ [⟨0, 10, 17, 21⟩] (hT.trans rfl) (fun z hz => by cases hz) (by decide) (by decide) (B.1.2.2.2.2.1 _ mw_506) (ca.use (B.2.1.2.2.2.2.2.2.1.1 _ (by decide +kernel))) h1 h2 h3 ?_
      skip
      have B := bd_to (ws' := [(ou, .inl (k 2, 1, .inr (.inl (fun _ => 0))))]) rfl B
      refine lv_astore (lv' := [(4, .ref q9), (0, .ref gx), (1, .int x1), (2, .int x2), (3, .ref ou)]) hx hb dL_mark_13 hl (by decide) rfl (fun ls hl => ?_)
      refine lv_iconst (v := 1) hx hb dL_mark_15 (by decide) ?_
      have B := bd_sub (ws' := []) [] (by decide) rfl B
      exact x_iret B hr (Or.inr (Or.inl (⟨by omega, rfl, rfl⟩))) (Nat.le_of_ble_eq_true rfl) (Nat.le_of_ble_eq_true rfl) dL_mark_16
    · refine vx_catch B.1.2.2.2.1 [⟨0, 10, 13, 13⟩] ⟨0, 10, 17, 21⟩ [] (hT.trans rfl) (fun z hz => by rcases List.mem_singleton.mp hz with rfl; exact Or.inr ⟨by decide, _, B.1.2.2.2.2.1 _ mw_506, B.2.1.2.2.2.2.2.2.2.2.1⟩) (by decide) (by decide) (B.1.2.2.2.2.1 _ mw_601) (ca.use (B.2.1.2.2.2.2.2.2.1.1 _ (by decide +kernel))) h1 h2 h3 ?_
      skip
      have B := bd_to (ws' := [(ou, .inl (k 2, 1, .inr (.inl (fun _ => 0))))]) rfl B
      refine lv_astore (lv' := [(4, .ref q9), (0, .ref gx), (1, .int x1), (2, .int x2), (3, .ref ou)]) hx hb dL_mark_17 hl (by decide) rfl (fun ls hl => ?_)
      refine lv_iconst (v := 2) hx hb dL_mark_19 (by decide) ?_
      have B := bd_sub (ws' := []) [] (by decide) rfl B
      exact x_iret B hr (Or.inr (Or.inr (⟨by omega, by omega, rfl, rfl⟩))) (Nat.le_of_ble_eq_true rfl) (Nat.le_of_ble_eq_true rfl) dL_mark_20
  · skip
    obtain ⟨z_2, z_3, rfl, rfl⟩ := hp
    have B := bd_to (ws' := [(ou, .inl (k 2, 1, .inr (.inl (fun _ => 0))))]) rfl B
    refine lv_i2l (v := (-1)) hx hb dL_mark_8 (by decide) ?_
    refine x_last B 0 rfl (vpc (by decide)) dL_mark_9 (j := 0) (by decide) (fun H locs B => ?_)
    have B := bd_to (ws' := [(ou, .inl (k 2, 1, .inr (.inl (vp_updL (fun _ => 0) 0 (-1)))))]) rfl B
    refine lv_goto (tgt := 21) hx hb dL_mark_10 (by decide) ?_
    refine lv_iconst (v := 0) hx hb dL_mark_21 (by decide) ?_
    have B := bd_sub (ws' := [(ou, .inl (k 2, 1, .inr (.inl (vp_updL (fun _ => 0) 0 (-1)))))]) [0] (by decide) rfl B
    exact x_iret B hr (Or.inl (⟨by omega, by omega, rfl, rfl⟩)) (Nat.le_of_ble_eq_true rfl) (Nat.le_of_ble_eq_true rfl) dL_mark_22

theorem mw_507 : (Jvm.Cond.classLink "GalleyforgeLaw" (15 : Nat) "java/lang/IllegalStateException") ∈ gt := gt_at 642 (by decide +kernel) (by decide +kernel)
theorem mw_633 : (Jvm.Cond.methodLink "GalleyforgeLaw" (23 : Nat) ({ cls := "Galleyforge", name := "pattern", desc := "(II)I" } : Jvm.MethodName)) ∈ gt := gt_at 768 (by decide +kernel) (by decide +kernel)
theorem mw_634 : (Jvm.Cond.instanceMethod ({ cls := "Galleyforge", name := "pattern", desc := "(II)I" } : Jvm.MethodName)) ∈ gt := gt_at 769 (by decide +kernel) (by decide +kernel)
theorem mw_635 : (Jvm.Cond.selects "Galleyforge" ({ cls := "Galleyforge", name := "pattern", desc := "(II)I" } : Jvm.MethodName) ({ cls := "Galleyforge", name := "pattern", desc := "(II)I" } : Jvm.MethodName)) ∈ gt := gt_at 770 (by decide +kernel) (by decide +kernel)
theorem mw_636 : (Jvm.Cond.code ({ cls := "Galleyforge", name := "pattern", desc := "(II)I" } : Jvm.MethodName) prog_1_method_5_code (3 : Nat) (Option.some Jvm.ClassFile.FieldType.int)) ∈ gt := gt_at 771 (by decide +kernel) (by decide +kernel)
theorem mV_X11_pattern : mV yX11_pattern cX11_pattern 3 (some .int) 2 := ⟨⟨mw_636, mw_1, by decide, by decide, by decide +kernel⟩, mw_634, mw_635⟩
theorem dL_pattern_0 : decode cL_pattern 0 = .ok (.aload_n 3, 1) := by decide +kernel
theorem dL_pattern_1 : decode cL_pattern 1 = .ok (.iconst 0, 1) := by decide +kernel
theorem dL_pattern_2 : decode cL_pattern 2 = .ok (.aload_n 0, 1) := by decide +kernel
theorem dL_pattern_3 : decode cL_pattern 3 = .ok (.iload_n 1, 1) := by decide +kernel
theorem dL_pattern_4 : decode cL_pattern 4 = .ok (.iload_n 2, 1) := by decide +kernel
theorem dL_pattern_5 : decode cL_pattern 5 = .ok (.invokevirtual 23, 3) := by decide +kernel
theorem dL_pattern_13 : decode cL_pattern 13 = .ok (.astore 4, 2) := by decide +kernel
theorem dL_pattern_15 : decode cL_pattern 15 = .ok (.iconst 1, 1) := by decide +kernel
theorem dL_pattern_16 : decode cL_pattern 16 = .ok (.ireturn, 1) := by decide +kernel
theorem dL_pattern_17 : decode cL_pattern 17 = .ok (.astore 4, 2) := by decide +kernel
theorem dL_pattern_19 : decode cL_pattern 19 = .ok (.iconst 2, 1) := by decide +kernel
theorem dL_pattern_20 : decode cL_pattern 20 = .ok (.ireturn, 1) := by decide +kernel
set_option maxHeartbeats 4000000 in
set_option maxRecDepth 100000 in
theorem w_pattern (l : Launch) (dC : Nat → ClassId) (dI : Nat → Nat → Nat) (k : Nat → ClassId) (hl0 : l.stackTraces = false) (gx : Nat) (T : Nat) (LA : Nat) (sp : Nat) (dr : Nat) (x1 : Int32) (x2 : Int32) (ou : Nat) : Ct l dC dI k yL_pattern (.codeWith yL_pattern cL_pattern 5 (some .int) [(0, 10, 13, 21), (0, 10, 17, 15)]) ({ frames := 7, cells := 1, slots := 6, locals := 104 } : Room) [.ref gx, .int x1, .int x2, .ref ou] [(gx, .inr (9, [.ref T, .ref LA, .ref sp, .int 0, .ref dr])), (ou, .inl (k 2, 1, .inr (.inl (fun _ => 0))))] (fun r w => (¬ (x1.toInt = 0 ∧ 1 ≤ x2.toInt ∧ x2.toInt ≤ 5) ∧ r = some (.int 1) ∧ w = []) ∨ ((x1.toInt = 0 ∧ 1 ≤ x2.toInt ∧ x2.toInt ≤ 5) ∧ r = some (.int 2) ∧ w = [])) := by
  refine cw_of (by decide) (Nat.le_of_ble_eq_true rfl) ?_
  intro p e s m args below meth c H locs B hr hT ls hl
  have hx := B.1.1
  have hb := B.1.2.1
  have hl : lv_has ls 5 [(0, .ref gx), (1, .int x1), (2, .int x2), (3, .ref ou)] := hl
  refine lv_aload_n hx hb dL_pattern_0 rfl (lv_at hl 3 rfl) ?_
  refine lv_iconst (v := 0) hx hb dL_pattern_1 (by decide) ?_
  refine lv_aload_n hx hb dL_pattern_2 rfl (lv_at hl 0 rfl) ?_
  refine lv_iload_n hx hb dL_pattern_3 rfl (lv_at hl 1 rfl) ?_
  refine lv_iload_n hx hb dL_pattern_4 rfl (lv_at hl 2 rfl) ?_
  refine x_callVx (rest := [.int 0, .ref ou]) (wr := [(ou, .inl (k 2, 1, .inr (.inl (fun _ => 0))))]) (c_pattern l dC dI k hl0 gx T LA sp dr x1 x2) B mV_X11_pattern mw_633 hl [0] [1] rfl rfl ⟨by decide, by decide⟩ (by decide) (q0 := 0) rfl rfl rfl ⟨Nat.le_of_ble_eq_true rfl, Nat.le_of_ble_eq_true rfl⟩ (Nat.le_of_ble_eq_true rfl) rfl dL_pattern_5 ⟨Nat.le_of_ble_eq_true rfl, Nat.le_of_ble_eq_true rfl⟩ (fun E ce q9 H locs hp B h1 h2 h3 => ?_) (fun r w H locs hp B => ?_)
  · rcases hp with ⟨z0_0, rfl⟩ | ⟨z0_0, rfl⟩
    · refine vx_catch B.1.2.2.2.1 [] ⟨0, 10, 13, 21⟩ [⟨0, 10, 17, 15⟩] (hT.trans rfl) (fun z hz => by cases hz) (by decide) (by decide) (B.1.2.2.2.2.1 _ mw_601) (ca.use (B.2.1.2.2.2.2.2.2.1.1 _ (by decide +kernel))) h1 h2 h3 ?_
      skip
      have B := bd_to (ws' := [(ou, .inl (k 2, 1, .inr (.inl (fun _ => 0))))]) rfl B
      refine lv_astore (lv' := [(4, .ref q9), (0, .ref gx), (1, .int x1), (2, .int x2), (3, .ref ou)]) hx hb dL_pattern_13 hl (by decide) rfl (fun ls hl => ?_)
      refine lv_iconst (v := 1) hx hb dL_pattern_15 (by decide) ?_
      have B := bd_sub (ws' := []) [] (by decide) rfl B
      exact x_iret B hr (Or.inl (⟨by omega, rfl, rfl⟩)) (Nat.le_of_ble_eq_true rfl) (Nat.le_of_ble_eq_true rfl) dL_pattern_16
    · refine vx_catch B.1.2.2.2.1 [⟨0, 10, 13, 21⟩] ⟨0, 10, 17, 15⟩ [] (hT.trans rfl) (fun z hz => by rcases List.mem_singleton.mp hz with rfl; exact Or.inr ⟨by decide, _, B.1.2.2.2.2.1 _ mw_601, B.2.1.2.2.2.2.2.2.2.2.2⟩) (by decide) (by decide) (B.1.2.2.2.2.1 _ mw_507) (ca.use (B.2.1.2.2.2.2.2.2.1.1 _ (by decide +kernel))) h1 h2 h3 ?_
      skip
      have B := bd_to (ws' := [(ou, .inl (k 2, 1, .inr (.inl (fun _ => 0))))]) rfl B
      refine lv_astore (lv' := [(4, .ref q9), (0, .ref gx), (1, .int x1), (2, .int x2), (3, .ref ou)]) hx hb dL_pattern_17 hl (by decide) rfl (fun ls hl => ?_)
      refine lv_iconst (v := 2) hx hb dL_pattern_19 (by decide) ?_
      have B := bd_sub (ws' := []) [] (by decide) rfl B
      exact x_iret B hr (Or.inr (⟨by omega, rfl, rfl⟩)) (Nat.le_of_ble_eq_true rfl) (Nat.le_of_ble_eq_true rfl) dL_pattern_20
  · exact hp.elim

theorem mw_779 : (Jvm.Cond.methodLink "GalleyforgeLaw" (26 : Nat) ({ cls := "Galleyforge", name := "word", desc := "(II)I" } : Jvm.MethodName)) ∈ gt := gt_at 914 (by decide +kernel) (by decide +kernel)
theorem mw_780 : (Jvm.Cond.instanceMethod ({ cls := "Galleyforge", name := "word", desc := "(II)I" } : Jvm.MethodName)) ∈ gt := gt_at 915 (by decide +kernel) (by decide +kernel)
theorem mw_781 : (Jvm.Cond.selects "Galleyforge" ({ cls := "Galleyforge", name := "word", desc := "(II)I" } : Jvm.MethodName) ({ cls := "Galleyforge", name := "word", desc := "(II)I" } : Jvm.MethodName)) ∈ gt := gt_at 916 (by decide +kernel) (by decide +kernel)
theorem mw_782 : (Jvm.Cond.code ({ cls := "Galleyforge", name := "word", desc := "(II)I" } : Jvm.MethodName) prog_1_method_6_code (5 : Nat) (Option.some Jvm.ClassFile.FieldType.int)) ∈ gt := gt_at 917 (by decide +kernel) (by decide +kernel)
theorem mV_X11_word : mV yX11_word cX11_word 5 (some .int) 2 := ⟨⟨mw_782, mw_1, by decide, by decide, by decide +kernel⟩, mw_780, mw_781⟩
theorem dL_word_0 : decode cL_word 0 = .ok (.aload_n 3, 1) := by decide +kernel
theorem dL_word_1 : decode cL_word 1 = .ok (.iconst 0, 1) := by decide +kernel
theorem dL_word_2 : decode cL_word 2 = .ok (.aload_n 0, 1) := by decide +kernel
theorem dL_word_3 : decode cL_word 3 = .ok (.iload_n 1, 1) := by decide +kernel
theorem dL_word_4 : decode cL_word 4 = .ok (.iload_n 2, 1) := by decide +kernel
theorem dL_word_5 : decode cL_word 5 = .ok (.invokevirtual 26, 3) := by decide +kernel
theorem dL_word_13 : decode cL_word 13 = .ok (.astore 4, 2) := by decide +kernel
theorem dL_word_15 : decode cL_word 15 = .ok (.iconst 1, 1) := by decide +kernel
theorem dL_word_16 : decode cL_word 16 = .ok (.ireturn, 1) := by decide +kernel
set_option maxHeartbeats 4000000 in
set_option maxRecDepth 100000 in
theorem w_word (l : Launch) (dC : Nat → ClassId) (dI : Nat → Nat → Nat) (k : Nat → ClassId) (hl0 : l.stackTraces = false) (gx : Nat) (T : Nat) (LA : Nat) (sp : Nat) (dr : Nat) (bl : Nat) (pt : Nat) (fk : Nat) (fh : Nat) (ky : Nat) (x1 : Int32) (x2 : Int32) (ou : Nat) : Ct l dC dI k yL_word (.codeWith yL_word cL_word 5 (some .int) [(0, 10, 13, 13), (0, 10, 17, 15)]) ({ frames := 9, cells := 1, slots := 6, locals := 148 } : Room) [.ref gx, .int x1, .int x2, .ref ou] [(gx, .inr (9, [.ref T, .ref LA, .ref sp, .int 0, .ref dr])), (T, .inr (8, [.ref bl, .ref pt, .ref fk, .ref fh, .int 0, .ref ky, .int 60, .int 12])), (bl, .inr (11, [.int 0, .ref (dI 99 1), .int 0])), (ou, .inl (k 2, 1, .inr (.inl (fun _ => 0))))] (fun r w => (r = some (.int 1) ∧ w = [])) := by
  refine cw_of (by decide) (Nat.le_of_ble_eq_true rfl) ?_
  intro p e s m args below meth c H locs B hr hT ls hl
  have hx := B.1.1
  have hb := B.1.2.1
  have hl : lv_has ls 5 [(0, .ref gx), (1, .int x1), (2, .int x2), (3, .ref ou)] := hl
  refine lv_aload_n hx hb dL_word_0 rfl (lv_at hl 3 rfl) ?_
  refine lv_iconst (v := 0) hx hb dL_word_1 (by decide) ?_
  refine lv_aload_n hx hb dL_word_2 rfl (lv_at hl 0 rfl) ?_
  refine lv_iload_n hx hb dL_word_3 rfl (lv_at hl 1 rfl) ?_
  refine lv_iload_n hx hb dL_word_4 rfl (lv_at hl 2 rfl) ?_
  refine x_callVx (rest := [.int 0, .ref ou]) (wr := [(ou, .inl (k 2, 1, .inr (.inl (fun _ => 0))))]) (c_word l dC dI k hl0 gx T LA sp dr bl pt fk fh ky x1 x2) B mV_X11_word mw_779 hl [0, 1, 2] [3] rfl rfl ⟨by decide, by decide⟩ (by decide) (q0 := 0) rfl rfl rfl ⟨Nat.le_of_ble_eq_true rfl, Nat.le_of_ble_eq_true rfl⟩ (Nat.le_of_ble_eq_true rfl) rfl dL_word_5 ⟨Nat.le_of_ble_eq_true rfl, Nat.le_of_ble_eq_true rfl⟩ (fun E ce q9 H locs hp B h1 h2 h3 => ?_) (fun r w H locs hp B => ?_)
  · rcases hp with rfl
    refine vx_catch B.1.2.2.2.1 [] ⟨0, 10, 13, 13⟩ [⟨0, 10, 17, 15⟩] (hT.trans rfl) (fun z hz => by cases hz) (by decide) (by decide) (B.1.2.2.2.2.1 _ mw_506) (ca.use (B.2.1.2.2.2.2.2.2.1.1 _ (by decide +kernel))) h1 h2 h3 ?_
    skip
    have B := bd_to (ws' := [(ou, .inl (k 2, 1, .inr (.inl (fun _ => 0))))]) rfl B
    refine lv_astore (lv' := [(4, .ref q9), (0, .ref gx), (1, .int x1), (2, .int x2), (3, .ref ou)]) hx hb dL_word_13 hl (by decide) rfl (fun ls hl => ?_)
    refine lv_iconst (v := 1) hx hb dL_word_15 (by decide) ?_
    have B := bd_sub (ws' := []) [] (by decide) rfl B
    exact x_iret B hr (⟨rfl, rfl⟩) (Nat.le_of_ble_eq_true rfl) (Nat.le_of_ble_eq_true rfl) dL_word_16
  · exact hp.elim

theorem mw_1092 : (Jvm.Cond.methodLink "GalleyforgeLaw" (29 : Nat) ({ cls := "Galleyforge", name := "reference", desc := "(III)I" } : Jvm.MethodName)) ∈ gt := gt_at 1227 (by decide +kernel) (by decide +kernel)
theorem mw_1093 : (Jvm.Cond.instanceMethod ({ cls := "Galleyforge", name := "reference", desc := "(III)I" } : Jvm.MethodName)) ∈ gt := gt_at 1228 (by decide +kernel) (by decide +kernel)
theorem mw_1094 : (Jvm.Cond.selects "Galleyforge" ({ cls := "Galleyforge", name := "reference", desc := "(III)I" } : Jvm.MethodName) ({ cls := "Galleyforge", name := "reference", desc := "(III)I" } : Jvm.MethodName)) ∈ gt := gt_at 1229 (by decide +kernel) (by decide +kernel)
theorem mw_1095 : (Jvm.Cond.code ({ cls := "Galleyforge", name := "reference", desc := "(III)I" } : Jvm.MethodName) prog_1_method_7_code (5 : Nat) (Option.some Jvm.ClassFile.FieldType.int)) ∈ gt := gt_at 1230 (by decide +kernel) (by decide +kernel)
theorem mV_X11_reference : mV yX11_reference cX11_reference 5 (some .int) 3 := ⟨⟨mw_1095, mw_1, by decide, by decide, by decide +kernel⟩, mw_1093, mw_1094⟩
theorem dL_reference_0 : decode cL_reference 0 = .ok (.aload 4, 2) := by decide +kernel
theorem dL_reference_2 : decode cL_reference 2 = .ok (.iconst 0, 1) := by decide +kernel
theorem dL_reference_3 : decode cL_reference 3 = .ok (.aload_n 0, 1) := by decide +kernel
theorem dL_reference_4 : decode cL_reference 4 = .ok (.iload_n 1, 1) := by decide +kernel
theorem dL_reference_5 : decode cL_reference 5 = .ok (.iload_n 2, 1) := by decide +kernel
theorem dL_reference_6 : decode cL_reference 6 = .ok (.iload_n 3, 1) := by decide +kernel
theorem dL_reference_7 : decode cL_reference 7 = .ok (.invokevirtual 29, 3) := by decide +kernel
theorem dL_reference_15 : decode cL_reference 15 = .ok (.astore 5, 2) := by decide +kernel
theorem dL_reference_17 : decode cL_reference 17 = .ok (.iconst 1, 1) := by decide +kernel
theorem dL_reference_18 : decode cL_reference 18 = .ok (.ireturn, 1) := by decide +kernel
set_option maxHeartbeats 4000000 in
set_option maxRecDepth 100000 in
theorem w_reference (l : Launch) (dC : Nat → ClassId) (dI : Nat → Nat → Nat) (k : Nat → ClassId) (hl0 : l.stackTraces = false) (gx : Nat) (T : Nat) (LA : Nat) (sp : Nat) (dr : Nat) (bl : Nat) (pt : Nat) (fk : Nat) (fh : Nat) (ky : Nat) (x1 : Int32) (x2 : Int32) (x3 : Int32) (ou : Nat) : Ct l dC dI k yL_reference (.codeWith yL_reference cL_reference 6 (some .int) [(0, 12, 15, 13), (0, 12, 19, 15)]) ({ frames := 9, cells := 1, slots := 6, locals := 148 } : Room) [.ref gx, .int x1, .int x2, .int x3, .ref ou] [(gx, .inr (9, [.ref T, .ref LA, .ref sp, .int 0, .ref dr])), (T, .inr (8, [.ref bl, .ref pt, .ref fk, .ref fh, .int 0, .ref ky, .int 60, .int 12])), (bl, .inr (11, [.int 0, .ref (dI 99 1), .int 0])), (ou, .inl (k 2, 1, .inr (.inl (fun _ => 0))))] (fun r w => (r = some (.int 1) ∧ w = [])) := by
  refine cw_of (by decide) (Nat.le_of_ble_eq_true rfl) ?_
  intro p e s m args below meth c H locs B hr hT ls hl
  have hx := B.1.1
  have hb := B.1.2.1
  have hl : lv_has ls 6 [(0, .ref gx), (1, .int x1), (2, .int x2), (3, .int x3), (4, .ref ou)] := hl
  refine lv_aload hx hb dL_reference_0 (lv_at hl 4 rfl) ?_
  refine lv_iconst (v := 0) hx hb dL_reference_2 (by decide) ?_
  refine lv_aload_n hx hb dL_reference_3 rfl (lv_at hl 0 rfl) ?_
  refine lv_iload_n hx hb dL_reference_4 rfl (lv_at hl 1 rfl) ?_
  refine lv_iload_n hx hb dL_reference_5 rfl (lv_at hl 2 rfl) ?_
  refine lv_iload_n hx hb dL_reference_6 rfl (lv_at hl 3 rfl) ?_
  refine x_callVx (rest := [.int 0, .ref ou]) (wr := [(ou, .inl (k 2, 1, .inr (.inl (fun _ => 0))))]) (c_reference l dC dI k hl0 gx T LA sp dr bl pt fk fh ky x1 x2 x3) B mV_X11_reference mw_1092 hl [0, 1, 2] [3] rfl rfl ⟨by decide, by decide⟩ (by decide) (q0 := 0) rfl rfl rfl ⟨Nat.le_of_ble_eq_true rfl, Nat.le_of_ble_eq_true rfl⟩ (Nat.le_of_ble_eq_true rfl) rfl dL_reference_7 ⟨Nat.le_of_ble_eq_true rfl, Nat.le_of_ble_eq_true rfl⟩ (fun E ce q9 H locs hp B h1 h2 h3 => ?_) (fun r w H locs hp B => ?_)
  · rcases hp with rfl
    refine vx_catch B.1.2.2.2.1 [] ⟨0, 12, 15, 13⟩ [⟨0, 12, 19, 15⟩] (hT.trans rfl) (fun z hz => by cases hz) (by decide) (by decide) (B.1.2.2.2.2.1 _ mw_506) (ca.use (B.2.1.2.2.2.2.2.2.1.1 _ (by decide +kernel))) h1 h2 h3 ?_
    skip
    have B := bd_to (ws' := [(ou, .inl (k 2, 1, .inr (.inl (fun _ => 0))))]) rfl B
    refine lv_astore (lv' := [(5, .ref q9), (0, .ref gx), (1, .int x1), (2, .int x2), (3, .int x3), (4, .ref ou)]) hx hb dL_reference_15 hl (by decide) rfl (fun ls hl => ?_)
    refine lv_iconst (v := 1) hx hb dL_reference_17 (by decide) ?_
    have B := bd_sub (ws' := []) [] (by decide) rfl B
    exact x_iret B hr (⟨rfl, rfl⟩) (Nat.le_of_ble_eq_true rfl) (Nat.le_of_ble_eq_true rfl) dL_reference_18
  · exact hp.elim

theorem mw_1103 : (Jvm.Cond.methodLink "GalleyforgeLaw" (33 : Nat) ({ cls := "Galleyforge", name := "take", desc := "(II)I" } : Jvm.MethodName)) ∈ gt := gt_at 1238 (by decide +kernel) (by decide +kernel)
theorem mw_1104 : (Jvm.Cond.instanceMethod ({ cls := "Galleyforge", name := "take", desc := "(II)I" } : Jvm.MethodName)) ∈ gt := gt_at 1239 (by decide +kernel) (by decide +kernel)
theorem mw_1105 : (Jvm.Cond.selects "Galleyforge" ({ cls := "Galleyforge", name := "take", desc := "(II)I" } : Jvm.MethodName) ({ cls := "Galleyforge", name := "take", desc := "(II)I" } : Jvm.MethodName)) ∈ gt := gt_at 1240 (by decide +kernel) (by decide +kernel)
theorem mw_1106 : (Jvm.Cond.code ({ cls := "Galleyforge", name := "take", desc := "(II)I" } : Jvm.MethodName) prog_1_method_8_code (4 : Nat) (Option.some Jvm.ClassFile.FieldType.int)) ∈ gt := gt_at 1241 (by decide +kernel) (by decide +kernel)
theorem mV_X11_take : mV yX11_take cX11_take 4 (some .int) 2 := ⟨⟨mw_1106, mw_1, by decide, by decide, by decide +kernel⟩, mw_1104, mw_1105⟩
theorem dL_take_0 : decode cL_take 0 = .ok (.aload_n 3, 1) := by decide +kernel
theorem dL_take_1 : decode cL_take 1 = .ok (.iconst 0, 1) := by decide +kernel
theorem dL_take_2 : decode cL_take 2 = .ok (.aload_n 0, 1) := by decide +kernel
theorem dL_take_3 : decode cL_take 3 = .ok (.iload_n 1, 1) := by decide +kernel
theorem dL_take_4 : decode cL_take 4 = .ok (.iload_n 2, 1) := by decide +kernel
theorem dL_take_5 : decode cL_take 5 = .ok (.invokevirtual 33, 3) := by decide +kernel
theorem dL_take_13 : decode cL_take 13 = .ok (.astore 4, 2) := by decide +kernel
theorem dL_take_15 : decode cL_take 15 = .ok (.iconst 1, 1) := by decide +kernel
theorem dL_take_16 : decode cL_take 16 = .ok (.ireturn, 1) := by decide +kernel
set_option maxHeartbeats 4000000 in
set_option maxRecDepth 100000 in
theorem w_take (l : Launch) (dC : Nat → ClassId) (dI : Nat → Nat → Nat) (k : Nat → ClassId) (hl0 : l.stackTraces = false) (gx : Nat) (T : Nat) (LA : Nat) (sp : Nat) (dr : Nat) (bl : Nat) (pt : Nat) (fk : Nat) (fh : Nat) (ky : Nat) (x1 : Int32) (x2 : Int32) (ou : Nat) : Ct l dC dI k yL_take (.codeWith yL_take cL_take 5 (some .int) [(0, 10, 13, 13)]) ({ frames := 9, cells := 1, slots := 6, locals := 147 } : Room) [.ref gx, .int x1, .int x2, .ref ou] [(gx, .inr (9, [.ref T, .ref LA, .ref sp, .int 0, .ref dr])), (T, .inr (8, [.ref bl, .ref pt, .ref fk, .ref fh, .int 0, .ref ky, .int 60, .int 12])), (bl, .inr (11, [.int 0, .ref (dI 99 1), .int 0])), (ou, .inl (k 2, 1, .inr (.inl (fun _ => 0))))] (fun r w => (r = some (.int 1) ∧ w = [])) := by
  refine cw_of (by decide) (Nat.le_of_ble_eq_true rfl) ?_
  intro p e s m args below meth c H locs B hr hT ls hl
  have hx := B.1.1
  have hb := B.1.2.1
  have hl : lv_has ls 5 [(0, .ref gx), (1, .int x1), (2, .int x2), (3, .ref ou)] := hl
  refine lv_aload_n hx hb dL_take_0 rfl (lv_at hl 3 rfl) ?_
  refine lv_iconst (v := 0) hx hb dL_take_1 (by decide) ?_
  refine lv_aload_n hx hb dL_take_2 rfl (lv_at hl 0 rfl) ?_
  refine lv_iload_n hx hb dL_take_3 rfl (lv_at hl 1 rfl) ?_
  refine lv_iload_n hx hb dL_take_4 rfl (lv_at hl 2 rfl) ?_
  refine x_callVx (rest := [.int 0, .ref ou]) (wr := [(ou, .inl (k 2, 1, .inr (.inl (fun _ => 0))))]) (c_take l dC dI k hl0 gx T LA sp dr bl pt fk fh ky x1 x2) B mV_X11_take mw_1103 hl [0, 1, 2] [3] rfl rfl ⟨by decide, by decide⟩ (by decide) (q0 := 0) rfl rfl rfl ⟨Nat.le_of_ble_eq_true rfl, Nat.le_of_ble_eq_true rfl⟩ (Nat.le_of_ble_eq_true rfl) rfl dL_take_5 ⟨Nat.le_of_ble_eq_true rfl, Nat.le_of_ble_eq_true rfl⟩ (fun E ce q9 H locs hp B h1 h2 h3 => ?_) (fun r w H locs hp B => ?_)
  · rcases hp with rfl
    refine vx_catch B.1.2.2.2.1 [] ⟨0, 10, 13, 13⟩ [] (hT.trans rfl) (fun z hz => by cases hz) (by decide) (by decide) (B.1.2.2.2.2.1 _ mw_506) (ca.use (B.2.1.2.2.2.2.2.2.1.1 _ (by decide +kernel))) h1 h2 h3 ?_
    skip
    have B := bd_to (ws' := [(ou, .inl (k 2, 1, .inr (.inl (fun _ => 0))))]) rfl B
    refine lv_astore (lv' := [(4, .ref q9), (0, .ref gx), (1, .int x1), (2, .int x2), (3, .ref ou)]) hx hb dL_take_13 hl (by decide) rfl (fun ls hl => ?_)
    refine lv_iconst (v := 1) hx hb dL_take_15 (by decide) ?_
    have B := bd_sub (ws' := []) [] (by decide) rfl B
    exact x_iret B hr (⟨rfl, rfl⟩) (Nat.le_of_ble_eq_true rfl) (Nat.le_of_ble_eq_true rfl) dL_take_16
  · exact hp.elim

theorem mw_1122 : (Jvm.Cond.methodLink "GalleyforgeLaw" (36 : Nat) ({ cls := "Galleyforge", name := "block", desc := "(II)I" } : Jvm.MethodName)) ∈ gt := gt_at 1257 (by decide +kernel) (by decide +kernel)
theorem mw_1123 : (Jvm.Cond.instanceMethod ({ cls := "Galleyforge", name := "block", desc := "(II)I" } : Jvm.MethodName)) ∈ gt := gt_at 1258 (by decide +kernel) (by decide +kernel)
theorem mw_1124 : (Jvm.Cond.selects "Galleyforge" ({ cls := "Galleyforge", name := "block", desc := "(II)I" } : Jvm.MethodName) ({ cls := "Galleyforge", name := "block", desc := "(II)I" } : Jvm.MethodName)) ∈ gt := gt_at 1259 (by decide +kernel) (by decide +kernel)
theorem mw_1125 : (Jvm.Cond.code ({ cls := "Galleyforge", name := "block", desc := "(II)I" } : Jvm.MethodName) prog_1_method_9_code (3 : Nat) (Option.some Jvm.ClassFile.FieldType.int)) ∈ gt := gt_at 1260 (by decide +kernel) (by decide +kernel)
theorem mV_X11_block : mV yX11_block cX11_block 3 (some .int) 2 := ⟨⟨mw_1125, mw_1, by decide, by decide, by decide +kernel⟩, mw_1123, mw_1124⟩
theorem dL_block_0 : decode cL_block 0 = .ok (.aload_n 3, 1) := by decide +kernel
theorem dL_block_1 : decode cL_block 1 = .ok (.iconst 0, 1) := by decide +kernel
theorem dL_block_2 : decode cL_block 2 = .ok (.aload_n 0, 1) := by decide +kernel
theorem dL_block_3 : decode cL_block 3 = .ok (.iload_n 1, 1) := by decide +kernel
theorem dL_block_4 : decode cL_block 4 = .ok (.iload_n 2, 1) := by decide +kernel
theorem dL_block_5 : decode cL_block 5 = .ok (.invokevirtual 36, 3) := by decide +kernel
theorem dL_block_8 : decode cL_block 8 = .ok (.i2l, 1) := by decide +kernel
theorem dL_block_9 : decode cL_block 9 = .ok (.lastore, 1) := by decide +kernel
theorem dL_block_10 : decode cL_block 10 = .ok (.goto 15, 3) := by decide +kernel
theorem dL_block_13 : decode cL_block 13 = .ok (.astore 4, 2) := by decide +kernel
theorem dL_block_15 : decode cL_block 15 = .ok (.iconst 1, 1) := by decide +kernel
theorem dL_block_16 : decode cL_block 16 = .ok (.ireturn, 1) := by decide +kernel
theorem dL_block_17 : decode cL_block 17 = .ok (.astore 4, 2) := by decide +kernel
theorem dL_block_19 : decode cL_block 19 = .ok (.iconst 2, 1) := by decide +kernel
theorem dL_block_20 : decode cL_block 20 = .ok (.ireturn, 1) := by decide +kernel
theorem dL_block_25 : decode cL_block 25 = .ok (.iconst 0, 1) := by decide +kernel
theorem dL_block_26 : decode cL_block 26 = .ok (.ireturn, 1) := by decide +kernel
set_option maxHeartbeats 4000000 in
set_option maxRecDepth 100000 in
theorem w_block (l : Launch) (dC : Nat → ClassId) (dI : Nat → Nat → Nat) (k : Nat → ClassId) (hl0 : l.stackTraces = false) (gx : Nat) (T : Nat) (LA : Nat) (sp : Nat) (dr : Nat) (bl : Nat) (pt : Nat) (fk : Nat) (fh : Nat) (ky : Nat) (L0 : Nat) (L1 : Nat) (LN : Nat) (lc0 : Nat) (le0 : Nat) (ll0 : Nat) (ld0 : Nat) (wl0 : Nat) (op0 : Nat) (dg0 : Nat) (lc1 : Nat) (le1 : Nat) (ll1 : Nat) (ld1 : Nat) (wl1 : Nat) (op1 : Nat) (dg1 : Nat) (R0 : Nat) (P0 : Nat) (R1 : Nat) (P1 : Nat) (x1 : Int32) (x2 : Int32) (ou : Nat) : Ct l dC dI k yL_block (.codeWith yL_block cL_block 5 (some .int) [(0, 10, 13, 13), (0, 10, 17, 21), (0, 10, 21, 15)]) ({ frames := 7, cells := 12, slots := 79, locals := 115 } : Room) [.ref gx, .int x1, .int x2, .ref ou] [(gx, .inr (9, [.ref T, .ref LA, .ref sp, .int 0, .ref dr])), (T, .inr (8, [.ref bl, .ref pt, .ref fk, .ref fh, .int 0, .ref ky, .int 60, .int 12])), (bl, .inr (11, [.int 0, .ref (dI 99 1), .int 0])), (LA, .inl (k 3, 2, .inr (.inr (.inr (.inr (va_up (va_up (fun _ => none) 0 (some L0)) 1 (some L1))))))), (L0, .inr (1, [.ref T, .int 0, .ref LN, .ref R0, .ref P0, .int 1, .int 0, .ref lc0, .ref le0, .ref ll0, .ref ld0, .ref wl0, .ref op0, .int 0, .int 0, .int 1365, .ref dg0])), (L1, .inr (1, [.ref T, .int 1, .ref LN, .ref R1, .ref P1, .int 1, .int 0, .ref lc1, .ref le1, .ref ll1, .ref ld1, .ref wl1, .ref op1, .int 0, .int 0, .int 1365, .ref dg1])), (ou, .inl (k 2, 1, .inr (.inl (fun _ => 0))))] (fun r w => ((0 ≤ x1.toInt ∧ x1.toInt ≤ 0) ∧ (0 ≤ x2.toInt ∧ x2.toInt ≤ 6) ∧ r = some (.int 0) ∧ w = [(ou, .inl (k 2, 1, .inr (.inl (vp_updL (fun _ => 0) 0 1))))]) ∨ (¬ (0 ≤ x1.toInt ∧ x1.toInt ≤ 0) ∧ r = some (.int 1) ∧ w = []) ∨ ((0 ≤ x1.toInt ∧ x1.toInt ≤ 0) ∧ ¬ (0 ≤ x2.toInt ∧ x2.toInt ≤ 6) ∧ r = some (.int 2) ∧ w = [])) := by
  refine cw_of (by decide) (Nat.le_of_ble_eq_true rfl) ?_
  intro p e s m args below meth c H locs B hr hT ls hl
  have hx := B.1.1
  have hb := B.1.2.1
  have hl : lv_has ls 5 [(0, .ref gx), (1, .int x1), (2, .int x2), (3, .ref ou)] := hl
  refine lv_aload_n hx hb dL_block_0 rfl (lv_at hl 3 rfl) ?_
  refine lv_iconst (v := 0) hx hb dL_block_1 (by decide) ?_
  refine lv_aload_n hx hb dL_block_2 rfl (lv_at hl 0 rfl) ?_
  refine lv_iload_n hx hb dL_block_3 rfl (lv_at hl 1 rfl) ?_
  refine lv_iload_n hx hb dL_block_4 rfl (lv_at hl 2 rfl) ?_
  refine x_callVx (rest := [.int 0, .ref ou]) (wr := [(ou, .inl (k 2, 1, .inr (.inl (fun _ => 0))))]) (c_block l dC dI k hl0 gx T LA sp dr bl pt fk fh ky L0 L1 LN lc0 le0 ll0 ld0 wl0 op0 dg0 lc1 le1 ll1 ld1 wl1 op1 dg1 R0 P0 R1 P1 x1 x2) B mV_X11_block mw_1122 hl [0, 1, 2, 3, 4, 5] [6] rfl rfl ⟨by decide, by decide⟩ (by decide) (q0 := 0) rfl rfl rfl ⟨Nat.le_of_ble_eq_true rfl, Nat.le_of_ble_eq_true rfl⟩ (Nat.le_of_ble_eq_true rfl) rfl dL_block_5 ⟨Nat.le_of_ble_eq_true rfl, Nat.le_of_ble_eq_true rfl⟩ (fun E ce q9 H locs hp B h1 h2 h3 => ?_) (fun r w H locs hp B => ?_)
  · rcases hp with ⟨z0_0, rfl⟩ | ⟨z0_0, z0_1, rfl⟩
    · refine vx_catch B.1.2.2.2.1 [] ⟨0, 10, 13, 13⟩ [⟨0, 10, 17, 21⟩, ⟨0, 10, 21, 15⟩] (hT.trans rfl) (fun z hz => by cases hz) (by decide) (by decide) (B.1.2.2.2.2.1 _ mw_506) (ca.use (B.2.1.2.2.2.2.2.2.1.1 _ (by decide +kernel))) h1 h2 h3 ?_
      skip
      have B := bd_to (ws' := [(ou, .inl (k 2, 1, .inr (.inl (fun _ => 0))))]) rfl B
      refine lv_astore (lv' := [(4, .ref q9), (0, .ref gx), (1, .int x1), (2, .int x2), (3, .ref ou)]) hx hb dL_block_13 hl (by decide) rfl (fun ls hl => ?_)
      refine lv_iconst (v := 1) hx hb dL_block_15 (by decide) ?_
      have B := bd_sub (ws' := []) [] (by decide) rfl B
      exact x_iret B hr (Or.inr (Or.inl (⟨by omega, rfl, rfl⟩))) (Nat.le_of_ble_eq_true rfl) (Nat.le_of_ble_eq_true rfl) dL_block_16
    · refine vx_catch B.1.2.2.2.1 [⟨0, 10, 13, 13⟩] ⟨0, 10, 17, 21⟩ [⟨0, 10, 21, 15⟩] (hT.trans rfl) (fun z hz => by rcases List.mem_singleton.mp hz with rfl; exact Or.inr ⟨by decide, _, B.1.2.2.2.2.1 _ mw_506, B.2.1.2.2.2.2.2.2.2.2.1⟩) (by decide) (by decide) (B.1.2.2.2.2.1 _ mw_601) (ca.use (B.2.1.2.2.2.2.2.2.1.1 _ (by decide +kernel))) h1 h2 h3 ?_
      skip
      have B := bd_to (ws' := [(ou, .inl (k 2, 1, .inr (.inl (fun _ => 0))))]) rfl B
      refine lv_astore (lv' := [(4, .ref q9), (0, .ref gx), (1, .int x1), (2, .int x2), (3, .ref ou)]) hx hb dL_block_17 hl (by decide) rfl (fun ls hl => ?_)
      refine lv_iconst (v := 2) hx hb dL_block_19 (by decide) ?_
      have B := bd_sub (ws' := []) [] (by decide) rfl B
      exact x_iret B hr (Or.inr (Or.inr (⟨by omega, by omega, rfl, rfl⟩))) (Nat.le_of_ble_eq_true rfl) (Nat.le_of_ble_eq_true rfl) dL_block_20
  · skip
    obtain ⟨z_2, z_3, rfl, rfl⟩ := hp
    have B := bd_to (ws' := [(ou, .inl (k 2, 1, .inr (.inl (fun _ => 0))))]) rfl B
    refine lv_i2l (v := 1) hx hb dL_block_8 (by decide) ?_
    refine x_last B 0 rfl (vpc (by decide)) dL_block_9 (j := 0) (by decide) (fun H locs B => ?_)
    have B := bd_to (ws' := [(ou, .inl (k 2, 1, .inr (.inl (vp_updL (fun _ => 0) 0 1))))]) rfl B
    refine lv_goto (tgt := 25) hx hb dL_block_10 (by decide) ?_
    refine lv_iconst (v := 0) hx hb dL_block_25 (by decide) ?_
    have B := bd_sub (ws' := [(ou, .inl (k 2, 1, .inr (.inl (vp_updL (fun _ => 0) 0 1))))]) [0] (by decide) rfl B
    exact x_iret B hr (Or.inl (⟨by omega, by omega, rfl, rfl⟩)) (Nat.le_of_ble_eq_true rfl) (Nat.le_of_ble_eq_true rfl) dL_block_26

theorem mw_1199 : (Jvm.Cond.methodLink "GalleyforgeLaw" (39 : Nat) ({ cls := "Galleyforge", name := "remove", desc := "(I)I" } : Jvm.MethodName)) ∈ gt := gt_at 1334 (by decide +kernel) (by decide +kernel)
theorem mw_1200 : (Jvm.Cond.instanceMethod ({ cls := "Galleyforge", name := "remove", desc := "(I)I" } : Jvm.MethodName)) ∈ gt := gt_at 1335 (by decide +kernel) (by decide +kernel)
theorem mw_1201 : (Jvm.Cond.selects "Galleyforge" ({ cls := "Galleyforge", name := "remove", desc := "(I)I" } : Jvm.MethodName) ({ cls := "Galleyforge", name := "remove", desc := "(I)I" } : Jvm.MethodName)) ∈ gt := gt_at 1336 (by decide +kernel) (by decide +kernel)
theorem mw_1202 : (Jvm.Cond.code ({ cls := "Galleyforge", name := "remove", desc := "(I)I" } : Jvm.MethodName) prog_1_method_10_code (2 : Nat) (Option.some Jvm.ClassFile.FieldType.int)) ∈ gt := gt_at 1337 (by decide +kernel) (by decide +kernel)
theorem mV_X11_remove : mV yX11_remove cX11_remove 2 (some .int) 1 := ⟨⟨mw_1202, mw_1, by decide, by decide, by decide +kernel⟩, mw_1200, mw_1201⟩
theorem dL_remove_0 : decode cL_remove 0 = .ok (.aload_n 2, 1) := by decide +kernel
theorem dL_remove_1 : decode cL_remove 1 = .ok (.iconst 0, 1) := by decide +kernel
theorem dL_remove_2 : decode cL_remove 2 = .ok (.aload_n 0, 1) := by decide +kernel
theorem dL_remove_3 : decode cL_remove 3 = .ok (.iload_n 1, 1) := by decide +kernel
theorem dL_remove_4 : decode cL_remove 4 = .ok (.invokevirtual 39, 3) := by decide +kernel
theorem dL_remove_12 : decode cL_remove 12 = .ok (.astore_n 3, 1) := by decide +kernel
theorem dL_remove_13 : decode cL_remove 13 = .ok (.iconst 1, 1) := by decide +kernel
theorem dL_remove_14 : decode cL_remove 14 = .ok (.ireturn, 1) := by decide +kernel
set_option maxHeartbeats 4000000 in
set_option maxRecDepth 100000 in
theorem w_remove (l : Launch) (dC : Nat → ClassId) (dI : Nat → Nat → Nat) (k : Nat → ClassId) (hl0 : l.stackTraces = false) (gx : Nat) (T : Nat) (LA : Nat) (sp : Nat) (dr : Nat) (bl : Nat) (pt : Nat) (fk : Nat) (fh : Nat) (ky : Nat) (x1 : Int32) (ou : Nat) : Ct l dC dI k yL_remove (.codeWith yL_remove cL_remove 4 (some .int) [(0, 9, 12, 13)]) ({ frames := 8, cells := 1, slots := 6, locals := 124 } : Room) [.ref gx, .int x1, .ref ou] [(gx, .inr (9, [.ref T, .ref LA, .ref sp, .int 0, .ref dr])), (T, .inr (8, [.ref bl, .ref pt, .ref fk, .ref fh, .int 0, .ref ky, .int 60, .int 12])), (bl, .inr (11, [.int 0, .ref (dI 99 1), .int 0])), (ou, .inl (k 2, 1, .inr (.inl (fun _ => 0))))] (fun r w => (r = some (.int 1) ∧ w = [])) := by
  refine cw_of (by decide) (Nat.le_of_ble_eq_true rfl) ?_
  intro p e s m args below meth c H locs B hr hT ls hl
  have hx := B.1.1
  have hb := B.1.2.1
  have hl : lv_has ls 4 [(0, .ref gx), (1, .int x1), (2, .ref ou)] := hl
  refine lv_aload_n hx hb dL_remove_0 rfl (lv_at hl 2 rfl) ?_
  refine lv_iconst (v := 0) hx hb dL_remove_1 (by decide) ?_
  refine lv_aload_n hx hb dL_remove_2 rfl (lv_at hl 0 rfl) ?_
  refine lv_iload_n hx hb dL_remove_3 rfl (lv_at hl 1 rfl) ?_
  refine x_callVx (rest := [.int 0, .ref ou]) (wr := [(ou, .inl (k 2, 1, .inr (.inl (fun _ => 0))))]) (c_remove l dC dI k hl0 gx T LA sp dr bl pt fk fh ky x1) B mV_X11_remove mw_1199 hl [0, 1, 2] [3] rfl rfl ⟨by decide, by decide⟩ (by decide) (q0 := 0) rfl rfl rfl ⟨Nat.le_of_ble_eq_true rfl, Nat.le_of_ble_eq_true rfl⟩ (Nat.le_of_ble_eq_true rfl) rfl dL_remove_4 ⟨Nat.le_of_ble_eq_true rfl, Nat.le_of_ble_eq_true rfl⟩ (fun E ce q9 H locs hp B h1 h2 h3 => ?_) (fun r w H locs hp B => ?_)
  · rcases hp with rfl
    refine vx_catch B.1.2.2.2.1 [] ⟨0, 9, 12, 13⟩ [] (hT.trans rfl) (fun z hz => by cases hz) (by decide) (by decide) (B.1.2.2.2.2.1 _ mw_506) (ca.use (B.2.1.2.2.2.2.2.2.1.1 _ (by decide +kernel))) h1 h2 h3 ?_
    skip
    have B := bd_to (ws' := [(ou, .inl (k 2, 1, .inr (.inl (fun _ => 0))))]) rfl B
    refine lv_astore_n (lv' := [(3, .ref q9), (0, .ref gx), (1, .int x1), (2, .ref ou)]) hx hb dL_remove_12 rfl hl (by decide) rfl (fun ls hl => ?_)
    refine lv_iconst (v := 1) hx hb dL_remove_13 (by decide) ?_
    have B := bd_sub (ws' := []) [] (by decide) rfl B
    exact x_iret B hr (⟨rfl, rfl⟩) (Nat.le_of_ble_eq_true rfl) (Nat.le_of_ble_eq_true rfl) dL_remove_14
  · exact hp.elim

theorem mw_1206 : (Jvm.Cond.methodLink "GalleyforgeLaw" (42 : Nat) ({ cls := "Galleyforge", name := "style", desc := "(III)I" } : Jvm.MethodName)) ∈ gt := gt_at 1341 (by decide +kernel) (by decide +kernel)
theorem mw_1207 : (Jvm.Cond.instanceMethod ({ cls := "Galleyforge", name := "style", desc := "(III)I" } : Jvm.MethodName)) ∈ gt := gt_at 1342 (by decide +kernel) (by decide +kernel)
theorem mw_1208 : (Jvm.Cond.selects "Galleyforge" ({ cls := "Galleyforge", name := "style", desc := "(III)I" } : Jvm.MethodName) ({ cls := "Galleyforge", name := "style", desc := "(III)I" } : Jvm.MethodName)) ∈ gt := gt_at 1343 (by decide +kernel) (by decide +kernel)
theorem mw_1209 : (Jvm.Cond.code ({ cls := "Galleyforge", name := "style", desc := "(III)I" } : Jvm.MethodName) prog_1_method_11_code (6 : Nat) (Option.some Jvm.ClassFile.FieldType.int)) ∈ gt := gt_at 1344 (by decide +kernel) (by decide +kernel)
theorem mV_X11_style : mV yX11_style cX11_style 6 (some .int) 3 := ⟨⟨mw_1209, mw_1, by decide, by decide, by decide +kernel⟩, mw_1207, mw_1208⟩
theorem dL_style_0 : decode cL_style 0 = .ok (.aload 4, 2) := by decide +kernel
theorem dL_style_2 : decode cL_style 2 = .ok (.iconst 0, 1) := by decide +kernel
theorem dL_style_3 : decode cL_style 3 = .ok (.aload_n 0, 1) := by decide +kernel
theorem dL_style_4 : decode cL_style 4 = .ok (.iload_n 1, 1) := by decide +kernel
theorem dL_style_5 : decode cL_style 5 = .ok (.iload_n 2, 1) := by decide +kernel
theorem dL_style_6 : decode cL_style 6 = .ok (.iload_n 3, 1) := by decide +kernel
theorem dL_style_7 : decode cL_style 7 = .ok (.invokevirtual 42, 3) := by decide +kernel
theorem dL_style_15 : decode cL_style 15 = .ok (.astore 5, 2) := by decide +kernel
theorem dL_style_17 : decode cL_style 17 = .ok (.iconst 1, 1) := by decide +kernel
theorem dL_style_18 : decode cL_style 18 = .ok (.ireturn, 1) := by decide +kernel
set_option maxHeartbeats 4000000 in
set_option maxRecDepth 100000 in
theorem w_style (l : Launch) (dC : Nat → ClassId) (dI : Nat → Nat → Nat) (k : Nat → ClassId) (hl0 : l.stackTraces = false) (gx : Nat) (T : Nat) (LA : Nat) (sp : Nat) (dr : Nat) (bl : Nat) (pt : Nat) (fk : Nat) (fh : Nat) (ky : Nat) (x1 : Int32) (x2 : Int32) (x3 : Int32) (ou : Nat) : Ct l dC dI k yL_style (.codeWith yL_style cL_style 6 (some .int) [(0, 12, 15, 13), (0, 12, 19, 21)]) ({ frames := 9, cells := 1, slots := 6, locals := 149 } : Room) [.ref gx, .int x1, .int x2, .int x3, .ref ou] [(gx, .inr (9, [.ref T, .ref LA, .ref sp, .int 0, .ref dr])), (T, .inr (8, [.ref bl, .ref pt, .ref fk, .ref fh, .int 0, .ref ky, .int 60, .int 12])), (bl, .inr (11, [.int 0, .ref (dI 99 1), .int 0])), (ou, .inl (k 2, 1, .inr (.inl (fun _ => 0))))] (fun r w => (r = some (.int 1) ∧ w = [])) := by
  refine cw_of (by decide) (Nat.le_of_ble_eq_true rfl) ?_
  intro p e s m args below meth c H locs B hr hT ls hl
  have hx := B.1.1
  have hb := B.1.2.1
  have hl : lv_has ls 6 [(0, .ref gx), (1, .int x1), (2, .int x2), (3, .int x3), (4, .ref ou)] := hl
  refine lv_aload hx hb dL_style_0 (lv_at hl 4 rfl) ?_
  refine lv_iconst (v := 0) hx hb dL_style_2 (by decide) ?_
  refine lv_aload_n hx hb dL_style_3 rfl (lv_at hl 0 rfl) ?_
  refine lv_iload_n hx hb dL_style_4 rfl (lv_at hl 1 rfl) ?_
  refine lv_iload_n hx hb dL_style_5 rfl (lv_at hl 2 rfl) ?_
  refine lv_iload_n hx hb dL_style_6 rfl (lv_at hl 3 rfl) ?_
  refine x_callVx (rest := [.int 0, .ref ou]) (wr := [(ou, .inl (k 2, 1, .inr (.inl (fun _ => 0))))]) (c_style l dC dI k hl0 gx T LA sp dr bl pt fk fh ky x1 x2 x3) B mV_X11_style mw_1206 hl [0, 1, 2] [3] rfl rfl ⟨by decide, by decide⟩ (by decide) (q0 := 0) rfl rfl rfl ⟨Nat.le_of_ble_eq_true rfl, Nat.le_of_ble_eq_true rfl⟩ (Nat.le_of_ble_eq_true rfl) rfl dL_style_7 ⟨Nat.le_of_ble_eq_true rfl, Nat.le_of_ble_eq_true rfl⟩ (fun E ce q9 H locs hp B h1 h2 h3 => ?_) (fun r w H locs hp B => ?_)
  · rcases hp with rfl
    refine vx_catch B.1.2.2.2.1 [] ⟨0, 12, 15, 13⟩ [⟨0, 12, 19, 21⟩] (hT.trans rfl) (fun z hz => by cases hz) (by decide) (by decide) (B.1.2.2.2.2.1 _ mw_506) (ca.use (B.2.1.2.2.2.2.2.2.1.1 _ (by decide +kernel))) h1 h2 h3 ?_
    skip
    have B := bd_to (ws' := [(ou, .inl (k 2, 1, .inr (.inl (fun _ => 0))))]) rfl B
    refine lv_astore (lv' := [(5, .ref q9), (0, .ref gx), (1, .int x1), (2, .int x2), (3, .int x3), (4, .ref ou)]) hx hb dL_style_15 hl (by decide) rfl (fun ls hl => ?_)
    refine lv_iconst (v := 1) hx hb dL_style_17 (by decide) ?_
    have B := bd_sub (ws' := []) [] (by decide) rfl B
    exact x_iret B hr (⟨rfl, rfl⟩) (Nat.le_of_ble_eq_true rfl) (Nat.le_of_ble_eq_true rfl) dL_style_18
  · exact hp.elim

theorem mw_1221 : (Jvm.Cond.methodLink "GalleyforgeLaw" (45 : Nat) ({ cls := "Galleyforge", name := "cell", desc := "(IIIIII)I" } : Jvm.MethodName)) ∈ gt := gt_at 1356 (by decide +kernel) (by decide +kernel)
theorem mw_1222 : (Jvm.Cond.instanceMethod ({ cls := "Galleyforge", name := "cell", desc := "(IIIIII)I" } : Jvm.MethodName)) ∈ gt := gt_at 1357 (by decide +kernel) (by decide +kernel)
theorem mw_1223 : (Jvm.Cond.selects "Galleyforge" ({ cls := "Galleyforge", name := "cell", desc := "(IIIIII)I" } : Jvm.MethodName) ({ cls := "Galleyforge", name := "cell", desc := "(IIIIII)I" } : Jvm.MethodName)) ∈ gt := gt_at 1358 (by decide +kernel) (by decide +kernel)
theorem mw_1224 : (Jvm.Cond.code ({ cls := "Galleyforge", name := "cell", desc := "(IIIIII)I" } : Jvm.MethodName) prog_1_method_12_code (8 : Nat) (Option.some Jvm.ClassFile.FieldType.int)) ∈ gt := gt_at 1359 (by decide +kernel) (by decide +kernel)
theorem mV_X11_cell : mV yX11_cell cX11_cell 8 (some .int) 6 := ⟨⟨mw_1224, mw_1, by decide, by decide, by decide +kernel⟩, mw_1222, mw_1223⟩
theorem dL_cell_0 : decode cL_cell 0 = .ok (.aload 7, 2) := by decide +kernel
theorem dL_cell_2 : decode cL_cell 2 = .ok (.iconst 0, 1) := by decide +kernel
theorem dL_cell_3 : decode cL_cell 3 = .ok (.aload_n 0, 1) := by decide +kernel
theorem dL_cell_4 : decode cL_cell 4 = .ok (.iload_n 1, 1) := by decide +kernel
theorem dL_cell_5 : decode cL_cell 5 = .ok (.iload_n 2, 1) := by decide +kernel
theorem dL_cell_6 : decode cL_cell 6 = .ok (.iload_n 3, 1) := by decide +kernel
theorem dL_cell_7 : decode cL_cell 7 = .ok (.iload 4, 2) := by decide +kernel
theorem dL_cell_9 : decode cL_cell 9 = .ok (.iload 5, 2) := by decide +kernel
theorem dL_cell_11 : decode cL_cell 11 = .ok (.iload 6, 2) := by decide +kernel
theorem dL_cell_13 : decode cL_cell 13 = .ok (.invokevirtual 45, 3) := by decide +kernel
theorem dL_cell_21 : decode cL_cell 21 = .ok (.astore 8, 2) := by decide +kernel
theorem dL_cell_23 : decode cL_cell 23 = .ok (.iconst 1, 1) := by decide +kernel
theorem dL_cell_24 : decode cL_cell 24 = .ok (.ireturn, 1) := by decide +kernel
set_option maxHeartbeats 4000000 in
set_option maxRecDepth 100000 in
theorem w_cell (l : Launch) (dC : Nat → ClassId) (dI : Nat → Nat → Nat) (k : Nat → ClassId) (hl0 : l.stackTraces = false) (gx : Nat) (T : Nat) (LA : Nat) (sp : Nat) (dr : Nat) (bl : Nat) (pt : Nat) (fk : Nat) (fh : Nat) (ky : Nat) (x1 : Int32) (x2 : Int32) (x3 : Int32) (x4 : Int32) (x5 : Int32) (x6 : Int32) (ou : Nat) : Ct l dC dI k yL_cell (.codeWith yL_cell cL_cell 9 (some .int) [(0, 18, 21, 13), (0, 18, 25, 21), (0, 18, 29, 15)]) ({ frames := 9, cells := 1, slots := 6, locals := 151 } : Room) [.ref gx, .int x1, .int x2, .int x3, .int x4, .int x5, .int x6, .ref ou] [(gx, .inr (9, [.ref T, .ref LA, .ref sp, .int 0, .ref dr])), (T, .inr (8, [.ref bl, .ref pt, .ref fk, .ref fh, .int 0, .ref ky, .int 60, .int 12])), (bl, .inr (11, [.int 0, .ref (dI 99 1), .int 0])), (ou, .inl (k 2, 1, .inr (.inl (fun _ => 0))))] (fun r w => (r = some (.int 1) ∧ w = [])) := by
  refine cw_of (by decide) (Nat.le_of_ble_eq_true rfl) ?_
  intro p e s m args below meth c H locs B hr hT ls hl
  have hx := B.1.1
  have hb := B.1.2.1
  have hl : lv_has ls 9 [(0, .ref gx), (1, .int x1), (2, .int x2), (3, .int x3), (4, .int x4), (5, .int x5), (6, .int x6), (7, .ref ou)] := hl
  refine lv_aload hx hb dL_cell_0 (lv_at hl 7 rfl) ?_
  refine lv_iconst (v := 0) hx hb dL_cell_2 (by decide) ?_
  refine lv_aload_n hx hb dL_cell_3 rfl (lv_at hl 0 rfl) ?_
  refine lv_iload_n hx hb dL_cell_4 rfl (lv_at hl 1 rfl) ?_
  refine lv_iload_n hx hb dL_cell_5 rfl (lv_at hl 2 rfl) ?_
  refine lv_iload_n hx hb dL_cell_6 rfl (lv_at hl 3 rfl) ?_
  refine lv_iload hx hb dL_cell_7 (lv_at hl 4 rfl) ?_
  refine lv_iload hx hb dL_cell_9 (lv_at hl 5 rfl) ?_
  refine lv_iload hx hb dL_cell_11 (lv_at hl 6 rfl) ?_
  refine x_callVx (rest := [.int 0, .ref ou]) (wr := [(ou, .inl (k 2, 1, .inr (.inl (fun _ => 0))))]) (c_cell l dC dI k hl0 gx T LA sp dr bl pt fk fh ky x1 x2 x3 x4 x5 x6) B mV_X11_cell mw_1221 hl [0, 1, 2] [3] rfl rfl ⟨by decide, by decide⟩ (by decide) (q0 := 0) rfl rfl rfl ⟨Nat.le_of_ble_eq_true rfl, Nat.le_of_ble_eq_true rfl⟩ (Nat.le_of_ble_eq_true rfl) rfl dL_cell_13 ⟨Nat.le_of_ble_eq_true rfl, Nat.le_of_ble_eq_true rfl⟩ (fun E ce q9 H locs hp B h1 h2 h3 => ?_) (fun r w H locs hp B => ?_)
  · rcases hp with rfl
    refine vx_catch B.1.2.2.2.1 [] ⟨0, 18, 21, 13⟩ [⟨0, 18, 25, 21⟩, ⟨0, 18, 29, 15⟩] (hT.trans rfl) (fun z hz => by cases hz) (by decide) (by decide) (B.1.2.2.2.2.1 _ mw_506) (ca.use (B.2.1.2.2.2.2.2.2.1.1 _ (by decide +kernel))) h1 h2 h3 ?_
    skip
    have B := bd_to (ws' := [(ou, .inl (k 2, 1, .inr (.inl (fun _ => 0))))]) rfl B
    refine lv_astore (lv' := [(8, .ref q9), (0, .ref gx), (1, .int x1), (2, .int x2), (3, .int x3), (4, .int x4), (5, .int x5), (6, .int x6), (7, .ref ou)]) hx hb dL_cell_21 hl (by decide) rfl (fun ls hl => ?_)
    refine lv_iconst (v := 1) hx hb dL_cell_23 (by decide) ?_
    have B := bd_sub (ws' := []) [] (by decide) rfl B
    exact x_iret B hr (⟨rfl, rfl⟩) (Nat.le_of_ble_eq_true rfl) (Nat.le_of_ble_eq_true rfl) dL_cell_24
  · exact hp.elim

theorem mw_1239 : (Jvm.Cond.methodLink "GalleyforgeLaw" (49 : Nat) ({ cls := "Galleyforge", name := "figure", desc := "(II)I" } : Jvm.MethodName)) ∈ gt := gt_at 1374 (by decide +kernel) (by decide +kernel)
theorem mw_1240 : (Jvm.Cond.instanceMethod ({ cls := "Galleyforge", name := "figure", desc := "(II)I" } : Jvm.MethodName)) ∈ gt := gt_at 1375 (by decide +kernel) (by decide +kernel)
theorem mw_1241 : (Jvm.Cond.selects "Galleyforge" ({ cls := "Galleyforge", name := "figure", desc := "(II)I" } : Jvm.MethodName) ({ cls := "Galleyforge", name := "figure", desc := "(II)I" } : Jvm.MethodName)) ∈ gt := gt_at 1376 (by decide +kernel) (by decide +kernel)
theorem mw_1242 : (Jvm.Cond.code ({ cls := "Galleyforge", name := "figure", desc := "(II)I" } : Jvm.MethodName) prog_1_method_13_code (4 : Nat) (Option.some Jvm.ClassFile.FieldType.int)) ∈ gt := gt_at 1377 (by decide +kernel) (by decide +kernel)
theorem mV_X11_figure : mV yX11_figure cX11_figure 4 (some .int) 2 := ⟨⟨mw_1242, mw_1, by decide, by decide, by decide +kernel⟩, mw_1240, mw_1241⟩
theorem dL_figure_0 : decode cL_figure 0 = .ok (.aload_n 3, 1) := by decide +kernel
theorem dL_figure_1 : decode cL_figure 1 = .ok (.iconst 0, 1) := by decide +kernel
theorem dL_figure_2 : decode cL_figure 2 = .ok (.aload_n 0, 1) := by decide +kernel
theorem dL_figure_3 : decode cL_figure 3 = .ok (.iload_n 1, 1) := by decide +kernel
theorem dL_figure_4 : decode cL_figure 4 = .ok (.iload_n 2, 1) := by decide +kernel
theorem dL_figure_5 : decode cL_figure 5 = .ok (.invokevirtual 49, 3) := by decide +kernel
theorem dL_figure_8 : decode cL_figure 8 = .ok (.i2l, 1) := by decide +kernel
theorem dL_figure_9 : decode cL_figure 9 = .ok (.lastore, 1) := by decide +kernel
theorem dL_figure_10 : decode cL_figure 10 = .ok (.goto 11, 3) := by decide +kernel
theorem dL_figure_13 : decode cL_figure 13 = .ok (.astore 4, 2) := by decide +kernel
theorem dL_figure_15 : decode cL_figure 15 = .ok (.iconst 1, 1) := by decide +kernel
theorem dL_figure_16 : decode cL_figure 16 = .ok (.ireturn, 1) := by decide +kernel
theorem dL_figure_21 : decode cL_figure 21 = .ok (.iconst 0, 1) := by decide +kernel
theorem dL_figure_22 : decode cL_figure 22 = .ok (.ireturn, 1) := by decide +kernel
set_option maxHeartbeats 4000000 in
set_option maxRecDepth 100000 in
theorem w_figure (l : Launch) (dC : Nat → ClassId) (dI : Nat → Nat → Nat) (k : Nat → ClassId) (hl0 : l.stackTraces = false) (gx : Nat) (T : Nat) (LA : Nat) (sp : Nat) (dr : Nat) (bl : Nat) (pt : Nat) (fk : Nat) (fh : Nat) (ky : Nat) (L0 : Nat) (L1 : Nat) (LN : Nat) (lc0 : Nat) (le0 : Nat) (ll0 : Nat) (ld0 : Nat) (wl0 : Nat) (op0 : Nat) (dg0 : Nat) (lc1 : Nat) (le1 : Nat) (ll1 : Nat) (ld1 : Nat) (wl1 : Nat) (op1 : Nat) (dg1 : Nat) (R0 : Nat) (P0 : Nat) (R1 : Nat) (P1 : Nat) (x1 : Int32) (x2 : Int32) (ou : Nat) : Ct l dC dI k yL_figure (.codeWith yL_figure cL_figure 5 (some .int) [(0, 10, 13, 21), (0, 10, 17, 15)]) ({ frames := 7, cells := 1, slots := 6, locals := 105 } : Room) [.ref gx, .int x1, .int x2, .ref ou] [(gx, .inr (9, [.ref T, .ref LA, .ref sp, .int 0, .ref dr])), (T, .inr (8, [.ref bl, .ref pt, .ref fk, .ref fh, .int 0, .ref ky, .int 60, .int 12])), (fk, .inl (k 0, 5, .inl (fun _ => 0))), (fh, .inl (k 0, 5, .inl (fun _ => 0))), (LA, .inl (k 3, 2, .inr (.inr (.inr (.inr (va_up (va_up (fun _ => none) 0 (some L0)) 1 (some L1))))))), (L0, .inr (1, [.ref T, .int 0, .ref LN, .ref R0, .ref P0, .int 1, .int 0, .ref lc0, .ref le0, .ref ll0, .ref ld0, .ref wl0, .ref op0, .int 0, .int 0, .int 1365, .ref dg0])), (L1, .inr (1, [.ref T, .int 1, .ref LN, .ref R1, .ref P1, .int 1, .int 0, .ref lc1, .ref le1, .ref ll1, .ref ld1, .ref wl1, .ref op1, .int 0, .int 0, .int 1365, .ref dg1])), (ou, .inl (k 2, 1, .inr (.inl (fun _ => 0))))] (fun r w => (((0 ≤ x1.toInt ∧ x1.toInt ≤ 1) ∧ (1 ≤ x2.toInt ∧ x2.toInt ≤ 40)) ∧ r = some (.int 0) ∧ w = [(ou, .inl (k 2, 1, .inr (.inl (vp_updL (fun _ => 0) 0 0))))]) ∨ (¬ ((0 ≤ x1.toInt ∧ x1.toInt ≤ 1) ∧ (1 ≤ x2.toInt ∧ x2.toInt ≤ 40)) ∧ r = some (.int 1) ∧ w = [])) := by
  refine cw_of (by decide) (Nat.le_of_ble_eq_true rfl) ?_
  intro p e s m args below meth c H locs B hr hT ls hl
  have hx := B.1.1
  have hb := B.1.2.1
  have hl : lv_has ls 5 [(0, .ref gx), (1, .int x1), (2, .int x2), (3, .ref ou)] := hl
  refine lv_aload_n hx hb dL_figure_0 rfl (lv_at hl 3 rfl) ?_
  refine lv_iconst (v := 0) hx hb dL_figure_1 (by decide) ?_
  refine lv_aload_n hx hb dL_figure_2 rfl (lv_at hl 0 rfl) ?_
  refine lv_iload_n hx hb dL_figure_3 rfl (lv_at hl 1 rfl) ?_
  refine lv_iload_n hx hb dL_figure_4 rfl (lv_at hl 2 rfl) ?_
  refine x_callVx (rest := [.int 0, .ref ou]) (wr := [(ou, .inl (k 2, 1, .inr (.inl (fun _ => 0))))]) (c_figure l dC dI k hl0 gx T LA sp dr bl pt fk fh ky L0 L1 LN lc0 le0 ll0 ld0 wl0 op0 dg0 lc1 le1 ll1 ld1 wl1 op1 dg1 R0 P0 R1 P1 x1 x2) B mV_X11_figure mw_1239 hl [0, 1, 2, 3, 4, 5, 6] [7] rfl rfl ⟨by decide, by decide⟩ (by decide) (q0 := 0) rfl rfl rfl ⟨Nat.le_of_ble_eq_true rfl, Nat.le_of_ble_eq_true rfl⟩ (Nat.le_of_ble_eq_true rfl) rfl dL_figure_5 ⟨Nat.le_of_ble_eq_true rfl, Nat.le_of_ble_eq_true rfl⟩ (fun E ce q9 H locs hp B h1 h2 h3 => ?_) (fun r w H locs hp B => ?_)
  · rcases hp with ⟨z0_0, rfl⟩
    refine vx_catch B.1.2.2.2.1 [] ⟨0, 10, 13, 21⟩ [⟨0, 10, 17, 15⟩] (hT.trans rfl) (fun z hz => by cases hz) (by decide) (by decide) (B.1.2.2.2.2.1 _ mw_601) (ca.use (B.2.1.2.2.2.2.2.2.1.1 _ (by decide +kernel))) h1 h2 h3 ?_
    skip
    have B := bd_to (ws' := [(ou, .inl (k 2, 1, .inr (.inl (fun _ => 0))))]) rfl B
    refine lv_astore (lv' := [(4, .ref q9), (0, .ref gx), (1, .int x1), (2, .int x2), (3, .ref ou)]) hx hb dL_figure_13 hl (by decide) rfl (fun ls hl => ?_)
    refine lv_iconst (v := 1) hx hb dL_figure_15 (by decide) ?_
    have B := bd_sub (ws' := []) [] (by decide) rfl B
    exact x_iret B hr (Or.inr (⟨by omega, rfl, rfl⟩)) (Nat.le_of_ble_eq_true rfl) (Nat.le_of_ble_eq_true rfl) dL_figure_16
  · skip
    obtain ⟨z_2, rfl, rfl⟩ := hp
    have B := bd_to (ws' := [(ou, .inl (k 2, 1, .inr (.inl (fun _ => 0))))]) rfl B
    refine lv_i2l (v := 0) hx hb dL_figure_8 (by decide) ?_
    refine x_last B 0 rfl (vpc (by decide)) dL_figure_9 (j := 0) (by decide) (fun H locs B => ?_)
    have B := bd_to (ws' := [(ou, .inl (k 2, 1, .inr (.inl (vp_updL (fun _ => 0) 0 0))))]) rfl B
    refine lv_goto (tgt := 21) hx hb dL_figure_10 (by decide) ?_
    refine lv_iconst (v := 0) hx hb dL_figure_21 (by decide) ?_
    have B := bd_sub (ws' := [(ou, .inl (k 2, 1, .inr (.inl (vp_updL (fun _ => 0) 0 0))))]) [0] (by decide) rfl B
    exact x_iret B hr (Or.inl (⟨by omega, rfl, rfl⟩)) (Nat.le_of_ble_eq_true rfl) (Nat.le_of_ble_eq_true rfl) dL_figure_22

theorem mw_1248 : (Jvm.Cond.methodLink "GalleyforgeLaw" (52 : Nat) ({ cls := "Galleyforge", name := "paper", desc := "(II)I" } : Jvm.MethodName)) ∈ gt := gt_at 1383 (by decide +kernel) (by decide +kernel)
theorem mw_1249 : (Jvm.Cond.instanceMethod ({ cls := "Galleyforge", name := "paper", desc := "(II)I" } : Jvm.MethodName)) ∈ gt := gt_at 1384 (by decide +kernel) (by decide +kernel)
theorem mw_1250 : (Jvm.Cond.selects "Galleyforge" ({ cls := "Galleyforge", name := "paper", desc := "(II)I" } : Jvm.MethodName) ({ cls := "Galleyforge", name := "paper", desc := "(II)I" } : Jvm.MethodName)) ∈ gt := gt_at 1385 (by decide +kernel) (by decide +kernel)
theorem mw_1251 : (Jvm.Cond.code ({ cls := "Galleyforge", name := "paper", desc := "(II)I" } : Jvm.MethodName) prog_1_method_14_code (4 : Nat) (Option.some Jvm.ClassFile.FieldType.int)) ∈ gt := gt_at 1386 (by decide +kernel) (by decide +kernel)
theorem mV_X11_paper : mV yX11_paper cX11_paper 4 (some .int) 2 := ⟨⟨mw_1251, mw_1, by decide, by decide, by decide +kernel⟩, mw_1249, mw_1250⟩
theorem dL_paper_0 : decode cL_paper 0 = .ok (.aload_n 3, 1) := by decide +kernel
theorem dL_paper_1 : decode cL_paper 1 = .ok (.iconst 0, 1) := by decide +kernel
theorem dL_paper_2 : decode cL_paper 2 = .ok (.aload_n 0, 1) := by decide +kernel
theorem dL_paper_3 : decode cL_paper 3 = .ok (.iload_n 1, 1) := by decide +kernel
theorem dL_paper_4 : decode cL_paper 4 = .ok (.iload_n 2, 1) := by decide +kernel
theorem dL_paper_5 : decode cL_paper 5 = .ok (.invokevirtual 52, 3) := by decide +kernel
theorem dL_paper_8 : decode cL_paper 8 = .ok (.i2l, 1) := by decide +kernel
theorem dL_paper_9 : decode cL_paper 9 = .ok (.lastore, 1) := by decide +kernel
theorem dL_paper_10 : decode cL_paper 10 = .ok (.goto 7, 3) := by decide +kernel
theorem dL_paper_13 : decode cL_paper 13 = .ok (.astore 4, 2) := by decide +kernel
theorem dL_paper_15 : decode cL_paper 15 = .ok (.iconst 1, 1) := by decide +kernel
theorem dL_paper_16 : decode cL_paper 16 = .ok (.ireturn, 1) := by decide +kernel
theorem dL_paper_17 : decode cL_paper 17 = .ok (.iconst 0, 1) := by decide +kernel
theorem dL_paper_18 : decode cL_paper 18 = .ok (.ireturn, 1) := by decide +kernel
set_option maxHeartbeats 4000000 in
set_option maxRecDepth 100000 in
theorem w_paper (l : Launch) (dC : Nat → ClassId) (dI : Nat → Nat → Nat) (k : Nat → ClassId) (hl0 : l.stackTraces = false) (gx : Nat) (T : Nat) (LA : Nat) (sp : Nat) (dr : Nat) (bl : Nat) (pt : Nat) (fk : Nat) (fh : Nat) (ky : Nat) (L0 : Nat) (L1 : Nat) (LN : Nat) (lc0 : Nat) (le0 : Nat) (ll0 : Nat) (ld0 : Nat) (wl0 : Nat) (op0 : Nat) (dg0 : Nat) (lc1 : Nat) (le1 : Nat) (ll1 : Nat) (ld1 : Nat) (wl1 : Nat) (op1 : Nat) (dg1 : Nat) (R0 : Nat) (P0 : Nat) (R1 : Nat) (P1 : Nat) (x1 : Int32) (x2 : Int32) (ou : Nat) : Ct l dC dI k yL_paper (.codeWith yL_paper cL_paper 5 (some .int) [(0, 10, 13, 21)]) ({ frames := 7, cells := 1, slots := 6, locals := 105 } : Room) [.ref gx, .int x1, .int x2, .ref ou] [(gx, .inr (9, [.ref T, .ref LA, .ref sp, .int 0, .ref dr])), (T, .inr (8, [.ref bl, .ref pt, .ref fk, .ref fh, .int 0, .ref ky, .int 60, .int 12])), (LA, .inl (k 3, 2, .inr (.inr (.inr (.inr (va_up (va_up (fun _ => none) 0 (some L0)) 1 (some L1))))))), (L0, .inr (1, [.ref T, .int 0, .ref LN, .ref R0, .ref P0, .int 1, .int 0, .ref lc0, .ref le0, .ref ll0, .ref ld0, .ref wl0, .ref op0, .int 0, .int 0, .int 1365, .ref dg0])), (L1, .inr (1, [.ref T, .int 1, .ref LN, .ref R1, .ref P1, .int 1, .int 0, .ref lc1, .ref le1, .ref ll1, .ref ld1, .ref wl1, .ref op1, .int 0, .int 0, .int 1365, .ref dg1])), (ou, .inl (k 2, 1, .inr (.inl (fun _ => 0))))] (fun r w => (((30 ≤ x1.toInt ∧ x1.toInt ≤ 120) ∧ (6 ≤ x2.toInt ∧ x2.toInt ≤ 40)) ∧ r = some (.int 0) ∧ w = [(ou, .inl (k 2, 1, .inr (.inl (vp_updL (fun _ => 0) 0 60))))]) ∨ (¬ ((30 ≤ x1.toInt ∧ x1.toInt ≤ 120) ∧ (6 ≤ x2.toInt ∧ x2.toInt ≤ 40)) ∧ r = some (.int 1) ∧ w = [])) := by
  refine cw_of (by decide) (Nat.le_of_ble_eq_true rfl) ?_
  intro p e s m args below meth c H locs B hr hT ls hl
  have hx := B.1.1
  have hb := B.1.2.1
  have hl : lv_has ls 5 [(0, .ref gx), (1, .int x1), (2, .int x2), (3, .ref ou)] := hl
  refine lv_aload_n hx hb dL_paper_0 rfl (lv_at hl 3 rfl) ?_
  refine lv_iconst (v := 0) hx hb dL_paper_1 (by decide) ?_
  refine lv_aload_n hx hb dL_paper_2 rfl (lv_at hl 0 rfl) ?_
  refine lv_iload_n hx hb dL_paper_3 rfl (lv_at hl 1 rfl) ?_
  refine lv_iload_n hx hb dL_paper_4 rfl (lv_at hl 2 rfl) ?_
  refine x_callVx (rest := [.int 0, .ref ou]) (wr := [(ou, .inl (k 2, 1, .inr (.inl (fun _ => 0))))]) (c_paper l dC dI k hl0 gx T LA sp dr bl pt fk fh ky L0 L1 LN lc0 le0 ll0 ld0 wl0 op0 dg0 lc1 le1 ll1 ld1 wl1 op1 dg1 R0 P0 R1 P1 x1 x2) B mV_X11_paper mw_1248 hl [0, 1, 2, 3, 4] [5] rfl rfl ⟨by decide, by decide⟩ (by decide) (q0 := 0) rfl rfl rfl ⟨Nat.le_of_ble_eq_true rfl, Nat.le_of_ble_eq_true rfl⟩ (Nat.le_of_ble_eq_true rfl) rfl dL_paper_5 ⟨Nat.le_of_ble_eq_true rfl, Nat.le_of_ble_eq_true rfl⟩ (fun E ce q9 H locs hp B h1 h2 h3 => ?_) (fun r w H locs hp B => ?_)
  · rcases hp with ⟨z0_0, rfl⟩
    refine vx_catch B.1.2.2.2.1 [] ⟨0, 10, 13, 21⟩ [] (hT.trans rfl) (fun z hz => by cases hz) (by decide) (by decide) (B.1.2.2.2.2.1 _ mw_601) (ca.use (B.2.1.2.2.2.2.2.2.1.1 _ (by decide +kernel))) h1 h2 h3 ?_
    skip
    have B := bd_to (ws' := [(ou, .inl (k 2, 1, .inr (.inl (fun _ => 0))))]) rfl B
    refine lv_astore (lv' := [(4, .ref q9), (0, .ref gx), (1, .int x1), (2, .int x2), (3, .ref ou)]) hx hb dL_paper_13 hl (by decide) rfl (fun ls hl => ?_)
    refine lv_iconst (v := 1) hx hb dL_paper_15 (by decide) ?_
    have B := bd_sub (ws' := []) [] (by decide) rfl B
    exact x_iret B hr (Or.inr (⟨by omega, rfl, rfl⟩)) (Nat.le_of_ble_eq_true rfl) (Nat.le_of_ble_eq_true rfl) dL_paper_16
  · skip
    obtain ⟨z_2, rfl, rfl⟩ := hp
    have B := bd_to (ws' := [(ou, .inl (k 2, 1, .inr (.inl (fun _ => 0))))]) rfl B
    refine lv_i2l (v := 60) hx hb dL_paper_8 (by decide) ?_
    refine x_last B 0 rfl (vpc (by decide)) dL_paper_9 (j := 0) (by decide) (fun H locs B => ?_)
    have B := bd_to (ws' := [(ou, .inl (k 2, 1, .inr (.inl (vp_updL (fun _ => 0) 0 60))))]) rfl B
    refine lv_goto (tgt := 17) hx hb dL_paper_10 (by decide) ?_
    refine lv_iconst (v := 0) hx hb dL_paper_17 (by decide) ?_
    have B := bd_sub (ws' := [(ou, .inl (k 2, 1, .inr (.inl (vp_updL (fun _ => 0) 0 60))))]) [0] (by decide) rfl B
    exact x_iret B hr (Or.inl (⟨by omega, rfl, rfl⟩)) (Nat.le_of_ble_eq_true rfl) (Nat.le_of_ble_eq_true rfl) dL_paper_18

theorem mw_1256 : (Jvm.Cond.methodLink "GalleyforgeLaw" (55 : Nat) ({ cls := "Galleyforge", name := "key", desc := "(II)I" } : Jvm.MethodName)) ∈ gt := gt_at 1391 (by decide +kernel) (by decide +kernel)
theorem mw_1257 : (Jvm.Cond.instanceMethod ({ cls := "Galleyforge", name := "key", desc := "(II)I" } : Jvm.MethodName)) ∈ gt := gt_at 1392 (by decide +kernel) (by decide +kernel)
theorem mw_1258 : (Jvm.Cond.selects "Galleyforge" ({ cls := "Galleyforge", name := "key", desc := "(II)I" } : Jvm.MethodName) ({ cls := "Galleyforge", name := "key", desc := "(II)I" } : Jvm.MethodName)) ∈ gt := gt_at 1393 (by decide +kernel) (by decide +kernel)
theorem mw_1259 : (Jvm.Cond.code ({ cls := "Galleyforge", name := "key", desc := "(II)I" } : Jvm.MethodName) prog_1_method_15_code (4 : Nat) (Option.some Jvm.ClassFile.FieldType.int)) ∈ gt := gt_at 1394 (by decide +kernel) (by decide +kernel)
theorem mV_X11_key : mV yX11_key cX11_key 4 (some .int) 2 := ⟨⟨mw_1259, mw_1, by decide, by decide, by decide +kernel⟩, mw_1257, mw_1258⟩
theorem dL_key_0 : decode cL_key 0 = .ok (.aload_n 3, 1) := by decide +kernel
theorem dL_key_1 : decode cL_key 1 = .ok (.iconst 0, 1) := by decide +kernel
theorem dL_key_2 : decode cL_key 2 = .ok (.aload_n 0, 1) := by decide +kernel
theorem dL_key_3 : decode cL_key 3 = .ok (.iload_n 1, 1) := by decide +kernel
theorem dL_key_4 : decode cL_key 4 = .ok (.iload_n 2, 1) := by decide +kernel
theorem dL_key_5 : decode cL_key 5 = .ok (.invokevirtual 55, 3) := by decide +kernel
theorem dL_key_8 : decode cL_key 8 = .ok (.i2l, 1) := by decide +kernel
theorem dL_key_9 : decode cL_key 9 = .ok (.lastore, 1) := by decide +kernel
theorem dL_key_10 : decode cL_key 10 = .ok (.goto 11, 3) := by decide +kernel
theorem dL_key_13 : decode cL_key 13 = .ok (.astore 4, 2) := by decide +kernel
theorem dL_key_15 : decode cL_key 15 = .ok (.iconst 1, 1) := by decide +kernel
theorem dL_key_16 : decode cL_key 16 = .ok (.ireturn, 1) := by decide +kernel
theorem dL_key_17 : decode cL_key 17 = .ok (.astore 4, 2) := by decide +kernel
theorem dL_key_19 : decode cL_key 19 = .ok (.iconst 2, 1) := by decide +kernel
theorem dL_key_20 : decode cL_key 20 = .ok (.ireturn, 1) := by decide +kernel
theorem dL_key_21 : decode cL_key 21 = .ok (.iconst 0, 1) := by decide +kernel
theorem dL_key_22 : decode cL_key 22 = .ok (.ireturn, 1) := by decide +kernel
set_option maxHeartbeats 4000000 in
set_option maxRecDepth 100000 in
theorem w_key (l : Launch) (dC : Nat → ClassId) (dI : Nat → Nat → Nat) (k : Nat → ClassId) (hl0 : l.stackTraces = false) (gx : Nat) (T : Nat) (LA : Nat) (sp : Nat) (dr : Nat) (bl : Nat) (pt : Nat) (fk : Nat) (fh : Nat) (ky : Nat) (x1 : Int32) (x2 : Int32) (ou : Nat) : Ct l dC dI k yL_key (.codeWith yL_key cL_key 5 (some .int) [(0, 10, 13, 13), (0, 10, 17, 21)]) ({ frames := 8, cells := 2, slots := 12, locals := 125 } : Room) [.ref gx, .int x1, .int x2, .ref ou] [(gx, .inr (9, [.ref T, .ref LA, .ref sp, .int 0, .ref dr])), (T, .inr (8, [.ref bl, .ref pt, .ref fk, .ref fh, .int 0, .ref ky, .int 60, .int 12])), (ky, .inl (k 0, 8, .inl (fun _ => 0))), (ou, .inl (k 2, 1, .inr (.inl (fun _ => 0))))] (fun r w => ((0 ≤ x1.toInt ∧ x1.toInt ≤ 7) ∧ (0 ≤ x2.toInt ∧ x2.toInt ≤ 999) ∧ r = some (.int 0) ∧ w = [(ou, .inl (k 2, 1, .inr (.inl (vp_updL (fun _ => 0) 0 0))))]) ∨ (¬ (0 ≤ x1.toInt ∧ x1.toInt ≤ 7) ∧ r = some (.int 1) ∧ w = []) ∨ ((0 ≤ x1.toInt ∧ x1.toInt ≤ 7) ∧ ¬ (0 ≤ x2.toInt ∧ x2.toInt ≤ 999) ∧ r = some (.int 2) ∧ w = [])) := by
  refine cw_of (by decide) (Nat.le_of_ble_eq_true rfl) ?_
  intro p e s m args below meth c H locs B hr hT ls hl
  have hx := B.1.1
  have hb := B.1.2.1
  have hl : lv_has ls 5 [(0, .ref gx), (1, .int x1), (2, .int x2), (3, .ref ou)] := hl
  refine lv_aload_n hx hb dL_key_0 rfl (lv_at hl 3 rfl) ?_
  refine lv_iconst (v := 0) hx hb dL_key_1 (by decide) ?_
  refine lv_aload_n hx hb dL_key_2 rfl (lv_at hl 0 rfl) ?_
  refine lv_iload_n hx hb dL_key_3 rfl (lv_at hl 1 rfl) ?_
  refine lv_iload_n hx hb dL_key_4 rfl (lv_at hl 2 rfl) ?_
  refine x_callVx (rest := [.int 0, .ref ou]) (wr := [(ou, .inl (k 2, 1, .inr (.inl (fun _ => 0))))]) (c_key l dC dI k hl0 gx T LA sp dr bl pt fk fh ky x1 x2) B mV_X11_key mw_1256 hl [0, 1, 2] [3] rfl rfl ⟨by decide, by decide⟩ (by decide) (q0 := 0) rfl rfl rfl ⟨Nat.le_of_ble_eq_true rfl, Nat.le_of_ble_eq_true rfl⟩ (Nat.le_of_ble_eq_true rfl) rfl dL_key_5 ⟨Nat.le_of_ble_eq_true rfl, Nat.le_of_ble_eq_true rfl⟩ (fun E ce q9 H locs hp B h1 h2 h3 => ?_) (fun r w H locs hp B => ?_)
  · rcases hp with ⟨z0_0, rfl⟩ | ⟨z0_0, z0_1, rfl⟩
    · refine vx_catch B.1.2.2.2.1 [] ⟨0, 10, 13, 13⟩ [⟨0, 10, 17, 21⟩] (hT.trans rfl) (fun z hz => by cases hz) (by decide) (by decide) (B.1.2.2.2.2.1 _ mw_506) (ca.use (B.2.1.2.2.2.2.2.2.1.1 _ (by decide +kernel))) h1 h2 h3 ?_
      skip
      have B := bd_to (ws' := [(ou, .inl (k 2, 1, .inr (.inl (fun _ => 0))))]) rfl B
      refine lv_astore (lv' := [(4, .ref q9), (0, .ref gx), (1, .int x1), (2, .int x2), (3, .ref ou)]) hx hb dL_key_13 hl (by decide) rfl (fun ls hl => ?_)
      refine lv_iconst (v := 1) hx hb dL_key_15 (by decide) ?_
      have B := bd_sub (ws' := []) [] (by decide) rfl B
      exact x_iret B hr (Or.inr (Or.inl (⟨by omega, rfl, rfl⟩))) (Nat.le_of_ble_eq_true rfl) (Nat.le_of_ble_eq_true rfl) dL_key_16
    · refine vx_catch B.1.2.2.2.1 [⟨0, 10, 13, 13⟩] ⟨0, 10, 17, 21⟩ [] (hT.trans rfl) (fun z hz => by rcases List.mem_singleton.mp hz with rfl; exact Or.inr ⟨by decide, _, B.1.2.2.2.2.1 _ mw_506, B.2.1.2.2.2.2.2.2.2.2.1⟩) (by decide) (by decide) (B.1.2.2.2.2.1 _ mw_601) (ca.use (B.2.1.2.2.2.2.2.2.1.1 _ (by decide +kernel))) h1 h2 h3 ?_
      skip
      have B := bd_to (ws' := [(ou, .inl (k 2, 1, .inr (.inl (fun _ => 0))))]) rfl B
      refine lv_astore (lv' := [(4, .ref q9), (0, .ref gx), (1, .int x1), (2, .int x2), (3, .ref ou)]) hx hb dL_key_17 hl (by decide) rfl (fun ls hl => ?_)
      refine lv_iconst (v := 2) hx hb dL_key_19 (by decide) ?_
      have B := bd_sub (ws' := []) [] (by decide) rfl B
      exact x_iret B hr (Or.inr (Or.inr (⟨by omega, by omega, rfl, rfl⟩))) (Nat.le_of_ble_eq_true rfl) (Nat.le_of_ble_eq_true rfl) dL_key_20
  · skip
    obtain ⟨z_2, z_3, rfl, rfl⟩ := hp
    have B := bd_to (ws' := [(ou, .inl (k 2, 1, .inr (.inl (fun _ => 0))))]) rfl B
    refine lv_i2l (v := 0) hx hb dL_key_8 (by decide) ?_
    refine x_last B 0 rfl (vpc (by decide)) dL_key_9 (j := 0) (by decide) (fun H locs B => ?_)
    have B := bd_to (ws' := [(ou, .inl (k 2, 1, .inr (.inl (vp_updL (fun _ => 0) 0 0))))]) rfl B
    refine lv_goto (tgt := 21) hx hb dL_key_10 (by decide) ?_
    refine lv_iconst (v := 0) hx hb dL_key_21 (by decide) ?_
    have B := bd_sub (ws' := [(ou, .inl (k 2, 1, .inr (.inl (vp_updL (fun _ => 0) 0 0))))]) [0] (by decide) rfl B
    exact x_iret B hr (Or.inl (⟨by omega, by omega, rfl, rfl⟩)) (Nat.le_of_ble_eq_true rfl) (Nat.le_of_ble_eq_true rfl) dL_key_22

end
