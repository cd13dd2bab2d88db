section
theorem mw_1743 : (Jvm.Cond.methodLink "GalleyforgeLaw" (98 : Nat) ({ cls := "Galleyforge", name := "rounds", desc := "(I)I" } : Jvm.MethodName)) ∈ gt := gt_at 1878 (by decide +kernel) (by decide +kernel)
theorem mw_1744 : (Jvm.Cond.instanceMethod ({ cls := "Galleyforge", name := "rounds", desc := "(I)I" } : Jvm.MethodName)) ∈ gt := gt_at 1879 (by decide +kernel) (by decide +kernel)
theorem mw_1745 : (Jvm.Cond.selects "Galleyforge" ({ cls := "Galleyforge", name := "rounds", desc := "(I)I" } : Jvm.MethodName) ({ cls := "Galleyforge", name := "rounds", desc := "(I)I" } : Jvm.MethodName)) ∈ gt := gt_at 1880 (by decide +kernel) (by decide +kernel)
theorem mw_1746 : (Jvm.Cond.code ({ cls := "Galleyforge", name := "rounds", desc := "(I)I" } : Jvm.MethodName) prog_1_method_30_code (2 : Nat) (Option.some Jvm.ClassFile.FieldType.int)) ∈ gt := gt_at 1881 (by decide +kernel) (by decide +kernel)
theorem mV_X11_rounds : mV yX11_rounds cX11_rounds 2 (some .int) 1 := ⟨⟨mw_1746, mw_1, by decide, by decide, by decide +kernel⟩, mw_1744, mw_1745⟩
theorem dL_rounds_0 : decode cL_rounds 0 = .ok (.aload_n 2, 1) := by decide +kernel
theorem dL_rounds_1 : decode cL_rounds 1 = .ok (.iconst 0, 1) := by decide +kernel
theorem dL_rounds_2 : decode cL_rounds 2 = .ok (.aload_n 0, 1) := by decide +kernel
theorem dL_rounds_3 : decode cL_rounds 3 = .ok (.iload_n 1, 1) := by decide +kernel
theorem dL_rounds_4 : decode cL_rounds 4 = .ok (.invokevirtual 98, 3) := by decide +kernel
theorem dL_rounds_7 : decode cL_rounds 7 = .ok (.i2l, 1) := by decide +kernel
theorem dL_rounds_8 : decode cL_rounds 8 = .ok (.lastore, 1) := by decide +kernel
theorem dL_rounds_9 : decode cL_rounds 9 = .ok (.goto 6, 3) := by decide +kernel
theorem dL_rounds_12 : decode cL_rounds 12 = .ok (.astore_n 3, 1) := by decide +kernel
theorem dL_rounds_13 : decode cL_rounds 13 = .ok (.iconst 1, 1) := by decide +kernel
theorem dL_rounds_14 : decode cL_rounds 14 = .ok (.ireturn, 1) := by decide +kernel
theorem dL_rounds_15 : decode cL_rounds 15 = .ok (.iconst 0, 1) := by decide +kernel
theorem dL_rounds_16 : decode cL_rounds 16 = .ok (.ireturn, 1) := by decide +kernel
set_option maxHeartbeats 4000000 in
set_option maxRecDepth 100000 in
theorem w_rounds (l : Launch) (dC : Nat → ClassId) (dI : Nat → Nat → Nat) (k : Nat → ClassId) (hl0 : l.stackTraces = false) (gx : Nat) (T : Nat) (LA : Nat) (sp : Nat) (dr : Nat) (bl : Nat) (pt : Nat) (fk : Nat) (fh : Nat) (ky : Nat) (LN : Nat) (ST : Nat) (L0 : Nat) (lc0 : Nat) (le0 : Nat) (ll0 : Nat) (ld0 : Nat) (wl0 : Nat) (op0 : Nat) (dg0 : Nat) (L1 : Nat) (lc1 : Nat) (le1 : Nat) (ll1 : Nat) (ld1 : Nat) (wl1 : Nat) (op1 : Nat) (dg1 : Nat) (R0 : Nat) (r00 : Nat) (r10 : Nat) (r20 : Nat) (r30 : Nat) (r40 : Nat) (r50 : Nat) (r60 : Nat) (r70 : Nat) (wr0 : Nat) (lr0 : Nat) (tt0 : Nat) (fr0 : Nat) (r80 : Nat) (r90 : Nat) (R1 : Nat) (r01 : Nat) (r11 : Nat) (r21 : Nat) (r31 : Nat) (r41 : Nat) (r51 : Nat) (r61 : Nat) (r71 : Nat) (wr1 : Nat) (lr1 : Nat) (tt1 : Nat) (fr1 : Nat) (r81 : Nat) (r91 : Nat) (P0 : Nat) (pg0 : Nat) (p00 : Nat) (p10 : Nat) (p20 : Nat) (p30 : Nat) (p40 : Nat) (p50 : Nat) (P1 : Nat) (pg1 : Nat) (p01 : Nat) (p11 : Nat) (p21 : Nat) (p31 : Nat) (p41 : Nat) (p51 : Nat) (v : Int32) (ou : Nat) : Ct l dC dI k yL_rounds (.codeWith yL_rounds cL_rounds 4 (some .int) [(0, 9, 12, 13)]) ({ frames := 9, cells := 1, slots := 6, locals := 146 } : Room) [.ref gx, .int v, .ref ou] [(gx, .inr (9, [.ref T, .ref LA, .ref sp, .int 0, .ref dr])), (LA, .inl (k 3, 2, .inr (.inr (.inr (.inr (va_up (va_up (fun _ => none) 0 (some L0)) 1 (some L1))))))), (T, .inr (8, [.ref bl, .ref pt, .ref fk, .ref fh, .int 0, .ref ky, .int 60, .int 12])), (bl, .inr (11, [.int 0, .ref (dI 99 1), .int 0])), (L0, .inr (1, [.ref T, .int 0, .ref LN, .ref R0, .ref P0, .int 1, .int 0, .ref lc0, .ref le0, .ref ll0, .ref ld0, .ref wl0, .ref op0, .int 0, .int 0, .int 1365, .ref dg0])), (dg0, .inl (k 0, 730, .inl (fun _ => 0))), (R0, .inr (5, [.int 0, .ref r00, .ref r10, .ref r20, .ref r30, .ref r40, .ref r50, .ref r60, .ref r70, .ref wr0, .ref lr0, .ref tt0, .int 0, .int 0, .ref fr0, .ref r80, .ref r90, .int 0])), (wr0, .inl (k 0, 192, .inl (fun _ => 0))), (lr0, .inl (k 0, 6, .inl (fun _ => 0))), (tt0, .inl (k 1, 8, .inl (fun _ => 0))), (fr0, .inl (k 0, 5, .inl (fun _ => 0))), (P0, .inr (4, [.ref T, .ref R0, .ref pg0, .ref ST, .int 0, .int 0, .ref p00, .ref p10, .ref p20, .ref p30, .ref p40, .ref p50])), (p50, .inl (k 0, 5, .inl (fun _ => 0))), (L1, .inr (1, [.ref T, .int 1, .ref LN, .ref R1, .ref P1, .int 1, .int 0, .ref lc1, .ref le1, .ref ll1, .ref ld1, .ref wl1, .ref op1, .int 0, .int 0, .int 1365, .ref dg1])), (dg1, .inl (k 0, 730, .inl (fun _ => 0))), (R1, .inr (5, [.int 0, .ref r01, .ref r11, .ref r21, .ref r31, .ref r41, .ref r51, .ref r61, .ref r71, .ref wr1, .ref lr1, .ref tt1, .int 0, .int 0, .ref fr1, .ref r81, .ref r91, .int 0])), (wr1, .inl (k 0, 192, .inl (fun _ => 0))), (lr1, .inl (k 0, 6, .inl (fun _ => 0))), (tt1, .inl (k 1, 8, .inl (fun _ => 0))), (fr1, .inl (k 0, 5, .inl (fun _ => 0))), (P1, .inr (4, [.ref T, .ref R1, .ref pg1, .ref ST, .int 0, .int 0, .ref p01, .ref p11, .ref p21, .ref p31, .ref p41, .ref p51])), (p51, .inl (k 0, 5, .inl (fun _ => 0))), (ou, .inl (k 2, 1, .inr (.inl (fun _ => 0))))] (fun r w => ((0 ≤ v.toInt ∧ v.toInt ≤ 1) ∧ r = some (.int 0) ∧ w = [(ou, .inl (k 2, 1, .inr (.inl (vp_updL (fun _ => 0) 0 1))))]) ∨ (¬ (0 ≤ v.toInt ∧ v.toInt ≤ 1) ∧ r = some (.int 1) ∧ w = [])) := by
  refine cw_of (by decide) (Nat.le_of_ble_eq_true rfl) ?_
  intro p e s m args below meth c H locs B hr hT ls hl
  have hx := B.1.1
  have hb := B.1.2.1
  have hl : lv_has ls 4 [(0, .ref gx), (1, .int v), (2, .ref ou)] := hl
  refine lv_aload_n hx hb dL_rounds_0 rfl (lv_at hl 2 rfl) ?_
  refine lv_iconst (v := 0) hx hb dL_rounds_1 (by decide) ?_
  refine lv_aload_n hx hb dL_rounds_2 rfl (lv_at hl 0 rfl) ?_
  refine lv_iload_n hx hb dL_rounds_3 rfl (lv_at hl 1 rfl) ?_
  refine x_callVx (rest := [.int 0, .ref ou]) (wr := [(ou, .inl (k 2, 1, .inr (.inl (fun _ => 0))))]) (c_rounds l dC dI k hl0 gx T LA sp dr bl pt fk fh ky LN ST L0 lc0 le0 ll0 ld0 wl0 op0 dg0 L1 lc1 le1 ll1 ld1 wl1 op1 dg1 R0 r00 r10 r20 r30 r40 r50 r60 r70 wr0 lr0 tt0 fr0 r80 r90 R1 r01 r11 r21 r31 r41 r51 r61 r71 wr1 lr1 tt1 fr1 r81 r91 P0 pg0 p00 p10 p20 p30 p40 p50 P1 pg1 p01 p11 p21 p31 p41 p51 v) B mV_X11_rounds mw_1743 hl [0, 1, 2, 3, 4, 5, 6, 7, 8, 9, 10, 11, 12, 13, 14, 15, 16, 17, 18, 19, 20, 21] [22] rfl rfl ⟨by decide, by decide⟩ (by decide) (q0 := 0) rfl rfl rfl ⟨Nat.le_of_ble_eq_true rfl, Nat.le_of_ble_eq_true rfl⟩ (Nat.le_of_ble_eq_true rfl) rfl dL_rounds_4 ⟨Nat.le_of_ble_eq_true rfl, Nat.le_of_ble_eq_true rfl⟩ (fun E ce q9 H locs hp B h1 h2 h3 => ?_) (fun r w H locs hp B => ?_)
  · rcases hp with ⟨z0_0, rfl⟩
    refine vx_catch B.1.2.2.2.1 [] ⟨0, 9, 12, 13⟩ [] (hT.trans rfl) (fun z hz => by cases hz) (by decide) (by decide) (B.1.2.2.2.2.1 _ mw_506) (ca.use (B.2.1.2.2.2.2.2.2.1.1 _ (by decide +kernel))) h1 h2 h3 ?_
    skip
    have B := bd_to (ws' := [(ou, .inl (k 2, 1, .inr (.inl (fun _ => 0))))]) rfl B
    refine lv_astore_n (lv' := [(3, .ref q9), (0, .ref gx), (1, .int v), (2, .ref ou)]) hx hb dL_rounds_12 rfl hl (by decide) rfl (fun ls hl => ?_)
    refine lv_iconst (v := 1) hx hb dL_rounds_13 (by decide) ?_
    have B := bd_sub (ws' := []) [] (by decide) rfl B
    exact x_iret B hr (Or.inr (⟨by omega, rfl, rfl⟩)) (Nat.le_of_ble_eq_true rfl) (Nat.le_of_ble_eq_true rfl) dL_rounds_14
  · skip
    obtain ⟨z_2, rfl, rfl⟩ := hp
    have B := bd_to (ws' := [(ou, .inl (k 2, 1, .inr (.inl (fun _ => 0))))]) rfl B
    refine lv_i2l (v := 1) hx hb dL_rounds_7 (by decide) ?_
    refine x_last B 0 rfl (vpc (by decide)) dL_rounds_8 (j := 0) (by decide) (fun H locs B => ?_)
    have B := bd_to (ws' := [(ou, .inl (k 2, 1, .inr (.inl (vp_updL (fun _ => 0) 0 1))))]) rfl B
    refine lv_goto (tgt := 15) hx hb dL_rounds_9 (by decide) ?_
    refine lv_iconst (v := 0) hx hb dL_rounds_15 (by decide) ?_
    have B := bd_sub (ws' := [(ou, .inl (k 2, 1, .inr (.inl (vp_updL (fun _ => 0) 0 1))))]) [0] (by decide) rfl B
    exact x_iret B hr (Or.inl (⟨by omega, rfl, rfl⟩)) (Nat.le_of_ble_eq_true rfl) (Nat.le_of_ble_eq_true rfl) dL_rounds_16

theorem mw_1750 : (Jvm.Cond.methodLink "GalleyforgeLaw" (101 : Nat) ({ cls := "Galleyforge", name := "isSettled", desc := "(I)Z" } : Jvm.MethodName)) ∈ gt := gt_at 1885 (by decide +kernel) (by decide +kernel)
theorem mw_1751 : (Jvm.Cond.instanceMethod ({ cls := "Galleyforge", name := "isSettled", desc := "(I)Z" } : Jvm.MethodName)) ∈ gt := gt_at 1886 (by decide +kernel) (by decide +kernel)
theorem mw_1752 : (Jvm.Cond.selects "Galleyforge" ({ cls := "Galleyforge", name := "isSettled", desc := "(I)Z" } : Jvm.MethodName) ({ cls := "Galleyforge", name := "isSettled", desc := "(I)Z" } : Jvm.MethodName)) ∈ gt := gt_at 1887 (by decide +kernel) (by decide +kernel)
theorem mw_1753 : (Jvm.Cond.code ({ cls := "Galleyforge", name := "isSettled", desc := "(I)Z" } : Jvm.MethodName) prog_1_method_31_code (2 : Nat) (Option.some Jvm.ClassFile.FieldType.boolean)) ∈ gt := gt_at 1888 (by decide +kernel) (by decide +kernel)
theorem mV_X11_isSettled : mV yX11_isSettled cX11_isSettled 2 (some .boolean) 1 := ⟨⟨mw_1753, mw_1, by decide, by decide, by decide +kernel⟩, mw_1751, mw_1752⟩
theorem dL_isSettled_0 : decode cL_isSettled 0 = .ok (.aload_n 2, 1) := by decide +kernel
theorem dL_isSettled_1 : decode cL_isSettled 1 = .ok (.iconst 0, 1) := by decide +kernel
theorem dL_isSettled_2 : decode cL_isSettled 2 = .ok (.aload_n 0, 1) := by decide +kernel
theorem dL_isSettled_3 : decode cL_isSettled 3 = .ok (.iload_n 1, 1) := by decide +kernel
theorem dL_isSettled_4 : decode cL_isSettled 4 = .ok (.invokevirtual 101, 3) := by decide +kernel
theorem dL_isSettled_7 : decode cL_isSettled 7 = .ok (.ifCond .eq 7, 3) := by decide +kernel
theorem dL_isSettled_10 : decode cL_isSettled 10 = .ok (.lconst 1, 1) := by decide +kernel
theorem dL_isSettled_11 : decode cL_isSettled 11 = .ok (.goto 4, 3) := by decide +kernel
theorem dL_isSettled_15 : decode cL_isSettled 15 = .ok (.lastore, 1) := by decide +kernel
theorem dL_isSettled_16 : decode cL_isSettled 16 = .ok (.goto 6, 3) := by decide +kernel
theorem dL_isSettled_19 : decode cL_isSettled 19 = .ok (.astore_n 3, 1) := by decide +kernel
theorem dL_isSettled_20 : decode cL_isSettled 20 = .ok (.iconst 1, 1) := by decide +kernel
theorem dL_isSettled_21 : decode cL_isSettled 21 = .ok (.ireturn, 1) := by decide +kernel
theorem dL_isSettled_22 : decode cL_isSettled 22 = .ok (.iconst 0, 1) := by decide +kernel
theorem dL_isSettled_23 : decode cL_isSettled 23 = .ok (.ireturn, 1) := by decide +kernel
set_option maxHeartbeats 4000000 in
set_option maxRecDepth 100000 in
theorem w_isSettled (l : Launch) (dC : Nat → ClassId) (dI : Nat → Nat → Nat) (k : Nat → ClassId) (hl0 : l.stackTraces = false) (gx : Nat) (T : Nat) (LA : Nat) (sp : Nat) (dr : Nat) (bl : Nat) (pt : Nat) (fk : Nat) (fh : Nat) (ky : Nat) (LN : Nat) (ST : Nat) (L0 : Nat) (lc0 : Nat) (le0 : Nat) (ll0 : Nat) (ld0 : Nat) (wl0 : Nat) (op0 : Nat) (dg0 : Nat) (L1 : Nat) (lc1 : Nat) (le1 : Nat) (ll1 : Nat) (ld1 : Nat) (wl1 : Nat) (op1 : Nat) (dg1 : Nat) (R0 : Nat) (r00 : Nat) (r10 : Nat) (r20 : Nat) (r30 : Nat) (r40 : Nat) (r50 : Nat) (r60 : Nat) (r70 : Nat) (wr0 : Nat) (lr0 : Nat) (tt0 : Nat) (fr0 : Nat) (r80 : Nat) (r90 : Nat) (R1 : Nat) (r01 : Nat) (r11 : Nat) (r21 : Nat) (r31 : Nat) (r41 : Nat) (r51 : Nat) (r61 : Nat) (r71 : Nat) (wr1 : Nat) (lr1 : Nat) (tt1 : Nat) (fr1 : Nat) (r81 : Nat) (r91 : Nat) (P0 : Nat) (pg0 : Nat) (p00 : Nat) (p10 : Nat) (p20 : Nat) (p30 : Nat) (p40 : Nat) (p50 : Nat) (P1 : Nat) (pg1 : Nat) (p01 : Nat) (p11 : Nat) (p21 : Nat) (p31 : Nat) (p41 : Nat) (p51 : Nat) (v : Int32) (ou : Nat) : Ct l dC dI k yL_isSettled (.codeWith yL_isSettled cL_isSettled 4 (some .int) [(0, 16, 19, 13)]) ({ frames := 9, cells := 1, slots := 6, locals := 146 } : Room) [.ref gx, .int v, .ref ou] [(gx, .inr (9, [.ref T, .ref LA, .ref sp, .int 0, .ref dr])), (LA, .inl (k 3, 2, .inr (.inr (.inr (.inr (va_up (va_up (fun _ => none) 0 (some L0)) 1 (some L1))))))), (T, .inr (8, [.ref bl, .ref pt, .ref fk, .ref fh, .int 0, .ref ky, .int 60, .int 12])), (bl, .inr (11, [.int 0, .ref (dI 99 1), .int 0])), (L0, .inr (1, [.ref T, .int 0, .ref LN, .ref R0, .ref P0, .int 1, .int 0, .ref lc0, .ref le0, .ref ll0, .ref ld0, .ref wl0, .ref op0, .int 0, .int 0, .int 1365, .ref dg0])), (dg0, .inl (k 0, 730, .inl (fun _ => 0))), (R0, .inr (5, [.int 0, .ref r00, .ref r10, .ref r20, .ref r30, .ref r40, .ref r50, .ref r60, .ref r70, .ref wr0, .ref lr0, .ref tt0, .int 0, .int 0, .ref fr0, .ref r80, .ref r90, .int 0])), (wr0, .inl (k 0, 192, .inl (fun _ => 0))), (lr0, .inl (k 0, 6, .inl (fun _ => 0))), (tt0, .inl (k 1, 8, .inl (fun _ => 0))), (fr0, .inl (k 0, 5, .inl (fun _ => 0))), (P0, .inr (4, [.ref T, .ref R0, .ref pg0, .ref ST, .int 0, .int 0, .ref p00, .ref p10, .ref p20, .ref p30, .ref p40, .ref p50])), (p50, .inl (k 0, 5, .inl (fun _ => 0))), (L1, .inr (1, [.ref T, .int 1, .ref LN, .ref R1, .ref P1, .int 1, .int 0, .ref lc1, .ref le1, .ref ll1, .ref ld1, .ref wl1, .ref op1, .int 0, .int 0, .int 1365, .ref dg1])), (dg1, .inl (k 0, 730, .inl (fun _ => 0))), (R1, .inr (5, [.int 0, .ref r01, .ref r11, .ref r21, .ref r31, .ref r41, .ref r51, .ref r61, .ref r71, .ref wr1, .ref lr1, .ref tt1, .int 0, .int 0, .ref fr1, .ref r81, .ref r91, .int 0])), (wr1, .inl (k 0, 192, .inl (fun _ => 0))), (lr1, .inl (k 0, 6, .inl (fun _ => 0))), (tt1, .inl (k 1, 8, .inl (fun _ => 0))), (fr1, .inl (k 0, 5, .inl (fun _ => 0))), (P1, .inr (4, [.ref T, .ref R1, .ref pg1, .ref ST, .int 0, .int 0, .ref p01, .ref p11, .ref p21, .ref p31, .ref p41, .ref p51])), (p51, .inl (k 0, 5, .inl (fun _ => 0))), (ou, .inl (k 2, 1, .inr (.inl (fun _ => 0))))] (fun r w => ((0 ≤ v.toInt ∧ v.toInt ≤ 1) ∧ r = some (.int 0) ∧ w = [(ou, .inl (k 2, 1, .inr (.inl (vp_updL (fun _ => 0) 0 1))))]) ∨ (¬ (0 ≤ v.toInt ∧ v.toInt ≤ 1) ∧ r = some (.int 1) ∧ w = [])) := by
  refine cw_of (by decide) (Nat.le_of_ble_eq_true rfl) ?_
  intro p e s m args below meth c H locs B hr hT ls hl
  have hx := B.1.1
  have hb := B.1.2.1
  have hl : lv_has ls 4 [(0, .ref gx), (1, .int v), (2, .ref ou)] := hl
  refine lv_aload_n hx hb dL_isSettled_0 rfl (lv_at hl 2 rfl) ?_
  refine lv_iconst (v := 0) hx hb dL_isSettled_1 (by decide) ?_
  refine lv_aload_n hx hb dL_isSettled_2 rfl (lv_at hl 0 rfl) ?_
  refine lv_iload_n hx hb dL_isSettled_3 rfl (lv_at hl 1 rfl) ?_
  refine x_callVx (rest := [.int 0, .ref ou]) (wr := [(ou, .inl (k 2, 1, .inr (.inl (fun _ => 0))))]) (c_isSettled l dC dI k hl0 gx T LA sp dr bl pt fk fh ky LN ST L0 lc0 le0 ll0 ld0 wl0 op0 dg0 L1 lc1 le1 ll1 ld1 wl1 op1 dg1 R0 r00 r10 r20 r30 r40 r50 r60 r70 wr0 lr0 tt0 fr0 r80 r90 R1 r01 r11 r21 r31 r41 r51 r61 r71 wr1 lr1 tt1 fr1 r81 r91 P0 pg0 p00 p10 p20 p30 p40 p50 P1 pg1 p01 p11 p21 p31 p41 p51 v) B mV_X11_isSettled mw_1750 hl [0, 1, 2, 3, 4, 5, 6, 7, 8, 9, 10, 11, 12, 13, 14, 15, 16, 17, 18, 19, 20, 21] [22] rfl rfl ⟨by decide, by decide⟩ (by decide) (q0 := 0) rfl rfl rfl ⟨Nat.le_of_ble_eq_true rfl, Nat.le_of_ble_eq_true rfl⟩ (Nat.le_of_ble_eq_true rfl) rfl dL_isSettled_4 ⟨Nat.le_of_ble_eq_true rfl, Nat.le_of_ble_eq_true rfl⟩ (fun E ce q9 H locs hp B h1 h2 h3 => ?_) (fun r w H locs hp B => ?_)
  · rcases hp with ⟨z0_0, rfl⟩
    refine vx_catch B.1.2.2.2.1 [] ⟨0, 16, 19, 13⟩ [] (hT.trans rfl) (fun z hz => by cases hz) (by decide) (by decide) (B.1.2.2.2.2.1 _ mw_506) (ca.use (B.2.1.2.2.2.2.2.2.1.1 _ (by decide +kernel))) h1 h2 h3 ?_
    skip
    have B := bd_to (ws' := [(ou, .inl (k 2, 1, .inr (.inl (fun _ => 0))))]) rfl B
    refine lv_astore_n (lv' := [(3, .ref q9), (0, .ref gx), (1, .int v), (2, .ref ou)]) hx hb dL_isSettled_19 rfl hl (by decide) rfl (fun ls hl => ?_)
    refine lv_iconst (v := 1) hx hb dL_isSettled_20 (by decide) ?_
    have B := bd_sub (ws' := []) [] (by decide) rfl B
    exact x_iret B hr (Or.inr (⟨by omega, rfl, rfl⟩)) (Nat.le_of_ble_eq_true rfl) (Nat.le_of_ble_eq_true rfl) dL_isSettled_21
  · skip
    obtain ⟨z_2, rfl, rfl⟩ := hp
    have B := bd_to (ws' := [(ou, .inl (k 2, 1, .inr (.inl (fun _ => 0))))]) rfl B
    refine lv_if_eq (tgt := 14) hx hb dL_isSettled_7 (by decide) (fun c9 => absurd c9 (by decide)) (fun _ => ?_)
    refine lv_lconst (v := 1) hx hb dL_isSettled_10 (by decide) ?_
    refine lv_goto (tgt := 15) hx hb dL_isSettled_11 (by decide) ?_
    refine x_last B 0 rfl (vpc (by decide)) dL_isSettled_15 (j := 0) (by decide) (fun H locs B => ?_)
    have B := bd_to (ws' := [(ou, .inl (k 2, 1, .inr (.inl (vp_updL (fun _ => 0) 0 1))))]) rfl B
    refine lv_goto (tgt := 22) hx hb dL_isSettled_16 (by decide) ?_
    refine lv_iconst (v := 0) hx hb dL_isSettled_22 (by decide) ?_
    have B := bd_sub (ws' := [(ou, .inl (k 2, 1, .inr (.inl (vp_updL (fun _ => 0) 0 1))))]) [0] (by decide) rfl B
    exact x_iret B hr (Or.inl (⟨by omega, rfl, rfl⟩)) (Nat.le_of_ble_eq_true rfl) (Nat.le_of_ble_eq_true rfl) dL_isSettled_23

theorem mw_1757 : (Jvm.Cond.methodLink "GalleyforgeLaw" (105 : Nat) ({ cls := "Galleyforge", name := "on", desc := "(III)I" } : Jvm.MethodName)) ∈ gt := gt_at 1892 (by decide +kernel) (by decide +kernel)
theorem mw_1758 : (Jvm.Cond.instanceMethod ({ cls := "Galleyforge", name := "on", desc := "(III)I" } : Jvm.MethodName)) ∈ gt := gt_at 1893 (by decide +kernel) (by decide +kernel)
theorem mw_1759 : (Jvm.Cond.selects "Galleyforge" ({ cls := "Galleyforge", name := "on", desc := "(III)I" } : Jvm.MethodName) ({ cls := "Galleyforge", name := "on", desc := "(III)I" } : Jvm.MethodName)) ∈ gt := gt_at 1894 (by decide +kernel) (by decide +kernel)
theorem mw_1760 : (Jvm.Cond.code ({ cls := "Galleyforge", name := "on", desc := "(III)I" } : Jvm.MethodName) prog_1_method_32_code (5 : Nat) (Option.some Jvm.ClassFile.FieldType.int)) ∈ gt := gt_at 1895 (by decide +kernel) (by decide +kernel)
theorem mV_X11_on : mV yX11_on cX11_on 5 (some .int) 3 := ⟨⟨mw_1760, mw_1, by decide, by decide, by decide +kernel⟩, mw_1758, mw_1759⟩
theorem dL_on_0 : decode cL_on 0 = .ok (.aload 4, 2) := by decide +kernel
theorem dL_on_2 : decode cL_on 2 = .ok (.iconst 0, 1) := by decide +kernel
theorem dL_on_3 : decode cL_on 3 = .ok (.aload_n 0, 1) := by decide +kernel
theorem dL_on_4 : decode cL_on 4 = .ok (.iload_n 1, 1) := by decide +kernel
theorem dL_on_5 : decode cL_on 5 = .ok (.iload_n 2, 1) := by decide +kernel
theorem dL_on_6 : decode cL_on 6 = .ok (.iload_n 3, 1) := by decide +kernel
theorem dL_on_7 : decode cL_on 7 = .ok (.invokevirtual 105, 3) := by decide +kernel
theorem dL_on_15 : decode cL_on 15 = .ok (.astore 5, 2) := by decide +kernel
theorem dL_on_17 : decode cL_on 17 = .ok (.iconst 1, 1) := by decide +kernel
theorem dL_on_18 : decode cL_on 18 = .ok (.ireturn, 1) := by decide +kernel
set_option maxHeartbeats 4000000 in
set_option maxRecDepth 100000 in
theorem w_on (l : Launch) (dC : Nat → ClassId) (dI : Nat → Nat → Nat) (k : Nat → ClassId) (hl0 : l.stackTraces = false) (gx : Nat) (T : Nat) (LA : Nat) (sp : Nat) (dr : Nat) (bl : Nat) (pt : Nat) (fk : Nat) (fh : Nat) (ky : Nat) (LN : Nat) (ST : Nat) (L0 : Nat) (lc0 : Nat) (le0 : Nat) (ll0 : Nat) (ld0 : Nat) (wl0 : Nat) (op0 : Nat) (dg0 : Nat) (L1 : Nat) (lc1 : Nat) (le1 : Nat) (ll1 : Nat) (ld1 : Nat) (wl1 : Nat) (op1 : Nat) (dg1 : Nat) (R0 : Nat) (r00 : Nat) (r10 : Nat) (r20 : Nat) (r30 : Nat) (r40 : Nat) (r50 : Nat) (r60 : Nat) (r70 : Nat) (wr0 : Nat) (lr0 : Nat) (tt0 : Nat) (fr0 : Nat) (r80 : Nat) (r90 : Nat) (R1 : Nat) (r01 : Nat) (r11 : Nat) (r21 : Nat) (r31 : Nat) (r41 : Nat) (r51 : Nat) (r61 : Nat) (r71 : Nat) (wr1 : Nat) (lr1 : Nat) (tt1 : Nat) (fr1 : Nat) (r81 : Nat) (r91 : Nat) (P0 : Nat) (pg0 : Nat) (p00 : Nat) (p10 : Nat) (p20 : Nat) (p30 : Nat) (p40 : Nat) (p50 : Nat) (P1 : Nat) (pg1 : Nat) (p01 : Nat) (p11 : Nat) (p21 : Nat) (p31 : Nat) (p41 : Nat) (p51 : Nat) (v : Int32) (x1 : Int32) (x2 : Int32) (ou : Nat) : Ct l dC dI k yL_on (.codeWith yL_on cL_on 6 (some .int) [(0, 12, 15, 13)]) ({ frames := 9, cells := 2, slots := 12, locals := 149 } : Room) [.ref gx, .int v, .int x1, .int x2, .ref ou] [(gx, .inr (9, [.ref T, .ref LA, .ref sp, .int 0, .ref dr])), (LA, .inl (k 3, 2, .inr (.inr (.inr (.inr (va_up (va_up (fun _ => none) 0 (some L0)) 1 (some L1))))))), (T, .inr (8, [.ref bl, .ref pt, .ref fk, .ref fh, .int 0, .ref ky, .int 60, .int 12])), (bl, .inr (11, [.int 0, .ref (dI 99 1), .int 0])), (L0, .inr (1, [.ref T, .int 0, .ref LN, .ref R0, .ref P0, .int 1, .int 0, .ref lc0, .ref le0, .ref ll0, .ref ld0, .ref wl0, .ref op0, .int 0, .int 0, .int 1365, .ref dg0])), (dg0, .inl (k 0, 730, .inl (fun _ => 0))), (R0, .inr (5, [.int 0, .ref r00, .ref r10, .ref r20, .ref r30, .ref r40, .ref r50, .ref r60, .ref r70, .ref wr0, .ref lr0, .ref tt0, .int 0, .int 0, .ref fr0, .ref r80, .ref r90, .int 0])), (wr0, .inl (k 0, 192, .inl (fun _ => 0))), (lr0, .inl (k 0, 6, .inl (fun _ => 0))), (tt0, .inl (k 1, 8, .inl (fun _ => 0))), (fr0, .inl (k 0, 5, .inl (fun _ => 0))), (P0, .inr (4, [.ref T, .ref R0, .ref pg0, .ref ST, .int 0, .int 0, .ref p00, .ref p10, .ref p20, .ref p30, .ref p40, .ref p50])), (p50, .inl (k 0, 5, .inl (fun _ => 0))), (L1, .inr (1, [.ref T, .int 1, .ref LN, .ref R1, .ref P1, .int 1, .int 0, .ref lc1, .ref le1, .ref ll1, .ref ld1, .ref wl1, .ref op1, .int 0, .int 0, .int 1365, .ref dg1])), (dg1, .inl (k 0, 730, .inl (fun _ => 0))), (R1, .inr (5, [.int 0, .ref r01, .ref r11, .ref r21, .ref r31, .ref r41, .ref r51, .ref r61, .ref r71, .ref wr1, .ref lr1, .ref tt1, .int 0, .int 0, .ref fr1, .ref r81, .ref r91, .int 0])), (wr1, .inl (k 0, 192, .inl (fun _ => 0))), (lr1, .inl (k 0, 6, .inl (fun _ => 0))), (tt1, .inl (k 1, 8, .inl (fun _ => 0))), (fr1, .inl (k 0, 5, .inl (fun _ => 0))), (P1, .inr (4, [.ref T, .ref R1, .ref pg1, .ref ST, .int 0, .int 0, .ref p01, .ref p11, .ref p21, .ref p31, .ref p41, .ref p51])), (p51, .inl (k 0, 5, .inl (fun _ => 0))), (ou, .inl (k 2, 1, .inr (.inl (fun _ => 0))))] (fun r w => (r = some (.int 1) ∧ w = [])) := by
  refine cw_of (by decide) (Nat.le_of_ble_eq_true rfl) ?_
  intro p e s m args below meth c H locs B hr hT ls hl
  have hx := B.1.1
  have hb := B.1.2.1
  have hl : lv_has ls 6 [(0, .ref gx), (1, .int v), (2, .int x1), (3, .int x2), (4, .ref ou)] := hl
  refine lv_aload hx hb dL_on_0 (lv_at hl 4 rfl) ?_
  refine lv_iconst (v := 0) hx hb dL_on_2 (by decide) ?_
  refine lv_aload_n hx hb dL_on_3 rfl (lv_at hl 0 rfl) ?_
  refine lv_iload_n hx hb dL_on_4 rfl (lv_at hl 1 rfl) ?_
  refine lv_iload_n hx hb dL_on_5 rfl (lv_at hl 2 rfl) ?_
  refine lv_iload_n hx hb dL_on_6 rfl (lv_at hl 3 rfl) ?_
  refine x_callVx (rest := [.int 0, .ref ou]) (wr := [(ou, .inl (k 2, 1, .inr (.inl (fun _ => 0))))]) (c_on l dC dI k hl0 gx T LA sp dr bl pt fk fh ky LN ST L0 lc0 le0 ll0 ld0 wl0 op0 dg0 L1 lc1 le1 ll1 ld1 wl1 op1 dg1 R0 r00 r10 r20 r30 r40 r50 r60 r70 wr0 lr0 tt0 fr0 r80 r90 R1 r01 r11 r21 r31 r41 r51 r61 r71 wr1 lr1 tt1 fr1 r81 r91 P0 pg0 p00 p10 p20 p30 p40 p50 P1 pg1 p01 p11 p21 p31 p41 p51 v x1 x2) B mV_X11_on mw_1757 hl [0, 1, 2, 3, 4, 5, 6, 7, 8, 9, 10, 11, 12, 13, 14, 15, 16, 17, 18, 19, 20, 21] [22] rfl rfl ⟨by decide, by decide⟩ (by decide) (q0 := 0) rfl rfl rfl ⟨Nat.le_of_ble_eq_true rfl, Nat.le_of_ble_eq_true rfl⟩ (Nat.le_of_ble_eq_true rfl) rfl dL_on_7 ⟨Nat.le_of_ble_eq_true rfl, Nat.le_of_ble_eq_true rfl⟩ (fun E ce q9 H locs hp B h1 h2 h3 => ?_) (fun r w H locs hp B => ?_)
  · rcases hp with rfl
    refine vx_catch B.1.2.2.2.1 [] ⟨0, 12, 15, 13⟩ [] (hT.trans rfl) (fun z hz => by cases hz) (by decide) (by decide) (B.1.2.2.2.2.1 _ mw_506) (ca.use (B.2.1.2.2.2.2.2.2.1.1 _ (by decide +kernel))) h1 h2 h3 ?_
    skip
    have B := bd_to (ws' := [(ou, .inl (k 2, 1, .inr (.inl (fun _ => 0))))]) rfl B
    refine lv_astore (lv' := [(5, .ref q9), (0, .ref gx), (1, .int v), (2, .int x1), (3, .int x2), (4, .ref ou)]) hx hb dL_on_15 hl (by decide) rfl (fun ls hl => ?_)
    refine lv_iconst (v := 1) hx hb dL_on_17 (by decide) ?_
    have B := bd_sub (ws' := []) [] (by decide) rfl B
    exact x_iret B hr (⟨rfl, rfl⟩) (Nat.le_of_ble_eq_true rfl) (Nat.le_of_ble_eq_true rfl) dL_on_18
  · exact hp.elim

theorem mw_1769 : (Jvm.Cond.methodLink "GalleyforgeLaw" (108 : Nat) ({ cls := "Galleyforge", name := "head", desc := "(II)I" } : Jvm.MethodName)) ∈ gt := gt_at 1904 (by decide +kernel) (by decide +kernel)
theorem mw_1770 : (Jvm.Cond.instanceMethod ({ cls := "Galleyforge", name := "head", desc := "(II)I" } : Jvm.MethodName)) ∈ gt := gt_at 1905 (by decide +kernel) (by decide +kernel)
theorem mw_1771 : (Jvm.Cond.selects "Galleyforge" ({ cls := "Galleyforge", name := "head", desc := "(II)I" } : Jvm.MethodName) ({ cls := "Galleyforge", name := "head", desc := "(II)I" } : Jvm.MethodName)) ∈ gt := gt_at 1906 (by decide +kernel) (by decide +kernel)
theorem mw_1772 : (Jvm.Cond.code ({ cls := "Galleyforge", name := "head", desc := "(II)I" } : Jvm.MethodName) prog_1_method_33_code (4 : Nat) (Option.some Jvm.ClassFile.FieldType.int)) ∈ gt := gt_at 1907 (by decide +kernel) (by decide +kernel)
theorem mV_X11_head : mV yX11_head cX11_head 4 (some .int) 2 := ⟨⟨mw_1772, mw_1, by decide, by decide, by decide +kernel⟩, mw_1770, mw_1771⟩
theorem dL_head_0 : decode cL_head 0 = .ok (.aload_n 3, 1) := by decide +kernel
theorem dL_head_1 : decode cL_head 1 = .ok (.iconst 0, 1) := by decide +kernel
theorem dL_head_2 : decode cL_head 2 = .ok (.aload_n 0, 1) := by decide +kernel
theorem dL_head_3 : decode cL_head 3 = .ok (.iload_n 1, 1) := by decide +kernel
theorem dL_head_4 : decode cL_head 4 = .ok (.iload_n 2, 1) := by decide +kernel
theorem dL_head_5 : decode cL_head 5 = .ok (.invokevirtual 108, 3) := by decide +kernel
theorem dL_head_13 : decode cL_head 13 = .ok (.astore 4, 2) := by decide +kernel
theorem dL_head_15 : decode cL_head 15 = .ok (.iconst 1, 1) := by decide +kernel
theorem dL_head_16 : decode cL_head 16 = .ok (.ireturn, 1) := by decide +kernel
set_option maxHeartbeats 4000000 in
set_option maxRecDepth 100000 in
theorem w_head (l : Launch) (dC : Nat → ClassId) (dI : Nat → Nat → Nat) (k : Nat → ClassId) (hl0 : l.stackTraces = false) (gx : Nat) (T : Nat) (LA : Nat) (sp : Nat) (dr : Nat) (bl : Nat) (pt : Nat) (fk : Nat) (fh : Nat) (ky : Nat) (LN : Nat) (ST : Nat) (L0 : Nat) (lc0 : Nat) (le0 : Nat) (ll0 : Nat) (ld0 : Nat) (wl0 : Nat) (op0 : Nat) (dg0 : Nat) (L1 : Nat) (lc1 : Nat) (le1 : Nat) (ll1 : Nat) (ld1 : Nat) (wl1 : Nat) (op1 : Nat) (dg1 : Nat) (R0 : Nat) (r00 : Nat) (r10 : Nat) (r20 : Nat) (r30 : Nat) (r40 : Nat) (r50 : Nat) (r60 : Nat) (r70 : Nat) (wr0 : Nat) (lr0 : Nat) (tt0 : Nat) (fr0 : Nat) (r80 : Nat) (r90 : Nat) (R1 : Nat) (r01 : Nat) (r11 : Nat) (r21 : Nat) (r31 : Nat) (r41 : Nat) (r51 : Nat) (r61 : Nat) (r71 : Nat) (wr1 : Nat) (lr1 : Nat) (tt1 : Nat) (fr1 : Nat) (r81 : Nat) (r91 : Nat) (P0 : Nat) (pg0 : Nat) (p00 : Nat) (p10 : Nat) (p20 : Nat) (p30 : Nat) (p40 : Nat) (p50 : Nat) (P1 : Nat) (pg1 : Nat) (p01 : Nat) (p11 : Nat) (p21 : Nat) (p31 : Nat) (p41 : Nat) (p51 : Nat) (v : Int32) (x1 : Int32) (ou : Nat) : Ct l dC dI k yL_head (.codeWith yL_head cL_head 5 (some .int) [(0, 10, 13, 13)]) ({ frames := 9, cells := 2, slots := 12, locals := 148 } : Room) [.ref gx, .int v, .int x1, .ref ou] [(gx, .inr (9, [.ref T, .ref LA, .ref sp, .int 0, .ref dr])), (LA, .inl (k 3, 2, .inr (.inr (.inr (.inr (va_up (va_up (fun _ => none) 0 (some L0)) 1 (some L1))))))), (T, .inr (8, [.ref bl, .ref pt, .ref fk, .ref fh, .int 0, .ref ky, .int 60, .int 12])), (bl, .inr (11, [.int 0, .ref (dI 99 1), .int 0])), (L0, .inr (1, [.ref T, .int 0, .ref LN, .ref R0, .ref P0, .int 1, .int 0, .ref lc0, .ref le0, .ref ll0, .ref ld0, .ref wl0, .ref op0, .int 0, .int 0, .int 1365, .ref dg0])), (dg0, .inl (k 0, 730, .inl (fun _ => 0))), (R0, .inr (5, [.int 0, .ref r00, .ref r10, .ref r20, .ref r30, .ref r40, .ref r50, .ref r60, .ref r70, .ref wr0, .ref lr0, .ref tt0, .int 0, .int 0, .ref fr0, .ref r80, .ref r90, .int 0])), (wr0, .inl (k 0, 192, .inl (fun _ => 0))), (lr0, .inl (k 0, 6, .inl (fun _ => 0))), (tt0, .inl (k 1, 8, .inl (fun _ => 0))), (fr0, .inl (k 0, 5, .inl (fun _ => 0))), (P0, .inr (4, [.ref T, .ref R0, .ref pg0, .ref ST, .int 0, .int 0, .ref p00, .ref p10, .ref p20, .ref p30, .ref p40, .ref p50])), (p50, .inl (k 0, 5, .inl (fun _ => 0))), (L1, .inr (1, [.ref T, .int 1, .ref LN, .ref R1, .ref P1, .int 1, .int 0, .ref lc1, .ref le1, .ref ll1, .ref ld1, .ref wl1, .ref op1, .int 0, .int 0, .int 1365, .ref dg1])), (dg1, .inl (k 0, 730, .inl (fun _ => 0))), (R1, .inr (5, [.int 0, .ref r01, .ref r11, .ref r21, .ref r31, .ref r41, .ref r51, .ref r61, .ref r71, .ref wr1, .ref lr1, .ref tt1, .int 0, .int 0, .ref fr1, .ref r81, .ref r91, .int 0])), (wr1, .inl (k 0, 192, .inl (fun _ => 0))), (lr1, .inl (k 0, 6, .inl (fun _ => 0))), (tt1, .inl (k 1, 8, .inl (fun _ => 0))), (fr1, .inl (k 0, 5, .inl (fun _ => 0))), (P1, .inr (4, [.ref T, .ref R1, .ref pg1, .ref ST, .int 0, .int 0, .ref p01, .ref p11, .ref p21, .ref p31, .ref p41, .ref p51])), (p51, .inl (k 0, 5, .inl (fun _ => 0))), (ou, .inl (k 2, 1, .inr (.inl (fun _ => 0))))] (fun r w => (r = some (.int 1) ∧ w = [])) := by
  refine cw_of (by decide) (Nat.le_of_ble_eq_true rfl) ?_
  intro p e s m args below meth c H locs B hr hT ls hl
  have hx := B.1.1
  have hb := B.1.2.1
  have hl : lv_has ls 5 [(0, .ref gx), (1, .int v), (2, .int x1), (3, .ref ou)] := hl
  refine lv_aload_n hx hb dL_head_0 rfl (lv_at hl 3 rfl) ?_
  refine lv_iconst (v := 0) hx hb dL_head_1 (by decide) ?_
  refine lv_aload_n hx hb dL_head_2 rfl (lv_at hl 0 rfl) ?_
  refine lv_iload_n hx hb dL_head_3 rfl (lv_at hl 1 rfl) ?_
  refine lv_iload_n hx hb dL_head_4 rfl (lv_at hl 2 rfl) ?_
  refine x_callVx (rest := [.int 0, .ref ou]) (wr := [(ou, .inl (k 2, 1, .inr (.inl (fun _ => 0))))]) (c_head l dC dI k hl0 gx T LA sp dr bl pt fk fh ky LN ST L0 lc0 le0 ll0 ld0 wl0 op0 dg0 L1 lc1 le1 ll1 ld1 wl1 op1 dg1 R0 r00 r10 r20 r30 r40 r50 r60 r70 wr0 lr0 tt0 fr0 r80 r90 R1 r01 r11 r21 r31 r41 r51 r61 r71 wr1 lr1 tt1 fr1 r81 r91 P0 pg0 p00 p10 p20 p30 p40 p50 P1 pg1 p01 p11 p21 p31 p41 p51 v x1) B mV_X11_head mw_1769 hl [0, 1, 2, 3, 4, 5, 6, 7, 8, 9, 10, 11, 12, 13, 14, 15, 16, 17, 18, 19, 20, 21] [22] rfl rfl ⟨by decide, by decide⟩ (by decide) (q0 := 0) rfl rfl rfl ⟨Nat.le_of_ble_eq_true rfl, Nat.le_of_ble_eq_true rfl⟩ (Nat.le_of_ble_eq_true rfl) rfl dL_head_5 ⟨Nat.le_of_ble_eq_true rfl, Nat.le_of_ble_eq_true rfl⟩ (fun E ce q9 H locs hp B h1 h2 h3 => ?_) (fun r w H locs hp B => ?_)
  · rcases hp with rfl
    refine vx_catch B.1.2.2.2.1 [] ⟨0, 10, 13, 13⟩ [] (hT.trans rfl) (fun z hz => by cases hz) (by decide) (by decide) (B.1.2.2.2.2.1 _ mw_506) (ca.use (B.2.1.2.2.2.2.2.2.1.1 _ (by decide +kernel))) h1 h2 h3 ?_
    skip
    have B := bd_to (ws' := [(ou, .inl (k 2, 1, .inr (.inl (fun _ => 0))))]) rfl B
    refine lv_astore (lv' := [(4, .ref q9), (0, .ref gx), (1, .int v), (2, .int x1), (3, .ref ou)]) hx hb dL_head_13 hl (by decide) rfl (fun ls hl => ?_)
    refine lv_iconst (v := 1) hx hb dL_head_15 (by decide) ?_
    have B := bd_sub (ws' := []) [] (by decide) rfl B
    exact x_iret B hr (⟨rfl, rfl⟩) (Nat.le_of_ble_eq_true rfl) (Nat.le_of_ble_eq_true rfl) dL_head_16
  · exact hp.elim

theorem mw_1785 : (Jvm.Cond.methodLink "GalleyforgeLaw" (111 : Nat) ({ cls := "Galleyforge", name := "textAt", desc := "(III)I" } : Jvm.MethodName)) ∈ gt := gt_at 1920 (by decide +kernel) (by decide +kernel)
theorem mw_1786 : (Jvm.Cond.instanceMethod ({ cls := "Galleyforge", name := "textAt", desc := "(III)I" } : Jvm.MethodName)) ∈ gt := gt_at 1921 (by decide +kernel) (by decide +kernel)
theorem mw_1787 : (Jvm.Cond.selects "Galleyforge" ({ cls := "Galleyforge", name := "textAt", desc := "(III)I" } : Jvm.MethodName) ({ cls := "Galleyforge", name := "textAt", desc := "(III)I" } : Jvm.MethodName)) ∈ gt := gt_at 1922 (by decide +kernel) (by decide +kernel)
theorem mw_1788 : (Jvm.Cond.code ({ cls := "Galleyforge", name := "textAt", desc := "(III)I" } : Jvm.MethodName) prog_1_method_34_code (6 : Nat) (Option.some Jvm.ClassFile.FieldType.int)) ∈ gt := gt_at 1923 (by decide +kernel) (by decide +kernel)
theorem mV_X11_textAt : mV yX11_textAt cX11_textAt 6 (some .int) 3 := ⟨⟨mw_1788, mw_1, by decide, by decide, by decide +kernel⟩, mw_1786, mw_1787⟩
theorem dL_textAt_0 : decode cL_textAt 0 = .ok (.aload 4, 2) := by decide +kernel
theorem dL_textAt_2 : decode cL_textAt 2 = .ok (.iconst 0, 1) := by decide +kernel
theorem dL_textAt_3 : decode cL_textAt 3 = .ok (.aload_n 0, 1) := by decide +kernel
theorem dL_textAt_4 : decode cL_textAt 4 = .ok (.iload_n 1, 1) := by decide +kernel
theorem dL_textAt_5 : decode cL_textAt 5 = .ok (.iload_n 2, 1) := by decide +kernel
theorem dL_textAt_6 : decode cL_textAt 6 = .ok (.iload_n 3, 1) := by decide +kernel
theorem dL_textAt_7 : decode cL_textAt 7 = .ok (.invokevirtual 111, 3) := by decide +kernel
theorem dL_textAt_15 : decode cL_textAt 15 = .ok (.astore 5, 2) := by decide +kernel
theorem dL_textAt_17 : decode cL_textAt 17 = .ok (.iconst 1, 1) := by decide +kernel
theorem dL_textAt_18 : decode cL_textAt 18 = .ok (.ireturn, 1) := by decide +kernel
set_option maxHeartbeats 4000000 in
set_option maxRecDepth 100000 in
theorem w_textAt (l : Launch) (dC : Nat → ClassId) (dI : Nat → Nat → Nat) (k : Nat → ClassId) (hl0 : l.stackTraces = false) (gx : Nat) (T : Nat) (LA : Nat) (sp : Nat) (dr : Nat) (bl : Nat) (pt : Nat) (fk : Nat) (fh : Nat) (ky : Nat) (LN : Nat) (ST : Nat) (L0 : Nat) (lc0 : Nat) (le0 : Nat) (ll0 : Nat) (ld0 : Nat) (wl0 : Nat) (op0 : Nat) (dg0 : Nat) (L1 : Nat) (lc1 : Nat) (le1 : Nat) (ll1 : Nat) (ld1 : Nat) (wl1 : Nat) (op1 : Nat) (dg1 : Nat) (R0 : Nat) (r00 : Nat) (r10 : Nat) (r20 : Nat) (r30 : Nat) (r40 : Nat) (r50 : Nat) (r60 : Nat) (r70 : Nat) (wr0 : Nat) (lr0 : Nat) (tt0 : Nat) (fr0 : Nat) (r80 : Nat) (r90 : Nat) (R1 : Nat) (r01 : Nat) (r11 : Nat) (r21 : Nat) (r31 : Nat) (r41 : Nat) (r51 : Nat) (r61 : Nat) (r71 : Nat) (wr1 : Nat) (lr1 : Nat) (tt1 : Nat) (fr1 : Nat) (r81 : Nat) (r91 : Nat) (P0 : Nat) (pg0 : Nat) (p00 : Nat) (p10 : Nat) (p20 : Nat) (p30 : Nat) (p40 : Nat) (p50 : Nat) (P1 : Nat) (pg1 : Nat) (p01 : Nat) (p11 : Nat) (p21 : Nat) (p31 : Nat) (p41 : Nat) (p51 : Nat) (v : Int32) (x1 : Int32) (x2 : Int32) (ou : Nat) : Ct l dC dI k yL_textAt (.codeWith yL_textAt cL_textAt 6 (some .int) [(0, 12, 15, 13)]) ({ frames := 9, cells := 2, slots := 12, locals := 150 } : Room) [.ref gx, .int v, .int x1, .int x2, .ref ou] [(gx, .inr (9, [.ref T, .ref LA, .ref sp, .int 0, .ref dr])), (LA, .inl (k 3, 2, .inr (.inr (.inr (.inr (va_up (va_up (fun _ => none) 0 (some L0)) 1 (some L1))))))), (T, .inr (8, [.ref bl, .ref pt, .ref fk, .ref fh, .int 0, .ref ky, .int 60, .int 12])), (bl, .inr (11, [.int 0, .ref (dI 99 1), .int 0])), (L0, .inr (1, [.ref T, .int 0, .ref LN, .ref R0, .ref P0, .int 1, .int 0, .ref lc0, .ref le0, .ref ll0, .ref ld0, .ref wl0, .ref op0, .int 0, .int 0, .int 1365, .ref dg0])), (dg0, .inl (k 0, 730, .inl (fun _ => 0))), (R0, .inr (5, [.int 0, .ref r00, .ref r10, .ref r20, .ref r30, .ref r40, .ref r50, .ref r60, .ref r70, .ref wr0, .ref lr0, .ref tt0, .int 0, .int 0, .ref fr0, .ref r80, .ref r90, .int 0])), (wr0, .inl (k 0, 192, .inl (fun _ => 0))), (lr0, .inl (k 0, 6, .inl (fun _ => 0))), (tt0, .inl (k 1, 8, .inl (fun _ => 0))), (fr0, .inl (k 0, 5, .inl (fun _ => 0))), (P0, .inr (4, [.ref T, .ref R0, .ref pg0, .ref ST, .int 0, .int 0, .ref p00, .ref p10, .ref p20, .ref p30, .ref p40, .ref p50])), (p50, .inl (k 0, 5, .inl (fun _ => 0))), (L1, .inr (1, [.ref T, .int 1, .ref LN, .ref R1, .ref P1, .int 1, .int 0, .ref lc1, .ref le1, .ref ll1, .ref ld1, .ref wl1, .ref op1, .int 0, .int 0, .int 1365, .ref dg1])), (dg1, .inl (k 0, 730, .inl (fun _ => 0))), (R1, .inr (5, [.int 0, .ref r01, .ref r11, .ref r21, .ref r31, .ref r41, .ref r51, .ref r61, .ref r71, .ref wr1, .ref lr1, .ref tt1, .int 0, .int 0, .ref fr1, .ref r81, .ref r91, .int 0])), (wr1, .inl (k 0, 192, .inl (fun _ => 0))), (lr1, .inl (k 0, 6, .inl (fun _ => 0))), (tt1, .inl (k 1, 8, .inl (fun _ => 0))), (fr1, .inl (k 0, 5, .inl (fun _ => 0))), (P1, .inr (4, [.ref T, .ref R1, .ref pg1, .ref ST, .int 0, .int 0, .ref p01, .ref p11, .ref p21, .ref p31, .ref p41, .ref p51])), (p51, .inl (k 0, 5, .inl (fun _ => 0))), (ou, .inl (k 2, 1, .inr (.inl (fun _ => 0))))] (fun r w => (r = some (.int 1) ∧ w = [])) := by
  refine cw_of (by decide) (Nat.le_of_ble_eq_true rfl) ?_
  intro p e s m args below meth c H locs B hr hT ls hl
  have hx := B.1.1
  have hb := B.1.2.1
  have hl : lv_has ls 6 [(0, .ref gx), (1, .int v), (2, .int x1), (3, .int x2), (4, .ref ou)] := hl
  refine lv_aload hx hb dL_textAt_0 (lv_at hl 4 rfl) ?_
  refine lv_iconst (v := 0) hx hb dL_textAt_2 (by decide) ?_
  refine lv_aload_n hx hb dL_textAt_3 rfl (lv_at hl 0 rfl) ?_
  refine lv_iload_n hx hb dL_textAt_4 rfl (lv_at hl 1 rfl) ?_
  refine lv_iload_n hx hb dL_textAt_5 rfl (lv_at hl 2 rfl) ?_
  refine lv_iload_n hx hb dL_textAt_6 rfl (lv_at hl 3 rfl) ?_
  refine x_callVx (rest := [.int 0, .ref ou]) (wr := [(ou, .inl (k 2, 1, .inr (.inl (fun _ => 0))))]) (c_textAt l dC dI k hl0 gx T LA sp dr bl pt fk fh ky LN ST L0 lc0 le0 ll0 ld0 wl0 op0 dg0 L1 lc1 le1 ll1 ld1 wl1 op1 dg1 R0 r00 r10 r20 r30 r40 r50 r60 r70 wr0 lr0 tt0 fr0 r80 r90 R1 r01 r11 r21 r31 r41 r51 r61 r71 wr1 lr1 tt1 fr1 r81 r91 P0 pg0 p00 p10 p20 p30 p40 p50 P1 pg1 p01 p11 p21 p31 p41 p51 v x1 x2) B mV_X11_textAt mw_1785 hl [0, 1, 2, 3, 4, 5, 6, 7, 8, 9, 10, 11, 12, 13, 14, 15, 16, 17, 18, 19, 20, 21] [22] rfl rfl ⟨by decide, by decide⟩ (by decide) (q0 := 0) rfl rfl rfl ⟨Nat.le_of_ble_eq_true rfl, Nat.le_of_ble_eq_true rfl⟩ (Nat.le_of_ble_eq_true rfl) rfl dL_textAt_7 ⟨Nat.le_of_ble_eq_true rfl, Nat.le_of_ble_eq_true rfl⟩ (fun E ce q9 H locs hp B h1 h2 h3 => ?_) (fun r w H locs hp B => ?_)
  · rcases hp with rfl
    refine vx_catch B.1.2.2.2.1 [] ⟨0, 12, 15, 13⟩ [] (hT.trans rfl) (fun z hz => by cases hz) (by decide) (by decide) (B.1.2.2.2.2.1 _ mw_506) (ca.use (B.2.1.2.2.2.2.2.2.1.1 _ (by decide +kernel))) h1 h2 h3 ?_
    skip
    have B := bd_to (ws' := [(ou, .inl (k 2, 1, .inr (.inl (fun _ => 0))))]) rfl B
    refine lv_astore (lv' := [(5, .ref q9), (0, .ref gx), (1, .int v), (2, .int x1), (3, .int x2), (4, .ref ou)]) hx hb dL_textAt_15 hl (by decide) rfl (fun ls hl => ?_)
    refine lv_iconst (v := 1) hx hb dL_textAt_17 (by decide) ?_
    have B := bd_sub (ws' := []) [] (by decide) rfl B
    exact x_iret B hr (⟨rfl, rfl⟩) (Nat.le_of_ble_eq_true rfl) (Nat.le_of_ble_eq_true rfl) dL_textAt_18
  · exact hp.elim

theorem mw_1792 : (Jvm.Cond.methodLink "GalleyforgeLaw" (114 : Nat) ({ cls := "Galleyforge", name := "whereIs", desc := "(III)I" } : Jvm.MethodName)) ∈ gt := gt_at 1927 (by decide +kernel) (by decide +kernel)
theorem mw_1793 : (Jvm.Cond.instanceMethod ({ cls := "Galleyforge", name := "whereIs", desc := "(III)I" } : Jvm.MethodName)) ∈ gt := gt_at 1928 (by decide +kernel) (by decide +kernel)
theorem mw_1794 : (Jvm.Cond.selects "Galleyforge" ({ cls := "Galleyforge", name := "whereIs", desc := "(III)I" } : Jvm.MethodName) ({ cls := "Galleyforge", name := "whereIs", desc := "(III)I" } : Jvm.MethodName)) ∈ gt := gt_at 1929 (by decide +kernel) (by decide +kernel)
theorem mw_1795 : (Jvm.Cond.code ({ cls := "Galleyforge", name := "whereIs", desc := "(III)I" } : Jvm.MethodName) prog_1_method_35_code (7 : Nat) (Option.some Jvm.ClassFile.FieldType.int)) ∈ gt := gt_at 1930 (by decide +kernel) (by decide +kernel)
theorem mV_X11_whereIs : mV yX11_whereIs cX11_whereIs 7 (some .int) 3 := ⟨⟨mw_1795, mw_1, by decide, by decide, by decide +kernel⟩, mw_1793, mw_1794⟩
theorem dL_whereIs_0 : decode cL_whereIs 0 = .ok (.aload 4, 2) := by decide +kernel
theorem dL_whereIs_2 : decode cL_whereIs 2 = .ok (.iconst 0, 1) := by decide +kernel
theorem dL_whereIs_3 : decode cL_whereIs 3 = .ok (.aload_n 0, 1) := by decide +kernel
theorem dL_whereIs_4 : decode cL_whereIs 4 = .ok (.iload_n 1, 1) := by decide +kernel
theorem dL_whereIs_5 : decode cL_whereIs 5 = .ok (.iload_n 2, 1) := by decide +kernel
theorem dL_whereIs_6 : decode cL_whereIs 6 = .ok (.iload_n 3, 1) := by decide +kernel
theorem dL_whereIs_7 : decode cL_whereIs 7 = .ok (.invokevirtual 114, 3) := by decide +kernel
theorem dL_whereIs_15 : decode cL_whereIs 15 = .ok (.astore 5, 2) := by decide +kernel
theorem dL_whereIs_17 : decode cL_whereIs 17 = .ok (.iconst 1, 1) := by decide +kernel
theorem dL_whereIs_18 : decode cL_whereIs 18 = .ok (.ireturn, 1) := by decide +kernel
set_option maxHeartbeats 4000000 in
set_option maxRecDepth 100000 in
theorem w_whereIs (l : Launch) (dC : Nat → ClassId) (dI : Nat → Nat → Nat) (k : Nat → ClassId) (hl0 : l.stackTraces = false) (gx : Nat) (T : Nat) (LA : Nat) (sp : Nat) (dr : Nat) (bl : Nat) (pt : Nat) (fk : Nat) (fh : Nat) (ky : Nat) (x1 : Int32) (x2 : Int32) (x3 : Int32) (ou : Nat) : Ct l dC dI k yL_whereIs (.codeWith yL_whereIs cL_whereIs 6 (some .int) [(0, 12, 15, 13)]) ({ frames := 9, cells := 2, slots := 12, locals := 150 } : Room) [.ref gx, .int x1, .int x2, .int x3, .ref ou] [(gx, .inr (9, [.ref T, .ref LA, .ref sp, .int 0, .ref dr])), (T, .inr (8, [.ref bl, .ref pt, .ref fk, .ref fh, .int 0, .ref ky, .int 60, .int 12])), (bl, .inr (11, [.int 0, .ref (dI 99 1), .int 0])), (ou, .inl (k 2, 1, .inr (.inl (fun _ => 0))))] (fun r w => (r = some (.int 1) ∧ w = [])) := by
  refine cw_of (by decide) (Nat.le_of_ble_eq_true rfl) ?_
  intro p e s m args below meth c H locs B hr hT ls hl
  have hx := B.1.1
  have hb := B.1.2.1
  have hl : lv_has ls 6 [(0, .ref gx), (1, .int x1), (2, .int x2), (3, .int x3), (4, .ref ou)] := hl
  refine lv_aload hx hb dL_whereIs_0 (lv_at hl 4 rfl) ?_
  refine lv_iconst (v := 0) hx hb dL_whereIs_2 (by decide) ?_
  refine lv_aload_n hx hb dL_whereIs_3 rfl (lv_at hl 0 rfl) ?_
  refine lv_iload_n hx hb dL_whereIs_4 rfl (lv_at hl 1 rfl) ?_
  refine lv_iload_n hx hb dL_whereIs_5 rfl (lv_at hl 2 rfl) ?_
  refine lv_iload_n hx hb dL_whereIs_6 rfl (lv_at hl 3 rfl) ?_
  refine x_callVx (rest := [.int 0, .ref ou]) (wr := [(ou, .inl (k 2, 1, .inr (.inl (fun _ => 0))))]) (c_whereIs l dC dI k hl0 gx T LA sp dr bl pt fk fh ky x1 x2 x3) B mV_X11_whereIs mw_1792 hl [0, 1, 2] [3] rfl rfl ⟨by decide, by decide⟩ (by decide) (q0 := 0) rfl rfl rfl ⟨Nat.le_of_ble_eq_true rfl, Nat.le_of_ble_eq_true rfl⟩ (Nat.le_of_ble_eq_true rfl) rfl dL_whereIs_7 ⟨Nat.le_of_ble_eq_true rfl, Nat.le_of_ble_eq_true rfl⟩ (fun E ce q9 H locs hp B h1 h2 h3 => ?_) (fun r w H locs hp B => ?_)
  · rcases hp with rfl
    refine vx_catch B.1.2.2.2.1 [] ⟨0, 12, 15, 13⟩ [] (hT.trans rfl) (fun z hz => by cases hz) (by decide) (by decide) (B.1.2.2.2.2.1 _ mw_506) (ca.use (B.2.1.2.2.2.2.2.2.1.1 _ (by decide +kernel))) h1 h2 h3 ?_
    skip
    have B := bd_to (ws' := [(ou, .inl (k 2, 1, .inr (.inl (fun _ => 0))))]) rfl B
    refine lv_astore (lv' := [(5, .ref q9), (0, .ref gx), (1, .int x1), (2, .int x2), (3, .int x3), (4, .ref ou)]) hx hb dL_whereIs_15 hl (by decide) rfl (fun ls hl => ?_)
    refine lv_iconst (v := 1) hx hb dL_whereIs_17 (by decide) ?_
    have B := bd_sub (ws' := []) [] (by decide) rfl B
    exact x_iret B hr (⟨rfl, rfl⟩) (Nat.le_of_ble_eq_true rfl) (Nat.le_of_ble_eq_true rfl) dL_whereIs_18
  · exact hp.elim

theorem mw_1800 : (Jvm.Cond.methodLink "GalleyforgeLaw" (117 : Nat) ({ cls := "Galleyforge", name := "figureAt", desc := "(II)I" } : Jvm.MethodName)) ∈ gt := gt_at 1935 (by decide +kernel) (by decide +kernel)
theorem mw_1801 : (Jvm.Cond.instanceMethod ({ cls := "Galleyforge", name := "figureAt", desc := "(II)I" } : Jvm.MethodName)) ∈ gt := gt_at 1936 (by decide +kernel) (by decide +kernel)
theorem mw_1802 : (Jvm.Cond.selects "Galleyforge" ({ cls := "Galleyforge", name := "figureAt", desc := "(II)I" } : Jvm.MethodName) ({ cls := "Galleyforge", name := "figureAt", desc := "(II)I" } : Jvm.MethodName)) ∈ gt := gt_at 1937 (by decide +kernel) (by decide +kernel)
theorem mw_1803 : (Jvm.Cond.code ({ cls := "Galleyforge", name := "figureAt", desc := "(II)I" } : Jvm.MethodName) prog_1_method_36_code (3 : Nat) (Option.some Jvm.ClassFile.FieldType.int)) ∈ gt := gt_at 1938 (by decide +kernel) (by decide +kernel)
theorem mV_X11_figureAt : mV yX11_figureAt cX11_figureAt 3 (some .int) 2 := ⟨⟨mw_1803, mw_1, by decide, by decide, by decide +kernel⟩, mw_1801, mw_1802⟩
theorem dL_figureAt_0 : decode cL_figureAt 0 = .ok (.aload_n 3, 1) := by decide +kernel
theorem dL_figureAt_1 : decode cL_figureAt 1 = .ok (.iconst 0, 1) := by decide +kernel
theorem dL_figureAt_2 : decode cL_figureAt 2 = .ok (.aload_n 0, 1) := by decide +kernel
theorem dL_figureAt_3 : decode cL_figureAt 3 = .ok (.iload_n 1, 1) := by decide +kernel
theorem dL_figureAt_4 : decode cL_figureAt 4 = .ok (.iload_n 2, 1) := by decide +kernel
theorem dL_figureAt_5 : decode cL_figureAt 5 = .ok (.invokevirtual 117, 3) := by decide +kernel
theorem dL_figureAt_13 : decode cL_figureAt 13 = .ok (.astore 4, 2) := by decide +kernel
theorem dL_figureAt_15 : decode cL_figureAt 15 = .ok (.iconst 1, 1) := by decide +kernel
theorem dL_figureAt_16 : decode cL_figureAt 16 = .ok (.ireturn, 1) := by decide +kernel
set_option maxHeartbeats 4000000 in
set_option maxRecDepth 100000 in
theorem w_figureAt (l : Launch) (dC : Nat → ClassId) (dI : Nat → Nat → Nat) (k : Nat → ClassId) (hl0 : l.stackTraces = false) (gx : Nat) (T : Nat) (LA : Nat) (sp : Nat) (dr : Nat) (bl : Nat) (pt : Nat) (fk : Nat) (fh : Nat) (ky : Nat) (x1 : Int32) (x2 : Int32) (ou : Nat) : Ct l dC dI k yL_figureAt (.codeWith yL_figureAt cL_figureAt 5 (some .int) [(0, 10, 13, 13)]) ({ frames := 8, cells := 2, slots := 12, locals := 124 } : Room) [.ref gx, .int x1, .int x2, .ref ou] [(gx, .inr (9, [.ref T, .ref LA, .ref sp, .int 0, .ref dr])), (T, .inr (8, [.ref bl, .ref pt, .ref fk, .ref fh, .int 0, .ref ky, .int 60, .int 12])), (bl, .inr (11, [.int 0, .ref (dI 99 1), .int 0])), (ou, .inl (k 2, 1, .inr (.inl (fun _ => 0))))] (fun r w => (r = some (.int 1) ∧ w = [])) := by
  refine cw_of (by decide) (Nat.le_of_ble_eq_true rfl) ?_
  intro p e s m args below meth c H locs B hr hT ls hl
  have hx := B.1.1
  have hb := B.1.2.1
  have hl : lv_has ls 5 [(0, .ref gx), (1, .int x1), (2, .int x2), (3, .ref ou)] := hl
  refine lv_aload_n hx hb dL_figureAt_0 rfl (lv_at hl 3 rfl) ?_
  refine lv_iconst (v := 0) hx hb dL_figureAt_1 (by decide) ?_
  refine lv_aload_n hx hb dL_figureAt_2 rfl (lv_at hl 0 rfl) ?_
  refine lv_iload_n hx hb dL_figureAt_3 rfl (lv_at hl 1 rfl) ?_
  refine lv_iload_n hx hb dL_figureAt_4 rfl (lv_at hl 2 rfl) ?_
  refine x_callVx (rest := [.int 0, .ref ou]) (wr := [(ou, .inl (k 2, 1, .inr (.inl (fun _ => 0))))]) (c_figureAt l dC dI k hl0 gx T LA sp dr bl pt fk fh ky x1 x2) B mV_X11_figureAt mw_1800 hl [0, 1, 2] [3] rfl rfl ⟨by decide, by decide⟩ (by decide) (q0 := 0) rfl rfl rfl ⟨Nat.le_of_ble_eq_true rfl, Nat.le_of_ble_eq_true rfl⟩ (Nat.le_of_ble_eq_true rfl) rfl dL_figureAt_5 ⟨Nat.le_of_ble_eq_true rfl, Nat.le_of_ble_eq_true rfl⟩ (fun E ce q9 H locs hp B h1 h2 h3 => ?_) (fun r w H locs hp B => ?_)
  · rcases hp with rfl
    refine vx_catch B.1.2.2.2.1 [] ⟨0, 10, 13, 13⟩ [] (hT.trans rfl) (fun z hz => by cases hz) (by decide) (by decide) (B.1.2.2.2.2.1 _ mw_506) (ca.use (B.2.1.2.2.2.2.2.2.1.1 _ (by decide +kernel))) h1 h2 h3 ?_
    skip
    have B := bd_to (ws' := [(ou, .inl (k 2, 1, .inr (.inl (fun _ => 0))))]) rfl B
    refine lv_astore (lv' := [(4, .ref q9), (0, .ref gx), (1, .int x1), (2, .int x2), (3, .ref ou)]) hx hb dL_figureAt_13 hl (by decide) rfl (fun ls hl => ?_)
    refine lv_iconst (v := 1) hx hb dL_figureAt_15 (by decide) ?_
    have B := bd_sub (ws' := []) [] (by decide) rfl B
    exact x_iret B hr (⟨rfl, rfl⟩) (Nat.le_of_ble_eq_true rfl) (Nat.le_of_ble_eq_true rfl) dL_figureAt_16
  · exact hp.elim

theorem mw_1808 : (Jvm.Cond.methodLink "GalleyforgeLaw" (120 : Nat) ({ cls := "Galleyforge", name := "labelPage", desc := "(II)I" } : Jvm.MethodName)) ∈ gt := gt_at 1943 (by decide +kernel) (by decide +kernel)
theorem mw_1809 : (Jvm.Cond.instanceMethod ({ cls := "Galleyforge", name := "labelPage", desc := "(II)I" } : Jvm.MethodName)) ∈ gt := gt_at 1944 (by decide +kernel) (by decide +kernel)
theorem mw_1810 : (Jvm.Cond.selects "Galleyforge" ({ cls := "Galleyforge", name := "labelPage", desc := "(II)I" } : Jvm.MethodName) ({ cls := "Galleyforge", name := "labelPage", desc := "(II)I" } : Jvm.MethodName)) ∈ gt := gt_at 1945 (by decide +kernel) (by decide +kernel)
theorem mw_1811 : (Jvm.Cond.code ({ cls := "Galleyforge", name := "labelPage", desc := "(II)I" } : Jvm.MethodName) prog_1_method_37_code (3 : Nat) (Option.some Jvm.ClassFile.FieldType.int)) ∈ gt := gt_at 1946 (by decide +kernel) (by decide +kernel)
theorem mV_X11_labelPage : mV yX11_labelPage cX11_labelPage 3 (some .int) 2 := ⟨⟨mw_1811, mw_1, by decide, by decide, by decide +kernel⟩, mw_1809, mw_1810⟩
theorem dL_labelPage_0 : decode cL_labelPage 0 = .ok (.aload_n 3, 1) := by decide +kernel
theorem dL_labelPage_1 : decode cL_labelPage 1 = .ok (.iconst 0, 1) := by decide +kernel
theorem dL_labelPage_2 : decode cL_labelPage 2 = .ok (.aload_n 0, 1) := by decide +kernel
theorem dL_labelPage_3 : decode cL_labelPage 3 = .ok (.iload_n 1, 1) := by decide +kernel
theorem dL_labelPage_4 : decode cL_labelPage 4 = .ok (.iload_n 2, 1) := by decide +kernel
theorem dL_labelPage_5 : decode cL_labelPage 5 = .ok (.invokevirtual 120, 3) := by decide +kernel
theorem dL_labelPage_8 : decode cL_labelPage 8 = .ok (.i2l, 1) := by decide +kernel
theorem dL_labelPage_9 : decode cL_labelPage 9 = .ok (.lastore, 1) := by decide +kernel
theorem dL_labelPage_10 : decode cL_labelPage 10 = .ok (.goto 7, 3) := by decide +kernel
theorem dL_labelPage_13 : decode cL_labelPage 13 = .ok (.astore 4, 2) := by decide +kernel
theorem dL_labelPage_15 : decode cL_labelPage 15 = .ok (.iconst 1, 1) := by decide +kernel
theorem dL_labelPage_16 : decode cL_labelPage 16 = .ok (.ireturn, 1) := by decide +kernel
theorem dL_labelPage_17 : decode cL_labelPage 17 = .ok (.iconst 0, 1) := by decide +kernel
theorem dL_labelPage_18 : decode cL_labelPage 18 = .ok (.ireturn, 1) := by decide +kernel
set_option maxHeartbeats 4000000 in
set_option maxRecDepth 100000 in
theorem w_labelPage (l : Launch) (dC : Nat → ClassId) (dI : Nat → Nat → Nat) (k : Nat → ClassId) (hl0 : l.stackTraces = false) (gx : Nat) (T : Nat) (LA : Nat) (sp : Nat) (dr : Nat) (bl : Nat) (pt : Nat) (fk : Nat) (fh : Nat) (ky : Nat) (LN : Nat) (ST : Nat) (L0 : Nat) (lc0 : Nat) (le0 : Nat) (ll0 : Nat) (ld0 : Nat) (wl0 : Nat) (op0 : Nat) (dg0 : Nat) (L1 : Nat) (lc1 : Nat) (le1 : Nat) (ll1 : Nat) (ld1 : Nat) (wl1 : Nat) (op1 : Nat) (dg1 : Nat) (R0 : Nat) (r00 : Nat) (r10 : Nat) (r20 : Nat) (r30 : Nat) (r40 : Nat) (r50 : Nat) (r60 : Nat) (r70 : Nat) (wr0 : Nat) (lr0 : Nat) (tt0 : Nat) (fr0 : Nat) (r80 : Nat) (r90 : Nat) (R1 : Nat) (r01 : Nat) (r11 : Nat) (r21 : Nat) (r31 : Nat) (r41 : Nat) (r51 : Nat) (r61 : Nat) (r71 : Nat) (wr1 : Nat) (lr1 : Nat) (tt1 : Nat) (fr1 : Nat) (r81 : Nat) (r91 : Nat) (P0 : Nat) (pg0 : Nat) (p00 : Nat) (p10 : Nat) (p20 : Nat) (p30 : Nat) (p40 : Nat) (p50 : Nat) (P1 : Nat) (pg1 : Nat) (p01 : Nat) (p11 : Nat) (p21 : Nat) (p31 : Nat) (p41 : Nat) (p51 : Nat) (v : Int32) (x1 : Int32) (ou : Nat) : Ct l dC dI k yL_labelPage (.codeWith yL_labelPage cL_labelPage 5 (some .int) [(0, 10, 13, 13)]) ({ frames := 9, cells := 3, slots := 18, locals := 147 } : Room) [.ref gx, .int v, .int x1, .ref ou] [(gx, .inr (9, [.ref T, .ref LA, .ref sp, .int 0, .ref dr])), (LA, .inl (k 3, 2, .inr (.inr (.inr (.inr (va_up (va_up (fun _ => none) 0 (some L0)) 1 (some L1))))))), (T, .inr (8, [.ref bl, .ref pt, .ref fk, .ref fh, .int 0, .ref ky, .int 60, .int 12])), (bl, .inr (11, [.int 0, .ref (dI 99 1), .int 0])), (L0, .inr (1, [.ref T, .int 0, .ref LN, .ref R0, .ref P0, .int 1, .int 0, .ref lc0, .ref le0, .ref ll0, .ref ld0, .ref wl0, .ref op0, .int 0, .int 0, .int 1365, .ref dg0])), (dg0, .inl (k 0, 730, .inl (fun _ => 0))), (R0, .inr (5, [.int 0, .ref r00, .ref r10, .ref r20, .ref r30, .ref r40, .ref r50, .ref r60, .ref r70, .ref wr0, .ref lr0, .ref tt0, .int 0, .int 0, .ref fr0, .ref r80, .ref r90, .int 0])), (wr0, .inl (k 0, 192, .inl (fun _ => 0))), (lr0, .inl (k 0, 6, .inl (fun _ => 0))), (tt0, .inl (k 1, 8, .inl (fun _ => 0))), (fr0, .inl (k 0, 5, .inl (fun _ => 0))), (P0, .inr (4, [.ref T, .ref R0, .ref pg0, .ref ST, .int 0, .int 0, .ref p00, .ref p10, .ref p20, .ref p30, .ref p40, .ref p50])), (p50, .inl (k 0, 5, .inl (fun _ => 0))), (L1, .inr (1, [.ref T, .int 1, .ref LN, .ref R1, .ref P1, .int 1, .int 0, .ref lc1, .ref le1, .ref ll1, .ref ld1, .ref wl1, .ref op1, .int 0, .int 0, .int 1365, .ref dg1])), (dg1, .inl (k 0, 730, .inl (fun _ => 0))), (R1, .inr (5, [.int 0, .ref r01, .ref r11, .ref r21, .ref r31, .ref r41, .ref r51, .ref r61, .ref r71, .ref wr1, .ref lr1, .ref tt1, .int 0, .int 0, .ref fr1, .ref r81, .ref r91, .int 0])), (wr1, .inl (k 0, 192, .inl (fun _ => 0))), (lr1, .inl (k 0, 6, .inl (fun _ => 0))), (tt1, .inl (k 1, 8, .inl (fun _ => 0))), (fr1, .inl (k 0, 5, .inl (fun _ => 0))), (P1, .inr (4, [.ref T, .ref R1, .ref pg1, .ref ST, .int 0, .int 0, .ref p01, .ref p11, .ref p21, .ref p31, .ref p41, .ref p51])), (p51, .inl (k 0, 5, .inl (fun _ => 0))), (ou, .inl (k 2, 1, .inr (.inl (fun _ => 0))))] (fun r w => ((0 ≤ v.toInt ∧ v.toInt ≤ 1) ∧ (0 ≤ x1.toInt ∧ x1.toInt ≤ 5) ∧ r = some (.int 0) ∧ w = [(ou, .inl (k 2, 1, .inr (.inl (vp_updL (fun _ => 0) 0 (-1)))))]) ∨ (¬ ((0 ≤ v.toInt ∧ v.toInt ≤ 1) ∧ (0 ≤ x1.toInt ∧ x1.toInt ≤ 5)) ∧ r = some (.int 1) ∧ w = [])) := by
  refine cw_of (by decide) (Nat.le_of_ble_eq_true rfl) ?_
  intro p e s m args below meth c H locs B hr hT ls hl
  have hx := B.1.1
  have hb := B.1.2.1
  have hl : lv_has ls 5 [(0, .ref gx), (1, .int v), (2, .int x1), (3, .ref ou)] := hl
  refine lv_aload_n hx hb dL_labelPage_0 rfl (lv_at hl 3 rfl) ?_
  refine lv_iconst (v := 0) hx hb dL_labelPage_1 (by decide) ?_
  refine lv_aload_n hx hb dL_labelPage_2 rfl (lv_at hl 0 rfl) ?_
  refine lv_iload_n hx hb dL_labelPage_3 rfl (lv_at hl 1 rfl) ?_
  refine lv_iload_n hx hb dL_labelPage_4 rfl (lv_at hl 2 rfl) ?_
  refine x_callVx (rest := [.int 0, .ref ou]) (wr := [(ou, .inl (k 2, 1, .inr (.inl (fun _ => 0))))]) (c_labelPage l dC dI k hl0 gx T LA sp dr bl pt fk fh ky LN ST L0 lc0 le0 ll0 ld0 wl0 op0 dg0 L1 lc1 le1 ll1 ld1 wl1 op1 dg1 R0 r00 r10 r20 r30 r40 r50 r60 r70 wr0 lr0 tt0 fr0 r80 r90 R1 r01 r11 r21 r31 r41 r51 r61 r71 wr1 lr1 tt1 fr1 r81 r91 P0 pg0 p00 p10 p20 p30 p40 p50 P1 pg1 p01 p11 p21 p31 p41 p51 v x1) B mV_X11_labelPage mw_1808 hl [0, 1, 2, 3, 4, 5, 6, 7, 8, 9, 10, 11, 12, 13, 14, 15, 16, 17, 18, 19, 20, 21] [22] rfl rfl ⟨by decide, by decide⟩ (by decide) (q0 := 0) rfl rfl rfl ⟨Nat.le_of_ble_eq_true rfl, Nat.le_of_ble_eq_true rfl⟩ (Nat.le_of_ble_eq_true rfl) rfl dL_labelPage_5 ⟨Nat.le_of_ble_eq_true rfl, Nat.le_of_ble_eq_true rfl⟩ (fun E ce q9 H locs hp B h1 h2 h3 => ?_) (fun r w H locs hp B => ?_)
  · rcases hp with ⟨z0_0, rfl⟩
    refine vx_catch B.1.2.2.2.1 [] ⟨0, 10, 13, 13⟩ [] (hT.trans rfl) (fun z hz => by cases hz) (by decide) (by decide) (B.1.2.2.2.2.1 _ mw_506) (ca.use (B.2.1.2.2.2.2.2.2.1.1 _ (by decide +kernel))) h1 h2 h3 ?_
    skip
    have B := bd_to (ws' := [(ou, .inl (k 2, 1, .inr (.inl (fun _ => 0))))]) rfl B
    refine lv_astore (lv' := [(4, .ref q9), (0, .ref gx), (1, .int v), (2, .int x1), (3, .ref ou)]) hx hb dL_labelPage_13 hl (by decide) rfl (fun ls hl => ?_)
    refine lv_iconst (v := 1) hx hb dL_labelPage_15 (by decide) ?_
    have B := bd_sub (ws' := []) [] (by decide) rfl B
    exact x_iret B hr (Or.inr (⟨by omega, rfl, rfl⟩)) (Nat.le_of_ble_eq_true rfl) (Nat.le_of_ble_eq_true rfl) dL_labelPage_16
  · skip
    obtain ⟨z_2, z_3, rfl, rfl⟩ := hp
    have B := bd_to (ws' := [(ou, .inl (k 2, 1, .inr (.inl (fun _ => 0))))]) rfl B
    refine lv_i2l (v := (-1)) hx hb dL_labelPage_8 (by decide) ?_
    refine x_last B 0 rfl (vpc (by decide)) dL_labelPage_9 (j := 0) (by decide) (fun H locs B => ?_)
    have B := bd_to (ws' := [(ou, .inl (k 2, 1, .inr (.inl (vp_updL (fun _ => 0) 0 (-1)))))]) rfl B
    refine lv_goto (tgt := 17) hx hb dL_labelPage_10 (by decide) ?_
    refine lv_iconst (v := 0) hx hb dL_labelPage_17 (by decide) ?_
    have B := bd_sub (ws' := [(ou, .inl (k 2, 1, .inr (.inl (vp_updL (fun _ => 0) 0 (-1)))))]) [0] (by decide) rfl B
    exact x_iret B hr (Or.inl (⟨by omega, by omega, rfl, rfl⟩)) (Nat.le_of_ble_eq_true rfl) (Nat.le_of_ble_eq_true rfl) dL_labelPage_18

theorem mw_1816 : (Jvm.Cond.methodLink "GalleyforgeLaw" (123 : Nat) ({ cls := "Galleyforge", name := "contentsAt", desc := "(II)I" } : Jvm.MethodName)) ∈ gt := gt_at 1951 (by decide +kernel) (by decide +kernel)
theorem mw_1817 : (Jvm.Cond.instanceMethod ({ cls := "Galleyforge", name := "contentsAt", desc := "(II)I" } : Jvm.MethodName)) ∈ gt := gt_at 1952 (by decide +kernel) (by decide +kernel)
theorem mw_1818 : (Jvm.Cond.selects "Galleyforge" ({ cls := "Galleyforge", name := "contentsAt", desc := "(II)I" } : Jvm.MethodName) ({ cls := "Galleyforge", name := "contentsAt", desc := "(II)I" } : Jvm.MethodName)) ∈ gt := gt_at 1953 (by decide +kernel) (by decide +kernel)
theorem mw_1819 : (Jvm.Cond.code ({ cls := "Galleyforge", name := "contentsAt", desc := "(II)I" } : Jvm.MethodName) prog_1_method_38_code (5 : Nat) (Option.some Jvm.ClassFile.FieldType.int)) ∈ gt := gt_at 1954 (by decide +kernel) (by decide +kernel)
theorem mV_X11_contentsAt : mV yX11_contentsAt cX11_contentsAt 5 (some .int) 2 := ⟨⟨mw_1819, mw_1, by decide, by decide, by decide +kernel⟩, mw_1817, mw_1818⟩
theorem dL_contentsAt_0 : decode cL_contentsAt 0 = .ok (.aload_n 3, 1) := by decide +kernel
theorem dL_contentsAt_1 : decode cL_contentsAt 1 = .ok (.iconst 0, 1) := by decide +kernel
theorem dL_contentsAt_2 : decode cL_contentsAt 2 = .ok (.aload_n 0, 1) := by decide +kernel
theorem dL_contentsAt_3 : decode cL_contentsAt 3 = .ok (.iload_n 1, 1) := by decide +kernel
theorem dL_contentsAt_4 : decode cL_contentsAt 4 = .ok (.iload_n 2, 1) := by decide +kernel
theorem dL_contentsAt_5 : decode cL_contentsAt 5 = .ok (.invokevirtual 123, 3) := by decide +kernel
theorem dL_contentsAt_13 : decode cL_contentsAt 13 = .ok (.astore 4, 2) := by decide +kernel
theorem dL_contentsAt_15 : decode cL_contentsAt 15 = .ok (.iconst 1, 1) := by decide +kernel
theorem dL_contentsAt_16 : decode cL_contentsAt 16 = .ok (.ireturn, 1) := by decide +kernel
set_option maxHeartbeats 4000000 in
set_option maxRecDepth 100000 in
theorem w_contentsAt (l : Launch) (dC : Nat → ClassId) (dI : Nat → Nat → Nat) (k : Nat → ClassId) (hl0 : l.stackTraces = false) (gx : Nat) (T : Nat) (LA : Nat) (sp : Nat) (dr : Nat) (bl : Nat) (pt : Nat) (fk : Nat) (fh : Nat) (ky : Nat) (LN : Nat) (ST : Nat) (L0 : Nat) (lc0 : Nat) (le0 : Nat) (ll0 : Nat) (ld0 : Nat) (wl0 : Nat) (op0 : Nat) (dg0 : Nat) (L1 : Nat) (lc1 : Nat) (le1 : Nat) (ll1 : Nat) (ld1 : Nat) (wl1 : Nat) (op1 : Nat) (dg1 : Nat) (R0 : Nat) (r00 : Nat) (r10 : Nat) (r20 : Nat) (r30 : Nat) (r40 : Nat) (r50 : Nat) (r60 : Nat) (r70 : Nat) (wr0 : Nat) (lr0 : Nat) (tt0 : Nat) (fr0 : Nat) (r80 : Nat) (r90 : Nat) (R1 : Nat) (r01 : Nat) (r11 : Nat) (r21 : Nat) (r31 : Nat) (r41 : Nat) (r51 : Nat) (r61 : Nat) (r71 : Nat) (wr1 : Nat) (lr1 : Nat) (tt1 : Nat) (fr1 : Nat) (r81 : Nat) (r91 : Nat) (P0 : Nat) (pg0 : Nat) (p00 : Nat) (p10 : Nat) (p20 : Nat) (p30 : Nat) (p40 : Nat) (p50 : Nat) (P1 : Nat) (pg1 : Nat) (p01 : Nat) (p11 : Nat) (p21 : Nat) (p31 : Nat) (p41 : Nat) (p51 : Nat) (v : Int32) (x1 : Int32) (ou : Nat) : Ct l dC dI k yL_contentsAt (.codeWith yL_contentsAt cL_contentsAt 5 (some .int) [(0, 10, 13, 13)]) ({ frames := 9, cells := 2, slots := 12, locals := 149 } : Room) [.ref gx, .int v, .int x1, .ref ou] [(gx, .inr (9, [.ref T, .ref LA, .ref sp, .int 0, .ref dr])), (LA, .inl (k 3, 2, .inr (.inr (.inr (.inr (va_up (va_up (fun _ => none) 0 (some L0)) 1 (some L1))))))), (T, .inr (8, [.ref bl, .ref pt, .ref fk, .ref fh, .int 0, .ref ky, .int 60, .int 12])), (bl, .inr (11, [.int 0, .ref (dI 99 1), .int 0])), (L0, .inr (1, [.ref T, .int 0, .ref LN, .ref R0, .ref P0, .int 1, .int 0, .ref lc0, .ref le0, .ref ll0, .ref ld0, .ref wl0, .ref op0, .int 0, .int 0, .int 1365, .ref dg0])), (dg0, .inl (k 0, 730, .inl (fun _ => 0))), (R0, .inr (5, [.int 0, .ref r00, .ref r10, .ref r20, .ref r30, .ref r40, .ref r50, .ref r60, .ref r70, .ref wr0, .ref lr0, .ref tt0, .int 0, .int 0, .ref fr0, .ref r80, .ref r90, .int 0])), (wr0, .inl (k 0, 192, .inl (fun _ => 0))), (lr0, .inl (k 0, 6, .inl (fun _ => 0))), (tt0, .inl (k 1, 8, .inl (fun _ => 0))), (fr0, .inl (k 0, 5, .inl (fun _ => 0))), (P0, .inr (4, [.ref T, .ref R0, .ref pg0, .ref ST, .int 0, .int 0, .ref p00, .ref p10, .ref p20, .ref p30, .ref p40, .ref p50])), (p50, .inl (k 0, 5, .inl (fun _ => 0))), (L1, .inr (1, [.ref T, .int 1, .ref LN, .ref R1, .ref P1, .int 1, .int 0, .ref lc1, .ref le1, .ref ll1, .ref ld1, .ref wl1, .ref op1, .int 0, .int 0, .int 1365, .ref dg1])), (dg1, .inl (k 0, 730, .inl (fun _ => 0))), (R1, .inr (5, [.int 0, .ref r01, .ref r11, .ref r21, .ref r31, .ref r41, .ref r51, .ref r61, .ref r71, .ref wr1, .ref lr1, .ref tt1, .int 0, .int 0, .ref fr1, .ref r81, .ref r91, .int 0])), (wr1, .inl (k 0, 192, .inl (fun _ => 0))), (lr1, .inl (k 0, 6, .inl (fun _ => 0))), (tt1, .inl (k 1, 8, .inl (fun _ => 0))), (fr1, .inl (k 0, 5, .inl (fun _ => 0))), (P1, .inr (4, [.ref T, .ref R1, .ref pg1, .ref ST, .int 0, .int 0, .ref p01, .ref p11, .ref p21, .ref p31, .ref p41, .ref p51])), (p51, .inl (k 0, 5, .inl (fun _ => 0))), (ou, .inl (k 2, 1, .inr (.inl (fun _ => 0))))] (fun r w => (r = some (.int 1) ∧ w = [])) := by
  refine cw_of (by decide) (Nat.le_of_ble_eq_true rfl) ?_
  intro p e s m args below meth c H locs B hr hT ls hl
  have hx := B.1.1
  have hb := B.1.2.1
  have hl : lv_has ls 5 [(0, .ref gx), (1, .int v), (2, .int x1), (3, .ref ou)] := hl
  refine lv_aload_n hx hb dL_contentsAt_0 rfl (lv_at hl 3 rfl) ?_
  refine lv_iconst (v := 0) hx hb dL_contentsAt_1 (by decide) ?_
  refine lv_aload_n hx hb dL_contentsAt_2 rfl (lv_at hl 0 rfl) ?_
  refine lv_iload_n hx hb dL_contentsAt_3 rfl (lv_at hl 1 rfl) ?_
  refine lv_iload_n hx hb dL_contentsAt_4 rfl (lv_at hl 2 rfl) ?_
  refine x_callVx (rest := [.int 0, .ref ou]) (wr := [(ou, .inl (k 2, 1, .inr (.inl (fun _ => 0))))]) (c_contentsAt l dC dI k hl0 gx T LA sp dr bl pt fk fh ky LN ST L0 lc0 le0 ll0 ld0 wl0 op0 dg0 L1 lc1 le1 ll1 ld1 wl1 op1 dg1 R0 r00 r10 r20 r30 r40 r50 r60 r70 wr0 lr0 tt0 fr0 r80 r90 R1 r01 r11 r21 r31 r41 r51 r61 r71 wr1 lr1 tt1 fr1 r81 r91 P0 pg0 p00 p10 p20 p30 p40 p50 P1 pg1 p01 p11 p21 p31 p41 p51 v x1) B mV_X11_contentsAt mw_1816 hl [0, 1, 2, 3, 4, 5, 6, 7, 8, 9, 10, 11, 12, 13, 14, 15, 16, 17, 18, 19, 20, 21] [22] rfl rfl ⟨by decide, by decide⟩ (by decide) (q0 := 0) rfl rfl rfl ⟨Nat.le_of_ble_eq_true rfl, Nat.le_of_ble_eq_true rfl⟩ (Nat.le_of_ble_eq_true rfl) rfl dL_contentsAt_5 ⟨Nat.le_of_ble_eq_true rfl, Nat.le_of_ble_eq_true rfl⟩ (fun E ce q9 H locs hp B h1 h2 h3 => ?_) (fun r w H locs hp B => ?_)
  · rcases hp with rfl
    refine vx_catch B.1.2.2.2.1 [] ⟨0, 10, 13, 13⟩ [] (hT.trans rfl) (fun z hz => by cases hz) (by decide) (by decide) (B.1.2.2.2.2.1 _ mw_506) (ca.use (B.2.1.2.2.2.2.2.2.1.1 _ (by decide +kernel))) h1 h2 h3 ?_
    skip
    have B := bd_to (ws' := [(ou, .inl (k 2, 1, .inr (.inl (fun _ => 0))))]) rfl B
    refine lv_astore (lv' := [(4, .ref q9), (0, .ref gx), (1, .int v), (2, .int x1), (3, .ref ou)]) hx hb dL_contentsAt_13 hl (by decide) rfl (fun ls hl => ?_)
    refine lv_iconst (v := 1) hx hb dL_contentsAt_15 (by decide) ?_
    have B := bd_sub (ws' := []) [] (by decide) rfl B
    exact x_iret B hr (⟨rfl, rfl⟩) (Nat.le_of_ble_eq_true rfl) (Nat.le_of_ble_eq_true rfl) dL_contentsAt_16
  · exact hp.elim

theorem mw_1828 : (Jvm.Cond.methodLink "GalleyforgeLaw" (126 : Nat) ({ cls := "Galleyforge", name := "indexAt", desc := "(II)I" } : Jvm.MethodName)) ∈ gt := gt_at 1963 (by decide +kernel) (by decide +kernel)
theorem mw_1829 : (Jvm.Cond.instanceMethod ({ cls := "Galleyforge", name := "indexAt", desc := "(II)I" } : Jvm.MethodName)) ∈ gt := gt_at 1964 (by decide +kernel) (by decide +kernel)
theorem mw_1830 : (Jvm.Cond.selects "Galleyforge" ({ cls := "Galleyforge", name := "indexAt", desc := "(II)I" } : Jvm.MethodName) ({ cls := "Galleyforge", name := "indexAt", desc := "(II)I" } : Jvm.MethodName)) ∈ gt := gt_at 1965 (by decide +kernel) (by decide +kernel)
theorem mw_1831 : (Jvm.Cond.code ({ cls := "Galleyforge", name := "indexAt", desc := "(II)I" } : Jvm.MethodName) prog_1_method_39_code (4 : Nat) (Option.some Jvm.ClassFile.FieldType.int)) ∈ gt := gt_at 1966 (by decide +kernel) (by decide +kernel)
theorem mV_X11_indexAt : mV yX11_indexAt cX11_indexAt 4 (some .int) 2 := ⟨⟨mw_1831, mw_1, by decide, by decide, by decide +kernel⟩, mw_1829, mw_1830⟩
theorem dL_indexAt_0 : decode cL_indexAt 0 = .ok (.aload_n 3, 1) := by decide +kernel
theorem dL_indexAt_1 : decode cL_indexAt 1 = .ok (.iconst 0, 1) := by decide +kernel
theorem dL_indexAt_2 : decode cL_indexAt 2 = .ok (.aload_n 0, 1) := by decide +kernel
theorem dL_indexAt_3 : decode cL_indexAt 3 = .ok (.iload_n 1, 1) := by decide +kernel
theorem dL_indexAt_4 : decode cL_indexAt 4 = .ok (.iload_n 2, 1) := by decide +kernel
theorem dL_indexAt_5 : decode cL_indexAt 5 = .ok (.invokevirtual 126, 3) := by decide +kernel
theorem dL_indexAt_13 : decode cL_indexAt 13 = .ok (.astore 4, 2) := by decide +kernel
theorem dL_indexAt_15 : decode cL_indexAt 15 = .ok (.iconst 1, 1) := by decide +kernel
theorem dL_indexAt_16 : decode cL_indexAt 16 = .ok (.ireturn, 1) := by decide +kernel
set_option maxHeartbeats 4000000 in
set_option maxRecDepth 100000 in
theorem w_indexAt (l : Launch) (dC : Nat → ClassId) (dI : Nat → Nat → Nat) (k : Nat → ClassId) (hl0 : l.stackTraces = false) (gx : Nat) (T : Nat) (LA : Nat) (sp : Nat) (dr : Nat) (bl : Nat) (pt : Nat) (fk : Nat) (fh : Nat) (ky : Nat) (LN : Nat) (ST : Nat) (L0 : Nat) (lc0 : Nat) (le0 : Nat) (ll0 : Nat) (ld0 : Nat) (wl0 : Nat) (op0 : Nat) (dg0 : Nat) (L1 : Nat) (lc1 : Nat) (le1 : Nat) (ll1 : Nat) (ld1 : Nat) (wl1 : Nat) (op1 : Nat) (dg1 : Nat) (R0 : Nat) (r00 : Nat) (r10 : Nat) (r20 : Nat) (r30 : Nat) (r40 : Nat) (r50 : Nat) (r60 : Nat) (r70 : Nat) (wr0 : Nat) (lr0 : Nat) (tt0 : Nat) (fr0 : Nat) (r80 : Nat) (r90 : Nat) (R1 : Nat) (r01 : Nat) (r11 : Nat) (r21 : Nat) (r31 : Nat) (r41 : Nat) (r51 : Nat) (r61 : Nat) (r71 : Nat) (wr1 : Nat) (lr1 : Nat) (tt1 : Nat) (fr1 : Nat) (r81 : Nat) (r91 : Nat) (P0 : Nat) (pg0 : Nat) (p00 : Nat) (p10 : Nat) (p20 : Nat) (p30 : Nat) (p40 : Nat) (p50 : Nat) (P1 : Nat) (pg1 : Nat) (p01 : Nat) (p11 : Nat) (p21 : Nat) (p31 : Nat) (p41 : Nat) (p51 : Nat) (v : Int32) (x1 : Int32) (ou : Nat) : Ct l dC dI k yL_indexAt (.codeWith yL_indexAt cL_indexAt 5 (some .int) [(0, 10, 13, 13)]) ({ frames := 9, cells := 2, slots := 12, locals := 148 } : Room) [.ref gx, .int v, .int x1, .ref ou] [(gx, .inr (9, [.ref T, .ref LA, .ref sp, .int 0, .ref dr])), (LA, .inl (k 3, 2, .inr (.inr (.inr (.inr (va_up (va_up (fun _ => none) 0 (some L0)) 1 (some L1))))))), (T, .inr (8, [.ref bl, .ref pt, .ref fk, .ref fh, .int 0, .ref ky, .int 60, .int 12])), (bl, .inr (11, [.int 0, .ref (dI 99 1), .int 0])), (L0, .inr (1, [.ref T, .int 0, .ref LN, .ref R0, .ref P0, .int 1, .int 0, .ref lc0, .ref le0, .ref ll0, .ref ld0, .ref wl0, .ref op0, .int 0, .int 0, .int 1365, .ref dg0])), (dg0, .inl (k 0, 730, .inl (fun _ => 0))), (R0, .inr (5, [.int 0, .ref r00, .ref r10, .ref r20, .ref r30, .ref r40, .ref r50, .ref r60, .ref r70, .ref wr0, .ref lr0, .ref tt0, .int 0, .int 0, .ref fr0, .ref r80, .ref r90, .int 0])), (wr0, .inl (k 0, 192, .inl (fun _ => 0))), (lr0, .inl (k 0, 6, .inl (fun _ => 0))), (tt0, .inl (k 1, 8, .inl (fun _ => 0))), (fr0, .inl (k 0, 5, .inl (fun _ => 0))), (P0, .inr (4, [.ref T, .ref R0, .ref pg0, .ref ST, .int 0, .int 0, .ref p00, .ref p10, .ref p20, .ref p30, .ref p40, .ref p50])), (p50, .inl (k 0, 5, .inl (fun _ => 0))), (L1, .inr (1, [.ref T, .int 1, .ref LN, .ref R1, .ref P1, .int 1, .int 0, .ref lc1, .ref le1, .ref ll1, .ref ld1, .ref wl1, .ref op1, .int 0, .int 0, .int 1365, .ref dg1])), (dg1, .inl (k 0, 730, .inl (fun _ => 0))), (R1, .inr (5, [.int 0, .ref r01, .ref r11, .ref r21, .ref r31, .ref r41, .ref r51, .ref r61, .ref r71, .ref wr1, .ref lr1, .ref tt1, .int 0, .int 0, .ref fr1, .ref r81, .ref r91, .int 0])), (wr1, .inl (k 0, 192, .inl (fun _ => 0))), (lr1, .inl (k 0, 6, .inl (fun _ => 0))), (tt1, .inl (k 1, 8, .inl (fun _ => 0))), (fr1, .inl (k 0, 5, .inl (fun _ => 0))), (P1, .inr (4, [.ref T, .ref R1, .ref pg1, .ref ST, .int 0, .int 0, .ref p01, .ref p11, .ref p21, .ref p31, .ref p41, .ref p51])), (p51, .inl (k 0, 5, .inl (fun _ => 0))), (ou, .inl (k 2, 1, .inr (.inl (fun _ => 0))))] (fun r w => (r = some (.int 1) ∧ w = [])) := by
  refine cw_of (by decide) (Nat.le_of_ble_eq_true rfl) ?_
  intro p e s m args below meth c H locs B hr hT ls hl
  have hx := B.1.1
  have hb := B.1.2.1
  have hl : lv_has ls 5 [(0, .ref gx), (1, .int v), (2, .int x1), (3, .ref ou)] := hl
  refine lv_aload_n hx hb dL_indexAt_0 rfl (lv_at hl 3 rfl) ?_
  refine lv_iconst (v := 0) hx hb dL_indexAt_1 (by decide) ?_
  refine lv_aload_n hx hb dL_indexAt_2 rfl (lv_at hl 0 rfl) ?_
  refine lv_iload_n hx hb dL_indexAt_3 rfl (lv_at hl 1 rfl) ?_
  refine lv_iload_n hx hb dL_indexAt_4 rfl (lv_at hl 2 rfl) ?_
  refine x_callVx (rest := [.int 0, .ref ou]) (wr := [(ou, .inl (k 2, 1, .inr (.inl (fun _ => 0))))]) (c_indexAt l dC dI k hl0 gx T LA sp dr bl pt fk fh ky LN ST L0 lc0 le0 ll0 ld0 wl0 op0 dg0 L1 lc1 le1 ll1 ld1 wl1 op1 dg1 R0 r00 r10 r20 r30 r40 r50 r60 r70 wr0 lr0 tt0 fr0 r80 r90 R1 r01 r11 r21 r31 r41 r51 r61 r71 wr1 lr1 tt1 fr1 r81 r91 P0 pg0 p00 p10 p20 p30 p40 p50 P1 pg1 p01 p11 p21 p31 p41 p51 v x1) B mV_X11_indexAt mw_1828 hl [0, 1, 2, 3, 4, 5, 6, 7, 8, 9, 10, 11, 12, 13, 14, 15, 16, 17, 18, 19, 20, 21] [22] rfl rfl ⟨by decide, by decide⟩ (by decide) (q0 := 0) rfl rfl rfl ⟨Nat.le_of_ble_eq_true rfl, Nat.le_of_ble_eq_true rfl⟩ (Nat.le_of_ble_eq_true rfl) rfl dL_indexAt_5 ⟨Nat.le_of_ble_eq_true rfl, Nat.le_of_ble_eq_true rfl⟩ (fun E ce q9 H locs hp B h1 h2 h3 => ?_) (fun r w H locs hp B => ?_)
  · rcases hp with rfl
    refine vx_catch B.1.2.2.2.1 [] ⟨0, 10, 13, 13⟩ [] (hT.trans rfl) (fun z hz => by cases hz) (by decide) (by decide) (B.1.2.2.2.2.1 _ mw_506) (ca.use (B.2.1.2.2.2.2.2.2.1.1 _ (by decide +kernel))) h1 h2 h3 ?_
    skip
    have B := bd_to (ws' := [(ou, .inl (k 2, 1, .inr (.inl (fun _ => 0))))]) rfl B
    refine lv_astore (lv' := [(4, .ref q9), (0, .ref gx), (1, .int v), (2, .int x1), (3, .ref ou)]) hx hb dL_indexAt_13 hl (by decide) rfl (fun ls hl => ?_)
    refine lv_iconst (v := 1) hx hb dL_indexAt_15 (by decide) ?_
    have B := bd_sub (ws' := []) [] (by decide) rfl B
    exact x_iret B hr (⟨rfl, rfl⟩) (Nat.le_of_ble_eq_true rfl) (Nat.le_of_ble_eq_true rfl) dL_indexAt_16
  · exact hp.elim

theorem mw_1844 : (Jvm.Cond.methodLink "GalleyforgeLaw" (129 : Nat) ({ cls := "Galleyforge", name := "range", desc := "(III)I" } : Jvm.MethodName)) ∈ gt := gt_at 1979 (by decide +kernel) (by decide +kernel)
theorem mw_1845 : (Jvm.Cond.instanceMethod ({ cls := "Galleyforge", name := "range", desc := "(III)I" } : Jvm.MethodName)) ∈ gt := gt_at 1980 (by decide +kernel) (by decide +kernel)
theorem mw_1846 : (Jvm.Cond.selects "Galleyforge" ({ cls := "Galleyforge", name := "range", desc := "(III)I" } : Jvm.MethodName) ({ cls := "Galleyforge", name := "range", desc := "(III)I" } : Jvm.MethodName)) ∈ gt := gt_at 1981 (by decide +kernel) (by decide +kernel)
theorem mw_1847 : (Jvm.Cond.code ({ cls := "Galleyforge", name := "range", desc := "(III)I" } : Jvm.MethodName) prog_1_method_40_code (5 : Nat) (Option.some Jvm.ClassFile.FieldType.int)) ∈ gt := gt_at 1982 (by decide +kernel) (by decide +kernel)
theorem mV_X11_range : mV yX11_range cX11_range 5 (some .int) 3 := ⟨⟨mw_1847, mw_1, by decide, by decide, by decide +kernel⟩, mw_1845, mw_1846⟩
theorem dL_range_0 : decode cL_range 0 = .ok (.aload 4, 2) := by decide +kernel
theorem dL_range_2 : decode cL_range 2 = .ok (.iconst 0, 1) := by decide +kernel
theorem dL_range_3 : decode cL_range 3 = .ok (.aload_n 0, 1) := by decide +kernel
theorem dL_range_4 : decode cL_range 4 = .ok (.iload_n 1, 1) := by decide +kernel
theorem dL_range_5 : decode cL_range 5 = .ok (.iload_n 2, 1) := by decide +kernel
theorem dL_range_6 : decode cL_range 6 = .ok (.iload_n 3, 1) := by decide +kernel
theorem dL_range_7 : decode cL_range 7 = .ok (.invokevirtual 129, 3) := by decide +kernel
theorem dL_range_15 : decode cL_range 15 = .ok (.astore 5, 2) := by decide +kernel
theorem dL_range_17 : decode cL_range 17 = .ok (.iconst 1, 1) := by decide +kernel
theorem dL_range_18 : decode cL_range 18 = .ok (.ireturn, 1) := by decide +kernel
set_option maxHeartbeats 4000000 in
set_option maxRecDepth 100000 in
theorem w_range (l : Launch) (dC : Nat → ClassId) (dI : Nat → Nat → Nat) (k : Nat → ClassId) (hl0 : l.stackTraces = false) (gx : Nat) (T : Nat) (LA : Nat) (sp : Nat) (dr : Nat) (bl : Nat) (pt : Nat) (fk : Nat) (fh : Nat) (ky : Nat) (LN : Nat) (ST : Nat) (L0 : Nat) (lc0 : Nat) (le0 : Nat) (ll0 : Nat) (ld0 : Nat) (wl0 : Nat) (op0 : Nat) (dg0 : Nat) (L1 : Nat) (lc1 : Nat) (le1 : Nat) (ll1 : Nat) (ld1 : Nat) (wl1 : Nat) (op1 : Nat) (dg1 : Nat) (R0 : Nat) (r00 : Nat) (r10 : Nat) (r20 : Nat) (r30 : Nat) (r40 : Nat) (r50 : Nat) (r60 : Nat) (r70 : Nat) (wr0 : Nat) (lr0 : Nat) (tt0 : Nat) (fr0 : Nat) (r80 : Nat) (r90 : Nat) (R1 : Nat) (r01 : Nat) (r11 : Nat) (r21 : Nat) (r31 : Nat) (r41 : Nat) (r51 : Nat) (r61 : Nat) (r71 : Nat) (wr1 : Nat) (lr1 : Nat) (tt1 : Nat) (fr1 : Nat) (r81 : Nat) (r91 : Nat) (P0 : Nat) (pg0 : Nat) (p00 : Nat) (p10 : Nat) (p20 : Nat) (p30 : Nat) (p40 : Nat) (p50 : Nat) (P1 : Nat) (pg1 : Nat) (p01 : Nat) (p11 : Nat) (p21 : Nat) (p31 : Nat) (p41 : Nat) (p51 : Nat) (v : Int32) (x1 : Int32) (x2 : Int32) (ou : Nat) : Ct l dC dI k yL_range (.codeWith yL_range cL_range 6 (some .int) [(0, 12, 15, 13)]) ({ frames := 9, cells := 4, slots := 24, locals := 149 } : Room) [.ref gx, .int v, .int x1, .int x2, .ref ou] [(gx, .inr (9, [.ref T, .ref LA, .ref sp, .int 0, .ref dr])), (LA, .inl (k 3, 2, .inr (.inr (.inr (.inr (va_up (va_up (fun _ => none) 0 (some L0)) 1 (some L1))))))), (T, .inr (8, [.ref bl, .ref pt, .ref fk, .ref fh, .int 0, .ref ky, .int 60, .int 12])), (bl, .inr (11, [.int 0, .ref (dI 99 1), .int 0])), (L0, .inr (1, [.ref T, .int 0, .ref LN, .ref R0, .ref P0, .int 1, .int 0, .ref lc0, .ref le0, .ref ll0, .ref ld0, .ref wl0, .ref op0, .int 0, .int 0, .int 1365, .ref dg0])), (dg0, .inl (k 0, 730, .inl (fun _ => 0))), (R0, .inr (5, [.int 0, .ref r00, .ref r10, .ref r20, .ref r30, .ref r40, .ref r50, .ref r60, .ref r70, .ref wr0, .ref lr0, .ref tt0, .int 0, .int 0, .ref fr0, .ref r80, .ref r90, .int 0])), (wr0, .inl (k 0, 192, .inl (fun _ => 0))), (lr0, .inl (k 0, 6, .inl (fun _ => 0))), (tt0, .inl (k 1, 8, .inl (fun _ => 0))), (fr0, .inl (k 0, 5, .inl (fun _ => 0))), (P0, .inr (4, [.ref T, .ref R0, .ref pg0, .ref ST, .int 0, .int 0, .ref p00, .ref p10, .ref p20, .ref p30, .ref p40, .ref p50])), (p50, .inl (k 0, 5, .inl (fun _ => 0))), (L1, .inr (1, [.ref T, .int 1, .ref LN, .ref R1, .ref P1, .int 1, .int 0, .ref lc1, .ref le1, .ref ll1, .ref ld1, .ref wl1, .ref op1, .int 0, .int 0, .int 1365, .ref dg1])), (dg1, .inl (k 0, 730, .inl (fun _ => 0))), (R1, .inr (5, [.int 0, .ref r01, .ref r11, .ref r21, .ref r31, .ref r41, .ref r51, .ref r61, .ref r71, .ref wr1, .ref lr1, .ref tt1, .int 0, .int 0, .ref fr1, .ref r81, .ref r91, .int 0])), (wr1, .inl (k 0, 192, .inl (fun _ => 0))), (lr1, .inl (k 0, 6, .inl (fun _ => 0))), (tt1, .inl (k 1, 8, .inl (fun _ => 0))), (fr1, .inl (k 0, 5, .inl (fun _ => 0))), (P1, .inr (4, [.ref T, .ref R1, .ref pg1, .ref ST, .int 0, .int 0, .ref p01, .ref p11, .ref p21, .ref p31, .ref p41, .ref p51])), (p51, .inl (k 0, 5, .inl (fun _ => 0))), (op0, .inl (k 1, 967, .inl (fun _ => 0))), (op1, .inl (k 1, 967, .inl (fun _ => 0))), (ou, .inl (k 2, 1, .inr (.inl (fun _ => 0))))] (fun r w => (r = some (.int 1) ∧ w = [])) := by
  refine cw_of (by decide) (Nat.le_of_ble_eq_true rfl) ?_
  intro p e s m args below meth c H locs B hr hT ls hl
  have hx := B.1.1
  have hb := B.1.2.1
  have hl : lv_has ls 6 [(0, .ref gx), (1, .int v), (2, .int x1), (3, .int x2), (4, .ref ou)] := hl
  refine lv_aload hx hb dL_range_0 (lv_at hl 4 rfl) ?_
  refine lv_iconst (v := 0) hx hb dL_range_2 (by decide) ?_
  refine lv_aload_n hx hb dL_range_3 rfl (lv_at hl 0 rfl) ?_
  refine lv_iload_n hx hb dL_range_4 rfl (lv_at hl 1 rfl) ?_
  refine lv_iload_n hx hb dL_range_5 rfl (lv_at hl 2 rfl) ?_
  refine lv_iload_n hx hb dL_range_6 rfl (lv_at hl 3 rfl) ?_
  refine x_callVx (rest := [.int 0, .ref ou]) (wr := [(ou, .inl (k 2, 1, .inr (.inl (fun _ => 0))))]) (c_range l dC dI k hl0 gx T LA sp dr bl pt fk fh ky LN ST L0 lc0 le0 ll0 ld0 wl0 op0 dg0 L1 lc1 le1 ll1 ld1 wl1 op1 dg1 R0 r00 r10 r20 r30 r40 r50 r60 r70 wr0 lr0 tt0 fr0 r80 r90 R1 r01 r11 r21 r31 r41 r51 r61 r71 wr1 lr1 tt1 fr1 r81 r91 P0 pg0 p00 p10 p20 p30 p40 p50 P1 pg1 p01 p11 p21 p31 p41 p51 v x1 x2) B mV_X11_range mw_1844 hl [0, 1, 2, 3, 4, 5, 6, 7, 8, 9, 10, 11, 12, 13, 14, 15, 16, 17, 18, 19, 20, 21, 22, 23] [24] rfl rfl ⟨by decide, by decide⟩ (by decide) (q0 := 0) rfl rfl rfl ⟨Nat.le_of_ble_eq_true rfl, Nat.le_of_ble_eq_true rfl⟩ (Nat.le_of_ble_eq_true rfl) rfl dL_range_7 ⟨Nat.le_of_ble_eq_true rfl, Nat.le_of_ble_eq_true rfl⟩ (fun E ce q9 H locs hp B h1 h2 h3 => ?_) (fun r w H locs hp B => ?_)
  · rcases hp with rfl
    refine vx_catch B.1.2.2.2.1 [] ⟨0, 12, 15, 13⟩ [] (hT.trans rfl) (fun z hz => by cases hz) (by decide) (by decide) (B.1.2.2.2.2.1 _ mw_506) (ca.use (B.2.1.2.2.2.2.2.2.1.1 _ (by decide +kernel))) h1 h2 h3 ?_
    skip
    have B := bd_to (ws' := [(ou, .inl (k 2, 1, .inr (.inl (fun _ => 0))))]) rfl B
    refine lv_astore (lv' := [(5, .ref q9), (0, .ref gx), (1, .int v), (2, .int x1), (3, .int x2), (4, .ref ou)]) hx hb dL_range_15 hl (by decide) rfl (fun ls hl => ?_)
    refine lv_iconst (v := 1) hx hb dL_range_17 (by decide) ?_
    have B := bd_sub (ws' := []) [] (by decide) rfl B
    exact x_iret B hr (⟨rfl, rfl⟩) (Nat.le_of_ble_eq_true rfl) (Nat.le_of_ble_eq_true rfl) dL_range_18
  · exact hp.elim

end
