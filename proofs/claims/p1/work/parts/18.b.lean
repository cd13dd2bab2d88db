section
theorem mw_1268 : (Jvm.Cond.methodLink "GalleyforgeLaw" (58 : Nat) ({ cls := "Galleyforge", name := "words", desc := "(I)I" } : Jvm.MethodName)) ∈ gt := gt_at 1403 (by decide +kernel) (by decide +kernel)
theorem mw_1269 : (Jvm.Cond.instanceMethod ({ cls := "Galleyforge", name := "words", desc := "(I)I" } : Jvm.MethodName)) ∈ gt := gt_at 1404 (by decide +kernel) (by decide +kernel)
theorem mw_1270 : (Jvm.Cond.selects "Galleyforge" ({ cls := "Galleyforge", name := "words", desc := "(I)I" } : Jvm.MethodName) ({ cls := "Galleyforge", name := "words", desc := "(I)I" } : Jvm.MethodName)) ∈ gt := gt_at 1405 (by decide +kernel) (by decide +kernel)
theorem mw_1271 : (Jvm.Cond.code ({ cls := "Galleyforge", name := "words", desc := "(I)I" } : Jvm.MethodName) prog_1_method_17_code (2 : Nat) (Option.some Jvm.ClassFile.FieldType.int)) ∈ gt := gt_at 1406 (by decide +kernel) (by decide +kernel)
theorem mV_X11_words : mV yX11_words cX11_words 2 (some .int) 1 := ⟨⟨mw_1271, mw_1, by decide, by decide, by decide +kernel⟩, mw_1269, mw_1270⟩
theorem dL_words_0 : decode cL_words 0 = .ok (.aload_n 2, 1) := by decide +kernel
theorem dL_words_1 : decode cL_words 1 = .ok (.iconst 0, 1) := by decide +kernel
theorem dL_words_2 : decode cL_words 2 = .ok (.aload_n 0, 1) := by decide +kernel
theorem dL_words_3 : decode cL_words 3 = .ok (.iload_n 1, 1) := by decide +kernel
theorem dL_words_4 : decode cL_words 4 = .ok (.invokevirtual 58, 3) := by decide +kernel
theorem dL_words_12 : decode cL_words 12 = .ok (.astore_n 3, 1) := by decide +kernel
theorem dL_words_13 : decode cL_words 13 = .ok (.iconst 1, 1) := by decide +kernel
theorem dL_words_14 : decode cL_words 14 = .ok (.ireturn, 1) := by decide +kernel
set_option maxHeartbeats 4000000 in
set_option maxRecDepth 100000 in
theorem w_words (l : Launch) (dC : Nat → ClassId) (dI : Nat → Nat → Nat) (k : Nat → ClassId) (hl0 : l.stackTraces = false) (gx : Nat) (T : Nat) (LA : Nat) (sp : Nat) (dr : Nat) (bl : Nat) (pt : Nat) (fk : Nat) (fh : Nat) (ky : Nat) (x1 : Int32) (ou : Nat) : Ct l dC dI k yL_words (.codeWith yL_words cL_words 4 (some .int) [(0, 9, 12, 13)]) ({ frames := 9, cells := 1, slots := 6, locals := 145 } : Room) [.ref gx, .int x1, .ref ou] [(gx, .inr (9, [.ref T, .ref LA, .ref sp, .int 0, .ref dr])), (T, .inr (8, [.ref bl, .ref pt, .ref fk, .ref fh, .int 0, .ref ky, .int 60, .int 12])), (bl, .inr (11, [.int 0, .ref (dI 99 1), .int 0])), (ou, .inl (k 2, 1, .inr (.inl (fun _ => 0))))] (fun r w => (r = some (.int 1) ∧ w = [])) := by
  refine cw_of (by decide) (Nat.le_of_ble_eq_true rfl) ?_
  intro p e s m args below meth c H locs B hr hT ls hl
  have hx := B.1.1
  have hb := B.1.2.1
  have hl : lv_has ls 4 [(0, .ref gx), (1, .int x1), (2, .ref ou)] := hl
  refine lv_aload_n hx hb dL_words_0 rfl (lv_at hl 2 rfl) ?_
  refine lv_iconst (v := 0) hx hb dL_words_1 (by decide) ?_
  refine lv_aload_n hx hb dL_words_2 rfl (lv_at hl 0 rfl) ?_
  refine lv_iload_n hx hb dL_words_3 rfl (lv_at hl 1 rfl) ?_
  refine x_callVx (rest := [.int 0, .ref ou]) (wr := [(ou, .inl (k 2, 1, .inr (.inl (fun _ => 0))))]) (c_words l dC dI k hl0 gx T LA sp dr bl pt fk fh ky x1) B mV_X11_words mw_1268 hl [0, 1, 2] [3] rfl rfl ⟨by decide, by decide⟩ (by decide) (q0 := 0) rfl rfl rfl ⟨Nat.le_of_ble_eq_true rfl, Nat.le_of_ble_eq_true rfl⟩ (Nat.le_of_ble_eq_true rfl) rfl dL_words_4 ⟨Nat.le_of_ble_eq_true rfl, Nat.le_of_ble_eq_true rfl⟩ (fun E ce q9 H locs hp B h1 h2 h3 => ?_) (fun r w H locs hp B => ?_)
  · rcases hp with rfl
    refine vx_catch B.1.2.2.2.1 [] ⟨0, 9, 12, 13⟩ [] (hT.trans rfl) (fun z hz => by cases hz) (by decide) (by decide) (B.1.2.2.2.2.1 _ mw_506) (ca.use (B.2.1.2.2.2.2.2.2.1.1 _ (by decide +kernel))) h1 h2 h3 ?_
    skip
    have B := bd_to (ws' := [(ou, .inl (k 2, 1, .inr (.inl (fun _ => 0))))]) rfl B
    refine lv_astore_n (lv' := [(3, .ref q9), (0, .ref gx), (1, .int x1), (2, .ref ou)]) hx hb dL_words_12 rfl hl (by decide) rfl (fun ls hl => ?_)
    refine lv_iconst (v := 1) hx hb dL_words_13 (by decide) ?_
    have B := bd_sub (ws' := []) [] (by decide) rfl B
    exact x_iret B hr (⟨rfl, rfl⟩) (Nat.le_of_ble_eq_true rfl) (Nat.le_of_ble_eq_true rfl) dL_words_14
  · exact hp.elim

theorem mw_1275 : (Jvm.Cond.methodLink "GalleyforgeLaw" (61 : Nat) ({ cls := "Galleyforge", name := "gaps", desc := "(II)I" } : Jvm.MethodName)) ∈ gt := gt_at 1410 (by decide +kernel) (by decide +kernel)
theorem mw_1276 : (Jvm.Cond.instanceMethod ({ cls := "Galleyforge", name := "gaps", desc := "(II)I" } : Jvm.MethodName)) ∈ gt := gt_at 1411 (by decide +kernel) (by decide +kernel)
theorem mw_1277 : (Jvm.Cond.selects "Galleyforge" ({ cls := "Galleyforge", name := "gaps", desc := "(II)I" } : Jvm.MethodName) ({ cls := "Galleyforge", name := "gaps", desc := "(II)I" } : Jvm.MethodName)) ∈ gt := gt_at 1412 (by decide +kernel) (by decide +kernel)
theorem mw_1278 : (Jvm.Cond.code ({ cls := "Galleyforge", name := "gaps", desc := "(II)I" } : Jvm.MethodName) prog_1_method_18_code (4 : Nat) (Option.some Jvm.ClassFile.FieldType.int)) ∈ gt := gt_at 1413 (by decide +kernel) (by decide +kernel)
theorem mV_X11_gaps : mV yX11_gaps cX11_gaps 4 (some .int) 2 := ⟨⟨mw_1278, mw_1, by decide, by decide, by decide +kernel⟩, mw_1276, mw_1277⟩
theorem dL_gaps_0 : decode cL_gaps 0 = .ok (.aload_n 3, 1) := by decide +kernel
theorem dL_gaps_1 : decode cL_gaps 1 = .ok (.iconst 0, 1) := by decide +kernel
theorem dL_gaps_2 : decode cL_gaps 2 = .ok (.aload_n 0, 1) := by decide +kernel
theorem dL_gaps_3 : decode cL_gaps 3 = .ok (.iload_n 1, 1) := by decide +kernel
theorem dL_gaps_4 : decode cL_gaps 4 = .ok (.iload_n 2, 1) := by decide +kernel
theorem dL_gaps_5 : decode cL_gaps 5 = .ok (.invokevirtual 61, 3) := by decide +kernel
theorem dL_gaps_13 : decode cL_gaps 13 = .ok (.astore 4, 2) := by decide +kernel
theorem dL_gaps_15 : decode cL_gaps 15 = .ok (.iconst 1, 1) := by decide +kernel
theorem dL_gaps_16 : decode cL_gaps 16 = .ok (.ireturn, 1) := by decide +kernel
set_option maxHeartbeats 4000000 in
set_option maxRecDepth 100000 in
theorem w_gaps (l : Launch) (dC : Nat → ClassId) (dI : Nat → Nat → Nat) (k : Nat → ClassId) (hl0 : l.stackTraces = false) (gx : Nat) (T : Nat) (LA : Nat) (sp : Nat) (dr : Nat) (bl : Nat) (pt : Nat) (fk : Nat) (fh : Nat) (ky : Nat) (x1 : Int32) (x2 : Int32) (ou : Nat) : Ct l dC dI k yL_gaps (.codeWith yL_gaps cL_gaps 5 (some .int) [(0, 10, 13, 13)]) ({ frames := 9, cells := 1, slots := 6, locals := 147 } : Room) [.ref gx, .int x1, .int x2, .ref ou] [(gx, .inr (9, [.ref T, .ref LA, .ref sp, .int 0, .ref dr])), (T, .inr (8, [.ref bl, .ref pt, .ref fk, .ref fh, .int 0, .ref ky, .int 60, .int 12])), (bl, .inr (11, [.int 0, .ref (dI 99 1), .int 0])), (ou, .inl (k 2, 1, .inr (.inl (fun _ => 0))))] (fun r w => (r = some (.int 1) ∧ w = [])) := by
  refine cw_of (by decide) (Nat.le_of_ble_eq_true rfl) ?_
  intro p e s m args below meth c H locs B hr hT ls hl
  have hx := B.1.1
  have hb := B.1.2.1
  have hl : lv_has ls 5 [(0, .ref gx), (1, .int x1), (2, .int x2), (3, .ref ou)] := hl
  refine lv_aload_n hx hb dL_gaps_0 rfl (lv_at hl 3 rfl) ?_
  refine lv_iconst (v := 0) hx hb dL_gaps_1 (by decide) ?_
  refine lv_aload_n hx hb dL_gaps_2 rfl (lv_at hl 0 rfl) ?_
  refine lv_iload_n hx hb dL_gaps_3 rfl (lv_at hl 1 rfl) ?_
  refine lv_iload_n hx hb dL_gaps_4 rfl (lv_at hl 2 rfl) ?_
  refine x_callVx (rest := [.int 0, .ref ou]) (wr := [(ou, .inl (k 2, 1, .inr (.inl (fun _ => 0))))]) (c_gaps l dC dI k hl0 gx T LA sp dr bl pt fk fh ky x1 x2) B mV_X11_gaps mw_1275 hl [0, 1, 2] [3] rfl rfl ⟨by decide, by decide⟩ (by decide) (q0 := 0) rfl rfl rfl ⟨Nat.le_of_ble_eq_true rfl, Nat.le_of_ble_eq_true rfl⟩ (Nat.le_of_ble_eq_true rfl) rfl dL_gaps_5 ⟨Nat.le_of_ble_eq_true rfl, Nat.le_of_ble_eq_true rfl⟩ (fun E ce q9 H locs hp B h1 h2 h3 => ?_) (fun r w H locs hp B => ?_)
  · rcases hp with rfl
    refine vx_catch B.1.2.2.2.1 [] ⟨0, 10, 13, 13⟩ [] (hT.trans rfl) (fun z hz => by cases hz) (by decide) (by decide) (B.1.2.2.2.2.1 _ mw_506) (ca.use (B.2.1.2.2.2.2.2.2.1.1 _ (by decide +kernel))) h1 h2 h3 ?_
    skip
    have B := bd_to (ws' := [(ou, .inl (k 2, 1, .inr (.inl (fun _ => 0))))]) rfl B
    refine lv_astore (lv' := [(4, .ref q9), (0, .ref gx), (1, .int x1), (2, .int x2), (3, .ref ou)]) hx hb dL_gaps_13 hl (by decide) rfl (fun ls hl => ?_)
    refine lv_iconst (v := 1) hx hb dL_gaps_15 (by decide) ?_
    have B := bd_sub (ws' := []) [] (by decide) rfl B
    exact x_iret B hr (⟨rfl, rfl⟩) (Nat.le_of_ble_eq_true rfl) (Nat.le_of_ble_eq_true rfl) dL_gaps_16
  · exact hp.elim

theorem mw_1282 : (Jvm.Cond.methodLink "GalleyforgeLaw" (64 : Nat) ({ cls := "Galleyforge", name := "number", desc := "(II)I" } : Jvm.MethodName)) ∈ gt := gt_at 1417 (by decide +kernel) (by decide +kernel)
theorem mw_1283 : (Jvm.Cond.instanceMethod ({ cls := "Galleyforge", name := "number", desc := "(II)I" } : Jvm.MethodName)) ∈ gt := gt_at 1418 (by decide +kernel) (by decide +kernel)
theorem mw_1284 : (Jvm.Cond.selects "Galleyforge" ({ cls := "Galleyforge", name := "number", desc := "(II)I" } : Jvm.MethodName) ({ cls := "Galleyforge", name := "number", desc := "(II)I" } : Jvm.MethodName)) ∈ gt := gt_at 1419 (by decide +kernel) (by decide +kernel)
theorem mw_1285 : (Jvm.Cond.code ({ cls := "Galleyforge", name := "number", desc := "(II)I" } : Jvm.MethodName) prog_1_method_19_code (4 : Nat) (Option.some Jvm.ClassFile.FieldType.int)) ∈ gt := gt_at 1420 (by decide +kernel) (by decide +kernel)
theorem mV_X11_number : mV yX11_number cX11_number 4 (some .int) 2 := ⟨⟨mw_1285, mw_1, by decide, by decide, by decide +kernel⟩, mw_1283, mw_1284⟩
theorem dL_number_0 : decode cL_number 0 = .ok (.aload_n 3, 1) := by decide +kernel
theorem dL_number_1 : decode cL_number 1 = .ok (.iconst 0, 1) := by decide +kernel
theorem dL_number_2 : decode cL_number 2 = .ok (.aload_n 0, 1) := by decide +kernel
theorem dL_number_3 : decode cL_number 3 = .ok (.iload_n 1, 1) := by decide +kernel
theorem dL_number_4 : decode cL_number 4 = .ok (.iload_n 2, 1) := by decide +kernel
theorem dL_number_5 : decode cL_number 5 = .ok (.invokevirtual 64, 3) := by decide +kernel
theorem dL_number_13 : decode cL_number 13 = .ok (.astore 4, 2) := by decide +kernel
theorem dL_number_15 : decode cL_number 15 = .ok (.iconst 1, 1) := by decide +kernel
theorem dL_number_16 : decode cL_number 16 = .ok (.ireturn, 1) := by decide +kernel
set_option maxHeartbeats 4000000 in
set_option maxRecDepth 100000 in
theorem w_number (l : Launch) (dC : Nat → ClassId) (dI : Nat → Nat → Nat) (k : Nat → ClassId) (hl0 : l.stackTraces = false) (gx : Nat) (T : Nat) (LA : Nat) (sp : Nat) (dr : Nat) (bl : Nat) (pt : Nat) (fk : Nat) (fh : Nat) (ky : Nat) (x1 : Int32) (x2 : Int32) (ou : Nat) : Ct l dC dI k yL_number (.codeWith yL_number cL_number 5 (some .int) [(0, 10, 13, 13)]) ({ frames := 9, cells := 2, slots := 12, locals := 147 } : Room) [.ref gx, .int x1, .int x2, .ref ou] [(gx, .inr (9, [.ref T, .ref LA, .ref sp, .int 0, .ref dr])), (T, .inr (8, [.ref bl, .ref pt, .ref fk, .ref fh, .int 0, .ref ky, .int 60, .int 12])), (bl, .inr (11, [.int 0, .ref (dI 99 1), .int 0])), (ou, .inl (k 2, 1, .inr (.inl (fun _ => 0))))] (fun r w => (r = some (.int 1) ∧ w = [])) := by
  refine cw_of (by decide) (Nat.le_of_ble_eq_true rfl) ?_
  intro p e s m args below meth c H locs B hr hT ls hl
  have hx := B.1.1
  have hb := B.1.2.1
  have hl : lv_has ls 5 [(0, .ref gx), (1, .int x1), (2, .int x2), (3, .ref ou)] := hl
  refine lv_aload_n hx hb dL_number_0 rfl (lv_at hl 3 rfl) ?_
  refine lv_iconst (v := 0) hx hb dL_number_1 (by decide) ?_
  refine lv_aload_n hx hb dL_number_2 rfl (lv_at hl 0 rfl) ?_
  refine lv_iload_n hx hb dL_number_3 rfl (lv_at hl 1 rfl) ?_
  refine lv_iload_n hx hb dL_number_4 rfl (lv_at hl 2 rfl) ?_
  refine x_callVx (rest := [.int 0, .ref ou]) (wr := [(ou, .inl (k 2, 1, .inr (.inl (fun _ => 0))))]) (c_number l dC dI k hl0 gx T LA sp dr bl pt fk fh ky x1 x2) B mV_X11_number mw_1282 hl [0, 1, 2] [3] rfl rfl ⟨by decide, by decide⟩ (by decide) (q0 := 0) rfl rfl rfl ⟨Nat.le_of_ble_eq_true rfl, Nat.le_of_ble_eq_true rfl⟩ (Nat.le_of_ble_eq_true rfl) rfl dL_number_5 ⟨Nat.le_of_ble_eq_true rfl, Nat.le_of_ble_eq_true rfl⟩ (fun E ce q9 H locs hp B h1 h2 h3 => ?_) (fun r w H locs hp B => ?_)
  · rcases hp with rfl
    refine vx_catch B.1.2.2.2.1 [] ⟨0, 10, 13, 13⟩ [] (hT.trans rfl) (fun z hz => by cases hz) (by decide) (by decide) (B.1.2.2.2.2.1 _ mw_506) (ca.use (B.2.1.2.2.2.2.2.2.1.1 _ (by decide +kernel))) h1 h2 h3 ?_
    skip
    have B := bd_to (ws' := [(ou, .inl (k 2, 1, .inr (.inl (fun _ => 0))))]) rfl B
    refine lv_astore (lv' := [(4, .ref q9), (0, .ref gx), (1, .int x1), (2, .int x2), (3, .ref ou)]) hx hb dL_number_13 hl (by decide) rfl (fun ls hl => ?_)
    refine lv_iconst (v := 1) hx hb dL_number_15 (by decide) ?_
    have B := bd_sub (ws' := []) [] (by decide) rfl B
    exact x_iret B hr (⟨rfl, rfl⟩) (Nat.le_of_ble_eq_true rfl) (Nat.le_of_ble_eq_true rfl) dL_number_16
  · exact hp.elim

theorem mw_1311 : (Jvm.Cond.methodLink "GalleyforgeLaw" (67 : Nat) ({ cls := "Galleyforge", name := "columnWidth", desc := "(II)I" } : Jvm.MethodName)) ∈ gt := gt_at 1446 (by decide +kernel) (by decide +kernel)
theorem mw_1312 : (Jvm.Cond.instanceMethod ({ cls := "Galleyforge", name := "columnWidth", desc := "(II)I" } : Jvm.MethodName)) ∈ gt := gt_at 1447 (by decide +kernel) (by decide +kernel)
theorem mw_1313 : (Jvm.Cond.selects "Galleyforge" ({ cls := "Galleyforge", name := "columnWidth", desc := "(II)I" } : Jvm.MethodName) ({ cls := "Galleyforge", name := "columnWidth", desc := "(II)I" } : Jvm.MethodName)) ∈ gt := gt_at 1448 (by decide +kernel) (by decide +kernel)
theorem mw_1314 : (Jvm.Cond.code ({ cls := "Galleyforge", name := "columnWidth", desc := "(II)I" } : Jvm.MethodName) prog_1_method_20_code (4 : Nat) (Option.some Jvm.ClassFile.FieldType.int)) ∈ gt := gt_at 1449 (by decide +kernel) (by decide +kernel)
theorem mV_X11_columnWidth : mV yX11_columnWidth cX11_columnWidth 4 (some .int) 2 := ⟨⟨mw_1314, mw_1, by decide, by decide, by decide +kernel⟩, mw_1312, mw_1313⟩
theorem dL_columnWidth_0 : decode cL_columnWidth 0 = .ok (.aload_n 3, 1) := by decide +kernel
theorem dL_columnWidth_1 : decode cL_columnWidth 1 = .ok (.iconst 0, 1) := by decide +kernel
theorem dL_columnWidth_2 : decode cL_columnWidth 2 = .ok (.aload_n 0, 1) := by decide +kernel
theorem dL_columnWidth_3 : decode cL_columnWidth 3 = .ok (.iload_n 1, 1) := by decide +kernel
theorem dL_columnWidth_4 : decode cL_columnWidth 4 = .ok (.iload_n 2, 1) := by decide +kernel
theorem dL_columnWidth_5 : decode cL_columnWidth 5 = .ok (.invokevirtual 67, 3) := by decide +kernel
theorem dL_columnWidth_13 : decode cL_columnWidth 13 = .ok (.astore 4, 2) := by decide +kernel
theorem dL_columnWidth_15 : decode cL_columnWidth 15 = .ok (.iconst 1, 1) := by decide +kernel
theorem dL_columnWidth_16 : decode cL_columnWidth 16 = .ok (.ireturn, 1) := by decide +kernel
set_option maxHeartbeats 4000000 in
set_option maxRecDepth 100000 in
theorem w_columnWidth (l : Launch) (dC : Nat → ClassId) (dI : Nat → Nat → Nat) (k : Nat → ClassId) (hl0 : l.stackTraces = false) (gx : Nat) (T : Nat) (LA : Nat) (sp : Nat) (dr : Nat) (bl : Nat) (pt : Nat) (fk : Nat) (fh : Nat) (ky : Nat) (x1 : Int32) (x2 : Int32) (ou : Nat) : Ct l dC dI k yL_columnWidth (.codeWith yL_columnWidth cL_columnWidth 5 (some .int) [(0, 10, 13, 13)]) ({ frames := 10, cells := 1, slots := 6, locals := 169 } : Room) [.ref gx, .int x1, .int x2, .ref ou] [(gx, .inr (9, [.ref T, .ref LA, .ref sp, .int 0, .ref dr])), (T, .inr (8, [.ref bl, .ref pt, .ref fk, .ref fh, .int 0, .ref ky, .int 60, .int 12])), (bl, .inr (11, [.int 0, .ref (dI 99 1), .int 0])), (ou, .inl (k 2, 1, .inr (.inl (fun _ => 0))))] (fun r w => (r = some (.int 1) ∧ w = [])) := by
  refine cw_of (by decide) (Nat.le_of_ble_eq_true rfl) ?_
  intro p e s m args below meth c H locs B hr hT ls hl
  have hx := B.1.1
  have hb := B.1.2.1
  have hl : lv_has ls 5 [(0, .ref gx), (1, .int x1), (2, .int x2), (3, .ref ou)] := hl
  refine lv_aload_n hx hb dL_columnWidth_0 rfl (lv_at hl 3 rfl) ?_
  refine lv_iconst (v := 0) hx hb dL_columnWidth_1 (by decide) ?_
  refine lv_aload_n hx hb dL_columnWidth_2 rfl (lv_at hl 0 rfl) ?_
  refine lv_iload_n hx hb dL_columnWidth_3 rfl (lv_at hl 1 rfl) ?_
  refine lv_iload_n hx hb dL_columnWidth_4 rfl (lv_at hl 2 rfl) ?_
  refine x_callVx (rest := [.int 0, .ref ou]) (wr := [(ou, .inl (k 2, 1, .inr (.inl (fun _ => 0))))]) (c_columnWidth l dC dI k hl0 gx T LA sp dr bl pt fk fh ky x1 x2) B mV_X11_columnWidth mw_1311 hl [0, 1, 2] [3] rfl rfl ⟨by decide, by decide⟩ (by decide) (q0 := 0) rfl rfl rfl ⟨Nat.le_of_ble_eq_true rfl, Nat.le_of_ble_eq_true rfl⟩ (Nat.le_of_ble_eq_true rfl) rfl dL_columnWidth_5 ⟨Nat.le_of_ble_eq_true rfl, Nat.le_of_ble_eq_true rfl⟩ (fun E ce q9 H locs hp B h1 h2 h3 => ?_) (fun r w H locs hp B => ?_)
  · rcases hp with rfl
    refine vx_catch B.1.2.2.2.1 [] ⟨0, 10, 13, 13⟩ [] (hT.trans rfl) (fun z hz => by cases hz) (by decide) (by decide) (B.1.2.2.2.2.1 _ mw_506) (ca.use (B.2.1.2.2.2.2.2.2.1.1 _ (by decide +kernel))) h1 h2 h3 ?_
    skip
    have B := bd_to (ws' := [(ou, .inl (k 2, 1, .inr (.inl (fun _ => 0))))]) rfl B
    refine lv_astore (lv' := [(4, .ref q9), (0, .ref gx), (1, .int x1), (2, .int x2), (3, .ref ou)]) hx hb dL_columnWidth_13 hl (by decide) rfl (fun ls hl => ?_)
    refine lv_iconst (v := 1) hx hb dL_columnWidth_15 (by decide) ?_
    have B := bd_sub (ws' := []) [] (by decide) rfl B
    exact x_iret B hr (⟨rfl, rfl⟩) (Nat.le_of_ble_eq_true rfl) (Nat.le_of_ble_eq_true rfl) dL_columnWidth_16
  · exact hp.elim

theorem mw_1350 : (Jvm.Cond.methodLink "GalleyforgeLaw" (70 : Nat) ({ cls := "Galleyforge", name := "rowHeight", desc := "(II)I" } : Jvm.MethodName)) ∈ gt := gt_at 1485 (by decide +kernel) (by decide +kernel)
theorem mw_1351 : (Jvm.Cond.instanceMethod ({ cls := "Galleyforge", name := "rowHeight", desc := "(II)I" } : Jvm.MethodName)) ∈ gt := gt_at 1486 (by decide +kernel) (by decide +kernel)
theorem mw_1352 : (Jvm.Cond.selects "Galleyforge" ({ cls := "Galleyforge", name := "rowHeight", desc := "(II)I" } : Jvm.MethodName) ({ cls := "Galleyforge", name := "rowHeight", desc := "(II)I" } : Jvm.MethodName)) ∈ gt := gt_at 1487 (by decide +kernel) (by decide +kernel)
theorem mw_1353 : (Jvm.Cond.code ({ cls := "Galleyforge", name := "rowHeight", desc := "(II)I" } : Jvm.MethodName) prog_1_method_21_code (4 : Nat) (Option.some Jvm.ClassFile.FieldType.int)) ∈ gt := gt_at 1488 (by decide +kernel) (by decide +kernel)
theorem mV_X11_rowHeight : mV yX11_rowHeight cX11_rowHeight 4 (some .int) 2 := ⟨⟨mw_1353, mw_1, by decide, by decide, by decide +kernel⟩, mw_1351, mw_1352⟩
theorem dL_rowHeight_0 : decode cL_rowHeight 0 = .ok (.aload_n 3, 1) := by decide +kernel
theorem dL_rowHeight_1 : decode cL_rowHeight 1 = .ok (.iconst 0, 1) := by decide +kernel
theorem dL_rowHeight_2 : decode cL_rowHeight 2 = .ok (.aload_n 0, 1) := by decide +kernel
theorem dL_rowHeight_3 : decode cL_rowHeight 3 = .ok (.iload_n 1, 1) := by decide +kernel
theorem dL_rowHeight_4 : decode cL_rowHeight 4 = .ok (.iload_n 2, 1) := by decide +kernel
theorem dL_rowHeight_5 : decode cL_rowHeight 5 = .ok (.invokevirtual 70, 3) := by decide +kernel
theorem dL_rowHeight_13 : decode cL_rowHeight 13 = .ok (.astore 4, 2) := by decide +kernel
theorem dL_rowHeight_15 : decode cL_rowHeight 15 = .ok (.iconst 1, 1) := by decide +kernel
theorem dL_rowHeight_16 : decode cL_rowHeight 16 = .ok (.ireturn, 1) := by decide +kernel
set_option maxHeartbeats 4000000 in
set_option maxRecDepth 100000 in
theorem w_rowHeight (l : Launch) (dC : Nat → ClassId) (dI : Nat → Nat → Nat) (k : Nat → ClassId) (hl0 : l.stackTraces = false) (gx : Nat) (T : Nat) (LA : Nat) (sp : Nat) (dr : Nat) (bl : Nat) (pt : Nat) (fk : Nat) (fh : Nat) (ky : Nat) (x1 : Int32) (x2 : Int32) (ou : Nat) : Ct l dC dI k yL_rowHeight (.codeWith yL_rowHeight cL_rowHeight 5 (some .int) [(0, 10, 13, 13)]) ({ frames := 10, cells := 1, slots := 6, locals := 169 } : Room) [.ref gx, .int x1, .int x2, .ref ou] [(gx, .inr (9, [.ref T, .ref LA, .ref sp, .int 0, .ref dr])), (T, .inr (8, [.ref bl, .ref pt, .ref fk, .ref fh, .int 0, .ref ky, .int 60, .int 12])), (bl, .inr (11, [.int 0, .ref (dI 99 1), .int 0])), (ou, .inl (k 2, 1, .inr (.inl (fun _ => 0))))] (fun r w => (r = some (.int 1) ∧ w = [])) := by
  refine cw_of (by decide) (Nat.le_of_ble_eq_true rfl) ?_
  intro p e s m args below meth c H locs B hr hT ls hl
  have hx := B.1.1
  have hb := B.1.2.1
  have hl : lv_has ls 5 [(0, .ref gx), (1, .int x1), (2, .int x2), (3, .ref ou)] := hl
  refine lv_aload_n hx hb dL_rowHeight_0 rfl (lv_at hl 3 rfl) ?_
  refine lv_iconst (v := 0) hx hb dL_rowHeight_1 (by decide) ?_
  refine lv_aload_n hx hb dL_rowHeight_2 rfl (lv_at hl 0 rfl) ?_
  refine lv_iload_n hx hb dL_rowHeight_3 rfl (lv_at hl 1 rfl) ?_
  refine lv_iload_n hx hb dL_rowHeight_4 rfl (lv_at hl 2 rfl) ?_
  refine x_callVx (rest := [.int 0, .ref ou]) (wr := [(ou, .inl (k 2, 1, .inr (.inl (fun _ => 0))))]) (c_rowHeight l dC dI k hl0 gx T LA sp dr bl pt fk fh ky x1 x2) B mV_X11_rowHeight mw_1350 hl [0, 1, 2] [3] rfl rfl ⟨by decide, by decide⟩ (by decide) (q0 := 0) rfl rfl rfl ⟨Nat.le_of_ble_eq_true rfl, Nat.le_of_ble_eq_true rfl⟩ (Nat.le_of_ble_eq_true rfl) rfl dL_rowHeight_5 ⟨Nat.le_of_ble_eq_true rfl, Nat.le_of_ble_eq_true rfl⟩ (fun E ce q9 H locs hp B h1 h2 h3 => ?_) (fun r w H locs hp B => ?_)
  · rcases hp with rfl
    refine vx_catch B.1.2.2.2.1 [] ⟨0, 10, 13, 13⟩ [] (hT.trans rfl) (fun z hz => by cases hz) (by decide) (by decide) (B.1.2.2.2.2.1 _ mw_506) (ca.use (B.2.1.2.2.2.2.2.2.1.1 _ (by decide +kernel))) h1 h2 h3 ?_
    skip
    have B := bd_to (ws' := [(ou, .inl (k 2, 1, .inr (.inl (fun _ => 0))))]) rfl B
    refine lv_astore (lv' := [(4, .ref q9), (0, .ref gx), (1, .int x1), (2, .int x2), (3, .ref ou)]) hx hb dL_rowHeight_13 hl (by decide) rfl (fun ls hl => ?_)
    refine lv_iconst (v := 1) hx hb dL_rowHeight_15 (by decide) ?_
    have B := bd_sub (ws' := []) [] (by decide) rfl B
    exact x_iret B hr (⟨rfl, rfl⟩) (Nat.le_of_ble_eq_true rfl) (Nat.le_of_ble_eq_true rfl) dL_rowHeight_16
  · exact hp.elim

theorem mw_1362 : (Jvm.Cond.methodLink "GalleyforgeLaw" (73 : Nat) ({ cls := "Galleyforge", name := "lines", desc := "(II)I" } : Jvm.MethodName)) ∈ gt := gt_at 1497 (by decide +kernel) (by decide +kernel)
theorem mw_1363 : (Jvm.Cond.instanceMethod ({ cls := "Galleyforge", name := "lines", desc := "(II)I" } : Jvm.MethodName)) ∈ gt := gt_at 1498 (by decide +kernel) (by decide +kernel)
theorem mw_1364 : (Jvm.Cond.selects "Galleyforge" ({ cls := "Galleyforge", name := "lines", desc := "(II)I" } : Jvm.MethodName) ({ cls := "Galleyforge", name := "lines", desc := "(II)I" } : Jvm.MethodName)) ∈ gt := gt_at 1499 (by decide +kernel) (by decide +kernel)
theorem mw_1365 : (Jvm.Cond.code ({ cls := "Galleyforge", name := "lines", desc := "(II)I" } : Jvm.MethodName) prog_1_method_22_code (3 : Nat) (Option.some Jvm.ClassFile.FieldType.int)) ∈ gt := gt_at 1500 (by decide +kernel) (by decide +kernel)
theorem mV_X11_lines : mV yX11_lines cX11_lines 3 (some .int) 2 := ⟨⟨mw_1365, mw_1, by decide, by decide, by decide +kernel⟩, mw_1363, mw_1364⟩
theorem dL_lines_0 : decode cL_lines 0 = .ok (.aload_n 3, 1) := by decide +kernel
theorem dL_lines_1 : decode cL_lines 1 = .ok (.iconst 0, 1) := by decide +kernel
theorem dL_lines_2 : decode cL_lines 2 = .ok (.aload_n 0, 1) := by decide +kernel
theorem dL_lines_3 : decode cL_lines 3 = .ok (.iload_n 1, 1) := by decide +kernel
theorem dL_lines_4 : decode cL_lines 4 = .ok (.iload_n 2, 1) := by decide +kernel
theorem dL_lines_5 : decode cL_lines 5 = .ok (.invokevirtual 73, 3) := by decide +kernel
theorem dL_lines_13 : decode cL_lines 13 = .ok (.astore 4, 2) := by decide +kernel
theorem dL_lines_15 : decode cL_lines 15 = .ok (.iconst 1, 1) := by decide +kernel
theorem dL_lines_16 : decode cL_lines 16 = .ok (.ireturn, 1) := by decide +kernel
set_option maxHeartbeats 4000000 in
set_option maxRecDepth 100000 in
theorem w_lines (l : Launch) (dC : Nat → ClassId) (dI : Nat → Nat → Nat) (k : Nat → ClassId) (hl0 : l.stackTraces = false) (gx : Nat) (T : Nat) (LA : Nat) (sp : Nat) (dr : Nat) (bl : Nat) (pt : Nat) (fk : Nat) (fh : Nat) (ky : Nat) (x1 : Int32) (x2 : Int32) (ou : Nat) : Ct l dC dI k yL_lines (.codeWith yL_lines cL_lines 5 (some .int) [(0, 10, 13, 13)]) ({ frames := 8, cells := 2, slots := 12, locals := 125 } : Room) [.ref gx, .int x1, .int x2, .ref ou] [(gx, .inr (9, [.ref T, .ref LA, .ref sp, .int 0, .ref dr])), (T, .inr (8, [.ref bl, .ref pt, .ref fk, .ref fh, .int 0, .ref ky, .int 60, .int 12])), (bl, .inr (11, [.int 0, .ref (dI 99 1), .int 0])), (ou, .inl (k 2, 1, .inr (.inl (fun _ => 0))))] (fun r w => (r = some (.int 1) ∧ w = [])) := by
  refine cw_of (by decide) (Nat.le_of_ble_eq_true rfl) ?_
  intro p e s m args below meth c H locs B hr hT ls hl
  have hx := B.1.1
  have hb := B.1.2.1
  have hl : lv_has ls 5 [(0, .ref gx), (1, .int x1), (2, .int x2), (3, .ref ou)] := hl
  refine lv_aload_n hx hb dL_lines_0 rfl (lv_at hl 3 rfl) ?_
  refine lv_iconst (v := 0) hx hb dL_lines_1 (by decide) ?_
  refine lv_aload_n hx hb dL_lines_2 rfl (lv_at hl 0 rfl) ?_
  refine lv_iload_n hx hb dL_lines_3 rfl (lv_at hl 1 rfl) ?_
  refine lv_iload_n hx hb dL_lines_4 rfl (lv_at hl 2 rfl) ?_
  refine x_callVx (rest := [.int 0, .ref ou]) (wr := [(ou, .inl (k 2, 1, .inr (.inl (fun _ => 0))))]) (c_lines l dC dI k hl0 gx T LA sp dr bl pt fk fh ky x1 x2) B mV_X11_lines mw_1362 hl [0, 1, 2] [3] rfl rfl ⟨by decide, by decide⟩ (by decide) (q0 := 0) rfl rfl rfl ⟨Nat.le_of_ble_eq_true rfl, Nat.le_of_ble_eq_true rfl⟩ (Nat.le_of_ble_eq_true rfl) rfl dL_lines_5 ⟨Nat.le_of_ble_eq_true rfl, Nat.le_of_ble_eq_true rfl⟩ (fun E ce q9 H locs hp B h1 h2 h3 => ?_) (fun r w H locs hp B => ?_)
  · rcases hp with rfl
    refine vx_catch B.1.2.2.2.1 [] ⟨0, 10, 13, 13⟩ [] (hT.trans rfl) (fun z hz => by cases hz) (by decide) (by decide) (B.1.2.2.2.2.1 _ mw_506) (ca.use (B.2.1.2.2.2.2.2.2.1.1 _ (by decide +kernel))) h1 h2 h3 ?_
    skip
    have B := bd_to (ws' := [(ou, .inl (k 2, 1, .inr (.inl (fun _ => 0))))]) rfl B
    refine lv_astore (lv' := [(4, .ref q9), (0, .ref gx), (1, .int x1), (2, .int x2), (3, .ref ou)]) hx hb dL_lines_13 hl (by decide) rfl (fun ls hl => ?_)
    refine lv_iconst (v := 1) hx hb dL_lines_15 (by decide) ?_
    have B := bd_sub (ws' := []) [] (by decide) rfl B
    exact x_iret B hr (⟨rfl, rfl⟩) (Nat.le_of_ble_eq_true rfl) (Nat.le_of_ble_eq_true rfl) dL_lines_16
  · exact hp.elim

theorem mw_1677 : (Jvm.Cond.methodLink "GalleyforgeLaw" (76 : Nat) ({ cls := "Galleyforge", name := "lineEnd", desc := "(III)I" } : Jvm.MethodName)) ∈ gt := gt_at 1812 (by decide +kernel) (by decide +kernel)
theorem mw_1678 : (Jvm.Cond.instanceMethod ({ cls := "Galleyforge", name := "lineEnd", desc := "(III)I" } : Jvm.MethodName)) ∈ gt := gt_at 1813 (by decide +kernel) (by decide +kernel)
theorem mw_1679 : (Jvm.Cond.selects "Galleyforge" ({ cls := "Galleyforge", name := "lineEnd", desc := "(III)I" } : Jvm.MethodName) ({ cls := "Galleyforge", name := "lineEnd", desc := "(III)I" } : Jvm.MethodName)) ∈ gt := gt_at 1814 (by decide +kernel) (by decide +kernel)
theorem mw_1680 : (Jvm.Cond.code ({ cls := "Galleyforge", name := "lineEnd", desc := "(III)I" } : Jvm.MethodName) prog_1_method_23_code (5 : Nat) (Option.some Jvm.ClassFile.FieldType.int)) ∈ gt := gt_at 1815 (by decide +kernel) (by decide +kernel)
theorem mV_X11_lineEnd : mV yX11_lineEnd cX11_lineEnd 5 (some .int) 3 := ⟨⟨mw_1680, mw_1, by decide, by decide, by decide +kernel⟩, mw_1678, mw_1679⟩
theorem dL_lineEnd_0 : decode cL_lineEnd 0 = .ok (.aload 4, 2) := by decide +kernel
theorem dL_lineEnd_2 : decode cL_lineEnd 2 = .ok (.iconst 0, 1) := by decide +kernel
theorem dL_lineEnd_3 : decode cL_lineEnd 3 = .ok (.aload_n 0, 1) := by decide +kernel
theorem dL_lineEnd_4 : decode cL_lineEnd 4 = .ok (.iload_n 1, 1) := by decide +kernel
theorem dL_lineEnd_5 : decode cL_lineEnd 5 = .ok (.iload_n 2, 1) := by decide +kernel
theorem dL_lineEnd_6 : decode cL_lineEnd 6 = .ok (.iload_n 3, 1) := by decide +kernel
theorem dL_lineEnd_7 : decode cL_lineEnd 7 = .ok (.invokevirtual 76, 3) := by decide +kernel
theorem dL_lineEnd_15 : decode cL_lineEnd 15 = .ok (.astore 5, 2) := by decide +kernel
theorem dL_lineEnd_17 : decode cL_lineEnd 17 = .ok (.iconst 1, 1) := by decide +kernel
theorem dL_lineEnd_18 : decode cL_lineEnd 18 = .ok (.ireturn, 1) := by decide +kernel
set_option maxHeartbeats 4000000 in
set_option maxRecDepth 100000 in
theorem w_lineEnd (l : Launch) (dC : Nat → ClassId) (dI : Nat → Nat → Nat) (k : Nat → ClassId) (hl0 : l.stackTraces = false) (gx : Nat) (T : Nat) (LA : Nat) (sp : Nat) (dr : Nat) (bl : Nat) (pt : Nat) (fk : Nat) (fh : Nat) (ky : Nat) (LN : Nat) (ST : Nat) (L0 : Nat) (lc0 : Nat) (le0 : Nat) (ll0 : Nat) (ld0 : Nat) (wl0 : Nat) (op0 : Nat) (dg0 : Nat) (L1 : Nat) (lc1 : Nat) (le1 : Nat) (ll1 : Nat) (ld1 : Nat) (wl1 : Nat) (op1 : Nat) (dg1 : Nat) (R0 : Nat) (r00 : Nat) (r10 : Nat) (r20 : Nat) (r30 : Nat) (r40 : Nat) (r50 : Nat) (r60 : Nat) (r70 : Nat) (wr0 : Nat) (lr0 : Nat) (tt0 : Nat) (fr0 : Nat) (r80 : Nat) (r90 : Nat) (R1 : Nat) (r01 : Nat) (r11 : Nat) (r21 : Nat) (r31 : Nat) (r41 : Nat) (r51 : Nat) (r61 : Nat) (r71 : Nat) (wr1 : Nat) (lr1 : Nat) (tt1 : Nat) (fr1 : Nat) (r81 : Nat) (r91 : Nat) (P0 : Nat) (pg0 : Nat) (p00 : Nat) (p10 : Nat) (p20 : Nat) (p30 : Nat) (p40 : Nat) (p50 : Nat) (P1 : Nat) (pg1 : Nat) (p01 : Nat) (p11 : Nat) (p21 : Nat) (p31 : Nat) (p41 : Nat) (p51 : Nat) (v : Int32) (x1 : Int32) (x2 : Int32) (ou : Nat) : Ct l dC dI k yL_lineEnd (.codeWith yL_lineEnd cL_lineEnd 6 (some .int) [(0, 12, 15, 13)]) ({ frames := 9, cells := 2, slots := 12, locals := 150 } : Room) [.ref gx, .int v, .int x1, .int x2, .ref ou] [(gx, .inr (9, [.ref T, .ref LA, .ref sp, .int 0, .ref dr])), (LA, .inl (k 3, 2, .inr (.inr (.inr (.inr (va_up (va_up (fun _ => none) 0 (some L0)) 1 (some L1))))))), (T, .inr (8, [.ref bl, .ref pt, .ref fk, .ref fh, .int 0, .ref ky, .int 60, .int 12])), (bl, .inr (11, [.int 0, .ref (dI 99 1), .int 0])), (L0, .inr (1, [.ref T, .int 0, .ref LN, .ref R0, .ref P0, .int 1, .int 0, .ref lc0, .ref le0, .ref ll0, .ref ld0, .ref wl0, .ref op0, .int 0, .int 0, .int 1365, .ref dg0])), (dg0, .inl (k 0, 730, .inl (fun _ => 0))), (R0, .inr (5, [.int 0, .ref r00, .ref r10, .ref r20, .ref r30, .ref r40, .ref r50, .ref r60, .ref r70, .ref wr0, .ref lr0, .ref tt0, .int 0, .int 0, .ref fr0, .ref r80, .ref r90, .int 0])), (wr0, .inl (k 0, 192, .inl (fun _ => 0))), (lr0, .inl (k 0, 6, .inl (fun _ => 0))), (tt0, .inl (k 1, 8, .inl (fun _ => 0))), (fr0, .inl (k 0, 5, .inl (fun _ => 0))), (P0, .inr (4, [.ref T, .ref R0, .ref pg0, .ref ST, .int 0, .int 0, .ref p00, .ref p10, .ref p20, .ref p30, .ref p40, .ref p50])), (p50, .inl (k 0, 5, .inl (fun _ => 0))), (L1, .inr (1, [.ref T, .int 1, .ref LN, .ref R1, .ref P1, .int 1, .int 0, .ref lc1, .ref le1, .ref ll1, .ref ld1, .ref wl1, .ref op1, .int 0, .int 0, .int 1365, .ref dg1])), (dg1, .inl (k 0, 730, .inl (fun _ => 0))), (R1, .inr (5, [.int 0, .ref r01, .ref r11, .ref r21, .ref r31, .ref r41, .ref r51, .ref r61, .ref r71, .ref wr1, .ref lr1, .ref tt1, .int 0, .int 0, .ref fr1, .ref r81, .ref r91, .int 0])), (wr1, .inl (k 0, 192, .inl (fun _ => 0))), (lr1, .inl (k 0, 6, .inl (fun _ => 0))), (tt1, .inl (k 1, 8, .inl (fun _ => 0))), (fr1, .inl (k 0, 5, .inl (fun _ => 0))), (P1, .inr (4, [.ref T, .ref R1, .ref pg1, .ref ST, .int 0, .int 0, .ref p01, .ref p11, .ref p21, .ref p31, .ref p41, .ref p51])), (p51, .inl (k 0, 5, .inl (fun _ => 0))), (ou, .inl (k 2, 1, .inr (.inl (fun _ => 0))))] (fun r w => (r = some (.int 1) ∧ w = [])) := by
  refine cw_of (by decide) (Nat.le_of_ble_eq_true rfl) ?_
  intro p e s m args below meth c H locs B hr hT ls hl
  have hx := B.1.1
  have hb := B.1.2.1
  have hl : lv_has ls 6 [(0, .ref gx), (1, .int v), (2, .int x1), (3, .int x2), (4, .ref ou)] := hl
  refine lv_aload hx hb dL_lineEnd_0 (lv_at hl 4 rfl) ?_
  refine lv_iconst (v := 0) hx hb dL_lineEnd_2 (by decide) ?_
  refine lv_aload_n hx hb dL_lineEnd_3 rfl (lv_at hl 0 rfl) ?_
  refine lv_iload_n hx hb dL_lineEnd_4 rfl (lv_at hl 1 rfl) ?_
  refine lv_iload_n hx hb dL_lineEnd_5 rfl (lv_at hl 2 rfl) ?_
  refine lv_iload_n hx hb dL_lineEnd_6 rfl (lv_at hl 3 rfl) ?_
  refine x_callVx (rest := [.int 0, .ref ou]) (wr := [(ou, .inl (k 2, 1, .inr (.inl (fun _ => 0))))]) (c_lineEnd l dC dI k hl0 gx T LA sp dr bl pt fk fh ky LN ST L0 lc0 le0 ll0 ld0 wl0 op0 dg0 L1 lc1 le1 ll1 ld1 wl1 op1 dg1 R0 r00 r10 r20 r30 r40 r50 r60 r70 wr0 lr0 tt0 fr0 r80 r90 R1 r01 r11 r21 r31 r41 r51 r61 r71 wr1 lr1 tt1 fr1 r81 r91 P0 pg0 p00 p10 p20 p30 p40 p50 P1 pg1 p01 p11 p21 p31 p41 p51 v x1 x2) B mV_X11_lineEnd mw_1677 hl [0, 1, 2, 3, 4, 5, 6, 7, 8, 9, 10, 11, 12, 13, 14, 15, 16, 17, 18, 19, 20, 21] [22] rfl rfl ⟨by decide, by decide⟩ (by decide) (q0 := 0) rfl rfl rfl ⟨Nat.le_of_ble_eq_true rfl, Nat.le_of_ble_eq_true rfl⟩ (Nat.le_of_ble_eq_true rfl) rfl dL_lineEnd_7 ⟨Nat.le_of_ble_eq_true rfl, Nat.le_of_ble_eq_true rfl⟩ (fun E ce q9 H locs hp B h1 h2 h3 => ?_) (fun r w H locs hp B => ?_)
  · rcases hp with rfl
    refine vx_catch B.1.2.2.2.1 [] ⟨0, 12, 15, 13⟩ [] (hT.trans rfl) (fun z hz => by cases hz) (by decide) (by decide) (B.1.2.2.2.2.1 _ mw_506) (ca.use (B.2.1.2.2.2.2.2.2.1.1 _ (by decide +kernel))) h1 h2 h3 ?_
    skip
    have B := bd_to (ws' := [(ou, .inl (k 2, 1, .inr (.inl (fun _ => 0))))]) rfl B
    refine lv_astore (lv' := [(5, .ref q9), (0, .ref gx), (1, .int v), (2, .int x1), (3, .int x2), (4, .ref ou)]) hx hb dL_lineEnd_15 hl (by decide) rfl (fun ls hl => ?_)
    refine lv_iconst (v := 1) hx hb dL_lineEnd_17 (by decide) ?_
    have B := bd_sub (ws' := []) [] (by decide) rfl B
    exact x_iret B hr (⟨rfl, rfl⟩) (Nat.le_of_ble_eq_true rfl) (Nat.le_of_ble_eq_true rfl) dL_lineEnd_18
  · exact hp.elim

theorem mw_1689 : (Jvm.Cond.methodLink "GalleyforgeLaw" (79 : Nat) ({ cls := "Galleyforge", name := "tightness", desc := "(III)I" } : Jvm.MethodName)) ∈ gt := gt_at 1824 (by decide +kernel) (by decide +kernel)
theorem mw_1690 : (Jvm.Cond.instanceMethod ({ cls := "Galleyforge", name := "tightness", desc := "(III)I" } : Jvm.MethodName)) ∈ gt := gt_at 1825 (by decide +kernel) (by decide +kernel)
theorem mw_1691 : (Jvm.Cond.selects "Galleyforge" ({ cls := "Galleyforge", name := "tightness", desc := "(III)I" } : Jvm.MethodName) ({ cls := "Galleyforge", name := "tightness", desc := "(III)I" } : Jvm.MethodName)) ∈ gt := gt_at 1826 (by decide +kernel) (by decide +kernel)
theorem mw_1692 : (Jvm.Cond.code ({ cls := "Galleyforge", name := "tightness", desc := "(III)I" } : Jvm.MethodName) prog_1_method_24_code (5 : Nat) (Option.some Jvm.ClassFile.FieldType.int)) ∈ gt := gt_at 1827 (by decide +kernel) (by decide +kernel)
theorem mV_X11_tightness : mV yX11_tightness cX11_tightness 5 (some .int) 3 := ⟨⟨mw_1692, mw_1, by decide, by decide, by decide +kernel⟩, mw_1690, mw_1691⟩
theorem dL_tightness_0 : decode cL_tightness 0 = .ok (.aload 4, 2) := by decide +kernel
theorem dL_tightness_2 : decode cL_tightness 2 = .ok (.iconst 0, 1) := by decide +kernel
theorem dL_tightness_3 : decode cL_tightness 3 = .ok (.aload_n 0, 1) := by decide +kernel
theorem dL_tightness_4 : decode cL_tightness 4 = .ok (.iload_n 1, 1) := by decide +kernel
theorem dL_tightness_5 : decode cL_tightness 5 = .ok (.iload_n 2, 1) := by decide +kernel
theorem dL_tightness_6 : decode cL_tightness 6 = .ok (.iload_n 3, 1) := by decide +kernel
theorem dL_tightness_7 : decode cL_tightness 7 = .ok (.invokevirtual 79, 3) := by decide +kernel
theorem dL_tightness_15 : decode cL_tightness 15 = .ok (.astore 5, 2) := by decide +kernel
theorem dL_tightness_17 : decode cL_tightness 17 = .ok (.iconst 1, 1) := by decide +kernel
theorem dL_tightness_18 : decode cL_tightness 18 = .ok (.ireturn, 1) := by decide +kernel
set_option maxHeartbeats 4000000 in
set_option maxRecDepth 100000 in
theorem w_tightness (l : Launch) (dC : Nat → ClassId) (dI : Nat → Nat → Nat) (k : Nat → ClassId) (hl0 : l.stackTraces = false) (gx : Nat) (T : Nat) (LA : Nat) (sp : Nat) (dr : Nat) (bl : Nat) (pt : Nat) (fk : Nat) (fh : Nat) (ky : Nat) (LN : Nat) (ST : Nat) (L0 : Nat) (lc0 : Nat) (le0 : Nat) (ll0 : Nat) (ld0 : Nat) (wl0 : Nat) (op0 : Nat) (dg0 : Nat) (L1 : Nat) (lc1 : Nat) (le1 : Nat) (ll1 : Nat) (ld1 : Nat) (wl1 : Nat) (op1 : Nat) (dg1 : Nat) (R0 : Nat) (r00 : Nat) (r10 : Nat) (r20 : Nat) (r30 : Nat) (r40 : Nat) (r50 : Nat) (r60 : Nat) (r70 : Nat) (wr0 : Nat) (lr0 : Nat) (tt0 : Nat) (fr0 : Nat) (r80 : Nat) (r90 : Nat) (R1 : Nat) (r01 : Nat) (r11 : Nat) (r21 : Nat) (r31 : Nat) (r41 : Nat) (r51 : Nat) (r61 : Nat) (r71 : Nat) (wr1 : Nat) (lr1 : Nat) (tt1 : Nat) (fr1 : Nat) (r81 : Nat) (r91 : Nat) (P0 : Nat) (pg0 : Nat) (p00 : Nat) (p10 : Nat) (p20 : Nat) (p30 : Nat) (p40 : Nat) (p50 : Nat) (P1 : Nat) (pg1 : Nat) (p01 : Nat) (p11 : Nat) (p21 : Nat) (p31 : Nat) (p41 : Nat) (p51 : Nat) (v : Int32) (x1 : Int32) (x2 : Int32) (ou : Nat) : Ct l dC dI k yL_tightness (.codeWith yL_tightness cL_tightness 6 (some .int) [(0, 12, 15, 13)]) ({ frames := 9, cells := 2, slots := 12, locals := 150 } : Room) [.ref gx, .int v, .int x1, .int x2, .ref ou] [(gx, .inr (9, [.ref T, .ref LA, .ref sp, .int 0, .ref dr])), (LA, .inl (k 3, 2, .inr (.inr (.inr (.inr (va_up (va_up (fun _ => none) 0 (some L0)) 1 (some L1))))))), (T, .inr (8, [.ref bl, .ref pt, .ref fk, .ref fh, .int 0, .ref ky, .int 60, .int 12])), (bl, .inr (11, [.int 0, .ref (dI 99 1), .int 0])), (L0, .inr (1, [.ref T, .int 0, .ref LN, .ref R0, .ref P0, .int 1, .int 0, .ref lc0, .ref le0, .ref ll0, .ref ld0, .ref wl0, .ref op0, .int 0, .int 0, .int 1365, .ref dg0])), (dg0, .inl (k 0, 730, .inl (fun _ => 0))), (R0, .inr (5, [.int 0, .ref r00, .ref r10, .ref r20, .ref r30, .ref r40, .ref r50, .ref r60, .ref r70, .ref wr0, .ref lr0, .ref tt0, .int 0, .int 0, .ref fr0, .ref r80, .ref r90, .int 0])), (wr0, .inl (k 0, 192, .inl (fun _ => 0))), (lr0, .inl (k 0, 6, .inl (fun _ => 0))), (tt0, .inl (k 1, 8, .inl (fun _ => 0))), (fr0, .inl (k 0, 5, .inl (fun _ => 0))), (P0, .inr (4, [.ref T, .ref R0, .ref pg0, .ref ST, .int 0, .int 0, .ref p00, .ref p10, .ref p20, .ref p30, .ref p40, .ref p50])), (p50, .inl (k 0, 5, .inl (fun _ => 0))), (L1, .inr (1, [.ref T, .int 1, .ref LN, .ref R1, .ref P1, .int 1, .int 0, .ref lc1, .ref le1, .ref ll1, .ref ld1, .ref wl1, .ref op1, .int 0, .int 0, .int 1365, .ref dg1])), (dg1, .inl (k 0, 730, .inl (fun _ => 0))), (R1, .inr (5, [.int 0, .ref r01, .ref r11, .ref r21, .ref r31, .ref r41, .ref r51, .ref r61, .ref r71, .ref wr1, .ref lr1, .ref tt1, .int 0, .int 0, .ref fr1, .ref r81, .ref r91, .int 0])), (wr1, .inl (k 0, 192, .inl (fun _ => 0))), (lr1, .inl (k 0, 6, .inl (fun _ => 0))), (tt1, .inl (k 1, 8, .inl (fun _ => 0))), (fr1, .inl (k 0, 5, .inl (fun _ => 0))), (P1, .inr (4, [.ref T, .ref R1, .ref pg1, .ref ST, .int 0, .int 0, .ref p01, .ref p11, .ref p21, .ref p31, .ref p41, .ref p51])), (p51, .inl (k 0, 5, .inl (fun _ => 0))), (ou, .inl (k 2, 1, .inr (.inl (fun _ => 0))))] (fun r w => (r = some (.int 1) ∧ w = [])) := by
  refine cw_of (by decide) (Nat.le_of_ble_eq_true rfl) ?_
  intro p e s m args below meth c H locs B hr hT ls hl
  have hx := B.1.1
  have hb := B.1.2.1
  have hl : lv_has ls 6 [(0, .ref gx), (1, .int v), (2, .int x1), (3, .int x2), (4, .ref ou)] := hl
  refine lv_aload hx hb dL_tightness_0 (lv_at hl 4 rfl) ?_
  refine lv_iconst (v := 0) hx hb dL_tightness_2 (by decide) ?_
  refine lv_aload_n hx hb dL_tightness_3 rfl (lv_at hl 0 rfl) ?_
  refine lv_iload_n hx hb dL_tightness_4 rfl (lv_at hl 1 rfl) ?_
  refine lv_iload_n hx hb dL_tightness_5 rfl (lv_at hl 2 rfl) ?_
  refine lv_iload_n hx hb dL_tightness_6 rfl (lv_at hl 3 rfl) ?_
  refine x_callVx (rest := [.int 0, .ref ou]) (wr := [(ou, .inl (k 2, 1, .inr (.inl (fun _ => 0))))]) (c_tightness l dC dI k hl0 gx T LA sp dr bl pt fk fh ky LN ST L0 lc0 le0 ll0 ld0 wl0 op0 dg0 L1 lc1 le1 ll1 ld1 wl1 op1 dg1 R0 r00 r10 r20 r30 r40 r50 r60 r70 wr0 lr0 tt0 fr0 r80 r90 R1 r01 r11 r21 r31 r41 r51 r61 r71 wr1 lr1 tt1 fr1 r81 r91 P0 pg0 p00 p10 p20 p30 p40 p50 P1 pg1 p01 p11 p21 p31 p41 p51 v x1 x2) B mV_X11_tightness mw_1689 hl [0, 1, 2, 3, 4, 5, 6, 7, 8, 9, 10, 11, 12, 13, 14, 15, 16, 17, 18, 19, 20, 21] [22] rfl rfl ⟨by decide, by decide⟩ (by decide) (q0 := 0) rfl rfl rfl ⟨Nat.le_of_ble_eq_true rfl, Nat.le_of_ble_eq_true rfl⟩ (Nat.le_of_ble_eq_true rfl) rfl dL_tightness_7 ⟨Nat.le_of_ble_eq_true rfl, Nat.le_of_ble_eq_true rfl⟩ (fun E ce q9 H locs hp B h1 h2 h3 => ?_) (fun r w H locs hp B => ?_)
  · rcases hp with rfl
    refine vx_catch B.1.2.2.2.1 [] ⟨0, 12, 15, 13⟩ [] (hT.trans rfl) (fun z hz => by cases hz) (by decide) (by decide) (B.1.2.2.2.2.1 _ mw_506) (ca.use (B.2.1.2.2.2.2.2.2.1.1 _ (by decide +kernel))) h1 h2 h3 ?_
    skip
    have B := bd_to (ws' := [(ou, .inl (k 2, 1, .inr (.inl (fun _ => 0))))]) rfl B
    refine lv_astore (lv' := [(5, .ref q9), (0, .ref gx), (1, .int v), (2, .int x1), (3, .int x2), (4, .ref ou)]) hx hb dL_tightness_15 hl (by decide) rfl (fun ls hl => ?_)
    refine lv_iconst (v := 1) hx hb dL_tightness_17 (by decide) ?_
    have B := bd_sub (ws' := []) [] (by decide) rfl B
    exact x_iret B hr (⟨rfl, rfl⟩) (Nat.le_of_ble_eq_true rfl) (Nat.le_of_ble_eq_true rfl) dL_tightness_18
  · exact hp.elim

theorem mw_1696 : (Jvm.Cond.methodLink "GalleyforgeLaw" (82 : Nat) ({ cls := "Galleyforge", name := "demerits", desc := "(II)J" } : Jvm.MethodName)) ∈ gt := gt_at 1831 (by decide +kernel) (by decide +kernel)
theorem mw_1697 : (Jvm.Cond.instanceMethod ({ cls := "Galleyforge", name := "demerits", desc := "(II)J" } : Jvm.MethodName)) ∈ gt := gt_at 1832 (by decide +kernel) (by decide +kernel)
theorem mw_1698 : (Jvm.Cond.selects "Galleyforge" ({ cls := "Galleyforge", name := "demerits", desc := "(II)J" } : Jvm.MethodName) ({ cls := "Galleyforge", name := "demerits", desc := "(II)J" } : Jvm.MethodName)) ∈ gt := gt_at 1833 (by decide +kernel) (by decide +kernel)
theorem mw_1699 : (Jvm.Cond.code ({ cls := "Galleyforge", name := "demerits", desc := "(II)J" } : Jvm.MethodName) prog_1_method_25_code (3 : Nat) (Option.some Jvm.ClassFile.FieldType.long)) ∈ gt := gt_at 1834 (by decide +kernel) (by decide +kernel)
theorem mV_X11_demerits : mV yX11_demerits cX11_demerits 3 (some .long) 2 := ⟨⟨mw_1699, mw_1, by decide, by decide, by decide +kernel⟩, mw_1697, mw_1698⟩
theorem dL_demerits_0 : decode cL_demerits 0 = .ok (.aload_n 3, 1) := by decide +kernel
theorem dL_demerits_1 : decode cL_demerits 1 = .ok (.iconst 0, 1) := by decide +kernel
theorem dL_demerits_2 : decode cL_demerits 2 = .ok (.aload_n 0, 1) := by decide +kernel
theorem dL_demerits_3 : decode cL_demerits 3 = .ok (.iload_n 1, 1) := by decide +kernel
theorem dL_demerits_4 : decode cL_demerits 4 = .ok (.iload_n 2, 1) := by decide +kernel
theorem dL_demerits_5 : decode cL_demerits 5 = .ok (.invokevirtual 82, 3) := by decide +kernel
theorem dL_demerits_12 : decode cL_demerits 12 = .ok (.astore 4, 2) := by decide +kernel
theorem dL_demerits_14 : decode cL_demerits 14 = .ok (.iconst 1, 1) := by decide +kernel
theorem dL_demerits_15 : decode cL_demerits 15 = .ok (.ireturn, 1) := by decide +kernel
set_option maxHeartbeats 4000000 in
set_option maxRecDepth 100000 in
theorem w_demerits (l : Launch) (dC : Nat → ClassId) (dI : Nat → Nat → Nat) (k : Nat → ClassId) (hl0 : l.stackTraces = false) (gx : Nat) (T : Nat) (LA : Nat) (sp : Nat) (dr : Nat) (bl : Nat) (pt : Nat) (fk : Nat) (fh : Nat) (ky : Nat) (x1 : Int32) (x2 : Int32) (ou : Nat) : Ct l dC dI k yL_demerits (.codeWith yL_demerits cL_demerits 5 (some .int) [(0, 9, 12, 13)]) ({ frames := 8, cells := 2, slots := 12, locals := 125 } : Room) [.ref gx, .int x1, .int x2, .ref ou] [(gx, .inr (9, [.ref T, .ref LA, .ref sp, .int 0, .ref dr])), (T, .inr (8, [.ref bl, .ref pt, .ref fk, .ref fh, .int 0, .ref ky, .int 60, .int 12])), (bl, .inr (11, [.int 0, .ref (dI 99 1), .int 0])), (ou, .inl (k 2, 1, .inr (.inl (fun _ => 0))))] (fun r w => (r = some (.int 1) ∧ w = [])) := by
  refine cw_of (by decide) (Nat.le_of_ble_eq_true rfl) ?_
  intro p e s m args below meth c H locs B hr hT ls hl
  have hx := B.1.1
  have hb := B.1.2.1
  have hl : lv_has ls 5 [(0, .ref gx), (1, .int x1), (2, .int x2), (3, .ref ou)] := hl
  refine lv_aload_n hx hb dL_demerits_0 rfl (lv_at hl 3 rfl) ?_
  refine lv_iconst (v := 0) hx hb dL_demerits_1 (by decide) ?_
  refine lv_aload_n hx hb dL_demerits_2 rfl (lv_at hl 0 rfl) ?_
  refine lv_iload_n hx hb dL_demerits_3 rfl (lv_at hl 1 rfl) ?_
  refine lv_iload_n hx hb dL_demerits_4 rfl (lv_at hl 2 rfl) ?_
  refine x_callVx (rest := [.int 0, .ref ou]) (wr := [(ou, .inl (k 2, 1, .inr (.inl (fun _ => 0))))]) (c_demerits l dC dI k hl0 gx T LA sp dr bl pt fk fh ky x1 x2) B mV_X11_demerits mw_1696 hl [0, 1, 2] [3] rfl rfl ⟨by decide, by decide⟩ (by decide) (q0 := 0) rfl rfl rfl ⟨Nat.le_of_ble_eq_true rfl, Nat.le_of_ble_eq_true rfl⟩ (Nat.le_of_ble_eq_true rfl) rfl dL_demerits_5 ⟨Nat.le_of_ble_eq_true rfl, Nat.le_of_ble_eq_true rfl⟩ (fun E ce q9 H locs hp B h1 h2 h3 => ?_) (fun r w H locs hp B => ?_)
  · rcases hp with rfl
    refine vx_catch B.1.2.2.2.1 [] ⟨0, 9, 12, 13⟩ [] (hT.trans rfl) (fun z hz => by cases hz) (by decide) (by decide) (B.1.2.2.2.2.1 _ mw_506) (ca.use (B.2.1.2.2.2.2.2.2.1.1 _ (by decide +kernel))) h1 h2 h3 ?_
    skip
    have B := bd_to (ws' := [(ou, .inl (k 2, 1, .inr (.inl (fun _ => 0))))]) rfl B
    refine lv_astore (lv' := [(4, .ref q9), (0, .ref gx), (1, .int x1), (2, .int x2), (3, .ref ou)]) hx hb dL_demerits_12 hl (by decide) rfl (fun ls hl => ?_)
    refine lv_iconst (v := 1) hx hb dL_demerits_14 (by decide) ?_
    have B := bd_sub (ws' := []) [] (by decide) rfl B
    exact x_iret B hr (⟨rfl, rfl⟩) (Nat.le_of_ble_eq_true rfl) (Nat.le_of_ble_eq_true rfl) dL_demerits_15
  · exact hp.elim

theorem mw_1703 : (Jvm.Cond.methodLink "GalleyforgeLaw" (86 : Nat) ({ cls := "Galleyforge", name := "demeritsByAll", desc := "(II)J" } : Jvm.MethodName)) ∈ gt := gt_at 1838 (by decide +kernel) (by decide +kernel)
theorem mw_1704 : (Jvm.Cond.instanceMethod ({ cls := "Galleyforge", name := "demeritsByAll", desc := "(II)J" } : Jvm.MethodName)) ∈ gt := gt_at 1839 (by decide +kernel) (by decide +kernel)
theorem mw_1705 : (Jvm.Cond.selects "Galleyforge" ({ cls := "Galleyforge", name := "demeritsByAll", desc := "(II)J" } : Jvm.MethodName) ({ cls := "Galleyforge", name := "demeritsByAll", desc := "(II)J" } : Jvm.MethodName)) ∈ gt := gt_at 1840 (by decide +kernel) (by decide +kernel)
theorem mw_1706 : (Jvm.Cond.code ({ cls := "Galleyforge", name := "demeritsByAll", desc := "(II)J" } : Jvm.MethodName) prog_1_method_26_code (3 : Nat) (Option.some Jvm.ClassFile.FieldType.long)) ∈ gt := gt_at 1841 (by decide +kernel) (by decide +kernel)
theorem mV_X11_demeritsByAll : mV yX11_demeritsByAll cX11_demeritsByAll 3 (some .long) 2 := ⟨⟨mw_1706, mw_1, by decide, by decide, by decide +kernel⟩, mw_1704, mw_1705⟩
theorem dL_demeritsByAll_0 : decode cL_demeritsByAll 0 = .ok (.aload_n 3, 1) := by decide +kernel
theorem dL_demeritsByAll_1 : decode cL_demeritsByAll 1 = .ok (.iconst 0, 1) := by decide +kernel
theorem dL_demeritsByAll_2 : decode cL_demeritsByAll 2 = .ok (.aload_n 0, 1) := by decide +kernel
theorem dL_demeritsByAll_3 : decode cL_demeritsByAll 3 = .ok (.iload_n 1, 1) := by decide +kernel
theorem dL_demeritsByAll_4 : decode cL_demeritsByAll 4 = .ok (.iload_n 2, 1) := by decide +kernel
theorem dL_demeritsByAll_5 : decode cL_demeritsByAll 5 = .ok (.invokevirtual 86, 3) := by decide +kernel
theorem dL_demeritsByAll_12 : decode cL_demeritsByAll 12 = .ok (.astore 4, 2) := by decide +kernel
theorem dL_demeritsByAll_14 : decode cL_demeritsByAll 14 = .ok (.iconst 1, 1) := by decide +kernel
theorem dL_demeritsByAll_15 : decode cL_demeritsByAll 15 = .ok (.ireturn, 1) := by decide +kernel
set_option maxHeartbeats 4000000 in
set_option maxRecDepth 100000 in
theorem w_demeritsByAll (l : Launch) (dC : Nat → ClassId) (dI : Nat → Nat → Nat) (k : Nat → ClassId) (hl0 : l.stackTraces = false) (gx : Nat) (T : Nat) (LA : Nat) (sp : Nat) (dr : Nat) (bl : Nat) (pt : Nat) (fk : Nat) (fh : Nat) (ky : Nat) (x1 : Int32) (x2 : Int32) (ou : Nat) : Ct l dC dI k yL_demeritsByAll (.codeWith yL_demeritsByAll cL_demeritsByAll 5 (some .int) [(0, 9, 12, 13)]) ({ frames := 8, cells := 2, slots := 12, locals := 125 } : Room) [.ref gx, .int x1, .int x2, .ref ou] [(gx, .inr (9, [.ref T, .ref LA, .ref sp, .int 0, .ref dr])), (T, .inr (8, [.ref bl, .ref pt, .ref fk, .ref fh, .int 0, .ref ky, .int 60, .int 12])), (bl, .inr (11, [.int 0, .ref (dI 99 1), .int 0])), (ou, .inl (k 2, 1, .inr (.inl (fun _ => 0))))] (fun r w => (r = some (.int 1) ∧ w = [])) := by
  refine cw_of (by decide) (Nat.le_of_ble_eq_true rfl) ?_
  intro p e s m args below meth c H locs B hr hT ls hl
  have hx := B.1.1
  have hb := B.1.2.1
  have hl : lv_has ls 5 [(0, .ref gx), (1, .int x1), (2, .int x2), (3, .ref ou)] := hl
  refine lv_aload_n hx hb dL_demeritsByAll_0 rfl (lv_at hl 3 rfl) ?_
  refine lv_iconst (v := 0) hx hb dL_demeritsByAll_1 (by decide) ?_
  refine lv_aload_n hx hb dL_demeritsByAll_2 rfl (lv_at hl 0 rfl) ?_
  refine lv_iload_n hx hb dL_demeritsByAll_3 rfl (lv_at hl 1 rfl) ?_
  refine lv_iload_n hx hb dL_demeritsByAll_4 rfl (lv_at hl 2 rfl) ?_
  refine x_callVx (rest := [.int 0, .ref ou]) (wr := [(ou, .inl (k 2, 1, .inr (.inl (fun _ => 0))))]) (c_demeritsByAll l dC dI k hl0 gx T LA sp dr bl pt fk fh ky x1 x2) B mV_X11_demeritsByAll mw_1703 hl [0, 1, 2] [3] rfl rfl ⟨by decide, by decide⟩ (by decide) (q0 := 0) rfl rfl rfl ⟨Nat.le_of_ble_eq_true rfl, Nat.le_of_ble_eq_true rfl⟩ (Nat.le_of_ble_eq_true rfl) rfl dL_demeritsByAll_5 ⟨Nat.le_of_ble_eq_true rfl, Nat.le_of_ble_eq_true rfl⟩ (fun E ce q9 H locs hp B h1 h2 h3 => ?_) (fun r w H locs hp B => ?_)
  · rcases hp with rfl
    refine vx_catch B.1.2.2.2.1 [] ⟨0, 9, 12, 13⟩ [] (hT.trans rfl) (fun z hz => by cases hz) (by decide) (by decide) (B.1.2.2.2.2.1 _ mw_506) (ca.use (B.2.1.2.2.2.2.2.2.1.1 _ (by decide +kernel))) h1 h2 h3 ?_
    skip
    have B := bd_to (ws' := [(ou, .inl (k 2, 1, .inr (.inl (fun _ => 0))))]) rfl B
    refine lv_astore (lv' := [(4, .ref q9), (0, .ref gx), (1, .int x1), (2, .int x2), (3, .ref ou)]) hx hb dL_demeritsByAll_12 hl (by decide) rfl (fun ls hl => ?_)
    refine lv_iconst (v := 1) hx hb dL_demeritsByAll_14 (by decide) ?_
    have B := bd_sub (ws' := []) [] (by decide) rfl B
    exact x_iret B hr (⟨rfl, rfl⟩) (Nat.le_of_ble_eq_true rfl) (Nat.le_of_ble_eq_true rfl) dL_demeritsByAll_15
  · exact hp.elim

theorem mw_1722 : (Jvm.Cond.methodLink "GalleyforgeLaw" (89 : Nat) ({ cls := "Galleyforge", name := "pages", desc := "(I)I" } : Jvm.MethodName)) ∈ gt := gt_at 1857 (by decide +kernel) (by decide +kernel)
theorem mw_1723 : (Jvm.Cond.instanceMethod ({ cls := "Galleyforge", name := "pages", desc := "(I)I" } : Jvm.MethodName)) ∈ gt := gt_at 1858 (by decide +kernel) (by decide +kernel)
theorem mw_1724 : (Jvm.Cond.selects "Galleyforge" ({ cls := "Galleyforge", name := "pages", desc := "(I)I" } : Jvm.MethodName) ({ cls := "Galleyforge", name := "pages", desc := "(I)I" } : Jvm.MethodName)) ∈ gt := gt_at 1859 (by decide +kernel) (by decide +kernel)
theorem mw_1725 : (Jvm.Cond.code ({ cls := "Galleyforge", name := "pages", desc := "(I)I" } : Jvm.MethodName) prog_1_method_27_code (2 : Nat) (Option.some Jvm.ClassFile.FieldType.int)) ∈ gt := gt_at 1860 (by decide +kernel) (by decide +kernel)
theorem mV_X11_pages : mV yX11_pages cX11_pages 2 (some .int) 1 := ⟨⟨mw_1725, mw_1, by decide, by decide, by decide +kernel⟩, mw_1723, mw_1724⟩
theorem dL_pages_0 : decode cL_pages 0 = .ok (.aload_n 2, 1) := by decide +kernel
theorem dL_pages_1 : decode cL_pages 1 = .ok (.iconst 0, 1) := by decide +kernel
theorem dL_pages_2 : decode cL_pages 2 = .ok (.aload_n 0, 1) := by decide +kernel
theorem dL_pages_3 : decode cL_pages 3 = .ok (.iload_n 1, 1) := by decide +kernel
theorem dL_pages_4 : decode cL_pages 4 = .ok (.invokevirtual 89, 3) := by decide +kernel
theorem dL_pages_7 : decode cL_pages 7 = .ok (.i2l, 1) := by decide +kernel
theorem dL_pages_8 : decode cL_pages 8 = .ok (.lastore, 1) := by decide +kernel
theorem dL_pages_9 : decode cL_pages 9 = .ok (.goto 6, 3) := by decide +kernel
theorem dL_pages_12 : decode cL_pages 12 = .ok (.astore_n 3, 1) := by decide +kernel
theorem dL_pages_13 : decode cL_pages 13 = .ok (.iconst 1, 1) := by decide +kernel
theorem dL_pages_14 : decode cL_pages 14 = .ok (.ireturn, 1) := by decide +kernel
theorem dL_pages_15 : decode cL_pages 15 = .ok (.iconst 0, 1) := by decide +kernel
theorem dL_pages_16 : decode cL_pages 16 = .ok (.ireturn, 1) := by decide +kernel
set_option maxHeartbeats 4000000 in
set_option maxRecDepth 100000 in
theorem w_pages (l : Launch) (dC : Nat → ClassId) (dI : Nat → Nat → Nat) (k : Nat → ClassId) (hl0 : l.stackTraces = false) (gx : Nat) (T : Nat) (LA : Nat) (sp : Nat) (dr : Nat) (bl : Nat) (pt : Nat) (fk : Nat) (fh : Nat) (ky : Nat) (LN : Nat) (ST : Nat) (L0 : Nat) (lc0 : Nat) (le0 : Nat) (ll0 : Nat) (ld0 : Nat) (wl0 : Nat) (op0 : Nat) (dg0 : Nat) (L1 : Nat) (lc1 : Nat) (le1 : Nat) (ll1 : Nat) (ld1 : Nat) (wl1 : Nat) (op1 : Nat) (dg1 : Nat) (R0 : Nat) (r00 : Nat) (r10 : Nat) (r20 : Nat) (r30 : Nat) (r40 : Nat) (r50 : Nat) (r60 : Nat) (r70 : Nat) (wr0 : Nat) (lr0 : Nat) (tt0 : Nat) (fr0 : Nat) (r80 : Nat) (r90 : Nat) (R1 : Nat) (r01 : Nat) (r11 : Nat) (r21 : Nat) (r31 : Nat) (r41 : Nat) (r51 : Nat) (r61 : Nat) (r71 : Nat) (wr1 : Nat) (lr1 : Nat) (tt1 : Nat) (fr1 : Nat) (r81 : Nat) (r91 : Nat) (P0 : Nat) (pg0 : Nat) (p00 : Nat) (p10 : Nat) (p20 : Nat) (p30 : Nat) (p40 : Nat) (p50 : Nat) (P1 : Nat) (pg1 : Nat) (p01 : Nat) (p11 : Nat) (p21 : Nat) (p31 : Nat) (p41 : Nat) (p51 : Nat) (v : Int32) (ou : Nat) : Ct l dC dI k yL_pages (.codeWith yL_pages cL_pages 4 (some .int) [(0, 9, 12, 13)]) ({ frames := 9, cells := 1, slots := 6, locals := 146 } : Room) [.ref gx, .int v, .ref ou] [(gx, .inr (9, [.ref T, .ref LA, .ref sp, .int 0, .ref dr])), (LA, .inl (k 3, 2, .inr (.inr (.inr (.inr (va_up (va_up (fun _ => none) 0 (some L0)) 1 (some L1))))))), (T, .inr (8, [.ref bl, .ref pt, .ref fk, .ref fh, .int 0, .ref ky, .int 60, .int 12])), (bl, .inr (11, [.int 0, .ref (dI 99 1), .int 0])), (L0, .inr (1, [.ref T, .int 0, .ref LN, .ref R0, .ref P0, .int 1, .int 0, .ref lc0, .ref le0, .ref ll0, .ref ld0, .ref wl0, .ref op0, .int 0, .int 0, .int 1365, .ref dg0])), (dg0, .inl (k 0, 730, .inl (fun _ => 0))), (R0, .inr (5, [.int 0, .ref r00, .ref r10, .ref r20, .ref r30, .ref r40, .ref r50, .ref r60, .ref r70, .ref wr0, .ref lr0, .ref tt0, .int 0, .int 0, .ref fr0, .ref r80, .ref r90, .int 0])), (wr0, .inl (k 0, 192, .inl (fun _ => 0))), (lr0, .inl (k 0, 6, .inl (fun _ => 0))), (tt0, .inl (k 1, 8, .inl (fun _ => 0))), (fr0, .inl (k 0, 5, .inl (fun _ => 0))), (P0, .inr (4, [.ref T, .ref R0, .ref pg0, .ref ST, .int 0, .int 0, .ref p00, .ref p10, .ref p20, .ref p30, .ref p40, .ref p50])), (p50, .inl (k 0, 5, .inl (fun _ => 0))), (L1, .inr (1, [.ref T, .int 1, .ref LN, .ref R1, .ref P1, .int 1, .int 0, .ref lc1, .ref le1, .ref ll1, .ref ld1, .ref wl1, .ref op1, .int 0, .int 0, .int 1365, .ref dg1])), (dg1, .inl (k 0, 730, .inl (fun _ => 0))), (R1, .inr (5, [.int 0, .ref r01, .ref r11, .ref r21, .ref r31, .ref r41, .ref r51, .ref r61, .ref r71, .ref wr1, .ref lr1, .ref tt1, .int 0, .int 0, .ref fr1, .ref r81, .ref r91, .int 0])), (wr1, .inl (k 0, 192, .inl (fun _ => 0))), (lr1, .inl (k 0, 6, .inl (fun _ => 0))), (tt1, .inl (k 1, 8, .inl (fun _ => 0))), (fr1, .inl (k 0, 5, .inl (fun _ => 0))), (P1, .inr (4, [.ref T, .ref R1, .ref pg1, .ref ST, .int 0, .int 0, .ref p01, .ref p11, .ref p21, .ref p31, .ref p41, .ref p51])), (p51, .inl (k 0, 5, .inl (fun _ => 0))), (ou, .inl (k 2, 1, .inr (.inl (fun _ => 0))))] (fun r w => ((0 ≤ v.toInt ∧ v.toInt ≤ 1) ∧ r = some (.int 0) ∧ w = [(ou, .inl (k 2, 1, .inr (.inl (vp_updL (fun _ => 0) 0 0))))]) ∨ (¬ (0 ≤ v.toInt ∧ v.toInt ≤ 1) ∧ r = some (.int 1) ∧ w = [])) := by
  refine cw_of (by decide) (Nat.le_of_ble_eq_true rfl) ?_
  intro p e s m args below meth c H locs B hr hT ls hl
  have hx := B.1.1
  have hb := B.1.2.1
  have hl : lv_has ls 4 [(0, .ref gx), (1, .int v), (2, .ref ou)] := hl
  refine lv_aload_n hx hb dL_pages_0 rfl (lv_at hl 2 rfl) ?_
  refine lv_iconst (v := 0) hx hb dL_pages_1 (by decide) ?_
  refine lv_aload_n hx hb dL_pages_2 rfl (lv_at hl 0 rfl) ?_
  refine lv_iload_n hx hb dL_pages_3 rfl (lv_at hl 1 rfl) ?_
  refine x_callVx (rest := [.int 0, .ref ou]) (wr := [(ou, .inl (k 2, 1, .inr (.inl (fun _ => 0))))]) (c_pages l dC dI k hl0 gx T LA sp dr bl pt fk fh ky LN ST L0 lc0 le0 ll0 ld0 wl0 op0 dg0 L1 lc1 le1 ll1 ld1 wl1 op1 dg1 R0 r00 r10 r20 r30 r40 r50 r60 r70 wr0 lr0 tt0 fr0 r80 r90 R1 r01 r11 r21 r31 r41 r51 r61 r71 wr1 lr1 tt1 fr1 r81 r91 P0 pg0 p00 p10 p20 p30 p40 p50 P1 pg1 p01 p11 p21 p31 p41 p51 v) B mV_X11_pages mw_1722 hl [0, 1, 2, 3, 4, 5, 6, 7, 8, 9, 10, 11, 12, 13, 14, 15, 16, 17, 18, 19, 20, 21] [22] rfl rfl ⟨by decide, by decide⟩ (by decide) (q0 := 0) rfl rfl rfl ⟨Nat.le_of_ble_eq_true rfl, Nat.le_of_ble_eq_true rfl⟩ (Nat.le_of_ble_eq_true rfl) rfl dL_pages_4 ⟨Nat.le_of_ble_eq_true rfl, Nat.le_of_ble_eq_true rfl⟩ (fun E ce q9 H locs hp B h1 h2 h3 => ?_) (fun r w H locs hp B => ?_)
  · rcases hp with ⟨z0_0, rfl⟩
    refine vx_catch B.1.2.2.2.1 [] ⟨0, 9, 12, 13⟩ [] (hT.trans rfl) (fun z hz => by cases hz) (by decide) (by decide) (B.1.2.2.2.2.1 _ mw_506) (ca.use (B.2.1.2.2.2.2.2.2.1.1 _ (by decide +kernel))) h1 h2 h3 ?_
    skip
    have B := bd_to (ws' := [(ou, .inl (k 2, 1, .inr (.inl (fun _ => 0))))]) rfl B
    refine lv_astore_n (lv' := [(3, .ref q9), (0, .ref gx), (1, .int v), (2, .ref ou)]) hx hb dL_pages_12 rfl hl (by decide) rfl (fun ls hl => ?_)
    refine lv_iconst (v := 1) hx hb dL_pages_13 (by decide) ?_
    have B := bd_sub (ws' := []) [] (by decide) rfl B
    exact x_iret B hr (Or.inr (⟨by omega, rfl, rfl⟩)) (Nat.le_of_ble_eq_true rfl) (Nat.le_of_ble_eq_true rfl) dL_pages_14
  · skip
    obtain ⟨z_2, rfl, rfl⟩ := hp
    have B := bd_to (ws' := [(ou, .inl (k 2, 1, .inr (.inl (fun _ => 0))))]) rfl B
    refine lv_i2l (v := 0) hx hb dL_pages_7 (by decide) ?_
    refine x_last B 0 rfl (vpc (by decide)) dL_pages_8 (j := 0) (by decide) (fun H locs B => ?_)
    have B := bd_to (ws' := [(ou, .inl (k 2, 1, .inr (.inl (vp_updL (fun _ => 0) 0 0))))]) rfl B
    refine lv_goto (tgt := 15) hx hb dL_pages_9 (by decide) ?_
    refine lv_iconst (v := 0) hx hb dL_pages_15 (by decide) ?_
    have B := bd_sub (ws' := [(ou, .inl (k 2, 1, .inr (.inl (vp_updL (fun _ => 0) 0 0))))]) [0] (by decide) rfl B
    exact x_iret B hr (Or.inl (⟨by omega, rfl, rfl⟩)) (Nat.le_of_ble_eq_true rfl) (Nat.le_of_ble_eq_true rfl) dL_pages_16

theorem mw_1729 : (Jvm.Cond.methodLink "GalleyforgeLaw" (92 : Nat) ({ cls := "Galleyforge", name := "cost", desc := "(I)I" } : Jvm.MethodName)) ∈ gt := gt_at 1864 (by decide +kernel) (by decide +kernel)
theorem mw_1730 : (Jvm.Cond.instanceMethod ({ cls := "Galleyforge", name := "cost", desc := "(I)I" } : Jvm.MethodName)) ∈ gt := gt_at 1865 (by decide +kernel) (by decide +kernel)
theorem mw_1731 : (Jvm.Cond.selects "Galleyforge" ({ cls := "Galleyforge", name := "cost", desc := "(I)I" } : Jvm.MethodName) ({ cls := "Galleyforge", name := "cost", desc := "(I)I" } : Jvm.MethodName)) ∈ gt := gt_at 1866 (by decide +kernel) (by decide +kernel)
theorem mw_1732 : (Jvm.Cond.code ({ cls := "Galleyforge", name := "cost", desc := "(I)I" } : Jvm.MethodName) prog_1_method_28_code (2 : Nat) (Option.some Jvm.ClassFile.FieldType.int)) ∈ gt := gt_at 1867 (by decide +kernel) (by decide +kernel)
theorem mV_X11_cost : mV yX11_cost cX11_cost 2 (some .int) 1 := ⟨⟨mw_1732, mw_1, by decide, by decide, by decide +kernel⟩, mw_1730, mw_1731⟩
theorem dL_cost_0 : decode cL_cost 0 = .ok (.aload_n 2, 1) := by decide +kernel
theorem dL_cost_1 : decode cL_cost 1 = .ok (.iconst 0, 1) := by decide +kernel
theorem dL_cost_2 : decode cL_cost 2 = .ok (.aload_n 0, 1) := by decide +kernel
theorem dL_cost_3 : decode cL_cost 3 = .ok (.iload_n 1, 1) := by decide +kernel
theorem dL_cost_4 : decode cL_cost 4 = .ok (.invokevirtual 92, 3) := by decide +kernel
theorem dL_cost_7 : decode cL_cost 7 = .ok (.i2l, 1) := by decide +kernel
theorem dL_cost_8 : decode cL_cost 8 = .ok (.lastore, 1) := by decide +kernel
theorem dL_cost_9 : decode cL_cost 9 = .ok (.goto 6, 3) := by decide +kernel
theorem dL_cost_12 : decode cL_cost 12 = .ok (.astore_n 3, 1) := by decide +kernel
theorem dL_cost_13 : decode cL_cost 13 = .ok (.iconst 1, 1) := by decide +kernel
theorem dL_cost_14 : decode cL_cost 14 = .ok (.ireturn, 1) := by decide +kernel
theorem dL_cost_15 : decode cL_cost 15 = .ok (.iconst 0, 1) := by decide +kernel
theorem dL_cost_16 : decode cL_cost 16 = .ok (.ireturn, 1) := by decide +kernel
set_option maxHeartbeats 4000000 in
set_option maxRecDepth 100000 in
theorem w_cost (l : Launch) (dC : Nat → ClassId) (dI : Nat → Nat → Nat) (k : Nat → ClassId) (hl0 : l.stackTraces = false) (gx : Nat) (T : Nat) (LA : Nat) (sp : Nat) (dr : Nat) (bl : Nat) (pt : Nat) (fk : Nat) (fh : Nat) (ky : Nat) (LN : Nat) (ST : Nat) (L0 : Nat) (lc0 : Nat) (le0 : Nat) (ll0 : Nat) (ld0 : Nat) (wl0 : Nat) (op0 : Nat) (dg0 : Nat) (L1 : Nat) (lc1 : Nat) (le1 : Nat) (ll1 : Nat) (ld1 : Nat) (wl1 : Nat) (op1 : Nat) (dg1 : Nat) (R0 : Nat) (r00 : Nat) (r10 : Nat) (r20 : Nat) (r30 : Nat) (r40 : Nat) (r50 : Nat) (r60 : Nat) (r70 : Nat) (wr0 : Nat) (lr0 : Nat) (tt0 : Nat) (fr0 : Nat) (r80 : Nat) (r90 : Nat) (R1 : Nat) (r01 : Nat) (r11 : Nat) (r21 : Nat) (r31 : Nat) (r41 : Nat) (r51 : Nat) (r61 : Nat) (r71 : Nat) (wr1 : Nat) (lr1 : Nat) (tt1 : Nat) (fr1 : Nat) (r81 : Nat) (r91 : Nat) (P0 : Nat) (pg0 : Nat) (p00 : Nat) (p10 : Nat) (p20 : Nat) (p30 : Nat) (p40 : Nat) (p50 : Nat) (P1 : Nat) (pg1 : Nat) (p01 : Nat) (p11 : Nat) (p21 : Nat) (p31 : Nat) (p41 : Nat) (p51 : Nat) (v : Int32) (ou : Nat) : Ct l dC dI k yL_cost (.codeWith yL_cost cL_cost 4 (some .int) [(0, 9, 12, 13)]) ({ frames := 9, cells := 1, slots := 6, locals := 146 } : Room) [.ref gx, .int v, .ref ou] [(gx, .inr (9, [.ref T, .ref LA, .ref sp, .int 0, .ref dr])), (LA, .inl (k 3, 2, .inr (.inr (.inr (.inr (va_up (va_up (fun _ => none) 0 (some L0)) 1 (some L1))))))), (T, .inr (8, [.ref bl, .ref pt, .ref fk, .ref fh, .int 0, .ref ky, .int 60, .int 12])), (bl, .inr (11, [.int 0, .ref (dI 99 1), .int 0])), (L0, .inr (1, [.ref T, .int 0, .ref LN, .ref R0, .ref P0, .int 1, .int 0, .ref lc0, .ref le0, .ref ll0, .ref ld0, .ref wl0, .ref op0, .int 0, .int 0, .int 1365, .ref dg0])), (dg0, .inl (k 0, 730, .inl (fun _ => 0))), (R0, .inr (5, [.int 0, .ref r00, .ref r10, .ref r20, .ref r30, .ref r40, .ref r50, .ref r60, .ref r70, .ref wr0, .ref lr0, .ref tt0, .int 0, .int 0, .ref fr0, .ref r80, .ref r90, .int 0])), (wr0, .inl (k 0, 192, .inl (fun _ => 0))), (lr0, .inl (k 0, 6, .inl (fun _ => 0))), (tt0, .inl (k 1, 8, .inl (fun _ => 0))), (fr0, .inl (k 0, 5, .inl (fun _ => 0))), (P0, .inr (4, [.ref T, .ref R0, .ref pg0, .ref ST, .int 0, .int 0, .ref p00, .ref p10, .ref p20, .ref p30, .ref p40, .ref p50])), (p50, .inl (k 0, 5, .inl (fun _ => 0))), (L1, .inr (1, [.ref T, .int 1, .ref LN, .ref R1, .ref P1, .int 1, .int 0, .ref lc1, .ref le1, .ref ll1, .ref ld1, .ref wl1, .ref op1, .int 0, .int 0, .int 1365, .ref dg1])), (dg1, .inl (k 0, 730, .inl (fun _ => 0))), (R1, .inr (5, [.int 0, .ref r01, .ref r11, .ref r21, .ref r31, .ref r41, .ref r51, .ref r61, .ref r71, .ref wr1, .ref lr1, .ref tt1, .int 0, .int 0, .ref fr1, .ref r81, .ref r91, .int 0])), (wr1, .inl (k 0, 192, .inl (fun _ => 0))), (lr1, .inl (k 0, 6, .inl (fun _ => 0))), (tt1, .inl (k 1, 8, .inl (fun _ => 0))), (fr1, .inl (k 0, 5, .inl (fun _ => 0))), (P1, .inr (4, [.ref T, .ref R1, .ref pg1, .ref ST, .int 0, .int 0, .ref p01, .ref p11, .ref p21, .ref p31, .ref p41, .ref p51])), (p51, .inl (k 0, 5, .inl (fun _ => 0))), (ou, .inl (k 2, 1, .inr (.inl (fun _ => 0))))] (fun r w => ((0 ≤ v.toInt ∧ v.toInt ≤ 1) ∧ r = some (.int 0) ∧ w = [(ou, .inl (k 2, 1, .inr (.inl (vp_updL (fun _ => 0) 0 0))))]) ∨ (¬ (0 ≤ v.toInt ∧ v.toInt ≤ 1) ∧ r = some (.int 1) ∧ w = [])) := by
  refine cw_of (by decide) (Nat.le_of_ble_eq_true rfl) ?_
  intro p e s m args below meth c H locs B hr hT ls hl
  have hx := B.1.1
  have hb := B.1.2.1
  have hl : lv_has ls 4 [(0, .ref gx), (1, .int v), (2, .ref ou)] := hl
  refine lv_aload_n hx hb dL_cost_0 rfl (lv_at hl 2 rfl) ?_
  refine lv_iconst (v := 0) hx hb dL_cost_1 (by decide) ?_
  refine lv_aload_n hx hb dL_cost_2 rfl (lv_at hl 0 rfl) ?_
  refine lv_iload_n hx hb dL_cost_3 rfl (lv_at hl 1 rfl) ?_
  refine x_callVx (rest := [.int 0, .ref ou]) (wr := [(ou, .inl (k 2, 1, .inr (.inl (fun _ => 0))))]) (c_cost l dC dI k hl0 gx T LA sp dr bl pt fk fh ky LN ST L0 lc0 le0 ll0 ld0 wl0 op0 dg0 L1 lc1 le1 ll1 ld1 wl1 op1 dg1 R0 r00 r10 r20 r30 r40 r50 r60 r70 wr0 lr0 tt0 fr0 r80 r90 R1 r01 r11 r21 r31 r41 r51 r61 r71 wr1 lr1 tt1 fr1 r81 r91 P0 pg0 p00 p10 p20 p30 p40 p50 P1 pg1 p01 p11 p21 p31 p41 p51 v) B mV_X11_cost mw_1729 hl [0, 1, 2, 3, 4, 5, 6, 7, 8, 9, 10, 11, 12, 13, 14, 15, 16, 17, 18, 19, 20, 21] [22] rfl rfl ⟨by decide, by decide⟩ (by decide) (q0 := 0) rfl rfl rfl ⟨Nat.le_of_ble_eq_true rfl, Nat.le_of_ble_eq_true rfl⟩ (Nat.le_of_ble_eq_true rfl) rfl dL_cost_4 ⟨Nat.le_of_ble_eq_true rfl, Nat.le_of_ble_eq_true rfl⟩ (fun E ce q9 H locs hp B h1 h2 h3 => ?_) (fun r w H locs hp B => ?_)
  · rcases hp with ⟨z0_0, rfl⟩
    refine vx_catch B.1.2.2.2.1 [] ⟨0, 9, 12, 13⟩ [] (hT.trans rfl) (fun z hz => by cases hz) (by decide) (by decide) (B.1.2.2.2.2.1 _ mw_506) (ca.use (B.2.1.2.2.2.2.2.2.1.1 _ (by decide +kernel))) h1 h2 h3 ?_
    skip
    have B := bd_to (ws' := [(ou, .inl (k 2, 1, .inr (.inl (fun _ => 0))))]) rfl B
    refine lv_astore_n (lv' := [(3, .ref q9), (0, .ref gx), (1, .int v), (2, .ref ou)]) hx hb dL_cost_12 rfl hl (by decide) rfl (fun ls hl => ?_)
    refine lv_iconst (v := 1) hx hb dL_cost_13 (by decide) ?_
    have B := bd_sub (ws' := []) [] (by decide) rfl B
    exact x_iret B hr (Or.inr (⟨by omega, rfl, rfl⟩)) (Nat.le_of_ble_eq_true rfl) (Nat.le_of_ble_eq_true rfl) dL_cost_14
  · skip
    obtain ⟨z_2, rfl, rfl⟩ := hp
    have B := bd_to (ws' := [(ou, .inl (k 2, 1, .inr (.inl (fun _ => 0))))]) rfl B
    refine lv_i2l (v := 0) hx hb dL_cost_7 (by decide) ?_
    refine x_last B 0 rfl (vpc (by decide)) dL_cost_8 (j := 0) (by decide) (fun H locs B => ?_)
    have B := bd_to (ws' := [(ou, .inl (k 2, 1, .inr (.inl (vp_updL (fun _ => 0) 0 0))))]) rfl B
    refine lv_goto (tgt := 15) hx hb dL_cost_9 (by decide) ?_
    refine lv_iconst (v := 0) hx hb dL_cost_15 (by decide) ?_
    have B := bd_sub (ws' := [(ou, .inl (k 2, 1, .inr (.inl (vp_updL (fun _ => 0) 0 0))))]) [0] (by decide) rfl B
    exact x_iret B hr (Or.inl (⟨by omega, rfl, rfl⟩)) (Nat.le_of_ble_eq_true rfl) (Nat.le_of_ble_eq_true rfl) dL_cost_16

theorem mw_1736 : (Jvm.Cond.methodLink "GalleyforgeLaw" (95 : Nat) ({ cls := "Galleyforge", name := "costAnew", desc := "(I)I" } : Jvm.MethodName)) ∈ gt := gt_at 1871 (by decide +kernel) (by decide +kernel)
theorem mw_1737 : (Jvm.Cond.instanceMethod ({ cls := "Galleyforge", name := "costAnew", desc := "(I)I" } : Jvm.MethodName)) ∈ gt := gt_at 1872 (by decide +kernel) (by decide +kernel)
theorem mw_1738 : (Jvm.Cond.selects "Galleyforge" ({ cls := "Galleyforge", name := "costAnew", desc := "(I)I" } : Jvm.MethodName) ({ cls := "Galleyforge", name := "costAnew", desc := "(I)I" } : Jvm.MethodName)) ∈ gt := gt_at 1873 (by decide +kernel) (by decide +kernel)
theorem mw_1739 : (Jvm.Cond.code ({ cls := "Galleyforge", name := "costAnew", desc := "(I)I" } : Jvm.MethodName) prog_1_method_29_code (2 : Nat) (Option.some Jvm.ClassFile.FieldType.int)) ∈ gt := gt_at 1874 (by decide +kernel) (by decide +kernel)
theorem mV_X11_costAnew : mV yX11_costAnew cX11_costAnew 2 (some .int) 1 := ⟨⟨mw_1739, mw_1, by decide, by decide, by decide +kernel⟩, mw_1737, mw_1738⟩
theorem dL_costAnew_0 : decode cL_costAnew 0 = .ok (.aload_n 2, 1) := by decide +kernel
theorem dL_costAnew_1 : decode cL_costAnew 1 = .ok (.iconst 0, 1) := by decide +kernel
theorem dL_costAnew_2 : decode cL_costAnew 2 = .ok (.aload_n 0, 1) := by decide +kernel
theorem dL_costAnew_3 : decode cL_costAnew 3 = .ok (.iload_n 1, 1) := by decide +kernel
theorem dL_costAnew_4 : decode cL_costAnew 4 = .ok (.invokevirtual 95, 3) := by decide +kernel
theorem dL_costAnew_7 : decode cL_costAnew 7 = .ok (.i2l, 1) := by decide +kernel
theorem dL_costAnew_8 : decode cL_costAnew 8 = .ok (.lastore, 1) := by decide +kernel
theorem dL_costAnew_9 : decode cL_costAnew 9 = .ok (.goto 6, 3) := by decide +kernel
theorem dL_costAnew_12 : decode cL_costAnew 12 = .ok (.astore_n 3, 1) := by decide +kernel
theorem dL_costAnew_13 : decode cL_costAnew 13 = .ok (.iconst 1, 1) := by decide +kernel
theorem dL_costAnew_14 : decode cL_costAnew 14 = .ok (.ireturn, 1) := by decide +kernel
theorem dL_costAnew_15 : decode cL_costAnew 15 = .ok (.iconst 0, 1) := by decide +kernel
theorem dL_costAnew_16 : decode cL_costAnew 16 = .ok (.ireturn, 1) := by decide +kernel
set_option maxHeartbeats 4000000 in
set_option maxRecDepth 100000 in
theorem w_costAnew (l : Launch) (dC : Nat → ClassId) (dI : Nat → Nat → Nat) (k : Nat → ClassId) (hl0 : l.stackTraces = false) (gx : Nat) (T : Nat) (LA : Nat) (sp : Nat) (dr : Nat) (bl : Nat) (pt : Nat) (fk : Nat) (fh : Nat) (ky : Nat) (LN : Nat) (ST : Nat) (L0 : Nat) (lc0 : Nat) (le0 : Nat) (ll0 : Nat) (ld0 : Nat) (wl0 : Nat) (op0 : Nat) (dg0 : Nat) (L1 : Nat) (lc1 : Nat) (le1 : Nat) (ll1 : Nat) (ld1 : Nat) (wl1 : Nat) (op1 : Nat) (dg1 : Nat) (R0 : Nat) (r00 : Nat) (r10 : Nat) (r20 : Nat) (r30 : Nat) (r40 : Nat) (r50 : Nat) (r60 : Nat) (r70 : Nat) (wr0 : Nat) (lr0 : Nat) (tt0 : Nat) (fr0 : Nat) (r80 : Nat) (r90 : Nat) (R1 : Nat) (r01 : Nat) (r11 : Nat) (r21 : Nat) (r31 : Nat) (r41 : Nat) (r51 : Nat) (r61 : Nat) (r71 : Nat) (wr1 : Nat) (lr1 : Nat) (tt1 : Nat) (fr1 : Nat) (r81 : Nat) (r91 : Nat) (P0 : Nat) (pg0 : Nat) (p00 : Nat) (p10 : Nat) (p20 : Nat) (p30 : Nat) (p40 : Nat) (p50 : Nat) (P1 : Nat) (pg1 : Nat) (p01 : Nat) (p11 : Nat) (p21 : Nat) (p31 : Nat) (p41 : Nat) (p51 : Nat) (v : Int32) (ou : Nat) : Ct l dC dI k yL_costAnew (.codeWith yL_costAnew cL_costAnew 4 (some .int) [(0, 9, 12, 13)]) ({ frames := 9, cells := 2, slots := 12, locals := 146 } : Room) [.ref gx, .int v, .ref ou] [(gx, .inr (9, [.ref T, .ref LA, .ref sp, .int 0, .ref dr])), (LA, .inl (k 3, 2, .inr (.inr (.inr (.inr (va_up (va_up (fun _ => none) 0 (some L0)) 1 (some L1))))))), (T, .inr (8, [.ref bl, .ref pt, .ref fk, .ref fh, .int 0, .ref ky, .int 60, .int 12])), (bl, .inr (11, [.int 0, .ref (dI 99 1), .int 0])), (L0, .inr (1, [.ref T, .int 0, .ref LN, .ref R0, .ref P0, .int 1, .int 0, .ref lc0, .ref le0, .ref ll0, .ref ld0, .ref wl0, .ref op0, .int 0, .int 0, .int 1365, .ref dg0])), (dg0, .inl (k 0, 730, .inl (fun _ => 0))), (R0, .inr (5, [.int 0, .ref r00, .ref r10, .ref r20, .ref r30, .ref r40, .ref r50, .ref r60, .ref r70, .ref wr0, .ref lr0, .ref tt0, .int 0, .int 0, .ref fr0, .ref r80, .ref r90, .int 0])), (wr0, .inl (k 0, 192, .inl (fun _ => 0))), (lr0, .inl (k 0, 6, .inl (fun _ => 0))), (tt0, .inl (k 1, 8, .inl (fun _ => 0))), (fr0, .inl (k 0, 5, .inl (fun _ => 0))), (P0, .inr (4, [.ref T, .ref R0, .ref pg0, .ref ST, .int 0, .int 0, .ref p00, .ref p10, .ref p20, .ref p30, .ref p40, .ref p50])), (p50, .inl (k 0, 5, .inl (fun _ => 0))), (L1, .inr (1, [.ref T, .int 1, .ref LN, .ref R1, .ref P1, .int 1, .int 0, .ref lc1, .ref le1, .ref ll1, .ref ld1, .ref wl1, .ref op1, .int 0, .int 0, .int 1365, .ref dg1])), (dg1, .inl (k 0, 730, .inl (fun _ => 0))), (R1, .inr (5, [.int 0, .ref r01, .ref r11, .ref r21, .ref r31, .ref r41, .ref r51, .ref r61, .ref r71, .ref wr1, .ref lr1, .ref tt1, .int 0, .int 0, .ref fr1, .ref r81, .ref r91, .int 0])), (wr1, .inl (k 0, 192, .inl (fun _ => 0))), (lr1, .inl (k 0, 6, .inl (fun _ => 0))), (tt1, .inl (k 1, 8, .inl (fun _ => 0))), (fr1, .inl (k 0, 5, .inl (fun _ => 0))), (P1, .inr (4, [.ref T, .ref R1, .ref pg1, .ref ST, .int 0, .int 0, .ref p01, .ref p11, .ref p21, .ref p31, .ref p41, .ref p51])), (p51, .inl (k 0, 5, .inl (fun _ => 0))), (ou, .inl (k 2, 1, .inr (.inl (fun _ => 0))))] (fun r w => ((0 ≤ v.toInt ∧ v.toInt ≤ 1) ∧ r = some (.int 0) ∧ w = [(ou, .inl (k 2, 1, .inr (.inl (vp_updL (fun _ => 0) 0 0))))]) ∨ (¬ (0 ≤ v.toInt ∧ v.toInt ≤ 1) ∧ r = some (.int 1) ∧ w = [])) := by
  refine cw_of (by decide) (Nat.le_of_ble_eq_true rfl) ?_
  intro p e s m args below meth c H locs B hr hT ls hl
  have hx := B.1.1
  have hb := B.1.2.1
  have hl : lv_has ls 4 [(0, .ref gx), (1, .int v), (2, .ref ou)] := hl
  refine lv_aload_n hx hb dL_costAnew_0 rfl (lv_at hl 2 rfl) ?_
  refine lv_iconst (v := 0) hx hb dL_costAnew_1 (by decide) ?_
  refine lv_aload_n hx hb dL_costAnew_2 rfl (lv_at hl 0 rfl) ?_
  refine lv_iload_n hx hb dL_costAnew_3 rfl (lv_at hl 1 rfl) ?_
  refine x_callVx (rest := [.int 0, .ref ou]) (wr := [(ou, .inl (k 2, 1, .inr (.inl (fun _ => 0))))]) (c_costAnew l dC dI k hl0 gx T LA sp dr bl pt fk fh ky LN ST L0 lc0 le0 ll0 ld0 wl0 op0 dg0 L1 lc1 le1 ll1 ld1 wl1 op1 dg1 R0 r00 r10 r20 r30 r40 r50 r60 r70 wr0 lr0 tt0 fr0 r80 r90 R1 r01 r11 r21 r31 r41 r51 r61 r71 wr1 lr1 tt1 fr1 r81 r91 P0 pg0 p00 p10 p20 p30 p40 p50 P1 pg1 p01 p11 p21 p31 p41 p51 v) B mV_X11_costAnew mw_1736 hl [0, 1, 2, 3, 4, 5, 6, 7, 8, 9, 10, 11, 12, 13, 14, 15, 16, 17, 18, 19, 20, 21] [22] rfl rfl ⟨by decide, by decide⟩ (by decide) (q0 := 0) rfl rfl rfl ⟨Nat.le_of_ble_eq_true rfl, Nat.le_of_ble_eq_true rfl⟩ (Nat.le_of_ble_eq_true rfl) rfl dL_costAnew_4 ⟨Nat.le_of_ble_eq_true rfl, Nat.le_of_ble_eq_true rfl⟩ (fun E ce q9 H locs hp B h1 h2 h3 => ?_) (fun r w H locs hp B => ?_)
  · rcases hp with ⟨z0_0, rfl⟩
    refine vx_catch B.1.2.2.2.1 [] ⟨0, 9, 12, 13⟩ [] (hT.trans rfl) (fun z hz => by cases hz) (by decide) (by decide) (B.1.2.2.2.2.1 _ mw_506) (ca.use (B.2.1.2.2.2.2.2.2.1.1 _ (by decide +kernel))) h1 h2 h3 ?_
    skip
    have B := bd_to (ws' := [(ou, .inl (k 2, 1, .inr (.inl (fun _ => 0))))]) rfl B
    refine lv_astore_n (lv' := [(3, .ref q9), (0, .ref gx), (1, .int v), (2, .ref ou)]) hx hb dL_costAnew_12 rfl hl (by decide) rfl (fun ls hl => ?_)
    refine lv_iconst (v := 1) hx hb dL_costAnew_13 (by decide) ?_
    have B := bd_sub (ws' := []) [] (by decide) rfl B
    exact x_iret B hr (Or.inr (⟨by omega, rfl, rfl⟩)) (Nat.le_of_ble_eq_true rfl) (Nat.le_of_ble_eq_true rfl) dL_costAnew_14
  · skip
    obtain ⟨z_2, rfl, rfl⟩ := hp
    have B := bd_to (ws' := [(ou, .inl (k 2, 1, .inr (.inl (fun _ => 0))))]) rfl B
    refine lv_i2l (v := 0) hx hb dL_costAnew_7 (by decide) ?_
    refine x_last B 0 rfl (vpc (by decide)) dL_costAnew_8 (j := 0) (by decide) (fun H locs B => ?_)
    have B := bd_to (ws' := [(ou, .inl (k 2, 1, .inr (.inl (vp_updL (fun _ => 0) 0 0))))]) rfl B
    refine lv_goto (tgt := 15) hx hb dL_costAnew_9 (by decide) ?_
    refine lv_iconst (v := 0) hx hb dL_costAnew_15 (by decide) ?_
    have B := bd_sub (ws' := [(ou, .inl (k 2, 1, .inr (.inl (vp_updL (fun _ => 0) 0 0))))]) [0] (by decide) rfl B
    exact x_iret B hr (Or.inl (⟨by omega, rfl, rfl⟩)) (Nat.le_of_ble_eq_true rfl) (Nat.le_of_ble_eq_true rfl) dL_costAnew_16

end
