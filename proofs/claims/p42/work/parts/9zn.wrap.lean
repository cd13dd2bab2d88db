section
section TDV
variable {p : Program} {l : Launch} {e : Env} {R : Room} {s : State} {m : MethodId} {args : Array Value} {below : List Frame} {meth : Method} {c : Code} {H : Heap} {locs : List Loc} {cells slots : Nat} {Q : State → Prop} {cc : ByteArray} {pc : Nat} {ls : Array Slot} {rest : List Value}
/-- a whole number's quotient, of -1 too -/
def tdv (a b : Int) : Int := if a < 0 then 0 else a / b
theorem y_tdv (hx : p.tables.exec = Jvm.exec) (hb : c.code = cc) {a b : Int} (ha : -1 ≤ a ∧ a < 2147483648) (hb2 : b = 10 ∨ b = 1000) (hdg : decode cc pc = .ok (.idiv, 1)) (kk : W p l e R s m args below meth c H locs cells slots Q (F0 m (pc + 1) ls (.int (iI (tdv a b)) :: rest))) : W p l e R s m args below meth c H locs cells slots Q (F0 m pc ls (.int (iI b) :: .int (iI a) :: rest)) := by
  refine lv_idiv hx hb hdg (iI_ne0 (by omega) (by omega)) ?_
  have e9 : iI a / iI b = iI (tdv a b) := by
    unfold tdv
    split
    · rw [show a = -1 by omega]
      rcases hb2 with rfl | rfl <;> decide
    · exact iI_div (by omega) (by omega)
  rw [e9]
  exact kk
end TDV

theorem mw_501 : (Jvm.Cond.classLink "GalleyforgeLaw" (13 : Nat) "java/lang/IndexOutOfBoundsException") ∈ gt := gt_at 571 (by decide +kernel) (by decide +kernel)
theorem mw_502 : (Jvm.Cond.classLink "GalleyforgeLaw" (16 : Nat) "java/lang/IllegalStateException") ∈ gt := gt_at 572 (by decide +kernel) (by decide +kernel)
theorem mw_503 : (Jvm.Cond.methodLink "GalleyforgeLaw" (7 : Nat) ({ cls := "Galleyforge", name := "spell", desc := "(I)I" } : Jvm.MethodName)) ∈ gt := gt_at 573 (by decide +kernel) (by decide +kernel)
theorem mw_504 : (Jvm.Cond.instanceMethod ({ cls := "Galleyforge", name := "spell", desc := "(I)I" } : Jvm.MethodName)) ∈ gt := gt_at 574 (by decide +kernel) (by decide +kernel)
theorem mw_505 : (Jvm.Cond.selects "Galleyforge" ({ cls := "Galleyforge", name := "spell", desc := "(I)I" } : Jvm.MethodName) ({ cls := "Galleyforge", name := "spell", desc := "(I)I" } : Jvm.MethodName)) ∈ gt := gt_at 575 (by decide +kernel) (by decide +kernel)
theorem mw_506 : (Jvm.Cond.code ({ cls := "Galleyforge", name := "spell", desc := "(I)I" } : Jvm.MethodName) prog_1_method_2_code (2 : Nat) (Option.some Jvm.ClassFile.FieldType.int)) ∈ gt := gt_at 576 (by decide +kernel) (by decide +kernel)
theorem mw_593 : (Jvm.Cond.constant "GalleyforgeLaw" (15 : Nat) (-2000000001 : Int32)) ∈ gt := gt_at 663 (by decide +kernel) (by decide +kernel)
theorem mw_594 : (Jvm.Cond.constant "GalleyforgeLaw" (18 : Nat) (-2000000003 : Int32)) ∈ gt := gt_at 664 (by decide +kernel) (by decide +kernel)
theorem mV_X11_spell : mV yX11_spell cX11_spell 2 (some .int) 1 := ⟨⟨mw_506, mw_1, by decide, by decide, by decide +kernel⟩, mw_504, mw_505⟩
theorem dL_spells_0 : decode cL_spells 0 = .ok (.aload_n 0, 1) := by decide +kernel
theorem dL_spells_1 : decode cL_spells 1 = .ok (.iload_n 1, 1) := by decide +kernel
theorem dL_spells_2 : decode cL_spells 2 = .ok (.invokevirtual 7, 3) := by decide +kernel
theorem dL_spells_5 : decode cL_spells 5 = .ok (.ireturn, 1) := by decide +kernel
theorem dL_spells_6 : decode cL_spells 6 = .ok (.astore_n 2, 1) := by decide +kernel
theorem dL_spells_7 : decode cL_spells 7 = .ok (.ldc 15, 2) := by decide +kernel
theorem dL_spells_9 : decode cL_spells 9 = .ok (.ireturn, 1) := by decide +kernel
theorem dL_spells_10 : decode cL_spells 10 = .ok (.astore_n 2, 1) := by decide +kernel
theorem dL_spells_11 : decode cL_spells 11 = .ok (.ldc 18, 2) := by decide +kernel
theorem dL_spells_13 : decode cL_spells 13 = .ok (.ireturn, 1) := by decide +kernel
set_option maxHeartbeats 4000000 in
set_option maxRecDepth 100000 in
theorem w_spells (l : Launch) (dC : Nat → ClassId) (dI : Nat → Nat → Nat) (k : Nat → ClassId) (hl0 : l.stackTraces = false) (T : Nat → Int → Int → Int → Int) (K : Nat → Int → Int) (qa : Nat) (cp : Nat) (tl : va_W) (le : Int) (hPS : PS dI k T K qa cp tl) (hQ : OKT T K) (hrle : -2147483648 ≤ le ∧ le < 2147483648) : Kn l dC dI k yL_spells (.codeWith yL_spells cL_spells 3 (some .int) [(0, 5, 6, 13), (0, 5, 10, 16)]) ({ frames := 7, cells := 1, slots := 6, locals := 103 } : Room) [.ref qa, .int (iI le)] ([] ++ tl) (fun r w gc gs => (∃ (tl2 : va_W), (PS dI k T (KKn (K 0 0 + 1) (uz (K 1) (K 0 0) le) (K 2)) qa cp tl2) ∧ ((0 ≤ le ∧ le ≤ 3) ∧ K 0 0 < 6) ∧ r = some (.int (iI (K 0 0 + 1))) ∧ w = ([] ++ tl2) ∧ gc = 1 ∧ gs = 6) ∨ (∃ (tl2 : va_W), (PS dI k T K qa cp tl2) ∧ (¬ (0 ≤ le ∧ le ≤ 3)) ∧ r = some (.int (iI (-2000000001))) ∧ w = ([] ++ tl2) ∧ gc = 1 ∧ gs = 6) ∨ (∃ (tl2 : va_W), (PS dI k T K qa cp tl2) ∧ ((0 ≤ le ∧ le ≤ 3) ∧ ¬ K 0 0 < 6) ∧ r = some (.int (iI (-2000000003))) ∧ w = ([] ++ tl2) ∧ gc = 1 ∧ gs = 6)) := by
  refine kw_of (by decide) (Nat.le_of_ble_eq_true rfl) ?_
  intro p e s m args below meth c H locs B hr hT ls hl
  have hx := B.1.1
  have hb := B.1.2.1
  have hl : lv_has ls 3 [(0, .ref qa), (1, .int (iI le))] := hl
  have hcp9 := PS_cp hPS
  refine lv_aload_n hx hb dL_spells_0 rfl (lv_at hl 0 rfl) ?_
  refine lv_iload_n hx hb dL_spells_1 rfl (lv_at hl 1 rfl) ?_
  have B := bd_swap (a := []) (b := []) (d := tl) (bd_to rfl B)
  obtain ⟨k_1, hk_1⟩ := pk_at (hs := []) (PS_go hPS).choose_spec
  refine k_Vx (rest := []) (wc := ([] ++ tl)) (wr := []) (a_spell l dC dI k hl0 T K qa cp tl le hPS hQ hrle) B mV_X11_spell mw_503 hl (q0 := k_1) (ci := 11) hk_1 rfl rfl ⟨Nat.le_of_ble_eq_true rfl, Nat.le_of_ble_eq_true rfl⟩ (Nat.le_of_ble_eq_true rfl) rfl dL_spells_2 ⟨by dsimp only; omega, by dsimp only; omega⟩ (fun E ce q9 w gc gs H locs hp B h1 h2 h3 => ?_) (fun r w gc gs H locs hp B => ?_)
  · skip
    rcases hp with ⟨z_2, rfl, hw9, rfl, rfl⟩ | ⟨z_3, rfl, hw9, rfl, rfl⟩
    · skip
      rw [hw9] at B; clear hw9
      have B := bd_to (ws' := ([] ++ tl)) rfl B
      refine vx_catch B.1.2.2.2.1 [] ⟨0, 5, 6, 13⟩ [⟨0, 5, 10, 16⟩] (hT.trans rfl) (fun z hz => by cases hz) (by decide) (by decide) (B.1.2.2.2.2.1 _ mw_501) (ca.use (B.2.1.2.2.2.2.2.2.1.1.1 _ (by decide +kernel))) h1 h2 h3 ?_
      refine lv_astore_n (lv' := [(2, .ref q9), (0, .ref qa), (1, .int (iI le))]) hx hb dL_spells_6 rfl hl (by decide) rfl (fun ls hl => ?_)
      refine lv_ldc (v := (-2000000001)) hx hb B.1.2.2.2.1 (B.1.2.2.2.2.1 _ mw_593) dL_spells_7 ?_
      refine lv_seti (y := iI (-2000000001)) (by decide) ?_
      exact k_iret B hr (Or.inr (Or.inl (⟨tl, hPS, z_2, rfl, rfl, rfl, rfl⟩))) ⟨(by first | omega | (dsimp only; omega)), (by first | omega | (dsimp only; omega))⟩ ⟨(by first | omega | (dsimp only; omega)), (by first | omega | (dsimp only; omega))⟩ dL_spells_9
    · skip
      rw [hw9] at B; clear hw9
      have B := bd_to (ws' := ([] ++ tl)) rfl B
      refine vx_catch B.1.2.2.2.1 [⟨0, 5, 6, 13⟩] ⟨0, 5, 10, 16⟩ [] (hT.trans rfl) (fun z hz => by rcases List.mem_singleton.mp hz with rfl; exact Or.inr ⟨by decide, _, B.1.2.2.2.2.1 _ mw_501, B.2.1.2.2.2.2.2.2.1.2.1⟩) (by decide) (by decide) (B.1.2.2.2.2.1 _ mw_502) (ca.use (B.2.1.2.2.2.2.2.2.1.1.1 _ (by decide +kernel))) h1 h2 h3 ?_
      refine lv_astore_n (lv' := [(2, .ref q9), (0, .ref qa), (1, .int (iI le))]) hx hb dL_spells_10 rfl hl (by decide) rfl (fun ls hl => ?_)
      refine lv_ldc (v := (-2000000003)) hx hb B.1.2.2.2.1 (B.1.2.2.2.2.1 _ mw_594) dL_spells_11 ?_
      refine lv_seti (y := iI (-2000000003)) (by decide) ?_
      exact k_iret B hr (Or.inr (Or.inr (⟨tl, hPS, z_3, rfl, rfl, rfl, rfl⟩))) ⟨(by first | omega | (dsimp only; omega)), (by first | omega | (dsimp only; omega))⟩ ⟨(by first | omega | (dsimp only; omega)), (by first | omega | (dsimp only; omega))⟩ dL_spells_13
  · skip
    obtain ⟨tl2_4, z_5, z_6, rfl, hw9, rfl, rfl⟩ := hp
    rw [hw9] at B; clear hw9
    have B := bd_to (ws' := ([] ++ tl2_4)) rfl B
    have hPS : PS dI k T (KKn (K 0 0 + 1) (uz (K 1) (K 0 0) le) (K 2)) qa cp tl2_4 := z_5
    exact k_iret B hr (Or.inl (⟨tl2_4, z_5, z_6, rfl, rfl, rfl, rfl⟩)) ⟨(by first | omega | (dsimp only; omega)), (by first | omega | (dsimp only; omega))⟩ ⟨(by first | omega | (dsimp only; omega)), (by first | omega | (dsimp only; omega))⟩ dL_spells_5

theorem mw_598 : (Jvm.Cond.classLink "GalleyforgeLaw" (23 : Nat) "java/lang/IllegalArgumentException") ∈ gt := gt_at 668 (by decide +kernel) (by decide +kernel)
theorem mw_599 : (Jvm.Cond.methodLink "GalleyforgeLaw" (19 : Nat) ({ cls := "Galleyforge", name := "mark", desc := "(II)I" } : Jvm.MethodName)) ∈ gt := gt_at 669 (by decide +kernel) (by decide +kernel)
theorem mw_600 : (Jvm.Cond.instanceMethod ({ cls := "Galleyforge", name := "mark", desc := "(II)I" } : Jvm.MethodName)) ∈ gt := gt_at 670 (by decide +kernel) (by decide +kernel)
theorem mw_601 : (Jvm.Cond.selects "Galleyforge" ({ cls := "Galleyforge", name := "mark", desc := "(II)I" } : Jvm.MethodName) ({ cls := "Galleyforge", name := "mark", desc := "(II)I" } : Jvm.MethodName)) ∈ gt := gt_at 671 (by decide +kernel) (by decide +kernel)
theorem mw_602 : (Jvm.Cond.code ({ cls := "Galleyforge", name := "mark", desc := "(II)I" } : Jvm.MethodName) prog_1_method_4_code (4 : Nat) (Option.some Jvm.ClassFile.FieldType.int)) ∈ gt := gt_at 672 (by decide +kernel) (by decide +kernel)
theorem mw_627 : (Jvm.Cond.constant "GalleyforgeLaw" (25 : Nat) (-2000000002 : Int32)) ∈ gt := gt_at 697 (by decide +kernel) (by decide +kernel)
theorem mV_X11_mark : mV yX11_mark cX11_mark 4 (some .int) 2 := ⟨⟨mw_602, mw_1, by decide, by decide, by decide +kernel⟩, mw_600, mw_601⟩
theorem dL_marks_0 : decode cL_marks 0 = .ok (.aload_n 0, 1) := by decide +kernel
theorem dL_marks_1 : decode cL_marks 1 = .ok (.iload_n 1, 1) := by decide +kernel
theorem dL_marks_2 : decode cL_marks 2 = .ok (.iload_n 2, 1) := by decide +kernel
theorem dL_marks_3 : decode cL_marks 3 = .ok (.invokevirtual 19, 3) := by decide +kernel
theorem dL_marks_6 : decode cL_marks 6 = .ok (.ireturn, 1) := by decide +kernel
theorem dL_marks_7 : decode cL_marks 7 = .ok (.astore_n 3, 1) := by decide +kernel
theorem dL_marks_8 : decode cL_marks 8 = .ok (.ldc 15, 2) := by decide +kernel
theorem dL_marks_10 : decode cL_marks 10 = .ok (.ireturn, 1) := by decide +kernel
theorem dL_marks_11 : decode cL_marks 11 = .ok (.astore_n 3, 1) := by decide +kernel
theorem dL_marks_12 : decode cL_marks 12 = .ok (.ldc 25, 2) := by decide +kernel
theorem dL_marks_14 : decode cL_marks 14 = .ok (.ireturn, 1) := by decide +kernel
set_option maxHeartbeats 4000000 in
set_option maxRecDepth 100000 in
theorem w_marks (l : Launch) (dC : Nat → ClassId) (dI : Nat → Nat → Nat) (k : Nat → ClassId) (hl0 : l.stackTraces = false) (T : Nat → Int → Int → Int → Int) (K : Nat → Int → Int) (qa : Nat) (cp : Nat) (tl : va_W) (wt : Int) (va : Int) (hPS : PS dI k T K qa cp tl) (hQ : OKT T K) (hrwt : -2147483648 ≤ wt ∧ wt < 2147483648) (hrva : -2147483648 ≤ va ∧ va < 2147483648) : Kn l dC dI k yL_marks (.codeWith yL_marks cL_marks 4 (some .int) [(0, 6, 7, 13), (0, 6, 11, 23)]) ({ frames := 7, cells := 1, slots := 6, locals := 105 } : Room) [.ref qa, .int (iI wt), .int (iI va)] ([] ++ tl) (fun r w gc gs => (∃ (tl2 : va_W), (PS dI k T (KKn (K 0 0) (K 1) (uz (K 2) wt va)) qa cp tl2) ∧ ((0 ≤ wt ∧ wt ≤ 4) ∧ (va = -1 ∨ (lmZ wt ≤ va ∧ va ≤ mmZ T wt))) ∧ r = some (.int (iI (K 2 wt))) ∧ w = ([] ++ tl2) ∧ gc = 1 ∧ gs = 6) ∨ (∃ (tl2 : va_W), (PS dI k T K qa cp tl2) ∧ (¬ (0 ≤ wt ∧ wt ≤ 4)) ∧ r = some (.int (iI (-2000000001))) ∧ w = ([] ++ tl2) ∧ gc = 1 ∧ gs = 6) ∨ (∃ (tl2 : va_W), (PS dI k T K qa cp tl2) ∧ ((0 ≤ wt ∧ wt ≤ 4) ∧ ¬ (va = -1 ∨ (lmZ wt ≤ va ∧ va ≤ mmZ T wt))) ∧ r = some (.int (iI (-2000000002))) ∧ w = ([] ++ tl2) ∧ gc = 1 ∧ gs = 6)) := by
  refine kw_of (by decide) (Nat.le_of_ble_eq_true rfl) ?_
  intro p e s m args below meth c H locs B hr hT ls hl
  have hx := B.1.1
  have hb := B.1.2.1
  have hl : lv_has ls 4 [(0, .ref qa), (1, .int (iI wt)), (2, .int (iI va))] := hl
  have hcp9 := PS_cp hPS
  refine lv_aload_n hx hb dL_marks_0 rfl (lv_at hl 0 rfl) ?_
  refine lv_iload_n hx hb dL_marks_1 rfl (lv_at hl 1 rfl) ?_
  refine lv_iload_n hx hb dL_marks_2 rfl (lv_at hl 2 rfl) ?_
  have B := bd_swap (a := []) (b := []) (d := tl) (bd_to rfl B)
  obtain ⟨k_1, hk_1⟩ := pk_at (hs := []) (PS_go hPS).choose_spec
  refine k_Vx (rest := []) (wc := ([] ++ tl)) (wr := []) (a_mark l dC dI k hl0 T K qa cp tl wt va hPS hQ hrwt hrva) B mV_X11_mark mw_599 hl (q0 := k_1) (ci := 11) hk_1 rfl rfl ⟨Nat.le_of_ble_eq_true rfl, Nat.le_of_ble_eq_true rfl⟩ (Nat.le_of_ble_eq_true rfl) rfl dL_marks_3 ⟨by dsimp only; omega, by dsimp only; omega⟩ (fun E ce q9 w gc gs H locs hp B h1 h2 h3 => ?_) (fun r w gc gs H locs hp B => ?_)
  · skip
    rcases hp with ⟨z_2, rfl, hw9, rfl, rfl⟩ | ⟨z_3, rfl, hw9, rfl, rfl⟩
    · skip
      rw [hw9] at B; clear hw9
      have B := bd_to (ws' := ([] ++ tl)) rfl B
      refine vx_catch B.1.2.2.2.1 [] ⟨0, 6, 7, 13⟩ [⟨0, 6, 11, 23⟩] (hT.trans rfl) (fun z hz => by cases hz) (by decide) (by decide) (B.1.2.2.2.2.1 _ mw_501) (ca.use (B.2.1.2.2.2.2.2.2.1.1.1 _ (by decide +kernel))) h1 h2 h3 ?_
      refine lv_astore_n (lv' := [(3, .ref q9), (0, .ref qa), (1, .int (iI wt)), (2, .int (iI va))]) hx hb dL_marks_7 rfl hl (by decide) rfl (fun ls hl => ?_)
      refine lv_ldc (v := (-2000000001)) hx hb B.1.2.2.2.1 (B.1.2.2.2.2.1 _ mw_593) dL_marks_8 ?_
      refine lv_seti (y := iI (-2000000001)) (by decide) ?_
      exact k_iret B hr (Or.inr (Or.inl (⟨tl, hPS, z_2, rfl, rfl, rfl, rfl⟩))) ⟨(by first | omega | (dsimp only; omega)), (by first | omega | (dsimp only; omega))⟩ ⟨(by first | omega | (dsimp only; omega)), (by first | omega | (dsimp only; omega))⟩ dL_marks_10
    · skip
      rw [hw9] at B; clear hw9
      have B := bd_to (ws' := ([] ++ tl)) rfl B
      refine vx_catch B.1.2.2.2.1 [⟨0, 6, 7, 13⟩] ⟨0, 6, 11, 23⟩ [] (hT.trans rfl) (fun z hz => by rcases List.mem_singleton.mp hz with rfl; exact Or.inr ⟨by decide, _, B.1.2.2.2.2.1 _ mw_501, B.2.1.2.2.2.2.2.2.1.2.2.1⟩) (by decide) (by decide) (B.1.2.2.2.2.1 _ mw_598) (ca.use (B.2.1.2.2.2.2.2.2.1.1.1 _ (by decide +kernel))) h1 h2 h3 ?_
      refine lv_astore_n (lv' := [(3, .ref q9), (0, .ref qa), (1, .int (iI wt)), (2, .int (iI va))]) hx hb dL_marks_11 rfl hl (by decide) rfl (fun ls hl => ?_)
      refine lv_ldc (v := (-2000000002)) hx hb B.1.2.2.2.1 (B.1.2.2.2.2.1 _ mw_627) dL_marks_12 ?_
      refine lv_seti (y := iI (-2000000002)) (by decide) ?_
      exact k_iret B hr (Or.inr (Or.inr (⟨tl, hPS, z_3, rfl, rfl, rfl, rfl⟩))) ⟨(by first | omega | (dsimp only; omega)), (by first | omega | (dsimp only; omega))⟩ ⟨(by first | omega | (dsimp only; omega)), (by first | omega | (dsimp only; omega))⟩ dL_marks_14
  · skip
    obtain ⟨tl2_4, z_5, z_6, rfl, hw9, rfl, rfl⟩ := hp
    rw [hw9] at B; clear hw9
    have B := bd_to (ws' := ([] ++ tl2_4)) rfl B
    have hPS : PS dI k T (KKn (K 0 0) (K 1) (uz (K 2) wt va)) qa cp tl2_4 := z_5
    exact k_iret B hr (Or.inl (⟨tl2_4, z_5, z_6, rfl, rfl, rfl, rfl⟩)) ⟨(by first | omega | (dsimp only; omega)), (by first | omega | (dsimp only; omega))⟩ ⟨(by first | omega | (dsimp only; omega)), (by first | omega | (dsimp only; omega))⟩ dL_marks_6

theorem mw_631 : (Jvm.Cond.methodLink "GalleyforgeLaw" (26 : Nat) ({ cls := "Galleyforge", name := "pattern", desc := "(II)I" } : Jvm.MethodName)) ∈ gt := gt_at 701 (by decide +kernel) (by decide +kernel)
theorem mw_632 : (Jvm.Cond.instanceMethod ({ cls := "Galleyforge", name := "pattern", desc := "(II)I" } : Jvm.MethodName)) ∈ gt := gt_at 702 (by decide +kernel) (by decide +kernel)
theorem mw_633 : (Jvm.Cond.selects "Galleyforge" ({ cls := "Galleyforge", name := "pattern", desc := "(II)I" } : Jvm.MethodName) ({ cls := "Galleyforge", name := "pattern", desc := "(II)I" } : Jvm.MethodName)) ∈ gt := gt_at 703 (by decide +kernel) (by decide +kernel)
theorem mw_634 : (Jvm.Cond.code ({ cls := "Galleyforge", name := "pattern", desc := "(II)I" } : Jvm.MethodName) prog_1_method_5_code (3 : Nat) (Option.some Jvm.ClassFile.FieldType.int)) ∈ gt := gt_at 704 (by decide +kernel) (by decide +kernel)
theorem mV_X11_pattern : mV yX11_pattern cX11_pattern 3 (some .int) 2 := ⟨⟨mw_634, mw_1, by decide, by decide, by decide +kernel⟩, mw_632, mw_633⟩
theorem dL_patterns_0 : decode cL_patterns 0 = .ok (.aload_n 0, 1) := by decide +kernel
theorem dL_patterns_1 : decode cL_patterns 1 = .ok (.iload_n 1, 1) := by decide +kernel
theorem dL_patterns_2 : decode cL_patterns 2 = .ok (.iload_n 2, 1) := by decide +kernel
theorem dL_patterns_3 : decode cL_patterns 3 = .ok (.invokevirtual 26, 3) := by decide +kernel
theorem dL_patterns_6 : decode cL_patterns 6 = .ok (.ireturn, 1) := by decide +kernel
theorem dL_patterns_7 : decode cL_patterns 7 = .ok (.astore_n 3, 1) := by decide +kernel
theorem dL_patterns_8 : decode cL_patterns 8 = .ok (.ldc 25, 2) := by decide +kernel
theorem dL_patterns_10 : decode cL_patterns 10 = .ok (.ireturn, 1) := by decide +kernel
theorem dL_patterns_11 : decode cL_patterns 11 = .ok (.astore_n 3, 1) := by decide +kernel
theorem dL_patterns_12 : decode cL_patterns 12 = .ok (.ldc 18, 2) := by decide +kernel
theorem dL_patterns_14 : decode cL_patterns 14 = .ok (.ireturn, 1) := by decide +kernel
set_option maxHeartbeats 4000000 in
set_option maxRecDepth 100000 in
theorem w_patterns (l : Launch) (dC : Nat → ClassId) (dI : Nat → Nat → Nat) (k : Nat → ClassId) (hl0 : l.stackTraces = false) (T : Nat → Int → Int → Int → Int) (K : Nat → Int → Int) (qa : Nat) (cp : Nat) (tl : va_W) (gp : Int) (lv_ : Int) (hPS : PS dI k T K qa cp tl) (hQ : OKT T K) (hrgp : -2147483648 ≤ gp ∧ gp < 2147483648) (hrlv_ : -2147483648 ≤ lv_ ∧ lv_ < 2147483648) : Kn l dC dI k yL_patterns (.codeWith yL_patterns cL_patterns 4 (some .int) [(0, 6, 7, 23), (0, 6, 11, 16)]) ({ frames := 15, cells := 3, slots := 50, locals := 468 } : Room) [.ref qa, .int (iI gp), .int (iI lv_)] ([] ++ tl) (fun r w gc gs => (∃ (tl2 : va_W), (PS dI k (gpT (apT T (Int.toNat (K 0 0)) (spF K) gp lv_) (T 0 0 0 0) 0) (KKn 0 (K 1) (K 2)) qa cp tl2) ∧ (((0 ≤ gp ∧ gp ≤ K 0 0) ∧ 1 ≤ lv_ ∧ lv_ ≤ 5) ∧ ((0 < K 0 0 ∧ K 0 0 ≤ 3) ∧ T 18 0 0 0 < 8)) ∧ r = some (.int (iI (T 18 0 0 0 + 1))) ∧ w = ([] ++ tl2) ∧ gc = 3 ∧ gs = 50) ∨ (∃ (tl2 : va_W), (PS dI k T K qa cp tl2) ∧ (¬ ((0 ≤ gp ∧ gp ≤ K 0 0) ∧ 1 ≤ lv_ ∧ lv_ ≤ 5)) ∧ r = some (.int (iI (-2000000002))) ∧ w = ([] ++ tl2) ∧ gc = 3 ∧ gs = 50) ∨ (∃ (tl2 : va_W), (PS dI k T K qa cp tl2) ∧ (((0 ≤ gp ∧ gp ≤ K 0 0) ∧ 1 ≤ lv_ ∧ lv_ ≤ 5) ∧ ¬ ((0 < K 0 0 ∧ K 0 0 ≤ 3) ∧ T 18 0 0 0 < 8)) ∧ r = some (.int (iI (-2000000003))) ∧ w = ([] ++ tl2) ∧ gc = 3 ∧ gs = 50)) := by
  refine kw_of (by decide) (Nat.le_of_ble_eq_true rfl) ?_
  intro p e s m args below meth c H locs B hr hT ls hl
  have hx := B.1.1
  have hb := B.1.2.1
  have hl : lv_has ls 4 [(0, .ref qa), (1, .int (iI gp)), (2, .int (iI lv_))] := hl
  have hcp9 := PS_cp hPS
  refine lv_aload_n hx hb dL_patterns_0 rfl (lv_at hl 0 rfl) ?_
  refine lv_iload_n hx hb dL_patterns_1 rfl (lv_at hl 1 rfl) ?_
  refine lv_iload_n hx hb dL_patterns_2 rfl (lv_at hl 2 rfl) ?_
  have B := bd_swap (a := []) (b := []) (d := tl) (bd_to rfl B)
  obtain ⟨k_1, hk_1⟩ := pk_at (hs := []) (PS_go hPS).choose_spec
  refine k_Vx (rest := []) (wc := ([] ++ tl)) (wr := []) (a_pattern l dC dI k hl0 T K qa cp tl gp lv_ hPS hQ hrgp hrlv_) B mV_X11_pattern mw_631 hl (q0 := k_1) (ci := 11) hk_1 rfl rfl ⟨Nat.le_of_ble_eq_true rfl, Nat.le_of_ble_eq_true rfl⟩ (Nat.le_of_ble_eq_true rfl) rfl dL_patterns_3 ⟨by dsimp only; omega, by dsimp only; omega⟩ (fun E ce q9 w gc gs H locs hp B h1 h2 h3 => ?_) (fun r w gc gs H locs hp B => ?_)
  · skip
    rcases hp with ⟨z_2, rfl, hw9, rfl, rfl⟩ | ⟨z_3, rfl, hw9, rfl, rfl⟩
    · skip
      rw [hw9] at B; clear hw9
      have B := bd_to (ws' := ([] ++ tl)) rfl B
      refine vx_catch B.1.2.2.2.1 [] ⟨0, 6, 7, 23⟩ [⟨0, 6, 11, 16⟩] (hT.trans rfl) (fun z hz => by cases hz) (by decide) (by decide) (B.1.2.2.2.2.1 _ mw_598) (ca.use (B.2.1.2.2.2.2.2.2.1.1.1 _ (by decide +kernel))) h1 h2 h3 ?_
      refine lv_astore_n (lv' := [(3, .ref q9), (0, .ref qa), (1, .int (iI gp)), (2, .int (iI lv_))]) hx hb dL_patterns_7 rfl hl (by decide) rfl (fun ls hl => ?_)
      refine lv_ldc (v := (-2000000002)) hx hb B.1.2.2.2.1 (B.1.2.2.2.2.1 _ mw_627) dL_patterns_8 ?_
      refine lv_seti (y := iI (-2000000002)) (by decide) ?_
      exact k_iret B hr (Or.inr (Or.inl (⟨tl, hPS, z_2, rfl, rfl, rfl, rfl⟩))) ⟨(by first | omega | (dsimp only; omega)), (by first | omega | (dsimp only; omega))⟩ ⟨(by first | omega | (dsimp only; omega)), (by first | omega | (dsimp only; omega))⟩ dL_patterns_10
    · skip
      rw [hw9] at B; clear hw9
      have B := bd_to (ws' := ([] ++ tl)) rfl B
      refine vx_catch B.1.2.2.2.1 [⟨0, 6, 7, 23⟩] ⟨0, 6, 11, 16⟩ [] (hT.trans rfl) (fun z hz => by rcases List.mem_singleton.mp hz with rfl; exact Or.inr ⟨by decide, _, B.1.2.2.2.2.1 _ mw_598, B.2.1.2.2.2.2.2.2.1.2.2.2⟩) (by decide) (by decide) (B.1.2.2.2.2.1 _ mw_502) (ca.use (B.2.1.2.2.2.2.2.2.1.1.1 _ (by decide +kernel))) h1 h2 h3 ?_
      refine lv_astore_n (lv' := [(3, .ref q9), (0, .ref qa), (1, .int (iI gp)), (2, .int (iI lv_))]) hx hb dL_patterns_11 rfl hl (by decide) rfl (fun ls hl => ?_)
      refine lv_ldc (v := (-2000000003)) hx hb B.1.2.2.2.1 (B.1.2.2.2.2.1 _ mw_594) dL_patterns_12 ?_
      refine lv_seti (y := iI (-2000000003)) (by decide) ?_
      exact k_iret B hr (Or.inr (Or.inr (⟨tl, hPS, z_3, rfl, rfl, rfl, rfl⟩))) ⟨(by first | omega | (dsimp only; omega)), (by first | omega | (dsimp only; omega))⟩ ⟨(by first | omega | (dsimp only; omega)), (by first | omega | (dsimp only; omega))⟩ dL_patterns_14
  · skip
    obtain ⟨gq_4, tl2_5, z_6, z_7, z_8, rfl, hw9, rfl, rfl⟩ := hp
    rw [hw9] at B; clear hw9
    have B := bd_to (ws' := ([] ++ tl2_5)) rfl B
    have hPS : PS dI k (gpT (apT T (Int.toNat (K 0 0)) (spF K) gp lv_) (T 0 0 0 0) 0) (KKn 0 (K 1) (K 2)) qa cp tl2_5 := z_6
    exact k_iret B hr (Or.inl (⟨tl2_5, z_6, z_7, rfl, rfl, rfl, rfl⟩)) ⟨(by first | omega | (dsimp only; omega)), (by first | omega | (dsimp only; omega))⟩ ⟨(by first | omega | (dsimp only; omega)), (by first | omega | (dsimp only; omega))⟩ dL_patterns_6

theorem mw_780 : (Jvm.Cond.methodLink "GalleyforgeLaw" (29 : Nat) ({ cls := "Galleyforge", name := "word", desc := "(II)I" } : Jvm.MethodName)) ∈ gt := gt_at 850 (by decide +kernel) (by decide +kernel)
theorem mw_781 : (Jvm.Cond.instanceMethod ({ cls := "Galleyforge", name := "word", desc := "(II)I" } : Jvm.MethodName)) ∈ gt := gt_at 851 (by decide +kernel) (by decide +kernel)
theorem mw_782 : (Jvm.Cond.selects "Galleyforge" ({ cls := "Galleyforge", name := "word", desc := "(II)I" } : Jvm.MethodName) ({ cls := "Galleyforge", name := "word", desc := "(II)I" } : Jvm.MethodName)) ∈ gt := gt_at 852 (by decide +kernel) (by decide +kernel)
theorem mw_783 : (Jvm.Cond.code ({ cls := "Galleyforge", name := "word", desc := "(II)I" } : Jvm.MethodName) prog_1_method_6_code (5 : Nat) (Option.some Jvm.ClassFile.FieldType.int)) ∈ gt := gt_at 853 (by decide +kernel) (by decide +kernel)
theorem mV_X11_word : mV yX11_word cX11_word 5 (some .int) 2 := ⟨⟨mw_783, mw_1, by decide, by decide, by decide +kernel⟩, mw_781, mw_782⟩
theorem dL_words_0 : decode cL_words 0 = .ok (.aload_n 0, 1) := by decide +kernel
theorem dL_words_1 : decode cL_words 1 = .ok (.iload_n 1, 1) := by decide +kernel
theorem dL_words_2 : decode cL_words 2 = .ok (.iload_n 2, 1) := by decide +kernel
theorem dL_words_3 : decode cL_words 3 = .ok (.invokevirtual 29, 3) := by decide +kernel
theorem dL_words_6 : decode cL_words 6 = .ok (.ireturn, 1) := by decide +kernel
theorem dL_words_7 : decode cL_words 7 = .ok (.astore_n 3, 1) := by decide +kernel
theorem dL_words_8 : decode cL_words 8 = .ok (.ldc 15, 2) := by decide +kernel
theorem dL_words_10 : decode cL_words 10 = .ok (.ireturn, 1) := by decide +kernel
theorem dL_words_11 : decode cL_words 11 = .ok (.astore_n 3, 1) := by decide +kernel
theorem dL_words_12 : decode cL_words 12 = .ok (.ldc 18, 2) := by decide +kernel
theorem dL_words_14 : decode cL_words 14 = .ok (.ireturn, 1) := by decide +kernel
set_option maxHeartbeats 4000000 in
set_option maxRecDepth 100000 in
theorem w_words (l : Launch) (dC : Nat → ClassId) (dI : Nat → Nat → Nat) (k : Nat → ClassId) (hl0 : l.stackTraces = false) (T : Nat → Int → Int → Int → Int) (K : Nat → Int → Int) (qa : Nat) (cp : Nat) (tl : va_W) (pl : Int) (at_ : Int) (hPS : PS dI k T K qa cp tl) (hQ : OKT T K) (hrpl : -2147483648 ≤ pl ∧ pl < 2147483648) (hrat_ : -2147483648 ≤ at_ ∧ at_ < 2147483648) : Kn l dC dI k yL_words (.codeWith yL_words cL_words 4 (some .int) [(0, 6, 7, 13), (0, 6, 11, 16)]) ({ frames := 15, cells := 4, slots := 60, locals := 471 } : Room) [.ref qa, .int (iI pl), .int (iI at_)] ([] ++ tl) (fun r w gc gs => (∃ (tl2 : va_W), (PS dI k (puT T pl at_ (Int.toNat (K 0 0)) (spF K) (-1) (K 2) (gsZ T (spF K) ((Int.toNat (K 0 0) : Nat) : Int))) (KKn 0 (K 1) (fun _ : Int => (-1))) qa cp tl2) ∧ (((0 ≤ pl ∧ pl < T 0 0 0 0) ∧ 0 ≤ at_ ∧ at_ ≤ T 3 pl 0 0) ∧ (T 1 pl 0 0 ≤ 2 ∧ T 3 pl 0 0 < 12) ∧ 0 < K 0 0) ∧ r = some (.int (iI (T 3 pl 0 0 + 1))) ∧ w = ([] ++ tl2) ∧ gc = 4 ∧ gs = 60) ∨ (∃ (tl2 : va_W), (PS dI k T K qa cp tl2) ∧ (¬ ((0 ≤ pl ∧ pl < T 0 0 0 0) ∧ 0 ≤ at_ ∧ at_ ≤ T 3 pl 0 0)) ∧ r = some (.int (iI (-2000000001))) ∧ w = ([] ++ tl2) ∧ gc = 4 ∧ gs = 60) ∨ (∃ (tl2 : va_W), (PS dI k T K qa cp tl2) ∧ (((0 ≤ pl ∧ pl < T 0 0 0 0) ∧ 0 ≤ at_ ∧ at_ ≤ T 3 pl 0 0) ∧ ¬ ((T 1 pl 0 0 ≤ 2 ∧ T 3 pl 0 0 < 12) ∧ 0 < K 0 0)) ∧ r = some (.int (iI (-2000000003))) ∧ w = ([] ++ tl2) ∧ gc = 4 ∧ gs = 60)) := by
  refine kw_of (by decide) (Nat.le_of_ble_eq_true rfl) ?_
  intro p e s m args below meth c H locs B hr hT ls hl
  have hx := B.1.1
  have hb := B.1.2.1
  have hl : lv_has ls 4 [(0, .ref qa), (1, .int (iI pl)), (2, .int (iI at_))] := hl
  have hcp9 := PS_cp hPS
  refine lv_aload_n hx hb dL_words_0 rfl (lv_at hl 0 rfl) ?_
  refine lv_iload_n hx hb dL_words_1 rfl (lv_at hl 1 rfl) ?_
  refine lv_iload_n hx hb dL_words_2 rfl (lv_at hl 2 rfl) ?_
  have B := bd_swap (a := []) (b := []) (d := tl) (bd_to rfl B)
  obtain ⟨k_1, hk_1⟩ := pk_at (hs := []) (PS_go hPS).choose_spec
  refine k_Vx (rest := []) (wc := ([] ++ tl)) (wr := []) (a_word l dC dI k hl0 T K qa cp tl pl at_ hPS hQ hrpl hrat_) B mV_X11_word mw_780 hl (q0 := k_1) (ci := 11) hk_1 rfl rfl ⟨Nat.le_of_ble_eq_true rfl, Nat.le_of_ble_eq_true rfl⟩ (Nat.le_of_ble_eq_true rfl) rfl dL_words_3 ⟨by dsimp only; omega, by dsimp only; omega⟩ (fun E ce q9 w gc gs H locs hp B h1 h2 h3 => ?_) (fun r w gc gs H locs hp B => ?_)
  · skip
    rcases hp with ⟨z_2, rfl, hw9, rfl, rfl⟩ | ⟨z_3, rfl, hw9, rfl, rfl⟩
    · skip
      rw [hw9] at B; clear hw9
      have B := bd_to (ws' := ([] ++ tl)) rfl B
      refine vx_catch B.1.2.2.2.1 [] ⟨0, 6, 7, 13⟩ [⟨0, 6, 11, 16⟩] (hT.trans rfl) (fun z hz => by cases hz) (by decide) (by decide) (B.1.2.2.2.2.1 _ mw_501) (ca.use (B.2.1.2.2.2.2.2.2.1.1.1 _ (by decide +kernel))) h1 h2 h3 ?_
      refine lv_astore_n (lv' := [(3, .ref q9), (0, .ref qa), (1, .int (iI pl)), (2, .int (iI at_))]) hx hb dL_words_7 rfl hl (by decide) rfl (fun ls hl => ?_)
      refine lv_ldc (v := (-2000000001)) hx hb B.1.2.2.2.1 (B.1.2.2.2.2.1 _ mw_593) dL_words_8 ?_
      refine lv_seti (y := iI (-2000000001)) (by decide) ?_
      exact k_iret B hr (Or.inr (Or.inl (⟨tl, hPS, z_2, rfl, rfl, rfl, rfl⟩))) ⟨(by first | omega | (dsimp only; omega)), (by first | omega | (dsimp only; omega))⟩ ⟨(by first | omega | (dsimp only; omega)), (by first | omega | (dsimp only; omega))⟩ dL_words_10
    · skip
      rw [hw9] at B; clear hw9
      have B := bd_to (ws' := ([] ++ tl)) rfl B
      refine vx_catch B.1.2.2.2.1 [⟨0, 6, 7, 13⟩] ⟨0, 6, 11, 16⟩ [] (hT.trans rfl) (fun z hz => by rcases List.mem_singleton.mp hz with rfl; exact Or.inr ⟨by decide, _, B.1.2.2.2.2.1 _ mw_501, B.2.1.2.2.2.2.2.2.1.2.1⟩) (by decide) (by decide) (B.1.2.2.2.2.1 _ mw_502) (ca.use (B.2.1.2.2.2.2.2.2.1.1.1 _ (by decide +kernel))) h1 h2 h3 ?_
      refine lv_astore_n (lv' := [(3, .ref q9), (0, .ref qa), (1, .int (iI pl)), (2, .int (iI at_))]) hx hb dL_words_11 rfl hl (by decide) rfl (fun ls hl => ?_)
      refine lv_ldc (v := (-2000000003)) hx hb B.1.2.2.2.1 (B.1.2.2.2.2.1 _ mw_594) dL_words_12 ?_
      refine lv_seti (y := iI (-2000000003)) (by decide) ?_
      exact k_iret B hr (Or.inr (Or.inr (⟨tl, hPS, z_3, rfl, rfl, rfl, rfl⟩))) ⟨(by first | omega | (dsimp only; omega)), (by first | omega | (dsimp only; omega))⟩ ⟨(by first | omega | (dsimp only; omega)), (by first | omega | (dsimp only; omega))⟩ dL_words_14
  · skip
    obtain ⟨gq_4, tl2_5, z_6, z_7, z_8, rfl, hw9, rfl, rfl⟩ := hp
    rw [hw9] at B; clear hw9
    have B := bd_to (ws' := ([] ++ tl2_5)) rfl B
    have hPS : PS dI k (puT T pl at_ (Int.toNat (K 0 0)) (spF K) (-1) (K 2) (gsZ T (spF K) ((Int.toNat (K 0 0) : Nat) : Int))) (KKn 0 (K 1) (fun _ : Int => (-1))) qa cp tl2_5 := z_6
    exact k_iret B hr (Or.inl (⟨tl2_5, z_6, z_7, rfl, rfl, rfl, rfl⟩)) ⟨(by first | omega | (dsimp only; omega)), (by first | omega | (dsimp only; omega))⟩ ⟨(by first | omega | (dsimp only; omega)), (by first | omega | (dsimp only; omega))⟩ dL_words_6

theorem mw_1093 : (Jvm.Cond.methodLink "GalleyforgeLaw" (32 : Nat) ({ cls := "Galleyforge", name := "reference", desc := "(III)I" } : Jvm.MethodName)) ∈ gt := gt_at 1163 (by decide +kernel) (by decide +kernel)
theorem mw_1094 : (Jvm.Cond.instanceMethod ({ cls := "Galleyforge", name := "reference", desc := "(III)I" } : Jvm.MethodName)) ∈ gt := gt_at 1164 (by decide +kernel) (by decide +kernel)
theorem mw_1095 : (Jvm.Cond.selects "Galleyforge" ({ cls := "Galleyforge", name := "reference", desc := "(III)I" } : Jvm.MethodName) ({ cls := "Galleyforge", name := "reference", desc := "(III)I" } : Jvm.MethodName)) ∈ gt := gt_at 1165 (by decide +kernel) (by decide +kernel)
theorem mw_1096 : (Jvm.Cond.code ({ cls := "Galleyforge", name := "reference", desc := "(III)I" } : Jvm.MethodName) prog_1_method_7_code (5 : Nat) (Option.some Jvm.ClassFile.FieldType.int)) ∈ gt := gt_at 1166 (by decide +kernel) (by decide +kernel)
theorem mV_X11_reference : mV yX11_reference cX11_reference 5 (some .int) 3 := ⟨⟨mw_1096, mw_1, by decide, by decide, by decide +kernel⟩, mw_1094, mw_1095⟩
theorem dL_refers_0 : decode cL_refers 0 = .ok (.aload_n 0, 1) := by decide +kernel
theorem dL_refers_1 : decode cL_refers 1 = .ok (.iload_n 1, 1) := by decide +kernel
theorem dL_refers_2 : decode cL_refers 2 = .ok (.iload_n 2, 1) := by decide +kernel
theorem dL_refers_3 : decode cL_refers 3 = .ok (.iload_n 3, 1) := by decide +kernel
theorem dL_refers_4 : decode cL_refers 4 = .ok (.invokevirtual 32, 3) := by decide +kernel
theorem dL_refers_7 : decode cL_refers 7 = .ok (.ireturn, 1) := by decide +kernel
theorem dL_refers_8 : decode cL_refers 8 = .ok (.astore 4, 2) := by decide +kernel
theorem dL_refers_10 : decode cL_refers 10 = .ok (.ldc 15, 2) := by decide +kernel
theorem dL_refers_12 : decode cL_refers 12 = .ok (.ireturn, 1) := by decide +kernel
theorem dL_refers_13 : decode cL_refers 13 = .ok (.astore 4, 2) := by decide +kernel
theorem dL_refers_15 : decode cL_refers 15 = .ok (.ldc 18, 2) := by decide +kernel
theorem dL_refers_17 : decode cL_refers 17 = .ok (.ireturn, 1) := by decide +kernel
set_option maxHeartbeats 4000000 in
set_option maxRecDepth 100000 in
theorem w_refers (l : Launch) (dC : Nat → ClassId) (dI : Nat → Nat → Nat) (k : Nat → ClassId) (hl0 : l.stackTraces = false) (T : Nat → Int → Int → Int → Int) (K : Nat → Int → Int) (qa : Nat) (cp : Nat) (tl : va_W) (pl : Int) (at_ : Int) (lab : Int) (hPS : PS dI k T K qa cp tl) (hQ : OKT T K) (hrpl : -2147483648 ≤ pl ∧ pl < 2147483648) (hrat_ : -2147483648 ≤ at_ ∧ at_ < 2147483648) (hrlab : -2147483648 ≤ lab ∧ lab < 2147483648) : Kn l dC dI k yL_refers (.codeWith yL_refers cL_refers 5 (some .int) [(0, 7, 8, 13), (0, 7, 13, 16)]) ({ frames := 15, cells := 4, slots := 60, locals := 471 } : Room) [.ref qa, .int (iI pl), .int (iI at_), .int (iI lab)] ([] ++ tl) (fun r w gc gs => (∃ (tl2 : va_W), (PS dI k (puT T pl at_ 0 (fun _ : Int => (0 : Int)) lab (K 2) (gsZ T (fun _ : Int => (0 : Int)) ((0 : Nat) : Int))) (KKn (K 0 0) (K 1) (fun _ : Int => (-1))) qa cp tl2) ∧ ((((0 ≤ pl ∧ pl < T 0 0 0 0) ∧ 0 ≤ at_ ∧ at_ ≤ T 3 pl 0 0) ∧ (0 ≤ lab ∧ lab ≤ 5)) ∧ (T 1 pl 0 0 ≤ 2 ∧ T 3 pl 0 0 < 12)) ∧ r = some (.int (iI (T 3 pl 0 0 + 1))) ∧ w = ([] ++ tl2) ∧ gc = 4 ∧ gs = 60) ∨ (∃ (tl2 : va_W), (PS dI k T K qa cp tl2) ∧ (¬ (((0 ≤ pl ∧ pl < T 0 0 0 0) ∧ 0 ≤ at_ ∧ at_ ≤ T 3 pl 0 0) ∧ (0 ≤ lab ∧ lab ≤ 5))) ∧ r = some (.int (iI (-2000000001))) ∧ w = ([] ++ tl2) ∧ gc = 4 ∧ gs = 60) ∨ (∃ (tl2 : va_W), (PS dI k T K qa cp tl2) ∧ ((((0 ≤ pl ∧ pl < T 0 0 0 0) ∧ 0 ≤ at_ ∧ at_ ≤ T 3 pl 0 0) ∧ (0 ≤ lab ∧ lab ≤ 5)) ∧ ¬ (T 1 pl 0 0 ≤ 2 ∧ T 3 pl 0 0 < 12)) ∧ r = some (.int (iI (-2000000003))) ∧ w = ([] ++ tl2) ∧ gc = 4 ∧ gs = 60)) := by
  refine kw_of (by decide) (Nat.le_of_ble_eq_true rfl) ?_
  intro p e s m args below meth c H locs B hr hT ls hl
  have hx := B.1.1
  have hb := B.1.2.1
  have hl : lv_has ls 5 [(0, .ref qa), (1, .int (iI pl)), (2, .int (iI at_)), (3, .int (iI lab))] := hl
  have hcp9 := PS_cp hPS
  refine lv_aload_n hx hb dL_refers_0 rfl (lv_at hl 0 rfl) ?_
  refine lv_iload_n hx hb dL_refers_1 rfl (lv_at hl 1 rfl) ?_
  refine lv_iload_n hx hb dL_refers_2 rfl (lv_at hl 2 rfl) ?_
  refine lv_iload_n hx hb dL_refers_3 rfl (lv_at hl 3 rfl) ?_
  have B := bd_swap (a := []) (b := []) (d := tl) (bd_to rfl B)
  obtain ⟨k_1, hk_1⟩ := pk_at (hs := []) (PS_go hPS).choose_spec
  refine k_Vx (rest := []) (wc := ([] ++ tl)) (wr := []) (a_reference l dC dI k hl0 T K qa cp tl pl at_ lab hPS hQ hrpl hrat_ hrlab) B mV_X11_reference mw_1093 hl (q0 := k_1) (ci := 11) hk_1 rfl rfl ⟨Nat.le_of_ble_eq_true rfl, Nat.le_of_ble_eq_true rfl⟩ (Nat.le_of_ble_eq_true rfl) rfl dL_refers_4 ⟨by dsimp only; omega, by dsimp only; omega⟩ (fun E ce q9 w gc gs H locs hp B h1 h2 h3 => ?_) (fun r w gc gs H locs hp B => ?_)
  · skip
    rcases hp with ⟨z_2, rfl, hw9, rfl, rfl⟩ | ⟨z_3, rfl, hw9, rfl, rfl⟩
    · skip
      rw [hw9] at B; clear hw9
      have B := bd_to (ws' := ([] ++ tl)) rfl B
      refine vx_catch B.1.2.2.2.1 [] ⟨0, 7, 8, 13⟩ [⟨0, 7, 13, 16⟩] (hT.trans rfl) (fun z hz => by cases hz) (by decide) (by decide) (B.1.2.2.2.2.1 _ mw_501) (ca.use (B.2.1.2.2.2.2.2.2.1.1.1 _ (by decide +kernel))) h1 h2 h3 ?_
      refine lv_astore (lv' := [(4, .ref q9), (0, .ref qa), (1, .int (iI pl)), (2, .int (iI at_)), (3, .int (iI lab))]) hx hb dL_refers_8 hl (by decide) rfl (fun ls hl => ?_)
      refine lv_ldc (v := (-2000000001)) hx hb B.1.2.2.2.1 (B.1.2.2.2.2.1 _ mw_593) dL_refers_10 ?_
      refine lv_seti (y := iI (-2000000001)) (by decide) ?_
      exact k_iret B hr (Or.inr (Or.inl (⟨tl, hPS, z_2, rfl, rfl, rfl, rfl⟩))) ⟨(by first | omega | (dsimp only; omega)), (by first | omega | (dsimp only; omega))⟩ ⟨(by first | omega | (dsimp only; omega)), (by first | omega | (dsimp only; omega))⟩ dL_refers_12
    · skip
      rw [hw9] at B; clear hw9
      have B := bd_to (ws' := ([] ++ tl)) rfl B
      refine vx_catch B.1.2.2.2.1 [⟨0, 7, 8, 13⟩] ⟨0, 7, 13, 16⟩ [] (hT.trans rfl) (fun z hz => by rcases List.mem_singleton.mp hz with rfl; exact Or.inr ⟨by decide, _, B.1.2.2.2.2.1 _ mw_501, B.2.1.2.2.2.2.2.2.1.2.1⟩) (by decide) (by decide) (B.1.2.2.2.2.1 _ mw_502) (ca.use (B.2.1.2.2.2.2.2.2.1.1.1 _ (by decide +kernel))) h1 h2 h3 ?_
      refine lv_astore (lv' := [(4, .ref q9), (0, .ref qa), (1, .int (iI pl)), (2, .int (iI at_)), (3, .int (iI lab))]) hx hb dL_refers_13 hl (by decide) rfl (fun ls hl => ?_)
      refine lv_ldc (v := (-2000000003)) hx hb B.1.2.2.2.1 (B.1.2.2.2.2.1 _ mw_594) dL_refers_15 ?_
      refine lv_seti (y := iI (-2000000003)) (by decide) ?_
      exact k_iret B hr (Or.inr (Or.inr (⟨tl, hPS, z_3, rfl, rfl, rfl, rfl⟩))) ⟨(by first | omega | (dsimp only; omega)), (by first | omega | (dsimp only; omega))⟩ ⟨(by first | omega | (dsimp only; omega)), (by first | omega | (dsimp only; omega))⟩ dL_refers_17
  · skip
    obtain ⟨gq_4, tl2_5, z_6, z_7, z_8, rfl, hw9, rfl, rfl⟩ := hp
    rw [hw9] at B; clear hw9
    have B := bd_to (ws' := ([] ++ tl2_5)) rfl B
    have hPS : PS dI k (puT T pl at_ 0 (fun _ : Int => (0 : Int)) lab (K 2) (gsZ T (fun _ : Int => (0 : Int)) ((0 : Nat) : Int))) (KKn (K 0 0) (K 1) (fun _ : Int => (-1))) qa cp tl2_5 := z_6
    exact k_iret B hr (Or.inl (⟨tl2_5, z_6, z_7, rfl, rfl, rfl, rfl⟩)) ⟨(by first | omega | (dsimp only; omega)), (by first | omega | (dsimp only; omega))⟩ ⟨(by first | omega | (dsimp only; omega)), (by first | omega | (dsimp only; omega))⟩ dL_refers_7

theorem mw_1104 : (Jvm.Cond.methodLink "GalleyforgeLaw" (36 : Nat) ({ cls := "Galleyforge", name := "take", desc := "(II)I" } : Jvm.MethodName)) ∈ gt := gt_at 1174 (by decide +kernel) (by decide +kernel)
theorem mw_1105 : (Jvm.Cond.instanceMethod ({ cls := "Galleyforge", name := "take", desc := "(II)I" } : Jvm.MethodName)) ∈ gt := gt_at 1175 (by decide +kernel) (by decide +kernel)
theorem mw_1106 : (Jvm.Cond.selects "Galleyforge" ({ cls := "Galleyforge", name := "take", desc := "(II)I" } : Jvm.MethodName) ({ cls := "Galleyforge", name := "take", desc := "(II)I" } : Jvm.MethodName)) ∈ gt := gt_at 1176 (by decide +kernel) (by decide +kernel)
theorem mw_1107 : (Jvm.Cond.code ({ cls := "Galleyforge", name := "take", desc := "(II)I" } : Jvm.MethodName) prog_1_method_8_code (4 : Nat) (Option.some Jvm.ClassFile.FieldType.int)) ∈ gt := gt_at 1177 (by decide +kernel) (by decide +kernel)
theorem mV_X11_take : mV yX11_take cX11_take 4 (some .int) 2 := ⟨⟨mw_1107, mw_1, by decide, by decide, by decide +kernel⟩, mw_1105, mw_1106⟩
theorem dL_takes_0 : decode cL_takes 0 = .ok (.aload_n 0, 1) := by decide +kernel
theorem dL_takes_1 : decode cL_takes 1 = .ok (.iload_n 1, 1) := by decide +kernel
theorem dL_takes_2 : decode cL_takes 2 = .ok (.iload_n 2, 1) := by decide +kernel
theorem dL_takes_3 : decode cL_takes 3 = .ok (.invokevirtual 36, 3) := by decide +kernel
theorem dL_takes_6 : decode cL_takes 6 = .ok (.ireturn, 1) := by decide +kernel
theorem dL_takes_7 : decode cL_takes 7 = .ok (.astore_n 3, 1) := by decide +kernel
theorem dL_takes_8 : decode cL_takes 8 = .ok (.ldc 15, 2) := by decide +kernel
theorem dL_takes_10 : decode cL_takes 10 = .ok (.ireturn, 1) := by decide +kernel
set_option maxHeartbeats 4000000 in
set_option maxRecDepth 100000 in
theorem w_takes (l : Launch) (dC : Nat → ClassId) (dI : Nat → Nat → Nat) (k : Nat → ClassId) (hl0 : l.stackTraces = false) (T : Nat → Int → Int → Int → Int) (K : Nat → Int → Int) (qa : Nat) (cp : Nat) (tl : va_W) (pl : Int) (at_ : Int) (hPS : PS dI k T K qa cp tl) (hQ : OKT T K) (hrpl : -2147483648 ≤ pl ∧ pl < 2147483648) (hrat_ : -2147483648 ≤ at_ ∧ at_ < 2147483648) : Kn l dC dI k yL_takes (.codeWith yL_takes cL_takes 4 (some .int) [(0, 6, 7, 13)]) ({ frames := 14, cells := 1, slots := 40, locals := 446 } : Room) [.ref qa, .int (iI pl), .int (iI at_)] ([] ++ tl) (fun r w gc gs => (∃ (tl2 : va_W), (PS dI k (tkT T pl at_) K qa cp tl2) ∧ ((0 ≤ pl ∧ pl < T 0 0 0 0) ∧ 0 ≤ at_ ∧ at_ < T 3 pl 0 0) ∧ r = some (.int (iI (T 3 pl 0 0 - 1))) ∧ w = ([] ++ tl2) ∧ gc = 1 ∧ gs = 40) ∨ (∃ (tl2 : va_W), (PS dI k T K qa cp tl2) ∧ (¬ ((0 ≤ pl ∧ pl < T 0 0 0 0) ∧ 0 ≤ at_ ∧ at_ < T 3 pl 0 0)) ∧ r = some (.int (iI (-2000000001))) ∧ w = ([] ++ tl2) ∧ gc = 1 ∧ gs = 40)) := by
  refine kw_of (by decide) (Nat.le_of_ble_eq_true rfl) ?_
  intro p e s m args below meth c H locs B hr hT ls hl
  have hx := B.1.1
  have hb := B.1.2.1
  have hl : lv_has ls 4 [(0, .ref qa), (1, .int (iI pl)), (2, .int (iI at_))] := hl
  have hcp9 := PS_cp hPS
  refine lv_aload_n hx hb dL_takes_0 rfl (lv_at hl 0 rfl) ?_
  refine lv_iload_n hx hb dL_takes_1 rfl (lv_at hl 1 rfl) ?_
  refine lv_iload_n hx hb dL_takes_2 rfl (lv_at hl 2 rfl) ?_
  have B := bd_swap (a := []) (b := []) (d := tl) (bd_to rfl B)
  obtain ⟨k_1, hk_1⟩ := pk_at (hs := []) (PS_go hPS).choose_spec
  refine k_Vx (rest := []) (wc := ([] ++ tl)) (wr := []) (a_take l dC dI k hl0 T K qa cp tl pl at_ hPS hQ hrpl hrat_) B mV_X11_take mw_1104 hl (q0 := k_1) (ci := 11) hk_1 rfl rfl ⟨Nat.le_of_ble_eq_true rfl, Nat.le_of_ble_eq_true rfl⟩ (Nat.le_of_ble_eq_true rfl) rfl dL_takes_3 ⟨by dsimp only; omega, by dsimp only; omega⟩ (fun E ce q9 w gc gs H locs hp B h1 h2 h3 => ?_) (fun r w gc gs H locs hp B => ?_)
  · skip
    obtain ⟨z_2, rfl, hw9, rfl, rfl⟩ := hp
    rw [hw9] at B; clear hw9
    have B := bd_to (ws' := ([] ++ tl)) rfl B
    refine vx_catch B.1.2.2.2.1 [] ⟨0, 6, 7, 13⟩ [] (hT.trans rfl) (fun z hz => by cases hz) (by decide) (by decide) (B.1.2.2.2.2.1 _ mw_501) (ca.use (B.2.1.2.2.2.2.2.2.1.1.1 _ (by decide +kernel))) h1 h2 h3 ?_
    refine lv_astore_n (lv' := [(3, .ref q9), (0, .ref qa), (1, .int (iI pl)), (2, .int (iI at_))]) hx hb dL_takes_7 rfl hl (by decide) rfl (fun ls hl => ?_)
    refine lv_ldc (v := (-2000000001)) hx hb B.1.2.2.2.1 (B.1.2.2.2.2.1 _ mw_593) dL_takes_8 ?_
    refine lv_seti (y := iI (-2000000001)) (by decide) ?_
    exact k_iret B hr (Or.inr (⟨tl, hPS, z_2, rfl, rfl, rfl, rfl⟩)) ⟨(by first | omega | (dsimp only; omega)), (by first | omega | (dsimp only; omega))⟩ ⟨(by first | omega | (dsimp only; omega)), (by first | omega | (dsimp only; omega))⟩ dL_takes_10
  · skip
    obtain ⟨tl2_3, z_4, z_5, rfl, hw9, rfl, rfl⟩ := hp
    rw [hw9] at B; clear hw9
    have B := bd_to (ws' := ([] ++ tl2_3)) rfl B
    have hPS : PS dI k (tkT T pl at_) K qa cp tl2_3 := z_4
    exact k_iret B hr (Or.inl (⟨tl2_3, z_4, z_5, rfl, rfl, rfl, rfl⟩)) ⟨(by first | omega | (dsimp only; omega)), (by first | omega | (dsimp only; omega))⟩ ⟨(by first | omega | (dsimp only; omega)), (by first | omega | (dsimp only; omega))⟩ dL_takes_6

theorem mw_1123 : (Jvm.Cond.methodLink "GalleyforgeLaw" (39 : Nat) ({ cls := "Galleyforge", name := "block", desc := "(II)I" } : Jvm.MethodName)) ∈ gt := gt_at 1193 (by decide +kernel) (by decide +kernel)
theorem mw_1124 : (Jvm.Cond.instanceMethod ({ cls := "Galleyforge", name := "block", desc := "(II)I" } : Jvm.MethodName)) ∈ gt := gt_at 1194 (by decide +kernel) (by decide +kernel)
theorem mw_1125 : (Jvm.Cond.selects "Galleyforge" ({ cls := "Galleyforge", name := "block", desc := "(II)I" } : Jvm.MethodName) ({ cls := "Galleyforge", name := "block", desc := "(II)I" } : Jvm.MethodName)) ∈ gt := gt_at 1195 (by decide +kernel) (by decide +kernel)
theorem mw_1126 : (Jvm.Cond.code ({ cls := "Galleyforge", name := "block", desc := "(II)I" } : Jvm.MethodName) prog_1_method_9_code (3 : Nat) (Option.some Jvm.ClassFile.FieldType.int)) ∈ gt := gt_at 1196 (by decide +kernel) (by decide +kernel)
theorem mV_X11_block : mV yX11_block cX11_block 3 (some .int) 2 := ⟨⟨mw_1126, mw_1, by decide, by decide, by decide +kernel⟩, mw_1124, mw_1125⟩
theorem dL_blocks_0 : decode cL_blocks 0 = .ok (.aload_n 0, 1) := by decide +kernel
theorem dL_blocks_1 : decode cL_blocks 1 = .ok (.iload_n 1, 1) := by decide +kernel
theorem dL_blocks_2 : decode cL_blocks 2 = .ok (.iload_n 2, 1) := by decide +kernel
theorem dL_blocks_3 : decode cL_blocks 3 = .ok (.invokevirtual 39, 3) := by decide +kernel
theorem dL_blocks_6 : decode cL_blocks 6 = .ok (.ireturn, 1) := by decide +kernel
theorem dL_blocks_7 : decode cL_blocks 7 = .ok (.astore_n 3, 1) := by decide +kernel
theorem dL_blocks_8 : decode cL_blocks 8 = .ok (.ldc 15, 2) := by decide +kernel
theorem dL_blocks_10 : decode cL_blocks 10 = .ok (.ireturn, 1) := by decide +kernel
theorem dL_blocks_11 : decode cL_blocks 11 = .ok (.astore_n 3, 1) := by decide +kernel
theorem dL_blocks_12 : decode cL_blocks 12 = .ok (.ldc 25, 2) := by decide +kernel
theorem dL_blocks_14 : decode cL_blocks 14 = .ok (.ireturn, 1) := by decide +kernel
theorem dL_blocks_15 : decode cL_blocks 15 = .ok (.astore_n 3, 1) := by decide +kernel
theorem dL_blocks_16 : decode cL_blocks 16 = .ok (.ldc 18, 2) := by decide +kernel
theorem dL_blocks_18 : decode cL_blocks 18 = .ok (.ireturn, 1) := by decide +kernel
set_option maxHeartbeats 4000000 in
set_option maxRecDepth 100000 in
theorem w_blocks (l : Launch) (dC : Nat → ClassId) (dI : Nat → Nat → Nat) (k : Nat → ClassId) (hl0 : l.stackTraces = false) (T : Nat → Int → Int → Int → Int) (K : Nat → Int → Int) (qa : Nat) (cp : Nat) (tl : va_W) (pl : Int) (kd : Int) (hPS : PS dI k T K qa cp tl) (hQ : OKT T K) (hrpl : -2147483648 ≤ pl ∧ pl < 2147483648) (hrkd : -2147483648 ≤ kd ∧ kd < 2147483648) : Kn l dC dI k yL_blocks (.codeWith yL_blocks cL_blocks 4 (some .int) [(0, 6, 7, 13), (0, 6, 11, 23), (0, 6, 15, 16)]) ({ frames := 14, cells := 12, slots := 110, locals := 446 } : Room) [.ref qa, .int (iI pl), .int (iI kd)] ([] ++ tl) (fun r w gc gs => (∃ (tl2 : va_W), (PS dI k (ibT T pl kd) K qa cp tl2) ∧ ((0 ≤ pl ∧ pl ≤ T 0 0 0 0) ∧ (0 ≤ kd ∧ kd ≤ 6) ∧ T 0 0 0 0 < 16) ∧ r = some (.int (iI (T 0 0 0 0 + 1))) ∧ w = ([] ++ tl2) ∧ gc = 12 ∧ gs = 110) ∨ (∃ (tl2 : va_W), (PS dI k T K qa cp tl2) ∧ (¬ (0 ≤ pl ∧ pl ≤ T 0 0 0 0)) ∧ r = some (.int (iI (-2000000001))) ∧ w = ([] ++ tl2) ∧ gc = 12 ∧ gs = 110) ∨ (∃ (tl2 : va_W), (PS dI k T K qa cp tl2) ∧ ((0 ≤ pl ∧ pl ≤ T 0 0 0 0) ∧ ¬ (0 ≤ kd ∧ kd ≤ 6)) ∧ r = some (.int (iI (-2000000002))) ∧ w = ([] ++ tl2) ∧ gc = 12 ∧ gs = 110) ∨ (∃ (tl2 : va_W), (PS dI k T K qa cp tl2) ∧ ((0 ≤ pl ∧ pl ≤ T 0 0 0 0) ∧ (0 ≤ kd ∧ kd ≤ 6) ∧ ¬ T 0 0 0 0 < 16) ∧ r = some (.int (iI (-2000000003))) ∧ w = ([] ++ tl2) ∧ gc = 12 ∧ gs = 110)) := by
  refine kw_of (by decide) (Nat.le_of_ble_eq_true rfl) ?_
  intro p e s m args below meth c H locs B hr hT ls hl
  have hx := B.1.1
  have hb := B.1.2.1
  have hl : lv_has ls 4 [(0, .ref qa), (1, .int (iI pl)), (2, .int (iI kd))] := hl
  have hcp9 := PS_cp hPS
  refine lv_aload_n hx hb dL_blocks_0 rfl (lv_at hl 0 rfl) ?_
  refine lv_iload_n hx hb dL_blocks_1 rfl (lv_at hl 1 rfl) ?_
  refine lv_iload_n hx hb dL_blocks_2 rfl (lv_at hl 2 rfl) ?_
  have B := bd_swap (a := []) (b := []) (d := tl) (bd_to rfl B)
  obtain ⟨k_1, hk_1⟩ := pk_at (hs := []) (PS_go hPS).choose_spec
  refine k_Vx (rest := []) (wc := ([] ++ tl)) (wr := []) (a_block l dC dI k hl0 T K qa cp tl pl kd hPS hQ hrpl hrkd) B mV_X11_block mw_1123 hl (q0 := k_1) (ci := 11) hk_1 rfl rfl ⟨Nat.le_of_ble_eq_true rfl, Nat.le_of_ble_eq_true rfl⟩ (Nat.le_of_ble_eq_true rfl) rfl dL_blocks_3 ⟨by dsimp only; omega, by dsimp only; omega⟩ (fun E ce q9 w gc gs H locs hp B h1 h2 h3 => ?_) (fun r w gc gs H locs hp B => ?_)
  · skip
    rcases hp with ⟨z_2, rfl, hw9, rfl, rfl⟩ | ⟨z_3, rfl, hw9, rfl, rfl⟩ | ⟨z_4, rfl, hw9, rfl, rfl⟩
    · skip
      rw [hw9] at B; clear hw9
      have B := bd_to (ws' := ([] ++ tl)) rfl B
      refine vx_catch B.1.2.2.2.1 [] ⟨0, 6, 7, 13⟩ [⟨0, 6, 11, 23⟩, ⟨0, 6, 15, 16⟩] (hT.trans rfl) (fun z hz => by cases hz) (by decide) (by decide) (B.1.2.2.2.2.1 _ mw_501) (ca.use (B.2.1.2.2.2.2.2.2.1.1.1 _ (by decide +kernel))) h1 h2 h3 ?_
      refine lv_astore_n (lv' := [(3, .ref q9), (0, .ref qa), (1, .int (iI pl)), (2, .int (iI kd))]) hx hb dL_blocks_7 rfl hl (by decide) rfl (fun ls hl => ?_)
      refine lv_ldc (v := (-2000000001)) hx hb B.1.2.2.2.1 (B.1.2.2.2.2.1 _ mw_593) dL_blocks_8 ?_
      refine lv_seti (y := iI (-2000000001)) (by decide) ?_
      exact k_iret B hr (Or.inr (Or.inl (⟨tl, hPS, z_2, rfl, rfl, rfl, rfl⟩))) ⟨(by first | omega | (dsimp only; omega)), (by first | omega | (dsimp only; omega))⟩ ⟨(by first | omega | (dsimp only; omega)), (by first | omega | (dsimp only; omega))⟩ dL_blocks_10
    · skip
      rw [hw9] at B; clear hw9
      have B := bd_to (ws' := ([] ++ tl)) rfl B
      refine vx_catch B.1.2.2.2.1 [⟨0, 6, 7, 13⟩] ⟨0, 6, 11, 23⟩ [⟨0, 6, 15, 16⟩] (hT.trans rfl) (fun z hz => by rcases List.mem_singleton.mp hz with rfl; exact Or.inr ⟨by decide, _, B.1.2.2.2.2.1 _ mw_501, B.2.1.2.2.2.2.2.2.1.2.2.1⟩) (by decide) (by decide) (B.1.2.2.2.2.1 _ mw_598) (ca.use (B.2.1.2.2.2.2.2.2.1.1.1 _ (by decide +kernel))) h1 h2 h3 ?_
      refine lv_astore_n (lv' := [(3, .ref q9), (0, .ref qa), (1, .int (iI pl)), (2, .int (iI kd))]) hx hb dL_blocks_11 rfl hl (by decide) rfl (fun ls hl => ?_)
      refine lv_ldc (v := (-2000000002)) hx hb B.1.2.2.2.1 (B.1.2.2.2.2.1 _ mw_627) dL_blocks_12 ?_
      refine lv_seti (y := iI (-2000000002)) (by decide) ?_
      exact k_iret B hr (Or.inr (Or.inr (Or.inl (⟨tl, hPS, z_3, rfl, rfl, rfl, rfl⟩)))) ⟨(by first | omega | (dsimp only; omega)), (by first | omega | (dsimp only; omega))⟩ ⟨(by first | omega | (dsimp only; omega)), (by first | omega | (dsimp only; omega))⟩ dL_blocks_14
    · skip
      rw [hw9] at B; clear hw9
      have B := bd_to (ws' := ([] ++ tl)) rfl B
      refine vx_catch B.1.2.2.2.1 [⟨0, 6, 7, 13⟩, ⟨0, 6, 11, 23⟩] ⟨0, 6, 15, 16⟩ [] (hT.trans rfl) (fun z hz => by rcases List.mem_cons.mp hz with rfl | hz; exact Or.inr ⟨by decide, _, B.1.2.2.2.2.1 _ mw_501, B.2.1.2.2.2.2.2.2.1.2.1⟩; rcases List.mem_singleton.mp hz with rfl; exact Or.inr ⟨by decide, _, B.1.2.2.2.2.1 _ mw_598, B.2.1.2.2.2.2.2.2.1.2.2.2⟩) (by decide) (by decide) (B.1.2.2.2.2.1 _ mw_502) (ca.use (B.2.1.2.2.2.2.2.2.1.1.1 _ (by decide +kernel))) h1 h2 h3 ?_
      refine lv_astore_n (lv' := [(3, .ref q9), (0, .ref qa), (1, .int (iI pl)), (2, .int (iI kd))]) hx hb dL_blocks_15 rfl hl (by decide) rfl (fun ls hl => ?_)
      refine lv_ldc (v := (-2000000003)) hx hb B.1.2.2.2.1 (B.1.2.2.2.2.1 _ mw_594) dL_blocks_16 ?_
      refine lv_seti (y := iI (-2000000003)) (by decide) ?_
      exact k_iret B hr (Or.inr (Or.inr (Or.inr (⟨tl, hPS, z_4, rfl, rfl, rfl, rfl⟩)))) ⟨(by first | omega | (dsimp only; omega)), (by first | omega | (dsimp only; omega))⟩ ⟨(by first | omega | (dsimp only; omega)), (by first | omega | (dsimp only; omega))⟩ dL_blocks_18
  · skip
    obtain ⟨gr_5, gq_6, tl2_7, z_8, z_9, z_10, z_11, rfl, hw9, rfl, rfl⟩ := hp
    rw [hw9] at B; clear hw9
    have B := bd_to (ws' := ([] ++ tl2_7)) rfl B
    have hPS : PS dI k (ibT T pl kd) K qa cp tl2_7 := z_8
    exact k_iret B hr (Or.inl (⟨tl2_7, z_8, z_9, rfl, rfl, rfl, rfl⟩)) ⟨(by first | omega | (dsimp only; omega)), (by first | omega | (dsimp only; omega))⟩ ⟨(by first | omega | (dsimp only; omega)), (by first | omega | (dsimp only; omega))⟩ dL_blocks_6

theorem mw_1200 : (Jvm.Cond.methodLink "GalleyforgeLaw" (42 : Nat) ({ cls := "Galleyforge", name := "remove", desc := "(I)I" } : Jvm.MethodName)) ∈ gt := gt_at 1270 (by decide +kernel) (by decide +kernel)
theorem mw_1201 : (Jvm.Cond.instanceMethod ({ cls := "Galleyforge", name := "remove", desc := "(I)I" } : Jvm.MethodName)) ∈ gt := gt_at 1271 (by decide +kernel) (by decide +kernel)
theorem mw_1202 : (Jvm.Cond.selects "Galleyforge" ({ cls := "Galleyforge", name := "remove", desc := "(I)I" } : Jvm.MethodName) ({ cls := "Galleyforge", name := "remove", desc := "(I)I" } : Jvm.MethodName)) ∈ gt := gt_at 1272 (by decide +kernel) (by decide +kernel)
theorem mw_1203 : (Jvm.Cond.code ({ cls := "Galleyforge", name := "remove", desc := "(I)I" } : Jvm.MethodName) prog_1_method_10_code (2 : Nat) (Option.some Jvm.ClassFile.FieldType.int)) ∈ gt := gt_at 1273 (by decide +kernel) (by decide +kernel)
theorem mV_X11_remove : mV yX11_remove cX11_remove 2 (some .int) 1 := ⟨⟨mw_1203, mw_1, by decide, by decide, by decide +kernel⟩, mw_1201, mw_1202⟩
theorem dL_removes_0 : decode cL_removes 0 = .ok (.aload_n 0, 1) := by decide +kernel
theorem dL_removes_1 : decode cL_removes 1 = .ok (.iload_n 1, 1) := by decide +kernel
theorem dL_removes_2 : decode cL_removes 2 = .ok (.invokevirtual 42, 3) := by decide +kernel
theorem dL_removes_5 : decode cL_removes 5 = .ok (.ireturn, 1) := by decide +kernel
theorem dL_removes_6 : decode cL_removes 6 = .ok (.astore_n 2, 1) := by decide +kernel
theorem dL_removes_7 : decode cL_removes 7 = .ok (.ldc 15, 2) := by decide +kernel
theorem dL_removes_9 : decode cL_removes 9 = .ok (.ireturn, 1) := by decide +kernel
set_option maxHeartbeats 4000000 in
set_option maxRecDepth 100000 in
theorem w_removes (l : Launch) (dC : Nat → ClassId) (dI : Nat → Nat → Nat) (k : Nat → ClassId) (hl0 : l.stackTraces = false) (T : Nat → Int → Int → Int → Int) (K : Nat → Int → Int) (qa : Nat) (cp : Nat) (tl : va_W) (pl : Int) (hPS : PS dI k T K qa cp tl) (hQ : OKT T K) (hrpl : -2147483648 ≤ pl ∧ pl < 2147483648) : Kn l dC dI k yL_removes (.codeWith yL_removes cL_removes 3 (some .int) [(0, 5, 6, 13)]) ({ frames := 14, cells := 1, slots := 40, locals := 444 } : Room) [.ref qa, .int (iI pl)] ([] ++ tl) (fun r w gc gs => (∃ (tl2 : va_W), (PS dI k (rbT T pl) K qa cp tl2) ∧ ((0 ≤ pl ∧ pl < T 0 0 0 0)) ∧ r = some (.int (iI (T 0 0 0 0 - 1))) ∧ w = ([] ++ tl2) ∧ gc = 1 ∧ gs = 40) ∨ (∃ (tl2 : va_W), (PS dI k T K qa cp tl2) ∧ (¬ (0 ≤ pl ∧ pl < T 0 0 0 0)) ∧ r = some (.int (iI (-2000000001))) ∧ w = ([] ++ tl2) ∧ gc = 1 ∧ gs = 40)) := by
  refine kw_of (by decide) (Nat.le_of_ble_eq_true rfl) ?_
  intro p e s m args below meth c H locs B hr hT ls hl
  have hx := B.1.1
  have hb := B.1.2.1
  have hl : lv_has ls 3 [(0, .ref qa), (1, .int (iI pl))] := hl
  have hcp9 := PS_cp hPS
  refine lv_aload_n hx hb dL_removes_0 rfl (lv_at hl 0 rfl) ?_
  refine lv_iload_n hx hb dL_removes_1 rfl (lv_at hl 1 rfl) ?_
  have B := bd_swap (a := []) (b := []) (d := tl) (bd_to rfl B)
  obtain ⟨k_1, hk_1⟩ := pk_at (hs := []) (PS_go hPS).choose_spec
  refine k_Vx (rest := []) (wc := ([] ++ tl)) (wr := []) (a_remove l dC dI k hl0 T K qa cp tl pl hPS hQ hrpl) B mV_X11_remove mw_1200 hl (q0 := k_1) (ci := 11) hk_1 rfl rfl ⟨Nat.le_of_ble_eq_true rfl, Nat.le_of_ble_eq_true rfl⟩ (Nat.le_of_ble_eq_true rfl) rfl dL_removes_2 ⟨by dsimp only; omega, by dsimp only; omega⟩ (fun E ce q9 w gc gs H locs hp B h1 h2 h3 => ?_) (fun r w gc gs H locs hp B => ?_)
  · skip
    obtain ⟨z_2, rfl, hw9, rfl, rfl⟩ := hp
    rw [hw9] at B; clear hw9
    have B := bd_to (ws' := ([] ++ tl)) rfl B
    refine vx_catch B.1.2.2.2.1 [] ⟨0, 5, 6, 13⟩ [] (hT.trans rfl) (fun z hz => by cases hz) (by decide) (by decide) (B.1.2.2.2.2.1 _ mw_501) (ca.use (B.2.1.2.2.2.2.2.2.1.1.1 _ (by decide +kernel))) h1 h2 h3 ?_
    refine lv_astore_n (lv' := [(2, .ref q9), (0, .ref qa), (1, .int (iI pl))]) hx hb dL_removes_6 rfl hl (by decide) rfl (fun ls hl => ?_)
    refine lv_ldc (v := (-2000000001)) hx hb B.1.2.2.2.1 (B.1.2.2.2.2.1 _ mw_593) dL_removes_7 ?_
    refine lv_seti (y := iI (-2000000001)) (by decide) ?_
    exact k_iret B hr (Or.inr (⟨tl, hPS, z_2, rfl, rfl, rfl, rfl⟩)) ⟨(by first | omega | (dsimp only; omega)), (by first | omega | (dsimp only; omega))⟩ ⟨(by first | omega | (dsimp only; omega)), (by first | omega | (dsimp only; omega))⟩ dL_removes_9
  · skip
    obtain ⟨tl2_3, z_4, z_5, rfl, hw9, rfl, rfl⟩ := hp
    rw [hw9] at B; clear hw9
    have B := bd_to (ws' := ([] ++ tl2_3)) rfl B
    have hPS : PS dI k (rbT T pl) K qa cp tl2_3 := z_4
    exact k_iret B hr (Or.inl (⟨tl2_3, z_4, z_5, rfl, rfl, rfl, rfl⟩)) ⟨(by first | omega | (dsimp only; omega)), (by first | omega | (dsimp only; omega))⟩ ⟨(by first | omega | (dsimp only; omega)), (by first | omega | (dsimp only; omega))⟩ dL_removes_5

theorem mw_1207 : (Jvm.Cond.methodLink "GalleyforgeLaw" (45 : Nat) ({ cls := "Galleyforge", name := "style", desc := "(III)I" } : Jvm.MethodName)) ∈ gt := gt_at 1277 (by decide +kernel) (by decide +kernel)
theorem mw_1208 : (Jvm.Cond.instanceMethod ({ cls := "Galleyforge", name := "style", desc := "(III)I" } : Jvm.MethodName)) ∈ gt := gt_at 1278 (by decide +kernel) (by decide +kernel)
theorem mw_1209 : (Jvm.Cond.selects "Galleyforge" ({ cls := "Galleyforge", name := "style", desc := "(III)I" } : Jvm.MethodName) ({ cls := "Galleyforge", name := "style", desc := "(III)I" } : Jvm.MethodName)) ∈ gt := gt_at 1279 (by decide +kernel) (by decide +kernel)
theorem mw_1210 : (Jvm.Cond.code ({ cls := "Galleyforge", name := "style", desc := "(III)I" } : Jvm.MethodName) prog_1_method_11_code (6 : Nat) (Option.some Jvm.ClassFile.FieldType.int)) ∈ gt := gt_at 1280 (by decide +kernel) (by decide +kernel)
theorem mV_X11_style : mV yX11_style cX11_style 6 (some .int) 3 := ⟨⟨mw_1210, mw_1, by decide, by decide, by decide +kernel⟩, mw_1208, mw_1209⟩
theorem dL_styles_0 : decode cL_styles 0 = .ok (.aload_n 0, 1) := by decide +kernel
theorem dL_styles_1 : decode cL_styles 1 = .ok (.iload_n 1, 1) := by decide +kernel
theorem dL_styles_2 : decode cL_styles 2 = .ok (.iload_n 2, 1) := by decide +kernel
theorem dL_styles_3 : decode cL_styles 3 = .ok (.iload_n 3, 1) := by decide +kernel
theorem dL_styles_4 : decode cL_styles 4 = .ok (.invokevirtual 45, 3) := by decide +kernel
theorem dL_styles_7 : decode cL_styles 7 = .ok (.ireturn, 1) := by decide +kernel
theorem dL_styles_8 : decode cL_styles 8 = .ok (.astore 4, 2) := by decide +kernel
theorem dL_styles_10 : decode cL_styles 10 = .ok (.ldc 15, 2) := by decide +kernel
theorem dL_styles_12 : decode cL_styles 12 = .ok (.ireturn, 1) := by decide +kernel
theorem dL_styles_13 : decode cL_styles 13 = .ok (.astore 4, 2) := by decide +kernel
theorem dL_styles_15 : decode cL_styles 15 = .ok (.ldc 25, 2) := by decide +kernel
theorem dL_styles_17 : decode cL_styles 17 = .ok (.ireturn, 1) := by decide +kernel
set_option maxHeartbeats 4000000 in
set_option maxRecDepth 100000 in
theorem w_styles (l : Launch) (dC : Nat → ClassId) (dI : Nat → Nat → Nat) (k : Nat → ClassId) (hl0 : l.stackTraces = false) (T : Nat → Int → Int → Int → Int) (K : Nat → Int → Int) (qa : Nat) (cp : Nat) (tl : va_W) (pl : Int) (st_ : Int) (va : Int) (hPS : PS dI k T K qa cp tl) (hQ : OKT T K) (hrpl : -2147483648 ≤ pl ∧ pl < 2147483648) (hrst_ : -2147483648 ≤ st_ ∧ st_ < 2147483648) (hrva : -2147483648 ≤ va ∧ va < 2147483648) : Kn l dC dI k yL_styles (.codeWith yL_styles cL_styles 5 (some .int) [(0, 7, 8, 13), (0, 7, 13, 23)]) ({ frames := 9, cells := 1, slots := 6, locals := 149 } : Room) [.ref qa, .int (iI pl), .int (iI st_), .int (iI va)] ([] ++ tl) (fun r w gc gs => (∃ (tl2 : va_W), (PS dI k (stT T pl st_ va) K qa cp tl2) ∧ ((0 ≤ pl ∧ pl < T 0 0 0 0) ∧ (0 ≤ st_ ∧ st_ ≤ 6) ∧ (lsZ st_ ≤ va ∧ va ≤ msZ st_)) ∧ r = some (.int (iI (T 2 pl st_ 0))) ∧ w = ([] ++ tl2) ∧ gc = 1 ∧ gs = 6) ∨ (∃ (tl2 : va_W), (PS dI k T K qa cp tl2) ∧ (¬ ((0 ≤ pl ∧ pl < T 0 0 0 0) ∧ (0 ≤ st_ ∧ st_ ≤ 6))) ∧ r = some (.int (iI (-2000000001))) ∧ w = ([] ++ tl2) ∧ gc = 1 ∧ gs = 6) ∨ (∃ (tl2 : va_W), (PS dI k T K qa cp tl2) ∧ ((0 ≤ pl ∧ pl < T 0 0 0 0) ∧ (0 ≤ st_ ∧ st_ ≤ 6) ∧ ¬ (lsZ st_ ≤ va ∧ va ≤ msZ st_)) ∧ r = some (.int (iI (-2000000002))) ∧ w = ([] ++ tl2) ∧ gc = 1 ∧ gs = 6)) := by
  refine kw_of (by decide) (Nat.le_of_ble_eq_true rfl) ?_
  intro p e s m args below meth c H locs B hr hT ls hl
  have hx := B.1.1
  have hb := B.1.2.1
  have hl : lv_has ls 5 [(0, .ref qa), (1, .int (iI pl)), (2, .int (iI st_)), (3, .int (iI va))] := hl
  have hcp9 := PS_cp hPS
  refine lv_aload_n hx hb dL_styles_0 rfl (lv_at hl 0 rfl) ?_
  refine lv_iload_n hx hb dL_styles_1 rfl (lv_at hl 1 rfl) ?_
  refine lv_iload_n hx hb dL_styles_2 rfl (lv_at hl 2 rfl) ?_
  refine lv_iload_n hx hb dL_styles_3 rfl (lv_at hl 3 rfl) ?_
  have B := bd_swap (a := []) (b := []) (d := tl) (bd_to rfl B)
  obtain ⟨k_1, hk_1⟩ := pk_at (hs := []) (PS_go hPS).choose_spec
  refine k_Vx (rest := []) (wc := ([] ++ tl)) (wr := []) (a_style l dC dI k hl0 T K qa cp tl pl st_ va hPS hQ hrpl hrst_ hrva) B mV_X11_style mw_1207 hl (q0 := k_1) (ci := 11) hk_1 rfl rfl ⟨Nat.le_of_ble_eq_true rfl, Nat.le_of_ble_eq_true rfl⟩ (Nat.le_of_ble_eq_true rfl) rfl dL_styles_4 ⟨by dsimp only; omega, by dsimp only; omega⟩ (fun E ce q9 w gc gs H locs hp B h1 h2 h3 => ?_) (fun r w gc gs H locs hp B => ?_)
  · skip
    rcases hp with ⟨z_2, rfl, hw9, rfl, rfl⟩ | ⟨z_3, rfl, hw9, rfl, rfl⟩
    · skip
      rw [hw9] at B; clear hw9
      have B := bd_to (ws' := ([] ++ tl)) rfl B
      refine vx_catch B.1.2.2.2.1 [] ⟨0, 7, 8, 13⟩ [⟨0, 7, 13, 23⟩] (hT.trans rfl) (fun z hz => by cases hz) (by decide) (by decide) (B.1.2.2.2.2.1 _ mw_501) (ca.use (B.2.1.2.2.2.2.2.2.1.1.1 _ (by decide +kernel))) h1 h2 h3 ?_
      refine lv_astore (lv' := [(4, .ref q9), (0, .ref qa), (1, .int (iI pl)), (2, .int (iI st_)), (3, .int (iI va))]) hx hb dL_styles_8 hl (by decide) rfl (fun ls hl => ?_)
      refine lv_ldc (v := (-2000000001)) hx hb B.1.2.2.2.1 (B.1.2.2.2.2.1 _ mw_593) dL_styles_10 ?_
      refine lv_seti (y := iI (-2000000001)) (by decide) ?_
      exact k_iret B hr (Or.inr (Or.inl (⟨tl, hPS, z_2, rfl, rfl, rfl, rfl⟩))) ⟨(by first | omega | (dsimp only; omega)), (by first | omega | (dsimp only; omega))⟩ ⟨(by first | omega | (dsimp only; omega)), (by first | omega | (dsimp only; omega))⟩ dL_styles_12
    · skip
      rw [hw9] at B; clear hw9
      have B := bd_to (ws' := ([] ++ tl)) rfl B
      refine vx_catch B.1.2.2.2.1 [⟨0, 7, 8, 13⟩] ⟨0, 7, 13, 23⟩ [] (hT.trans rfl) (fun z hz => by rcases List.mem_singleton.mp hz with rfl; exact Or.inr ⟨by decide, _, B.1.2.2.2.2.1 _ mw_501, B.2.1.2.2.2.2.2.2.1.2.2.1⟩) (by decide) (by decide) (B.1.2.2.2.2.1 _ mw_598) (ca.use (B.2.1.2.2.2.2.2.2.1.1.1 _ (by decide +kernel))) h1 h2 h3 ?_
      refine lv_astore (lv' := [(4, .ref q9), (0, .ref qa), (1, .int (iI pl)), (2, .int (iI st_)), (3, .int (iI va))]) hx hb dL_styles_13 hl (by decide) rfl (fun ls hl => ?_)
      refine lv_ldc (v := (-2000000002)) hx hb B.1.2.2.2.1 (B.1.2.2.2.2.1 _ mw_627) dL_styles_15 ?_
      refine lv_seti (y := iI (-2000000002)) (by decide) ?_
      exact k_iret B hr (Or.inr (Or.inr (⟨tl, hPS, z_3, rfl, rfl, rfl, rfl⟩))) ⟨(by first | omega | (dsimp only; omega)), (by first | omega | (dsimp only; omega))⟩ ⟨(by first | omega | (dsimp only; omega)), (by first | omega | (dsimp only; omega))⟩ dL_styles_17
  · skip
    obtain ⟨tl2_4, z_5, z_6, rfl, hw9, rfl, rfl⟩ := hp
    rw [hw9] at B; clear hw9
    have B := bd_to (ws' := ([] ++ tl2_4)) rfl B
    have hPS : PS dI k (stT T pl st_ va) K qa cp tl2_4 := z_5
    exact k_iret B hr (Or.inl (⟨tl2_4, z_5, z_6, rfl, rfl, rfl, rfl⟩)) ⟨(by first | omega | (dsimp only; omega)), (by first | omega | (dsimp only; omega))⟩ ⟨(by first | omega | (dsimp only; omega)), (by first | omega | (dsimp only; omega))⟩ dL_styles_7

theorem mw_1222 : (Jvm.Cond.methodLink "GalleyforgeLaw" (48 : Nat) ({ cls := "Galleyforge", name := "cell", desc := "(IIIIII)I" } : Jvm.MethodName)) ∈ gt := gt_at 1292 (by decide +kernel) (by decide +kernel)
theorem mw_1223 : (Jvm.Cond.instanceMethod ({ cls := "Galleyforge", name := "cell", desc := "(IIIIII)I" } : Jvm.MethodName)) ∈ gt := gt_at 1293 (by decide +kernel) (by decide +kernel)
theorem mw_1224 : (Jvm.Cond.selects "Galleyforge" ({ cls := "Galleyforge", name := "cell", desc := "(IIIIII)I" } : Jvm.MethodName) ({ cls := "Galleyforge", name := "cell", desc := "(IIIIII)I" } : Jvm.MethodName)) ∈ gt := gt_at 1294 (by decide +kernel) (by decide +kernel)
theorem mw_1225 : (Jvm.Cond.code ({ cls := "Galleyforge", name := "cell", desc := "(IIIIII)I" } : Jvm.MethodName) prog_1_method_12_code (8 : Nat) (Option.some Jvm.ClassFile.FieldType.int)) ∈ gt := gt_at 1295 (by decide +kernel) (by decide +kernel)
theorem mV_X11_cell : mV yX11_cell cX11_cell 8 (some .int) 6 := ⟨⟨mw_1225, mw_1, by decide, by decide, by decide +kernel⟩, mw_1223, mw_1224⟩
theorem dL_cells_0 : decode cL_cells 0 = .ok (.aload_n 0, 1) := by decide +kernel
theorem dL_cells_1 : decode cL_cells 1 = .ok (.iload_n 1, 1) := by decide +kernel
theorem dL_cells_2 : decode cL_cells 2 = .ok (.iload_n 2, 1) := by decide +kernel
theorem dL_cells_3 : decode cL_cells 3 = .ok (.iload_n 3, 1) := by decide +kernel
theorem dL_cells_4 : decode cL_cells 4 = .ok (.iload 4, 2) := by decide +kernel
theorem dL_cells_6 : decode cL_cells 6 = .ok (.iload 5, 2) := by decide +kernel
theorem dL_cells_8 : decode cL_cells 8 = .ok (.iload 6, 2) := by decide +kernel
theorem dL_cells_10 : decode cL_cells 10 = .ok (.invokevirtual 48, 3) := by decide +kernel
theorem dL_cells_13 : decode cL_cells 13 = .ok (.ireturn, 1) := by decide +kernel
theorem dL_cells_14 : decode cL_cells 14 = .ok (.astore 7, 2) := by decide +kernel
theorem dL_cells_16 : decode cL_cells 16 = .ok (.ldc 15, 2) := by decide +kernel
theorem dL_cells_18 : decode cL_cells 18 = .ok (.ireturn, 1) := by decide +kernel
theorem dL_cells_19 : decode cL_cells 19 = .ok (.astore 7, 2) := by decide +kernel
theorem dL_cells_21 : decode cL_cells 21 = .ok (.ldc 25, 2) := by decide +kernel
theorem dL_cells_23 : decode cL_cells 23 = .ok (.ireturn, 1) := by decide +kernel
theorem dL_cells_24 : decode cL_cells 24 = .ok (.astore 7, 2) := by decide +kernel
theorem dL_cells_26 : decode cL_cells 26 = .ok (.ldc 18, 2) := by decide +kernel
theorem dL_cells_28 : decode cL_cells 28 = .ok (.ireturn, 1) := by decide +kernel
set_option maxHeartbeats 4000000 in
set_option maxRecDepth 100000 in
theorem w_cells (l : Launch) (dC : Nat → ClassId) (dI : Nat → Nat → Nat) (k : Nat → ClassId) (hl0 : l.stackTraces = false) (T : Nat → Int → Int → Int → Int) (K : Nat → Int → Int) (qa : Nat) (cp : Nat) (tl : va_W) (pl : Int) (ro : Int) (co : Int) (sn : Int) (le : Int) (be : Int) (hPS : PS dI k T K qa cp tl) (hQ : OKT T K) (hrpl : -2147483648 ≤ pl ∧ pl < 2147483648) (hrro : -2147483648 ≤ ro ∧ ro < 2147483648) (hrco : -2147483648 ≤ co ∧ co < 2147483648) (hrsn : -2147483648 ≤ sn ∧ sn < 2147483648) (hrle : -2147483648 ≤ le ∧ le < 2147483648) (hrbe : -2147483648 ≤ be ∧ be < 2147483648) : Kn l dC dI k yL_cells (.codeWith yL_cells cL_cells 8 (some .int) [(0, 13, 14, 13), (0, 13, 19, 23), (0, 13, 24, 16)]) ({ frames := 9, cells := 1, slots := 6, locals := 151 } : Room) [.ref qa, .int (iI pl), .int (iI ro), .int (iI co), .int (iI sn), .int (iI le), .int (iI be)] ([] ++ tl) (fun r w gc gs => (∃ (tl2 : va_W), (PS dI k (teT T pl ((ro * 3) + co) sn le be) K qa cp tl2) ∧ ((0 ≤ pl ∧ pl < T 0 0 0 0) ∧ ((0 ≤ ro ∧ ro ≤ 3) ∧ (0 ≤ co ∧ co ≤ 2) ∧ 1 ≤ sn ∧ sn ≤ 3 - co) ∧ ((0 ≤ le ∧ le ≤ 60) ∧ le ≤ be ∧ be ≤ 200) ∧ T 1 pl 0 0 = 3) ∧ r = some (.int (iI (rcT (teT T pl ((ro * 3) + co) sn le be) pl))) ∧ w = ([] ++ tl2) ∧ gc = 1 ∧ gs = 6) ∨ (∃ (tl2 : va_W), (PS dI k T K qa cp tl2) ∧ (¬ (0 ≤ pl ∧ pl < T 0 0 0 0)) ∧ r = some (.int (iI (-2000000001))) ∧ w = ([] ++ tl2) ∧ gc = 1 ∧ gs = 6) ∨ (∃ (tl2 : va_W), (PS dI k T K qa cp tl2) ∧ ((0 ≤ pl ∧ pl < T 0 0 0 0) ∧ ¬ (((0 ≤ ro ∧ ro ≤ 3) ∧ (0 ≤ co ∧ co ≤ 2) ∧ 1 ≤ sn ∧ sn ≤ 3 - co) ∧ ((0 ≤ le ∧ le ≤ 60) ∧ le ≤ be ∧ be ≤ 200))) ∧ r = some (.int (iI (-2000000002))) ∧ w = ([] ++ tl2) ∧ gc = 1 ∧ gs = 6) ∨ (∃ (tl2 : va_W), (PS dI k T K qa cp tl2) ∧ ((0 ≤ pl ∧ pl < T 0 0 0 0) ∧ ((0 ≤ ro ∧ ro ≤ 3) ∧ (0 ≤ co ∧ co ≤ 2) ∧ 1 ≤ sn ∧ sn ≤ 3 - co) ∧ ((0 ≤ le ∧ le ≤ 60) ∧ le ≤ be ∧ be ≤ 200) ∧ ¬ T 1 pl 0 0 = 3) ∧ r = some (.int (iI (-2000000003))) ∧ w = ([] ++ tl2) ∧ gc = 1 ∧ gs = 6)) := by
  refine kw_of (by decide) (Nat.le_of_ble_eq_true rfl) ?_
  intro p e s m args below meth c H locs B hr hT ls hl
  have hx := B.1.1
  have hb := B.1.2.1
  have hl : lv_has ls 8 [(0, .ref qa), (1, .int (iI pl)), (2, .int (iI ro)), (3, .int (iI co)), (4, .int (iI sn)), (5, .int (iI le)), (6, .int (iI be))] := hl
  have hcp9 := PS_cp hPS
  refine lv_aload_n hx hb dL_cells_0 rfl (lv_at hl 0 rfl) ?_
  refine lv_iload_n hx hb dL_cells_1 rfl (lv_at hl 1 rfl) ?_
  refine lv_iload_n hx hb dL_cells_2 rfl (lv_at hl 2 rfl) ?_
  refine lv_iload_n hx hb dL_cells_3 rfl (lv_at hl 3 rfl) ?_
  refine lv_iload hx hb dL_cells_4 (lv_at hl 4 rfl) ?_
  refine lv_iload hx hb dL_cells_6 (lv_at hl 5 rfl) ?_
  refine lv_iload hx hb dL_cells_8 (lv_at hl 6 rfl) ?_
  have B := bd_swap (a := []) (b := []) (d := tl) (bd_to rfl B)
  obtain ⟨k_1, hk_1⟩ := pk_at (hs := []) (PS_go hPS).choose_spec
  refine k_Vx (rest := []) (wc := ([] ++ tl)) (wr := []) (a_cell l dC dI k hl0 T K qa cp tl pl ro co sn le be hPS hQ hrpl hrro hrco hrsn hrle hrbe) B mV_X11_cell mw_1222 hl (q0 := k_1) (ci := 11) hk_1 rfl rfl ⟨Nat.le_of_ble_eq_true rfl, Nat.le_of_ble_eq_true rfl⟩ (Nat.le_of_ble_eq_true rfl) rfl dL_cells_10 ⟨by dsimp only; omega, by dsimp only; omega⟩ (fun E ce q9 w gc gs H locs hp B h1 h2 h3 => ?_) (fun r w gc gs H locs hp B => ?_)
  · skip
    rcases hp with ⟨z_2, rfl, hw9, rfl, rfl⟩ | ⟨z_3, rfl, hw9, rfl, rfl⟩ | ⟨z_4, rfl, hw9, rfl, rfl⟩
    · skip
      rw [hw9] at B; clear hw9
      have B := bd_to (ws' := ([] ++ tl)) rfl B
      refine vx_catch B.1.2.2.2.1 [] ⟨0, 13, 14, 13⟩ [⟨0, 13, 19, 23⟩, ⟨0, 13, 24, 16⟩] (hT.trans rfl) (fun z hz => by cases hz) (by decide) (by decide) (B.1.2.2.2.2.1 _ mw_501) (ca.use (B.2.1.2.2.2.2.2.2.1.1.1 _ (by decide +kernel))) h1 h2 h3 ?_
      refine lv_astore (lv' := [(7, .ref q9), (0, .ref qa), (1, .int (iI pl)), (2, .int (iI ro)), (3, .int (iI co)), (4, .int (iI sn)), (5, .int (iI le)), (6, .int (iI be))]) hx hb dL_cells_14 hl (by decide) rfl (fun ls hl => ?_)
      refine lv_ldc (v := (-2000000001)) hx hb B.1.2.2.2.1 (B.1.2.2.2.2.1 _ mw_593) dL_cells_16 ?_
      refine lv_seti (y := iI (-2000000001)) (by decide) ?_
      exact k_iret B hr (Or.inr (Or.inl (⟨tl, hPS, z_2, rfl, rfl, rfl, rfl⟩))) ⟨(by first | omega | (dsimp only; omega)), (by first | omega | (dsimp only; omega))⟩ ⟨(by first | omega | (dsimp only; omega)), (by first | omega | (dsimp only; omega))⟩ dL_cells_18
    · skip
      rw [hw9] at B; clear hw9
      have B := bd_to (ws' := ([] ++ tl)) rfl B
      refine vx_catch B.1.2.2.2.1 [⟨0, 13, 14, 13⟩] ⟨0, 13, 19, 23⟩ [⟨0, 13, 24, 16⟩] (hT.trans rfl) (fun z hz => by rcases List.mem_singleton.mp hz with rfl; exact Or.inr ⟨by decide, _, B.1.2.2.2.2.1 _ mw_501, B.2.1.2.2.2.2.2.2.1.2.2.1⟩) (by decide) (by decide) (B.1.2.2.2.2.1 _ mw_598) (ca.use (B.2.1.2.2.2.2.2.2.1.1.1 _ (by decide +kernel))) h1 h2 h3 ?_
      refine lv_astore (lv' := [(7, .ref q9), (0, .ref qa), (1, .int (iI pl)), (2, .int (iI ro)), (3, .int (iI co)), (4, .int (iI sn)), (5, .int (iI le)), (6, .int (iI be))]) hx hb dL_cells_19 hl (by decide) rfl (fun ls hl => ?_)
      refine lv_ldc (v := (-2000000002)) hx hb B.1.2.2.2.1 (B.1.2.2.2.2.1 _ mw_627) dL_cells_21 ?_
      refine lv_seti (y := iI (-2000000002)) (by decide) ?_
      exact k_iret B hr (Or.inr (Or.inr (Or.inl (⟨tl, hPS, z_3, rfl, rfl, rfl, rfl⟩)))) ⟨(by first | omega | (dsimp only; omega)), (by first | omega | (dsimp only; omega))⟩ ⟨(by first | omega | (dsimp only; omega)), (by first | omega | (dsimp only; omega))⟩ dL_cells_23
    · skip
      rw [hw9] at B; clear hw9
      have B := bd_to (ws' := ([] ++ tl)) rfl B
      refine vx_catch B.1.2.2.2.1 [⟨0, 13, 14, 13⟩, ⟨0, 13, 19, 23⟩] ⟨0, 13, 24, 16⟩ [] (hT.trans rfl) (fun z hz => by rcases List.mem_cons.mp hz with rfl | hz; exact Or.inr ⟨by decide, _, B.1.2.2.2.2.1 _ mw_501, B.2.1.2.2.2.2.2.2.1.2.1⟩; rcases List.mem_singleton.mp hz with rfl; exact Or.inr ⟨by decide, _, B.1.2.2.2.2.1 _ mw_598, B.2.1.2.2.2.2.2.2.1.2.2.2⟩) (by decide) (by decide) (B.1.2.2.2.2.1 _ mw_502) (ca.use (B.2.1.2.2.2.2.2.2.1.1.1 _ (by decide +kernel))) h1 h2 h3 ?_
      refine lv_astore (lv' := [(7, .ref q9), (0, .ref qa), (1, .int (iI pl)), (2, .int (iI ro)), (3, .int (iI co)), (4, .int (iI sn)), (5, .int (iI le)), (6, .int (iI be))]) hx hb dL_cells_24 hl (by decide) rfl (fun ls hl => ?_)
      refine lv_ldc (v := (-2000000003)) hx hb B.1.2.2.2.1 (B.1.2.2.2.2.1 _ mw_594) dL_cells_26 ?_
      refine lv_seti (y := iI (-2000000003)) (by decide) ?_
      exact k_iret B hr (Or.inr (Or.inr (Or.inr (⟨tl, hPS, z_4, rfl, rfl, rfl, rfl⟩)))) ⟨(by first | omega | (dsimp only; omega)), (by first | omega | (dsimp only; omega))⟩ ⟨(by first | omega | (dsimp only; omega)), (by first | omega | (dsimp only; omega))⟩ dL_cells_28
  · skip
    obtain ⟨tl2_5, z_6, z_7, rfl, hw9, rfl, rfl⟩ := hp
    rw [hw9] at B; clear hw9
    have B := bd_to (ws' := ([] ++ tl2_5)) rfl B
    have hPS : PS dI k (teT T pl ((ro * 3) + co) sn le be) K qa cp tl2_5 := z_6
    exact k_iret B hr (Or.inl (⟨tl2_5, z_6, z_7, rfl, rfl, rfl, rfl⟩)) ⟨(by first | omega | (dsimp only; omega)), (by first | omega | (dsimp only; omega))⟩ ⟨(by first | omega | (dsimp only; omega)), (by first | omega | (dsimp only; omega))⟩ dL_cells_13

theorem mw_1240 : (Jvm.Cond.methodLink "GalleyforgeLaw" (52 : Nat) ({ cls := "Galleyforge", name := "figure", desc := "(II)I" } : Jvm.MethodName)) ∈ gt := gt_at 1310 (by decide +kernel) (by decide +kernel)
theorem mw_1241 : (Jvm.Cond.instanceMethod ({ cls := "Galleyforge", name := "figure", desc := "(II)I" } : Jvm.MethodName)) ∈ gt := gt_at 1311 (by decide +kernel) (by decide +kernel)
theorem mw_1242 : (Jvm.Cond.selects "Galleyforge" ({ cls := "Galleyforge", name := "figure", desc := "(II)I" } : Jvm.MethodName) ({ cls := "Galleyforge", name := "figure", desc := "(II)I" } : Jvm.MethodName)) ∈ gt := gt_at 1312 (by decide +kernel) (by decide +kernel)
theorem mw_1243 : (Jvm.Cond.code ({ cls := "Galleyforge", name := "figure", desc := "(II)I" } : Jvm.MethodName) prog_1_method_13_code (4 : Nat) (Option.some Jvm.ClassFile.FieldType.int)) ∈ gt := gt_at 1313 (by decide +kernel) (by decide +kernel)
theorem mV_X11_figure : mV yX11_figure cX11_figure 4 (some .int) 2 := ⟨⟨mw_1243, mw_1, by decide, by decide, by decide +kernel⟩, mw_1241, mw_1242⟩
theorem dL_figures_0 : decode cL_figures 0 = .ok (.aload_n 0, 1) := by decide +kernel
theorem dL_figures_1 : decode cL_figures 1 = .ok (.iload_n 1, 1) := by decide +kernel
theorem dL_figures_2 : decode cL_figures 2 = .ok (.iload_n 2, 1) := by decide +kernel
theorem dL_figures_3 : decode cL_figures 3 = .ok (.invokevirtual 52, 3) := by decide +kernel
theorem dL_figures_6 : decode cL_figures 6 = .ok (.ireturn, 1) := by decide +kernel
theorem dL_figures_7 : decode cL_figures 7 = .ok (.astore_n 3, 1) := by decide +kernel
theorem dL_figures_8 : decode cL_figures 8 = .ok (.ldc 25, 2) := by decide +kernel
theorem dL_figures_10 : decode cL_figures 10 = .ok (.ireturn, 1) := by decide +kernel
theorem dL_figures_11 : decode cL_figures 11 = .ok (.astore_n 3, 1) := by decide +kernel
theorem dL_figures_12 : decode cL_figures 12 = .ok (.ldc 18, 2) := by decide +kernel
theorem dL_figures_14 : decode cL_figures 14 = .ok (.ireturn, 1) := by decide +kernel
set_option maxHeartbeats 4000000 in
set_option maxRecDepth 100000 in
theorem w_figures (l : Launch) (dC : Nat → ClassId) (dI : Nat → Nat → Nat) (k : Nat → ClassId) (hl0 : l.stackTraces = false) (T : Nat → Int → Int → Int → Int) (K : Nat → Int → Int) (qa : Nat) (cp : Nat) (tl : va_W) (ki : Int) (he_ : Int) (hPS : PS dI k T K qa cp tl) (hQ : OKT T K) (hrki : -2147483648 ≤ ki ∧ ki < 2147483648) (hrhe_ : -2147483648 ≤ he_ ∧ he_ < 2147483648) : Kn l dC dI k yL_figures (.codeWith yL_figures cL_figures 4 (some .int) [(0, 6, 7, 23), (0, 6, 11, 16)]) ({ frames := 7, cells := 1, slots := 6, locals := 105 } : Room) [.ref qa, .int (iI ki), .int (iI he_)] ([] ++ tl) (fun r w gc gs => (∃ (tl2 : va_W), (PS dI k (fiT T ki he_) K qa cp tl2) ∧ (((0 ≤ ki ∧ ki ≤ 1) ∧ 1 ≤ he_ ∧ he_ ≤ 40) ∧ T 12 0 0 0 < 5) ∧ r = some (.int (iI (T 12 0 0 0))) ∧ w = ([] ++ tl2) ∧ gc = 1 ∧ gs = 6) ∨ (∃ (tl2 : va_W), (PS dI k T K qa cp tl2) ∧ (¬ ((0 ≤ ki ∧ ki ≤ 1) ∧ 1 ≤ he_ ∧ he_ ≤ 40)) ∧ r = some (.int (iI (-2000000002))) ∧ w = ([] ++ tl2) ∧ gc = 1 ∧ gs = 6) ∨ (∃ (tl2 : va_W), (PS dI k T K qa cp tl2) ∧ (((0 ≤ ki ∧ ki ≤ 1) ∧ 1 ≤ he_ ∧ he_ ≤ 40) ∧ ¬ T 12 0 0 0 < 5) ∧ r = some (.int (iI (-2000000003))) ∧ w = ([] ++ tl2) ∧ gc = 1 ∧ gs = 6)) := by
  refine kw_of (by decide) (Nat.le_of_ble_eq_true rfl) ?_
  intro p e s m args below meth c H locs B hr hT ls hl
  have hx := B.1.1
  have hb := B.1.2.1
  have hl : lv_has ls 4 [(0, .ref qa), (1, .int (iI ki)), (2, .int (iI he_))] := hl
  have hcp9 := PS_cp hPS
  refine lv_aload_n hx hb dL_figures_0 rfl (lv_at hl 0 rfl) ?_
  refine lv_iload_n hx hb dL_figures_1 rfl (lv_at hl 1 rfl) ?_
  refine lv_iload_n hx hb dL_figures_2 rfl (lv_at hl 2 rfl) ?_
  have B := bd_swap (a := []) (b := []) (d := tl) (bd_to rfl B)
  obtain ⟨k_1, hk_1⟩ := pk_at (hs := []) (PS_go hPS).choose_spec
  refine k_Vx (rest := []) (wc := ([] ++ tl)) (wr := []) (a_figure l dC dI k hl0 T K qa cp tl ki he_ hPS hQ hrki hrhe_) B mV_X11_figure mw_1240 hl (q0 := k_1) (ci := 11) hk_1 rfl rfl ⟨Nat.le_of_ble_eq_true rfl, Nat.le_of_ble_eq_true rfl⟩ (Nat.le_of_ble_eq_true rfl) rfl dL_figures_3 ⟨by dsimp only; omega, by dsimp only; omega⟩ (fun E ce q9 w gc gs H locs hp B h1 h2 h3 => ?_) (fun r w gc gs H locs hp B => ?_)
  · skip
    rcases hp with ⟨z_2, rfl, hw9, rfl, rfl⟩ | ⟨z_3, rfl, hw9, rfl, rfl⟩
    · skip
      rw [hw9] at B; clear hw9
      have B := bd_to (ws' := ([] ++ tl)) rfl B
      refine vx_catch B.1.2.2.2.1 [] ⟨0, 6, 7, 23⟩ [⟨0, 6, 11, 16⟩] (hT.trans rfl) (fun z hz => by cases hz) (by decide) (by decide) (B.1.2.2.2.2.1 _ mw_598) (ca.use (B.2.1.2.2.2.2.2.2.1.1.1 _ (by decide +kernel))) h1 h2 h3 ?_
      refine lv_astore_n (lv' := [(3, .ref q9), (0, .ref qa), (1, .int (iI ki)), (2, .int (iI he_))]) hx hb dL_figures_7 rfl hl (by decide) rfl (fun ls hl => ?_)
      refine lv_ldc (v := (-2000000002)) hx hb B.1.2.2.2.1 (B.1.2.2.2.2.1 _ mw_627) dL_figures_8 ?_
      refine lv_seti (y := iI (-2000000002)) (by decide) ?_
      exact k_iret B hr (Or.inr (Or.inl (⟨tl, hPS, z_2, rfl, rfl, rfl, rfl⟩))) ⟨(by first | omega | (dsimp only; omega)), (by first | omega | (dsimp only; omega))⟩ ⟨(by first | omega | (dsimp only; omega)), (by first | omega | (dsimp only; omega))⟩ dL_figures_10
    · skip
      rw [hw9] at B; clear hw9
      have B := bd_to (ws' := ([] ++ tl)) rfl B
      refine vx_catch B.1.2.2.2.1 [⟨0, 6, 7, 23⟩] ⟨0, 6, 11, 16⟩ [] (hT.trans rfl) (fun z hz => by rcases List.mem_singleton.mp hz with rfl; exact Or.inr ⟨by decide, _, B.1.2.2.2.2.1 _ mw_598, B.2.1.2.2.2.2.2.2.1.2.2.2⟩) (by decide) (by decide) (B.1.2.2.2.2.1 _ mw_502) (ca.use (B.2.1.2.2.2.2.2.2.1.1.1 _ (by decide +kernel))) h1 h2 h3 ?_
      refine lv_astore_n (lv' := [(3, .ref q9), (0, .ref qa), (1, .int (iI ki)), (2, .int (iI he_))]) hx hb dL_figures_11 rfl hl (by decide) rfl (fun ls hl => ?_)
      refine lv_ldc (v := (-2000000003)) hx hb B.1.2.2.2.1 (B.1.2.2.2.2.1 _ mw_594) dL_figures_12 ?_
      refine lv_seti (y := iI (-2000000003)) (by decide) ?_
      exact k_iret B hr (Or.inr (Or.inr (⟨tl, hPS, z_3, rfl, rfl, rfl, rfl⟩))) ⟨(by first | omega | (dsimp only; omega)), (by first | omega | (dsimp only; omega))⟩ ⟨(by first | omega | (dsimp only; omega)), (by first | omega | (dsimp only; omega))⟩ dL_figures_14
  · skip
    obtain ⟨tl2_4, z_5, z_6, rfl, hw9, rfl, rfl⟩ := hp
    rw [hw9] at B; clear hw9
    have B := bd_to (ws' := ([] ++ tl2_4)) rfl B
    have hPS : PS dI k (fiT T ki he_) K qa cp tl2_4 := z_5
    exact k_iret B hr (Or.inl (⟨tl2_4, z_5, z_6, rfl, rfl, rfl, rfl⟩)) ⟨(by first | omega | (dsimp only; omega)), (by first | omega | (dsimp only; omega))⟩ ⟨(by first | omega | (dsimp only; omega)), (by first | omega | (dsimp only; omega))⟩ dL_figures_6

theorem mw_1249 : (Jvm.Cond.methodLink "GalleyforgeLaw" (55 : Nat) ({ cls := "Galleyforge", name := "paper", desc := "(II)I" } : Jvm.MethodName)) ∈ gt := gt_at 1319 (by decide +kernel) (by decide +kernel)
theorem mw_1250 : (Jvm.Cond.instanceMethod ({ cls := "Galleyforge", name := "paper", desc := "(II)I" } : Jvm.MethodName)) ∈ gt := gt_at 1320 (by decide +kernel) (by decide +kernel)
theorem mw_1251 : (Jvm.Cond.selects "Galleyforge" ({ cls := "Galleyforge", name := "paper", desc := "(II)I" } : Jvm.MethodName) ({ cls := "Galleyforge", name := "paper", desc := "(II)I" } : Jvm.MethodName)) ∈ gt := gt_at 1321 (by decide +kernel) (by decide +kernel)
theorem mw_1252 : (Jvm.Cond.code ({ cls := "Galleyforge", name := "paper", desc := "(II)I" } : Jvm.MethodName) prog_1_method_14_code (4 : Nat) (Option.some Jvm.ClassFile.FieldType.int)) ∈ gt := gt_at 1322 (by decide +kernel) (by decide +kernel)
theorem mV_X11_paper : mV yX11_paper cX11_paper 4 (some .int) 2 := ⟨⟨mw_1252, mw_1, by decide, by decide, by decide +kernel⟩, mw_1250, mw_1251⟩
theorem dL_papers_0 : decode cL_papers 0 = .ok (.aload_n 0, 1) := by decide +kernel
theorem dL_papers_1 : decode cL_papers 1 = .ok (.iload_n 1, 1) := by decide +kernel
theorem dL_papers_2 : decode cL_papers 2 = .ok (.iload_n 2, 1) := by decide +kernel
theorem dL_papers_3 : decode cL_papers 3 = .ok (.invokevirtual 55, 3) := by decide +kernel
theorem dL_papers_6 : decode cL_papers 6 = .ok (.ireturn, 1) := by decide +kernel
theorem dL_papers_7 : decode cL_papers 7 = .ok (.astore_n 3, 1) := by decide +kernel
theorem dL_papers_8 : decode cL_papers 8 = .ok (.ldc 25, 2) := by decide +kernel
theorem dL_papers_10 : decode cL_papers 10 = .ok (.ireturn, 1) := by decide +kernel
set_option maxHeartbeats 4000000 in
set_option maxRecDepth 100000 in
theorem w_papers (l : Launch) (dC : Nat → ClassId) (dI : Nat → Nat → Nat) (k : Nat → ClassId) (hl0 : l.stackTraces = false) (T : Nat → Int → Int → Int → Int) (K : Nat → Int → Int) (qa : Nat) (cp : Nat) (tl : va_W) (wi : Int) (he_ : Int) (hPS : PS dI k T K qa cp tl) (hQ : OKT T K) (hrwi : -2147483648 ≤ wi ∧ wi < 2147483648) (hrhe_ : -2147483648 ≤ he_ ∧ he_ < 2147483648) : Kn l dC dI k yL_papers (.codeWith yL_papers cL_papers 4 (some .int) [(0, 6, 7, 23)]) ({ frames := 7, cells := 1, slots := 6, locals := 105 } : Room) [.ref qa, .int (iI wi), .int (iI he_)] ([] ++ tl) (fun r w gc gs => (∃ (tl2 : va_W), (PS dI k (paT T wi he_) K qa cp tl2) ∧ ((30 ≤ wi ∧ wi ≤ 120) ∧ 6 ≤ he_ ∧ he_ ≤ 40) ∧ r = some (.int (iI (T 16 0 0 0))) ∧ w = ([] ++ tl2) ∧ gc = 1 ∧ gs = 6) ∨ (∃ (tl2 : va_W), (PS dI k T K qa cp tl2) ∧ (¬ ((30 ≤ wi ∧ wi ≤ 120) ∧ 6 ≤ he_ ∧ he_ ≤ 40)) ∧ r = some (.int (iI (-2000000002))) ∧ w = ([] ++ tl2) ∧ gc = 1 ∧ gs = 6)) := by
  refine kw_of (by decide) (Nat.le_of_ble_eq_true rfl) ?_
  intro p e s m args below meth c H locs B hr hT ls hl
  have hx := B.1.1
  have hb := B.1.2.1
  have hl : lv_has ls 4 [(0, .ref qa), (1, .int (iI wi)), (2, .int (iI he_))] := hl
  have hcp9 := PS_cp hPS
  refine lv_aload_n hx hb dL_papers_0 rfl (lv_at hl 0 rfl) ?_
  refine lv_iload_n hx hb dL_papers_1 rfl (lv_at hl 1 rfl) ?_
  refine lv_iload_n hx hb dL_papers_2 rfl (lv_at hl 2 rfl) ?_
  have B := bd_swap (a := []) (b := []) (d := tl) (bd_to rfl B)
  obtain ⟨k_1, hk_1⟩ := pk_at (hs := []) (PS_go hPS).choose_spec
  refine k_Vx (rest := []) (wc := ([] ++ tl)) (wr := []) (a_paper l dC dI k hl0 T K qa cp tl wi he_ hPS hQ hrwi hrhe_) B mV_X11_paper mw_1249 hl (q0 := k_1) (ci := 11) hk_1 rfl rfl ⟨Nat.le_of_ble_eq_true rfl, Nat.le_of_ble_eq_true rfl⟩ (Nat.le_of_ble_eq_true rfl) rfl dL_papers_3 ⟨by dsimp only; omega, by dsimp only; omega⟩ (fun E ce q9 w gc gs H locs hp B h1 h2 h3 => ?_) (fun r w gc gs H locs hp B => ?_)
  · skip
    obtain ⟨z_2, rfl, hw9, rfl, rfl⟩ := hp
    rw [hw9] at B; clear hw9
    have B := bd_to (ws' := ([] ++ tl)) rfl B
    refine vx_catch B.1.2.2.2.1 [] ⟨0, 6, 7, 23⟩ [] (hT.trans rfl) (fun z hz => by cases hz) (by decide) (by decide) (B.1.2.2.2.2.1 _ mw_598) (ca.use (B.2.1.2.2.2.2.2.2.1.1.1 _ (by decide +kernel))) h1 h2 h3 ?_
    refine lv_astore_n (lv' := [(3, .ref q9), (0, .ref qa), (1, .int (iI wi)), (2, .int (iI he_))]) hx hb dL_papers_7 rfl hl (by decide) rfl (fun ls hl => ?_)
    refine lv_ldc (v := (-2000000002)) hx hb B.1.2.2.2.1 (B.1.2.2.2.2.1 _ mw_627) dL_papers_8 ?_
    refine lv_seti (y := iI (-2000000002)) (by decide) ?_
    exact k_iret B hr (Or.inr (⟨tl, hPS, z_2, rfl, rfl, rfl, rfl⟩)) ⟨(by first | omega | (dsimp only; omega)), (by first | omega | (dsimp only; omega))⟩ ⟨(by first | omega | (dsimp only; omega)), (by first | omega | (dsimp only; omega))⟩ dL_papers_10
  · skip
    obtain ⟨tl2_3, z_4, z_5, rfl, hw9, rfl, rfl⟩ := hp
    rw [hw9] at B; clear hw9
    have B := bd_to (ws' := ([] ++ tl2_3)) rfl B
    have hPS : PS dI k (paT T wi he_) K qa cp tl2_3 := z_4
    exact k_iret B hr (Or.inl (⟨tl2_3, z_4, z_5, rfl, rfl, rfl, rfl⟩)) ⟨(by first | omega | (dsimp only; omega)), (by first | omega | (dsimp only; omega))⟩ ⟨(by first | omega | (dsimp only; omega)), (by first | omega | (dsimp only; omega))⟩ dL_papers_6

theorem mw_1257 : (Jvm.Cond.methodLink "GalleyforgeLaw" (58 : Nat) ({ cls := "Galleyforge", name := "key", desc := "(II)I" } : Jvm.MethodName)) ∈ gt := gt_at 1327 (by decide +kernel) (by decide +kernel)
theorem mw_1258 : (Jvm.Cond.instanceMethod ({ cls := "Galleyforge", name := "key", desc := "(II)I" } : Jvm.MethodName)) ∈ gt := gt_at 1328 (by decide +kernel) (by decide +kernel)
theorem mw_1259 : (Jvm.Cond.selects "Galleyforge" ({ cls := "Galleyforge", name := "key", desc := "(II)I" } : Jvm.MethodName) ({ cls := "Galleyforge", name := "key", desc := "(II)I" } : Jvm.MethodName)) ∈ gt := gt_at 1329 (by decide +kernel) (by decide +kernel)
theorem mw_1260 : (Jvm.Cond.code ({ cls := "Galleyforge", name := "key", desc := "(II)I" } : Jvm.MethodName) prog_1_method_15_code (4 : Nat) (Option.some Jvm.ClassFile.FieldType.int)) ∈ gt := gt_at 1330 (by decide +kernel) (by decide +kernel)
theorem mV_X11_key : mV yX11_key cX11_key 4 (some .int) 2 := ⟨⟨mw_1260, mw_1, by decide, by decide, by decide +kernel⟩, mw_1258, mw_1259⟩
theorem dL_keys_0 : decode cL_keys 0 = .ok (.aload_n 0, 1) := by decide +kernel
theorem dL_keys_1 : decode cL_keys 1 = .ok (.iload_n 1, 1) := by decide +kernel
theorem dL_keys_2 : decode cL_keys 2 = .ok (.iload_n 2, 1) := by decide +kernel
theorem dL_keys_3 : decode cL_keys 3 = .ok (.invokevirtual 58, 3) := by decide +kernel
theorem dL_keys_6 : decode cL_keys 6 = .ok (.ireturn, 1) := by decide +kernel
theorem dL_keys_7 : decode cL_keys 7 = .ok (.astore_n 3, 1) := by decide +kernel
theorem dL_keys_8 : decode cL_keys 8 = .ok (.ldc 15, 2) := by decide +kernel
theorem dL_keys_10 : decode cL_keys 10 = .ok (.ireturn, 1) := by decide +kernel
theorem dL_keys_11 : decode cL_keys 11 = .ok (.astore_n 3, 1) := by decide +kernel
theorem dL_keys_12 : decode cL_keys 12 = .ok (.ldc 25, 2) := by decide +kernel
theorem dL_keys_14 : decode cL_keys 14 = .ok (.ireturn, 1) := by decide +kernel
set_option maxHeartbeats 4000000 in
set_option maxRecDepth 100000 in
theorem w_keys (l : Launch) (dC : Nat → ClassId) (dI : Nat → Nat → Nat) (k : Nat → ClassId) (hl0 : l.stackTraces = false) (T : Nat → Int → Int → Int → Int) (K : Nat → Int → Int) (qa : Nat) (cp : Nat) (tl : va_W) (te : Int) (ky_ : Int) (hPS : PS dI k T K qa cp tl) (hQ : OKT T K) (hrte : -2147483648 ≤ te ∧ te < 2147483648) (hrky_ : -2147483648 ≤ ky_ ∧ ky_ < 2147483648) : Kn l dC dI k yL_keys (.codeWith yL_keys cL_keys 4 (some .int) [(0, 6, 7, 13), (0, 6, 11, 23)]) ({ frames := 8, cells := 1, slots := 6, locals := 125 } : Room) [.ref qa, .int (iI te), .int (iI ky_)] ([] ++ tl) (fun r w gc gs => (∃ (tl2 : va_W), (PS dI k (kyT T te ky_) K qa cp tl2) ∧ ((0 ≤ te ∧ te ≤ 7) ∧ 0 ≤ ky_ ∧ ky_ ≤ 999) ∧ r = some (.int (iI (T 15 te 0 0))) ∧ w = ([] ++ tl2) ∧ gc = 1 ∧ gs = 6) ∨ (∃ (tl2 : va_W), (PS dI k T K qa cp tl2) ∧ (¬ (0 ≤ te ∧ te ≤ 7)) ∧ r = some (.int (iI (-2000000001))) ∧ w = ([] ++ tl2) ∧ gc = 1 ∧ gs = 6) ∨ (∃ (tl2 : va_W), (PS dI k T K qa cp tl2) ∧ ((0 ≤ te ∧ te ≤ 7) ∧ ¬ (0 ≤ ky_ ∧ ky_ ≤ 999)) ∧ r = some (.int (iI (-2000000002))) ∧ w = ([] ++ tl2) ∧ gc = 1 ∧ gs = 6)) := by
  refine kw_of (by decide) (Nat.le_of_ble_eq_true rfl) ?_
  intro p e s m args below meth c H locs B hr hT ls hl
  have hx := B.1.1
  have hb := B.1.2.1
  have hl : lv_has ls 4 [(0, .ref qa), (1, .int (iI te)), (2, .int (iI ky_))] := hl
  have hcp9 := PS_cp hPS
  refine lv_aload_n hx hb dL_keys_0 rfl (lv_at hl 0 rfl) ?_
  refine lv_iload_n hx hb dL_keys_1 rfl (lv_at hl 1 rfl) ?_
  refine lv_iload_n hx hb dL_keys_2 rfl (lv_at hl 2 rfl) ?_
  have B := bd_swap (a := []) (b := []) (d := tl) (bd_to rfl B)
  obtain ⟨k_1, hk_1⟩ := pk_at (hs := []) (PS_go hPS).choose_spec
  refine k_Vx (rest := []) (wc := ([] ++ tl)) (wr := []) (a_key l dC dI k hl0 T K qa cp tl te ky_ hPS hQ hrte hrky_) B mV_X11_key mw_1257 hl (q0 := k_1) (ci := 11) hk_1 rfl rfl ⟨Nat.le_of_ble_eq_true rfl, Nat.le_of_ble_eq_true rfl⟩ (Nat.le_of_ble_eq_true rfl) rfl dL_keys_3 ⟨by dsimp only; omega, by dsimp only; omega⟩ (fun E ce q9 w gc gs H locs hp B h1 h2 h3 => ?_) (fun r w gc gs H locs hp B => ?_)
  · skip
    rcases hp with ⟨z_2, rfl, hw9, rfl, rfl⟩ | ⟨z_3, rfl, hw9, rfl, rfl⟩
    · skip
      rw [hw9] at B; clear hw9
      have B := bd_to (ws' := ([] ++ tl)) rfl B
      refine vx_catch B.1.2.2.2.1 [] ⟨0, 6, 7, 13⟩ [⟨0, 6, 11, 23⟩] (hT.trans rfl) (fun z hz => by cases hz) (by decide) (by decide) (B.1.2.2.2.2.1 _ mw_501) (ca.use (B.2.1.2.2.2.2.2.2.1.1.1 _ (by decide +kernel))) h1 h2 h3 ?_
      refine lv_astore_n (lv' := [(3, .ref q9), (0, .ref qa), (1, .int (iI te)), (2, .int (iI ky_))]) hx hb dL_keys_7 rfl hl (by decide) rfl (fun ls hl => ?_)
      refine lv_ldc (v := (-2000000001)) hx hb B.1.2.2.2.1 (B.1.2.2.2.2.1 _ mw_593) dL_keys_8 ?_
      refine lv_seti (y := iI (-2000000001)) (by decide) ?_
      exact k_iret B hr (Or.inr (Or.inl (⟨tl, hPS, z_2, rfl, rfl, rfl, rfl⟩))) ⟨(by first | omega | (dsimp only; omega)), (by first | omega | (dsimp only; omega))⟩ ⟨(by first | omega | (dsimp only; omega)), (by first | omega | (dsimp only; omega))⟩ dL_keys_10
    · skip
      rw [hw9] at B; clear hw9
      have B := bd_to (ws' := ([] ++ tl)) rfl B
      refine vx_catch B.1.2.2.2.1 [⟨0, 6, 7, 13⟩] ⟨0, 6, 11, 23⟩ [] (hT.trans rfl) (fun z hz => by rcases List.mem_singleton.mp hz with rfl; exact Or.inr ⟨by decide, _, B.1.2.2.2.2.1 _ mw_501, B.2.1.2.2.2.2.2.2.1.2.2.1⟩) (by decide) (by decide) (B.1.2.2.2.2.1 _ mw_598) (ca.use (B.2.1.2.2.2.2.2.2.1.1.1 _ (by decide +kernel))) h1 h2 h3 ?_
      refine lv_astore_n (lv' := [(3, .ref q9), (0, .ref qa), (1, .int (iI te)), (2, .int (iI ky_))]) hx hb dL_keys_11 rfl hl (by decide) rfl (fun ls hl => ?_)
      refine lv_ldc (v := (-2000000002)) hx hb B.1.2.2.2.1 (B.1.2.2.2.2.1 _ mw_627) dL_keys_12 ?_
      refine lv_seti (y := iI (-2000000002)) (by decide) ?_
      exact k_iret B hr (Or.inr (Or.inr (⟨tl, hPS, z_3, rfl, rfl, rfl, rfl⟩))) ⟨(by first | omega | (dsimp only; omega)), (by first | omega | (dsimp only; omega))⟩ ⟨(by first | omega | (dsimp only; omega)), (by first | omega | (dsimp only; omega))⟩ dL_keys_14
  · skip
    obtain ⟨tl2_4, z_5, z_6, rfl, hw9, rfl, rfl⟩ := hp
    rw [hw9] at B; clear hw9
    have B := bd_to (ws' := ([] ++ tl2_4)) rfl B
    have hPS : PS dI k (kyT T te ky_) K qa cp tl2_4 := z_5
    exact k_iret B hr (Or.inl (⟨tl2_4, z_5, z_6, rfl, rfl, rfl, rfl⟩)) ⟨(by first | omega | (dsimp only; omega)), (by first | omega | (dsimp only; omega))⟩ ⟨(by first | omega | (dsimp only; omega)), (by first | omega | (dsimp only; omega))⟩ dL_keys_6

theorem mw_1269 : (Jvm.Cond.methodLink "GalleyforgeLaw" (61 : Nat) ({ cls := "Galleyforge", name := "words", desc := "(I)I" } : Jvm.MethodName)) ∈ gt := gt_at 1339 (by decide +kernel) (by decide +kernel)
theorem mw_1270 : (Jvm.Cond.instanceMethod ({ cls := "Galleyforge", name := "words", desc := "(I)I" } : Jvm.MethodName)) ∈ gt := gt_at 1340 (by decide +kernel) (by decide +kernel)
theorem mw_1271 : (Jvm.Cond.selects "Galleyforge" ({ cls := "Galleyforge", name := "words", desc := "(I)I" } : Jvm.MethodName) ({ cls := "Galleyforge", name := "words", desc := "(I)I" } : Jvm.MethodName)) ∈ gt := gt_at 1341 (by decide +kernel) (by decide +kernel)
theorem mw_1272 : (Jvm.Cond.code ({ cls := "Galleyforge", name := "words", desc := "(I)I" } : Jvm.MethodName) prog_1_method_17_code (2 : Nat) (Option.some Jvm.ClassFile.FieldType.int)) ∈ gt := gt_at 1342 (by decide +kernel) (by decide +kernel)
theorem mV_X11_words : mV yX11_words cX11_words 2 (some .int) 1 := ⟨⟨mw_1272, mw_1, by decide, by decide, by decide +kernel⟩, mw_1270, mw_1271⟩
theorem dL_count_0 : decode cL_count 0 = .ok (.aload_n 0, 1) := by decide +kernel
theorem dL_count_1 : decode cL_count 1 = .ok (.iload_n 1, 1) := by decide +kernel
theorem dL_count_2 : decode cL_count 2 = .ok (.invokevirtual 61, 3) := by decide +kernel
theorem dL_count_5 : decode cL_count 5 = .ok (.ireturn, 1) := by decide +kernel
theorem dL_count_6 : decode cL_count 6 = .ok (.astore_n 2, 1) := by decide +kernel
theorem dL_count_7 : decode cL_count 7 = .ok (.ldc 15, 2) := by decide +kernel
theorem dL_count_9 : decode cL_count 9 = .ok (.ireturn, 1) := by decide +kernel
set_option maxHeartbeats 4000000 in
set_option maxRecDepth 100000 in
theorem w_count (l : Launch) (dC : Nat → ClassId) (dI : Nat → Nat → Nat) (k : Nat → ClassId) (hl0 : l.stackTraces = false) (T : Nat → Int → Int → Int → Int) (K : Nat → Int → Int) (qa : Nat) (cp : Nat) (tl : va_W) (pl : Int) (hPS : PS dI k T K qa cp tl) (hQ : OKT T K) (hrpl : -2147483648 ≤ pl ∧ pl < 2147483648) : Kn l dC dI k yL_count (.codeWith yL_count cL_count 3 (some .int) [(0, 5, 6, 13)]) ({ frames := 9, cells := (131072 - cp + 1), slots := (12 * (131072 - cp) + 6), locals := 145 } : Room) [.ref qa, .int (iI pl)] ([] ++ tl) (fun r w gc gs => (∃ (cp2 : Nat) (tl2 : va_W), (PS dI k T K qa cp2 tl2) ∧ (cp ≤ cp2 ∧ cp2 ≤ 131072) ∧ (0 ≤ pl ∧ pl < T 0 0 0 0) ∧ r = some (.int (iI (T 3 pl 0 0))) ∧ w = ([] ++ tl2) ∧ gc = (cp2 - cp + 1) ∧ gs = (12 * (cp2 - cp) + 6)) ∨ (∃ (cp2 : Nat) (tl2 : va_W), (PS dI k T K qa cp2 tl2) ∧ (cp ≤ cp2 ∧ cp2 ≤ 131072) ∧ (¬ (0 ≤ pl ∧ pl < T 0 0 0 0)) ∧ r = some (.int (iI (-2000000001))) ∧ w = ([] ++ tl2) ∧ gc = (cp2 - cp + 1) ∧ gs = (12 * (cp2 - cp) + 6))) := by
  refine kw_of (by decide) (Nat.le_of_ble_eq_true rfl) ?_
  intro p e s m args below meth c H locs B hr hT ls hl
  have hx := B.1.1
  have hb := B.1.2.1
  have hl : lv_has ls 3 [(0, .ref qa), (1, .int (iI pl))] := hl
  have hcp9 := PS_cp hPS
  refine lv_aload_n hx hb dL_count_0 rfl (lv_at hl 0 rfl) ?_
  refine lv_iload_n hx hb dL_count_1 rfl (lv_at hl 1 rfl) ?_
  have B := bd_swap (a := []) (b := []) (d := tl) (bd_to rfl B)
  obtain ⟨k_1, hk_1⟩ := pk_at (hs := []) (PS_go hPS).choose_spec
  refine k_Vx (rest := []) (wc := ([] ++ tl)) (wr := []) (a_words l dC dI k hl0 T K qa cp tl pl hPS hQ hrpl) B mV_X11_words mw_1269 hl (q0 := k_1) (ci := 11) hk_1 rfl rfl ⟨Nat.le_of_ble_eq_true rfl, Nat.le_of_ble_eq_true rfl⟩ (Nat.le_of_ble_eq_true rfl) rfl dL_count_2 ⟨by dsimp only; omega, by dsimp only; omega⟩ (fun E ce q9 w gc gs H locs hp B h1 h2 h3 => ?_) (fun r w gc gs H locs hp B => ?_)
  · skip
    obtain ⟨cp2_2, tl2_3, z_4, z_5, z_6, rfl, hw9, rfl, rfl⟩ := hp
    rw [hw9] at B; clear hw9
    have B := bd_to (ws' := ([] ++ tl2_3)) rfl B
    have hPS : PS dI k T K qa cp2_2 tl2_3 := z_4
    refine vx_catch B.1.2.2.2.1 [] ⟨0, 5, 6, 13⟩ [] (hT.trans rfl) (fun z hz => by cases hz) (by decide) (by decide) (B.1.2.2.2.2.1 _ mw_501) (ca.use (B.2.1.2.2.2.2.2.2.1.1.1 _ (by decide +kernel))) h1 h2 h3 ?_
    refine lv_astore_n (lv' := [(2, .ref q9), (0, .ref qa), (1, .int (iI pl))]) hx hb dL_count_6 rfl hl (by decide) rfl (fun ls hl => ?_)
    refine lv_ldc (v := (-2000000001)) hx hb B.1.2.2.2.1 (B.1.2.2.2.2.1 _ mw_593) dL_count_7 ?_
    refine lv_seti (y := iI (-2000000001)) (by decide) ?_
    exact k_iret B hr (Or.inr (⟨cp2_2, tl2_3, z_4, z_5, z_6, rfl, rfl, rfl, rfl⟩)) ⟨(by first | omega | (dsimp only; omega)), (by first | omega | (dsimp only; omega))⟩ ⟨(by first | omega | (dsimp only; omega)), (by first | omega | (dsimp only; omega))⟩ dL_count_9
  · skip
    obtain ⟨cp2_7, tl2_8, z_9, z_10, z_11, rfl, hw9, rfl, rfl⟩ := hp
    rw [hw9] at B; clear hw9
    have B := bd_to (ws' := ([] ++ tl2_8)) rfl B
    have hPS : PS dI k T K qa cp2_7 tl2_8 := z_9
    exact k_iret B hr (Or.inl (⟨cp2_7, tl2_8, z_9, z_10, z_11, rfl, rfl, rfl, rfl⟩)) ⟨(by first | omega | (dsimp only; omega)), (by first | omega | (dsimp only; omega))⟩ ⟨(by first | omega | (dsimp only; omega)), (by first | omega | (dsimp only; omega))⟩ dL_count_5

theorem mw_1276 : (Jvm.Cond.methodLink "GalleyforgeLaw" (64 : Nat) ({ cls := "Galleyforge", name := "gaps", desc := "(II)I" } : Jvm.MethodName)) ∈ gt := gt_at 1346 (by decide +kernel) (by decide +kernel)
theorem mw_1277 : (Jvm.Cond.instanceMethod ({ cls := "Galleyforge", name := "gaps", desc := "(II)I" } : Jvm.MethodName)) ∈ gt := gt_at 1347 (by decide +kernel) (by decide +kernel)
theorem mw_1278 : (Jvm.Cond.selects "Galleyforge" ({ cls := "Galleyforge", name := "gaps", desc := "(II)I" } : Jvm.MethodName) ({ cls := "Galleyforge", name := "gaps", desc := "(II)I" } : Jvm.MethodName)) ∈ gt := gt_at 1348 (by decide +kernel) (by decide +kernel)
theorem mw_1279 : (Jvm.Cond.code ({ cls := "Galleyforge", name := "gaps", desc := "(II)I" } : Jvm.MethodName) prog_1_method_18_code (4 : Nat) (Option.some Jvm.ClassFile.FieldType.int)) ∈ gt := gt_at 1349 (by decide +kernel) (by decide +kernel)
theorem mV_X11_gaps : mV yX11_gaps cX11_gaps 4 (some .int) 2 := ⟨⟨mw_1279, mw_1, by decide, by decide, by decide +kernel⟩, mw_1277, mw_1278⟩
theorem dL_gaps_0 : decode cL_gaps 0 = .ok (.aload_n 0, 1) := by decide +kernel
theorem dL_gaps_1 : decode cL_gaps 1 = .ok (.iload_n 1, 1) := by decide +kernel
theorem dL_gaps_2 : decode cL_gaps 2 = .ok (.iload_n 2, 1) := by decide +kernel
theorem dL_gaps_3 : decode cL_gaps 3 = .ok (.invokevirtual 64, 3) := by decide +kernel
theorem dL_gaps_6 : decode cL_gaps 6 = .ok (.ireturn, 1) := by decide +kernel
theorem dL_gaps_7 : decode cL_gaps 7 = .ok (.astore_n 3, 1) := by decide +kernel
theorem dL_gaps_8 : decode cL_gaps 8 = .ok (.ldc 15, 2) := by decide +kernel
theorem dL_gaps_10 : decode cL_gaps 10 = .ok (.ireturn, 1) := by decide +kernel
set_option maxHeartbeats 4000000 in
set_option maxRecDepth 100000 in
theorem w_gaps (l : Launch) (dC : Nat → ClassId) (dI : Nat → Nat → Nat) (k : Nat → ClassId) (hl0 : l.stackTraces = false) (T : Nat → Int → Int → Int → Int) (K : Nat → Int → Int) (qa : Nat) (cp : Nat) (tl : va_W) (pl : Int) (at_ : Int) (hPS : PS dI k T K qa cp tl) (hQ : OKT T K) (hrpl : -2147483648 ≤ pl ∧ pl < 2147483648) (hrat_ : -2147483648 ≤ at_ ∧ at_ < 2147483648) : Kn l dC dI k yL_gaps (.codeWith yL_gaps cL_gaps 4 (some .int) [(0, 6, 7, 13)]) ({ frames := 9, cells := (131072 - cp + 1), slots := (12 * (131072 - cp) + 6), locals := 147 } : Room) [.ref qa, .int (iI pl), .int (iI at_)] ([] ++ tl) (fun r w gc gs => (∃ (cp2 : Nat) (tl2 : va_W), (PS dI k T K qa cp2 tl2) ∧ (cp ≤ cp2 ∧ cp2 ≤ 131072) ∧ ((0 ≤ pl ∧ pl < T 0 0 0 0) ∧ 0 ≤ at_ ∧ at_ < T 3 pl 0 0) ∧ r = some (.int (iI (T 8 pl at_ 0))) ∧ w = ([] ++ tl2) ∧ gc = (cp2 - cp + 1) ∧ gs = (12 * (cp2 - cp) + 6)) ∨ (∃ (cp2 : Nat) (tl2 : va_W), (PS dI k T K qa cp2 tl2) ∧ (cp ≤ cp2 ∧ cp2 ≤ 131072) ∧ (¬ ((0 ≤ pl ∧ pl < T 0 0 0 0) ∧ 0 ≤ at_ ∧ at_ < T 3 pl 0 0)) ∧ r = some (.int (iI (-2000000001))) ∧ w = ([] ++ tl2) ∧ gc = (cp2 - cp + 1) ∧ gs = (12 * (cp2 - cp) + 6))) := by
  refine kw_of (by decide) (Nat.le_of_ble_eq_true rfl) ?_
  intro p e s m args below meth c H locs B hr hT ls hl
  have hx := B.1.1
  have hb := B.1.2.1
  have hl : lv_has ls 4 [(0, .ref qa), (1, .int (iI pl)), (2, .int (iI at_))] := hl
  have hcp9 := PS_cp hPS
  refine lv_aload_n hx hb dL_gaps_0 rfl (lv_at hl 0 rfl) ?_
  refine lv_iload_n hx hb dL_gaps_1 rfl (lv_at hl 1 rfl) ?_
  refine lv_iload_n hx hb dL_gaps_2 rfl (lv_at hl 2 rfl) ?_
  have B := bd_swap (a := []) (b := []) (d := tl) (bd_to rfl B)
  obtain ⟨k_1, hk_1⟩ := pk_at (hs := []) (PS_go hPS).choose_spec
  refine k_Vx (rest := []) (wc := ([] ++ tl)) (wr := []) (a_gaps l dC dI k hl0 T K qa cp tl pl at_ hPS hQ hrpl hrat_) B mV_X11_gaps mw_1276 hl (q0 := k_1) (ci := 11) hk_1 rfl rfl ⟨Nat.le_of_ble_eq_true rfl, Nat.le_of_ble_eq_true rfl⟩ (Nat.le_of_ble_eq_true rfl) rfl dL_gaps_3 ⟨by dsimp only; omega, by dsimp only; omega⟩ (fun E ce q9 w gc gs H locs hp B h1 h2 h3 => ?_) (fun r w gc gs H locs hp B => ?_)
  · skip
    obtain ⟨cp2_2, tl2_3, z_4, z_5, z_6, rfl, hw9, rfl, rfl⟩ := hp
    rw [hw9] at B; clear hw9
    have B := bd_to (ws' := ([] ++ tl2_3)) rfl B
    have hPS : PS dI k T K qa cp2_2 tl2_3 := z_4
    refine vx_catch B.1.2.2.2.1 [] ⟨0, 6, 7, 13⟩ [] (hT.trans rfl) (fun z hz => by cases hz) (by decide) (by decide) (B.1.2.2.2.2.1 _ mw_501) (ca.use (B.2.1.2.2.2.2.2.2.1.1.1 _ (by decide +kernel))) h1 h2 h3 ?_
    refine lv_astore_n (lv' := [(3, .ref q9), (0, .ref qa), (1, .int (iI pl)), (2, .int (iI at_))]) hx hb dL_gaps_7 rfl hl (by decide) rfl (fun ls hl => ?_)
    refine lv_ldc (v := (-2000000001)) hx hb B.1.2.2.2.1 (B.1.2.2.2.2.1 _ mw_593) dL_gaps_8 ?_
    refine lv_seti (y := iI (-2000000001)) (by decide) ?_
    exact k_iret B hr (Or.inr (⟨cp2_2, tl2_3, z_4, z_5, z_6, rfl, rfl, rfl, rfl⟩)) ⟨(by first | omega | (dsimp only; omega)), (by first | omega | (dsimp only; omega))⟩ ⟨(by first | omega | (dsimp only; omega)), (by first | omega | (dsimp only; omega))⟩ dL_gaps_10
  · skip
    obtain ⟨cp2_7, tl2_8, z_9, z_10, z_11, rfl, hw9, rfl, rfl⟩ := hp
    rw [hw9] at B; clear hw9
    have B := bd_to (ws' := ([] ++ tl2_8)) rfl B
    have hPS : PS dI k T K qa cp2_7 tl2_8 := z_9
    exact k_iret B hr (Or.inl (⟨cp2_7, tl2_8, z_9, z_10, z_11, rfl, rfl, rfl, rfl⟩)) ⟨(by first | omega | (dsimp only; omega)), (by first | omega | (dsimp only; omega))⟩ ⟨(by first | omega | (dsimp only; omega)), (by first | omega | (dsimp only; omega))⟩ dL_gaps_6

theorem mw_1283 : (Jvm.Cond.methodLink "GalleyforgeLaw" (67 : Nat) ({ cls := "Galleyforge", name := "number", desc := "(II)I" } : Jvm.MethodName)) ∈ gt := gt_at 1353 (by decide +kernel) (by decide +kernel)
theorem mw_1284 : (Jvm.Cond.instanceMethod ({ cls := "Galleyforge", name := "number", desc := "(II)I" } : Jvm.MethodName)) ∈ gt := gt_at 1354 (by decide +kernel) (by decide +kernel)
theorem mw_1285 : (Jvm.Cond.selects "Galleyforge" ({ cls := "Galleyforge", name := "number", desc := "(II)I" } : Jvm.MethodName) ({ cls := "Galleyforge", name := "number", desc := "(II)I" } : Jvm.MethodName)) ∈ gt := gt_at 1355 (by decide +kernel) (by decide +kernel)
theorem mw_1286 : (Jvm.Cond.code ({ cls := "Galleyforge", name := "number", desc := "(II)I" } : Jvm.MethodName) prog_1_method_19_code (4 : Nat) (Option.some Jvm.ClassFile.FieldType.int)) ∈ gt := gt_at 1356 (by decide +kernel) (by decide +kernel)
theorem mV_X11_number : mV yX11_number cX11_number 4 (some .int) 2 := ⟨⟨mw_1286, mw_1, by decide, by decide, by decide +kernel⟩, mw_1284, mw_1285⟩
theorem dL_number_0 : decode cL_number 0 = .ok (.aload_n 0, 1) := by decide +kernel
theorem dL_number_1 : decode cL_number 1 = .ok (.iload_n 1, 1) := by decide +kernel
theorem dL_number_2 : decode cL_number 2 = .ok (.iload_n 2, 1) := by decide +kernel
theorem dL_number_3 : decode cL_number 3 = .ok (.invokevirtual 67, 3) := by decide +kernel
theorem dL_number_6 : decode cL_number 6 = .ok (.ireturn, 1) := by decide +kernel
theorem dL_number_7 : decode cL_number 7 = .ok (.astore_n 3, 1) := by decide +kernel
theorem dL_number_8 : decode cL_number 8 = .ok (.ldc 15, 2) := by decide +kernel
theorem dL_number_10 : decode cL_number 10 = .ok (.ireturn, 1) := by decide +kernel
set_option maxHeartbeats 4000000 in
set_option maxRecDepth 100000 in
theorem w_number (l : Launch) (dC : Nat → ClassId) (dI : Nat → Nat → Nat) (k : Nat → ClassId) (hl0 : l.stackTraces = false) (T : Nat → Int → Int → Int → Int) (K : Nat → Int → Int) (qa : Nat) (cp : Nat) (tl : va_W) (v : Int) (pl : Int) (hPS : PS dI k T K qa cp tl) (hQ : OKT T K) (hrv : -2147483648 ≤ v ∧ v < 2147483648) (hrpl : -2147483648 ≤ pl ∧ pl < 2147483648) : Kn l dC dI k yL_number (.codeWith yL_number cL_number 4 (some .int) [(0, 6, 7, 13)]) ({ frames := 9, cells := (131072 - cp + 1), slots := (12 * (131072 - cp) + 6), locals := 147 } : Room) [.ref qa, .int (iI v), .int (iI pl)] ([] ++ tl) (fun r w gc gs => (∃ (cp2 : Nat) (tl2 : va_W), (PS dI k T K qa cp2 tl2) ∧ (cp ≤ cp2 ∧ cp2 ≤ 131072) ∧ ((0 ≤ v ∧ v ≤ 1) ∧ (0 ≤ pl ∧ pl < T 0 0 0 0)) ∧ r = some (.int (iI (nuZ T v pl))) ∧ w = ([] ++ tl2) ∧ gc = (cp2 - cp + 1) ∧ gs = (12 * (cp2 - cp) + 6)) ∨ (∃ (cp2 : Nat) (tl2 : va_W), (PS dI k T K qa cp2 tl2) ∧ (cp ≤ cp2 ∧ cp2 ≤ 131072) ∧ (¬ ((0 ≤ v ∧ v ≤ 1) ∧ (0 ≤ pl ∧ pl < T 0 0 0 0))) ∧ r = some (.int (iI (-2000000001))) ∧ w = ([] ++ tl2) ∧ gc = (cp2 - cp + 1) ∧ gs = (12 * (cp2 - cp) + 6))) := by
  refine kw_of (by decide) (Nat.le_of_ble_eq_true rfl) ?_
  intro p e s m args below meth c H locs B hr hT ls hl
  have hx := B.1.1
  have hb := B.1.2.1
  have hl : lv_has ls 4 [(0, .ref qa), (1, .int (iI v)), (2, .int (iI pl))] := hl
  have hcp9 := PS_cp hPS
  refine lv_aload_n hx hb dL_number_0 rfl (lv_at hl 0 rfl) ?_
  refine lv_iload_n hx hb dL_number_1 rfl (lv_at hl 1 rfl) ?_
  refine lv_iload_n hx hb dL_number_2 rfl (lv_at hl 2 rfl) ?_
  have B := bd_swap (a := []) (b := []) (d := tl) (bd_to rfl B)
  obtain ⟨k_1, hk_1⟩ := pk_at (hs := []) (PS_go hPS).choose_spec
  refine k_Vx (rest := []) (wc := ([] ++ tl)) (wr := []) (a_number l dC dI k hl0 T K qa cp tl v pl hPS hQ hrv hrpl) B mV_X11_number mw_1283 hl (q0 := k_1) (ci := 11) hk_1 rfl rfl ⟨Nat.le_of_ble_eq_true rfl, Nat.le_of_ble_eq_true rfl⟩ (Nat.le_of_ble_eq_true rfl) rfl dL_number_3 ⟨by dsimp only; omega, by dsimp only; omega⟩ (fun E ce q9 w gc gs H locs hp B h1 h2 h3 => ?_) (fun r w gc gs H locs hp B => ?_)
  · skip
    obtain ⟨cp2_2, tl2_3, z_4, z_5, z_6, rfl, hw9, rfl, rfl⟩ := hp
    rw [hw9] at B; clear hw9
    have B := bd_to (ws' := ([] ++ tl2_3)) rfl B
    have hPS : PS dI k T K qa cp2_2 tl2_3 := z_4
    refine vx_catch B.1.2.2.2.1 [] ⟨0, 6, 7, 13⟩ [] (hT.trans rfl) (fun z hz => by cases hz) (by decide) (by decide) (B.1.2.2.2.2.1 _ mw_501) (ca.use (B.2.1.2.2.2.2.2.2.1.1.1 _ (by decide +kernel))) h1 h2 h3 ?_
    refine lv_astore_n (lv' := [(3, .ref q9), (0, .ref qa), (1, .int (iI v)), (2, .int (iI pl))]) hx hb dL_number_7 rfl hl (by decide) rfl (fun ls hl => ?_)
    refine lv_ldc (v := (-2000000001)) hx hb B.1.2.2.2.1 (B.1.2.2.2.2.1 _ mw_593) dL_number_8 ?_
    refine lv_seti (y := iI (-2000000001)) (by decide) ?_
    exact k_iret B hr (Or.inr (⟨cp2_2, tl2_3, z_4, z_5, z_6, rfl, rfl, rfl, rfl⟩)) ⟨(by first | omega | (dsimp only; omega)), (by first | omega | (dsimp only; omega))⟩ ⟨(by first | omega | (dsimp only; omega)), (by first | omega | (dsimp only; omega))⟩ dL_number_10
  · skip
    obtain ⟨cp2_7, tl2_8, z_9, z_10, z_11, rfl, hw9, rfl, rfl⟩ := hp
    rw [hw9] at B; clear hw9
    have B := bd_to (ws' := ([] ++ tl2_8)) rfl B
    have hPS : PS dI k T K qa cp2_7 tl2_8 := z_9
    exact k_iret B hr (Or.inl (⟨cp2_7, tl2_8, z_9, z_10, z_11, rfl, rfl, rfl, rfl⟩)) ⟨(by first | omega | (dsimp only; omega)), (by first | omega | (dsimp only; omega))⟩ ⟨(by first | omega | (dsimp only; omega)), (by first | omega | (dsimp only; omega))⟩ dL_number_6

theorem mw_1312 : (Jvm.Cond.methodLink "GalleyforgeLaw" (70 : Nat) ({ cls := "Galleyforge", name := "columnWidth", desc := "(II)I" } : Jvm.MethodName)) ∈ gt := gt_at 1382 (by decide +kernel) (by decide +kernel)
theorem mw_1313 : (Jvm.Cond.instanceMethod ({ cls := "Galleyforge", name := "columnWidth", desc := "(II)I" } : Jvm.MethodName)) ∈ gt := gt_at 1383 (by decide +kernel) (by decide +kernel)
theorem mw_1314 : (Jvm.Cond.selects "Galleyforge" ({ cls := "Galleyforge", name := "columnWidth", desc := "(II)I" } : Jvm.MethodName) ({ cls := "Galleyforge", name := "columnWidth", desc := "(II)I" } : Jvm.MethodName)) ∈ gt := gt_at 1384 (by decide +kernel) (by decide +kernel)
theorem mw_1315 : (Jvm.Cond.code ({ cls := "Galleyforge", name := "columnWidth", desc := "(II)I" } : Jvm.MethodName) prog_1_method_20_code (4 : Nat) (Option.some Jvm.ClassFile.FieldType.int)) ∈ gt := gt_at 1385 (by decide +kernel) (by decide +kernel)
theorem mV_X11_columnWidth : mV yX11_columnWidth cX11_columnWidth 4 (some .int) 2 := ⟨⟨mw_1315, mw_1, by decide, by decide, by decide +kernel⟩, mw_1313, mw_1314⟩
theorem dL_wide_0 : decode cL_wide 0 = .ok (.aload_n 0, 1) := by decide +kernel
theorem dL_wide_1 : decode cL_wide 1 = .ok (.iload_n 1, 1) := by decide +kernel
theorem dL_wide_2 : decode cL_wide 2 = .ok (.iload_n 2, 1) := by decide +kernel
theorem dL_wide_3 : decode cL_wide 3 = .ok (.invokevirtual 70, 3) := by decide +kernel
theorem dL_wide_6 : decode cL_wide 6 = .ok (.ireturn, 1) := by decide +kernel
theorem dL_wide_7 : decode cL_wide 7 = .ok (.astore_n 3, 1) := by decide +kernel
theorem dL_wide_8 : decode cL_wide 8 = .ok (.ldc 15, 2) := by decide +kernel
theorem dL_wide_10 : decode cL_wide 10 = .ok (.ireturn, 1) := by decide +kernel
set_option maxHeartbeats 4000000 in
set_option maxRecDepth 100000 in
theorem w_wide (l : Launch) (dC : Nat → ClassId) (dI : Nat → Nat → Nat) (k : Nat → ClassId) (hl0 : l.stackTraces = false) (T : Nat → Int → Int → Int → Int) (K : Nat → Int → Int) (qa : Nat) (cp : Nat) (tl : va_W) (pl : Int) (cc : Int) (hPS : PS dI k T K qa cp tl) (hQ : OKT T K) (hrpl : -2147483648 ≤ pl ∧ pl < 2147483648) (hrcc : -2147483648 ≤ cc ∧ cc < 2147483648) : Kn l dC dI k yL_wide (.codeWith yL_wide cL_wide 4 (some .int) [(0, 6, 7, 13)]) ({ frames := 10, cells := (131072 - cp + 1), slots := (12 * (131072 - cp) + 6), locals := 169 } : Room) [.ref qa, .int (iI pl), .int (iI cc)] ([] ++ tl) (fun r w gc gs => (∃ (cp2 : Nat) (tl2 : va_W), (PS dI k T K qa cp2 tl2) ∧ (cp ≤ cp2 ∧ cp2 ≤ 131072) ∧ (((0 ≤ pl ∧ pl < T 0 0 0 0) ∧ T 1 pl 0 0 = 3) ∧ 0 ≤ cc ∧ cc < (ccZ (fun j9 : Int => T 9 pl j9 0) 12)) ∧ r = some (.int (iI ((fitZ (msW (fun j9 : Int => T 9 pl j9 0) (fun j9 : Int => T 10 pl j9 0) 3) (msW (fun j9 : Int => T 9 pl j9 0) (fun j9 : Int => T 11 pl j9 0) 3) (T 16 0 0 0)) cc))) ∧ w = ([] ++ tl2) ∧ gc = (cp2 - cp + 1) ∧ gs = (12 * (cp2 - cp) + 6)) ∨ (∃ (cp2 : Nat) (tl2 : va_W), (PS dI k T K qa cp2 tl2) ∧ (cp ≤ cp2 ∧ cp2 ≤ 131072) ∧ (¬ (((0 ≤ pl ∧ pl < T 0 0 0 0) ∧ T 1 pl 0 0 = 3) ∧ 0 ≤ cc ∧ cc < (ccZ (fun j9 : Int => T 9 pl j9 0) 12))) ∧ r = some (.int (iI (-2000000001))) ∧ w = ([] ++ tl2) ∧ gc = (cp2 - cp + 1) ∧ gs = (12 * (cp2 - cp) + 6))) := by
  refine kw_of (by decide) (Nat.le_of_ble_eq_true rfl) ?_
  intro p e s m args below meth c H locs B hr hT ls hl
  have hx := B.1.1
  have hb := B.1.2.1
  have hl : lv_has ls 4 [(0, .ref qa), (1, .int (iI pl)), (2, .int (iI cc))] := hl
  have hcp9 := PS_cp hPS
  refine lv_aload_n hx hb dL_wide_0 rfl (lv_at hl 0 rfl) ?_
  refine lv_iload_n hx hb dL_wide_1 rfl (lv_at hl 1 rfl) ?_
  refine lv_iload_n hx hb dL_wide_2 rfl (lv_at hl 2 rfl) ?_
  have B := bd_swap (a := []) (b := []) (d := tl) (bd_to rfl B)
  obtain ⟨k_1, hk_1⟩ := pk_at (hs := []) (PS_go hPS).choose_spec
  refine k_Vx (rest := []) (wc := ([] ++ tl)) (wr := []) (a_columnWidth l dC dI k hl0 T K qa cp tl pl cc hPS hQ hrpl hrcc) B mV_X11_columnWidth mw_1312 hl (q0 := k_1) (ci := 11) hk_1 rfl rfl ⟨Nat.le_of_ble_eq_true rfl, Nat.le_of_ble_eq_true rfl⟩ (Nat.le_of_ble_eq_true rfl) rfl dL_wide_3 ⟨by dsimp only; omega, by dsimp only; omega⟩ (fun E ce q9 w gc gs H locs hp B h1 h2 h3 => ?_) (fun r w gc gs H locs hp B => ?_)
  · skip
    obtain ⟨cp2_2, tl2_3, z_4, z_5, z_6, rfl, hw9, rfl, rfl⟩ := hp
    rw [hw9] at B; clear hw9
    have B := bd_to (ws' := ([] ++ tl2_3)) rfl B
    have hPS : PS dI k T K qa cp2_2 tl2_3 := z_4
    refine vx_catch B.1.2.2.2.1 [] ⟨0, 6, 7, 13⟩ [] (hT.trans rfl) (fun z hz => by cases hz) (by decide) (by decide) (B.1.2.2.2.2.1 _ mw_501) (ca.use (B.2.1.2.2.2.2.2.2.1.1.1 _ (by decide +kernel))) h1 h2 h3 ?_
    refine lv_astore_n (lv' := [(3, .ref q9), (0, .ref qa), (1, .int (iI pl)), (2, .int (iI cc))]) hx hb dL_wide_7 rfl hl (by decide) rfl (fun ls hl => ?_)
    refine lv_ldc (v := (-2000000001)) hx hb B.1.2.2.2.1 (B.1.2.2.2.2.1 _ mw_593) dL_wide_8 ?_
    refine lv_seti (y := iI (-2000000001)) (by decide) ?_
    exact k_iret B hr (Or.inr (⟨cp2_2, tl2_3, z_4, z_5, z_6, rfl, rfl, rfl, rfl⟩)) ⟨(by first | omega | (dsimp only; omega)), (by first | omega | (dsimp only; omega))⟩ ⟨(by first | omega | (dsimp only; omega)), (by first | omega | (dsimp only; omega))⟩ dL_wide_10
  · skip
    obtain ⟨cp2_7, tl2_8, z_9, z_10, z_11, rfl, hw9, rfl, rfl⟩ := hp
    rw [hw9] at B; clear hw9
    have B := bd_to (ws' := ([] ++ tl2_8)) rfl B
    have hPS : PS dI k T K qa cp2_7 tl2_8 := z_9
    exact k_iret B hr (Or.inl (⟨cp2_7, tl2_8, z_9, z_10, z_11, rfl, rfl, rfl, rfl⟩)) ⟨(by first | omega | (dsimp only; omega)), (by first | omega | (dsimp only; omega))⟩ ⟨(by first | omega | (dsimp only; omega)), (by first | omega | (dsimp only; omega))⟩ dL_wide_6

theorem mw_1351 : (Jvm.Cond.methodLink "GalleyforgeLaw" (73 : Nat) ({ cls := "Galleyforge", name := "rowHeight", desc := "(II)I" } : Jvm.MethodName)) ∈ gt := gt_at 1421 (by decide +kernel) (by decide +kernel)
theorem mw_1352 : (Jvm.Cond.instanceMethod ({ cls := "Galleyforge", name := "rowHeight", desc := "(II)I" } : Jvm.MethodName)) ∈ gt := gt_at 1422 (by decide +kernel) (by decide +kernel)
theorem mw_1353 : (Jvm.Cond.selects "Galleyforge" ({ cls := "Galleyforge", name := "rowHeight", desc := "(II)I" } : Jvm.MethodName) ({ cls := "Galleyforge", name := "rowHeight", desc := "(II)I" } : Jvm.MethodName)) ∈ gt := gt_at 1423 (by decide +kernel) (by decide +kernel)
theorem mw_1354 : (Jvm.Cond.code ({ cls := "Galleyforge", name := "rowHeight", desc := "(II)I" } : Jvm.MethodName) prog_1_method_21_code (4 : Nat) (Option.some Jvm.ClassFile.FieldType.int)) ∈ gt := gt_at 1424 (by decide +kernel) (by decide +kernel)
theorem mV_X11_rowHeight : mV yX11_rowHeight cX11_rowHeight 4 (some .int) 2 := ⟨⟨mw_1354, mw_1, by decide, by decide, by decide +kernel⟩, mw_1352, mw_1353⟩
theorem dL_high_0 : decode cL_high 0 = .ok (.aload_n 0, 1) := by decide +kernel
theorem dL_high_1 : decode cL_high 1 = .ok (.iload_n 1, 1) := by decide +kernel
theorem dL_high_2 : decode cL_high 2 = .ok (.iload_n 2, 1) := by decide +kernel
theorem dL_high_3 : decode cL_high 3 = .ok (.invokevirtual 73, 3) := by decide +kernel
theorem dL_high_6 : decode cL_high 6 = .ok (.ireturn, 1) := by decide +kernel
theorem dL_high_7 : decode cL_high 7 = .ok (.astore_n 3, 1) := by decide +kernel
theorem dL_high_8 : decode cL_high 8 = .ok (.ldc 15, 2) := by decide +kernel
theorem dL_high_10 : decode cL_high 10 = .ok (.ireturn, 1) := by decide +kernel
set_option maxHeartbeats 4000000 in
set_option maxRecDepth 100000 in
theorem w_high (l : Launch) (dC : Nat → ClassId) (dI : Nat → Nat → Nat) (k : Nat → ClassId) (hl0 : l.stackTraces = false) (T : Nat → Int → Int → Int → Int) (K : Nat → Int → Int) (qa : Nat) (cp : Nat) (tl : va_W) (pl : Int) (ro : Int) (hPS : PS dI k T K qa cp tl) (hQ : OKT T K) (hrpl : -2147483648 ≤ pl ∧ pl < 2147483648) (hrro : -2147483648 ≤ ro ∧ ro < 2147483648) : Kn l dC dI k yL_high (.codeWith yL_high cL_high 4 (some .int) [(0, 6, 7, 13)]) ({ frames := 10, cells := (131072 - cp + 1), slots := (12 * (131072 - cp) + 6), locals := 169 } : Room) [.ref qa, .int (iI pl), .int (iI ro)] ([] ++ tl) (fun r w gc gs => (∃ (cp2 : Nat) (tl2 : va_W), (PS dI k T K qa cp2 tl2) ∧ (cp ≤ cp2 ∧ cp2 ≤ 131072) ∧ (((0 ≤ pl ∧ pl < T 0 0 0 0) ∧ T 1 pl 0 0 = 3) ∧ 0 ≤ ro ∧ ro < rcT T pl) ∧ r = some (.int (iI (htT T pl ro))) ∧ w = ([] ++ tl2) ∧ gc = (cp2 - cp + 1) ∧ gs = (12 * (cp2 - cp) + 6)) ∨ (∃ (cp2 : Nat) (tl2 : va_W), (PS dI k T K qa cp2 tl2) ∧ (cp ≤ cp2 ∧ cp2 ≤ 131072) ∧ (¬ (((0 ≤ pl ∧ pl < T 0 0 0 0) ∧ T 1 pl 0 0 = 3) ∧ 0 ≤ ro ∧ ro < rcT T pl)) ∧ r = some (.int (iI (-2000000001))) ∧ w = ([] ++ tl2) ∧ gc = (cp2 - cp + 1) ∧ gs = (12 * (cp2 - cp) + 6))) := by
  refine kw_of (by decide) (Nat.le_of_ble_eq_true rfl) ?_
  intro p e s m args below meth c H locs B hr hT ls hl
  have hx := B.1.1
  have hb := B.1.2.1
  have hl : lv_has ls 4 [(0, .ref qa), (1, .int (iI pl)), (2, .int (iI ro))] := hl
  have hcp9 := PS_cp hPS
  refine lv_aload_n hx hb dL_high_0 rfl (lv_at hl 0 rfl) ?_
  refine lv_iload_n hx hb dL_high_1 rfl (lv_at hl 1 rfl) ?_
  refine lv_iload_n hx hb dL_high_2 rfl (lv_at hl 2 rfl) ?_
  have B := bd_swap (a := []) (b := []) (d := tl) (bd_to rfl B)
  obtain ⟨k_1, hk_1⟩ := pk_at (hs := []) (PS_go hPS).choose_spec
  refine k_Vx (rest := []) (wc := ([] ++ tl)) (wr := []) (a_rowHeight l dC dI k hl0 T K qa cp tl pl ro hPS hQ hrpl hrro) B mV_X11_rowHeight mw_1351 hl (q0 := k_1) (ci := 11) hk_1 rfl rfl ⟨Nat.le_of_ble_eq_true rfl, Nat.le_of_ble_eq_true rfl⟩ (Nat.le_of_ble_eq_true rfl) rfl dL_high_3 ⟨by dsimp only; omega, by dsimp only; omega⟩ (fun E ce q9 w gc gs H locs hp B h1 h2 h3 => ?_) (fun r w gc gs H locs hp B => ?_)
  · skip
    obtain ⟨cp2_2, tl2_3, z_4, z_5, z_6, rfl, hw9, rfl, rfl⟩ := hp
    rw [hw9] at B; clear hw9
    have B := bd_to (ws' := ([] ++ tl2_3)) rfl B
    have hPS : PS dI k T K qa cp2_2 tl2_3 := z_4
    refine vx_catch B.1.2.2.2.1 [] ⟨0, 6, 7, 13⟩ [] (hT.trans rfl) (fun z hz => by cases hz) (by decide) (by decide) (B.1.2.2.2.2.1 _ mw_501) (ca.use (B.2.1.2.2.2.2.2.2.1.1.1 _ (by decide +kernel))) h1 h2 h3 ?_
    refine lv_astore_n (lv' := [(3, .ref q9), (0, .ref qa), (1, .int (iI pl)), (2, .int (iI ro))]) hx hb dL_high_7 rfl hl (by decide) rfl (fun ls hl => ?_)
    refine lv_ldc (v := (-2000000001)) hx hb B.1.2.2.2.1 (B.1.2.2.2.2.1 _ mw_593) dL_high_8 ?_
    refine lv_seti (y := iI (-2000000001)) (by decide) ?_
    exact k_iret B hr (Or.inr (⟨cp2_2, tl2_3, z_4, z_5, z_6, rfl, rfl, rfl, rfl⟩)) ⟨(by first | omega | (dsimp only; omega)), (by first | omega | (dsimp only; omega))⟩ ⟨(by first | omega | (dsimp only; omega)), (by first | omega | (dsimp only; omega))⟩ dL_high_10
  · skip
    obtain ⟨cp2_7, tl2_8, z_9, z_10, z_11, rfl, hw9, rfl, rfl⟩ := hp
    rw [hw9] at B; clear hw9
    have B := bd_to (ws' := ([] ++ tl2_8)) rfl B
    have hPS : PS dI k T K qa cp2_7 tl2_8 := z_9
    exact k_iret B hr (Or.inl (⟨cp2_7, tl2_8, z_9, z_10, z_11, rfl, rfl, rfl, rfl⟩)) ⟨(by first | omega | (dsimp only; omega)), (by first | omega | (dsimp only; omega))⟩ ⟨(by first | omega | (dsimp only; omega)), (by first | omega | (dsimp only; omega))⟩ dL_high_6

theorem mw_1363 : (Jvm.Cond.methodLink "GalleyforgeLaw" (76 : Nat) ({ cls := "Galleyforge", name := "lines", desc := "(II)I" } : Jvm.MethodName)) ∈ gt := gt_at 1433 (by decide +kernel) (by decide +kernel)
theorem mw_1364 : (Jvm.Cond.instanceMethod ({ cls := "Galleyforge", name := "lines", desc := "(II)I" } : Jvm.MethodName)) ∈ gt := gt_at 1434 (by decide +kernel) (by decide +kernel)
theorem mw_1365 : (Jvm.Cond.selects "Galleyforge" ({ cls := "Galleyforge", name := "lines", desc := "(II)I" } : Jvm.MethodName) ({ cls := "Galleyforge", name := "lines", desc := "(II)I" } : Jvm.MethodName)) ∈ gt := gt_at 1435 (by decide +kernel) (by decide +kernel)
theorem mw_1366 : (Jvm.Cond.code ({ cls := "Galleyforge", name := "lines", desc := "(II)I" } : Jvm.MethodName) prog_1_method_22_code (3 : Nat) (Option.some Jvm.ClassFile.FieldType.int)) ∈ gt := gt_at 1436 (by decide +kernel) (by decide +kernel)
theorem mV_X11_lines : mV yX11_lines cX11_lines 3 (some .int) 2 := ⟨⟨mw_1366, mw_1, by decide, by decide, by decide +kernel⟩, mw_1364, mw_1365⟩
theorem dL_lines_0 : decode cL_lines 0 = .ok (.aload_n 0, 1) := by decide +kernel
theorem dL_lines_1 : decode cL_lines 1 = .ok (.iload_n 1, 1) := by decide +kernel
theorem dL_lines_2 : decode cL_lines 2 = .ok (.iload_n 2, 1) := by decide +kernel
theorem dL_lines_3 : decode cL_lines 3 = .ok (.invokevirtual 76, 3) := by decide +kernel
theorem dL_lines_6 : decode cL_lines 6 = .ok (.ireturn, 1) := by decide +kernel
theorem dL_lines_7 : decode cL_lines 7 = .ok (.astore_n 3, 1) := by decide +kernel
theorem dL_lines_8 : decode cL_lines 8 = .ok (.ldc 15, 2) := by decide +kernel
theorem dL_lines_10 : decode cL_lines 10 = .ok (.ireturn, 1) := by decide +kernel
set_option maxHeartbeats 4000000 in
set_option maxRecDepth 100000 in
theorem w_lines (l : Launch) (dC : Nat → ClassId) (dI : Nat → Nat → Nat) (k : Nat → ClassId) (hl0 : l.stackTraces = false) (T : Nat → Int → Int → Int → Int) (K : Nat → Int → Int) (qa : Nat) (cp : Nat) (tl : va_W) (v : Int) (pl : Int) (hPS : PS dI k T K qa cp tl) (hQ : OKT T K) (hrv : -2147483648 ≤ v ∧ v < 2147483648) (hrpl : -2147483648 ≤ pl ∧ pl < 2147483648) : Kn l dC dI k yL_lines (.codeWith yL_lines cL_lines 4 (some .int) [(0, 6, 7, 13)]) ({ frames := 10, cells := (131072 - cp + 1), slots := (12 * (131072 - cp) + 6), locals := 227 } : Room) [.ref qa, .int (iI v), .int (iI pl)] ([] ++ tl) (fun r w gc gs => (∃ (cp2 : Nat) (tl2 : va_W), (PS dI k T K qa cp2 tl2) ∧ (cp ≤ cp2 ∧ cp2 ≤ 131072) ∧ ((0 ≤ v ∧ v ≤ 1) ∧ 0 ≤ pl ∧ pl < T 0 0 0 0) ∧ r = some (.int (iI (LCz T v (dgN T v) pl))) ∧ w = ([] ++ tl2) ∧ gc = (cp2 - cp + 1) ∧ gs = (12 * (cp2 - cp) + 6)) ∨ (∃ (cp2 : Nat) (tl2 : va_W), (PS dI k T K qa cp2 tl2) ∧ (cp ≤ cp2 ∧ cp2 ≤ 131072) ∧ (¬ ((0 ≤ v ∧ v ≤ 1) ∧ 0 ≤ pl ∧ pl < T 0 0 0 0)) ∧ r = some (.int (iI (-2000000001))) ∧ w = ([] ++ tl2) ∧ gc = (cp2 - cp + 1) ∧ gs = (12 * (cp2 - cp) + 6))) := by
  refine kw_of (by decide) (Nat.le_of_ble_eq_true rfl) ?_
  intro p e s m args below meth c H locs B hr hT ls hl
  have hx := B.1.1
  have hb := B.1.2.1
  have hl : lv_has ls 4 [(0, .ref qa), (1, .int (iI v)), (2, .int (iI pl))] := hl
  have hcp9 := PS_cp hPS
  refine lv_aload_n hx hb dL_lines_0 rfl (lv_at hl 0 rfl) ?_
  refine lv_iload_n hx hb dL_lines_1 rfl (lv_at hl 1 rfl) ?_
  refine lv_iload_n hx hb dL_lines_2 rfl (lv_at hl 2 rfl) ?_
  have B := bd_swap (a := []) (b := []) (d := tl) (bd_to rfl B)
  obtain ⟨k_1, hk_1⟩ := pk_at (hs := []) (PS_go hPS).choose_spec
  refine k_Vx (rest := []) (wc := ([] ++ tl)) (wr := []) (a_lines l dC dI k hl0 T K qa cp tl v pl hPS hQ hrv hrpl) B mV_X11_lines mw_1363 hl (q0 := k_1) (ci := 11) hk_1 rfl rfl ⟨Nat.le_of_ble_eq_true rfl, Nat.le_of_ble_eq_true rfl⟩ (Nat.le_of_ble_eq_true rfl) rfl dL_lines_3 ⟨by dsimp only; omega, by dsimp only; omega⟩ (fun E ce q9 w gc gs H locs hp B h1 h2 h3 => ?_) (fun r w gc gs H locs hp B => ?_)
  · skip
    obtain ⟨cp2_2, tl2_3, z_4, z_5, z_6, rfl, hw9, rfl, rfl⟩ := hp
    rw [hw9] at B; clear hw9
    have B := bd_to (ws' := ([] ++ tl2_3)) rfl B
    have hPS : PS dI k T K qa cp2_2 tl2_3 := z_4
    refine vx_catch B.1.2.2.2.1 [] ⟨0, 6, 7, 13⟩ [] (hT.trans rfl) (fun z hz => by cases hz) (by decide) (by decide) (B.1.2.2.2.2.1 _ mw_501) (ca.use (B.2.1.2.2.2.2.2.2.1.1.1 _ (by decide +kernel))) h1 h2 h3 ?_
    refine lv_astore_n (lv' := [(3, .ref q9), (0, .ref qa), (1, .int (iI v)), (2, .int (iI pl))]) hx hb dL_lines_7 rfl hl (by decide) rfl (fun ls hl => ?_)
    refine lv_ldc (v := (-2000000001)) hx hb B.1.2.2.2.1 (B.1.2.2.2.2.1 _ mw_593) dL_lines_8 ?_
    refine lv_seti (y := iI (-2000000001)) (by decide) ?_
    exact k_iret B hr (Or.inr (⟨cp2_2, tl2_3, z_4, z_5, z_6, rfl, rfl, rfl, rfl⟩)) ⟨(by first | omega | (dsimp only; omega)), (by first | omega | (dsimp only; omega))⟩ ⟨(by first | omega | (dsimp only; omega)), (by first | omega | (dsimp only; omega))⟩ dL_lines_10
  · skip
    obtain ⟨cp2_7, tl2_8, z_9, z_10, z_11, rfl, hw9, rfl, rfl⟩ := hp
    rw [hw9] at B; clear hw9
    have B := bd_to (ws' := ([] ++ tl2_8)) rfl B
    have hPS : PS dI k T K qa cp2_7 tl2_8 := z_9
    exact k_iret B hr (Or.inl (⟨cp2_7, tl2_8, z_9, z_10, z_11, rfl, rfl, rfl, rfl⟩)) ⟨(by first | omega | (dsimp only; omega)), (by first | omega | (dsimp only; omega))⟩ ⟨(by first | omega | (dsimp only; omega)), (by first | omega | (dsimp only; omega))⟩ dL_lines_6

theorem mw_1678 : (Jvm.Cond.methodLink "GalleyforgeLaw" (79 : Nat) ({ cls := "Galleyforge", name := "lineEnd", desc := "(III)I" } : Jvm.MethodName)) ∈ gt := gt_at 1748 (by decide +kernel) (by decide +kernel)
theorem mw_1679 : (Jvm.Cond.instanceMethod ({ cls := "Galleyforge", name := "lineEnd", desc := "(III)I" } : Jvm.MethodName)) ∈ gt := gt_at 1749 (by decide +kernel) (by decide +kernel)
theorem mw_1680 : (Jvm.Cond.selects "Galleyforge" ({ cls := "Galleyforge", name := "lineEnd", desc := "(III)I" } : Jvm.MethodName) ({ cls := "Galleyforge", name := "lineEnd", desc := "(III)I" } : Jvm.MethodName)) ∈ gt := gt_at 1750 (by decide +kernel) (by decide +kernel)
theorem mw_1681 : (Jvm.Cond.code ({ cls := "Galleyforge", name := "lineEnd", desc := "(III)I" } : Jvm.MethodName) prog_1_method_23_code (5 : Nat) (Option.some Jvm.ClassFile.FieldType.int)) ∈ gt := gt_at 1751 (by decide +kernel) (by decide +kernel)
theorem mV_X11_lineEnd : mV yX11_lineEnd cX11_lineEnd 5 (some .int) 3 := ⟨⟨mw_1681, mw_1, by decide, by decide, by decide +kernel⟩, mw_1679, mw_1680⟩
theorem dL_lineEnd_0 : decode cL_lineEnd 0 = .ok (.aload_n 0, 1) := by decide +kernel
theorem dL_lineEnd_1 : decode cL_lineEnd 1 = .ok (.iload_n 1, 1) := by decide +kernel
theorem dL_lineEnd_2 : decode cL_lineEnd 2 = .ok (.iload_n 2, 1) := by decide +kernel
theorem dL_lineEnd_3 : decode cL_lineEnd 3 = .ok (.iload_n 3, 1) := by decide +kernel
theorem dL_lineEnd_4 : decode cL_lineEnd 4 = .ok (.invokevirtual 79, 3) := by decide +kernel
theorem dL_lineEnd_7 : decode cL_lineEnd 7 = .ok (.ireturn, 1) := by decide +kernel
theorem dL_lineEnd_8 : decode cL_lineEnd 8 = .ok (.astore 4, 2) := by decide +kernel
theorem dL_lineEnd_10 : decode cL_lineEnd 10 = .ok (.ldc 15, 2) := by decide +kernel
theorem dL_lineEnd_12 : decode cL_lineEnd 12 = .ok (.ireturn, 1) := by decide +kernel
set_option maxHeartbeats 4000000 in
set_option maxRecDepth 100000 in
theorem w_lineEnd (l : Launch) (dC : Nat → ClassId) (dI : Nat → Nat → Nat) (k : Nat → ClassId) (hl0 : l.stackTraces = false) (T : Nat → Int → Int → Int → Int) (K : Nat → Int → Int) (qa : Nat) (cp : Nat) (tl : va_W) (v : Int) (pl : Int) (li : Int) (hPS : PS dI k T K qa cp tl) (hQ : OKT T K) (hrv : -2147483648 ≤ v ∧ v < 2147483648) (hrpl : -2147483648 ≤ pl ∧ pl < 2147483648) (hrli : -2147483648 ≤ li ∧ li < 2147483648) : Kn l dC dI k yL_lineEnd (.codeWith yL_lineEnd cL_lineEnd 5 (some .int) [(0, 7, 8, 13)]) ({ frames := 10, cells := (131072 - cp + 1), slots := (12 * (131072 - cp) + 6), locals := 229 } : Room) [.ref qa, .int (iI v), .int (iI pl), .int (iI li)] ([] ++ tl) (fun r w gc gs => (∃ (cp2 : Nat) (tl2 : va_W), (PS dI k T K qa cp2 tl2) ∧ (cp ≤ cp2 ∧ cp2 ≤ 131072) ∧ ((0 ≤ v ∧ v ≤ 1) ∧ (0 ≤ pl ∧ pl < T 0 0 0 0) ∧ 0 ≤ li ∧ li < LCz T v (dgN T v) pl) ∧ r = some (.int (iI (LEz T v (dgN T v) pl li))) ∧ w = ([] ++ tl2) ∧ gc = (cp2 - cp + 1) ∧ gs = (12 * (cp2 - cp) + 6)) ∨ (∃ (cp2 : Nat) (tl2 : va_W), (PS dI k T K qa cp2 tl2) ∧ (cp ≤ cp2 ∧ cp2 ≤ 131072) ∧ (¬ ((0 ≤ v ∧ v ≤ 1) ∧ (0 ≤ pl ∧ pl < T 0 0 0 0) ∧ 0 ≤ li ∧ li < LCz T v (dgN T v) pl)) ∧ r = some (.int (iI (-2000000001))) ∧ w = ([] ++ tl2) ∧ gc = (cp2 - cp + 1) ∧ gs = (12 * (cp2 - cp) + 6))) := by
  refine kw_of (by decide) (Nat.le_of_ble_eq_true rfl) ?_
  intro p e s m args below meth c H locs B hr hT ls hl
  have hx := B.1.1
  have hb := B.1.2.1
  have hl : lv_has ls 5 [(0, .ref qa), (1, .int (iI v)), (2, .int (iI pl)), (3, .int (iI li))] := hl
  have hcp9 := PS_cp hPS
  refine lv_aload_n hx hb dL_lineEnd_0 rfl (lv_at hl 0 rfl) ?_
  refine lv_iload_n hx hb dL_lineEnd_1 rfl (lv_at hl 1 rfl) ?_
  refine lv_iload_n hx hb dL_lineEnd_2 rfl (lv_at hl 2 rfl) ?_
  refine lv_iload_n hx hb dL_lineEnd_3 rfl (lv_at hl 3 rfl) ?_
  have B := bd_swap (a := []) (b := []) (d := tl) (bd_to rfl B)
  obtain ⟨k_1, hk_1⟩ := pk_at (hs := []) (PS_go hPS).choose_spec
  refine k_Vx (rest := []) (wc := ([] ++ tl)) (wr := []) (a_lineEnd l dC dI k hl0 T K qa cp tl v pl li hPS hQ hrv hrpl hrli) B mV_X11_lineEnd mw_1678 hl (q0 := k_1) (ci := 11) hk_1 rfl rfl ⟨Nat.le_of_ble_eq_true rfl, Nat.le_of_ble_eq_true rfl⟩ (Nat.le_of_ble_eq_true rfl) rfl dL_lineEnd_4 ⟨by dsimp only; omega, by dsimp only; omega⟩ (fun E ce q9 w gc gs H locs hp B h1 h2 h3 => ?_) (fun r w gc gs H locs hp B => ?_)
  · skip
    obtain ⟨cp2_2, tl2_3, z_4, z_5, z_6, rfl, hw9, rfl, rfl⟩ := hp
    rw [hw9] at B; clear hw9
    have B := bd_to (ws' := ([] ++ tl2_3)) rfl B
    have hPS : PS dI k T K qa cp2_2 tl2_3 := z_4
    refine vx_catch B.1.2.2.2.1 [] ⟨0, 7, 8, 13⟩ [] (hT.trans rfl) (fun z hz => by cases hz) (by decide) (by decide) (B.1.2.2.2.2.1 _ mw_501) (ca.use (B.2.1.2.2.2.2.2.2.1.1.1 _ (by decide +kernel))) h1 h2 h3 ?_
    refine lv_astore (lv' := [(4, .ref q9), (0, .ref qa), (1, .int (iI v)), (2, .int (iI pl)), (3, .int (iI li))]) hx hb dL_lineEnd_8 hl (by decide) rfl (fun ls hl => ?_)
    refine lv_ldc (v := (-2000000001)) hx hb B.1.2.2.2.1 (B.1.2.2.2.2.1 _ mw_593) dL_lineEnd_10 ?_
    refine lv_seti (y := iI (-2000000001)) (by decide) ?_
    exact k_iret B hr (Or.inr (⟨cp2_2, tl2_3, z_4, z_5, z_6, rfl, rfl, rfl, rfl⟩)) ⟨(by first | omega | (dsimp only; omega)), (by first | omega | (dsimp only; omega))⟩ ⟨(by first | omega | (dsimp only; omega)), (by first | omega | (dsimp only; omega))⟩ dL_lineEnd_12
  · skip
    obtain ⟨cp2_7, tl2_8, z_9, z_10, z_11, rfl, hw9, rfl, rfl⟩ := hp
    rw [hw9] at B; clear hw9
    have B := bd_to (ws' := ([] ++ tl2_8)) rfl B
    have hPS : PS dI k T K qa cp2_7 tl2_8 := z_9
    exact k_iret B hr (Or.inl (⟨cp2_7, tl2_8, z_9, z_10, z_11, rfl, rfl, rfl, rfl⟩)) ⟨(by first | omega | (dsimp only; omega)), (by first | omega | (dsimp only; omega))⟩ ⟨(by first | omega | (dsimp only; omega)), (by first | omega | (dsimp only; omega))⟩ dL_lineEnd_7

theorem mw_1690 : (Jvm.Cond.methodLink "GalleyforgeLaw" (82 : Nat) ({ cls := "Galleyforge", name := "tightness", desc := "(III)I" } : Jvm.MethodName)) ∈ gt := gt_at 1760 (by decide +kernel) (by decide +kernel)
theorem mw_1691 : (Jvm.Cond.instanceMethod ({ cls := "Galleyforge", name := "tightness", desc := "(III)I" } : Jvm.MethodName)) ∈ gt := gt_at 1761 (by decide +kernel) (by decide +kernel)
theorem mw_1692 : (Jvm.Cond.selects "Galleyforge" ({ cls := "Galleyforge", name := "tightness", desc := "(III)I" } : Jvm.MethodName) ({ cls := "Galleyforge", name := "tightness", desc := "(III)I" } : Jvm.MethodName)) ∈ gt := gt_at 1762 (by decide +kernel) (by decide +kernel)
theorem mw_1693 : (Jvm.Cond.code ({ cls := "Galleyforge", name := "tightness", desc := "(III)I" } : Jvm.MethodName) prog_1_method_24_code (5 : Nat) (Option.some Jvm.ClassFile.FieldType.int)) ∈ gt := gt_at 1763 (by decide +kernel) (by decide +kernel)
theorem mV_X11_tightness : mV yX11_tightness cX11_tightness 5 (some .int) 3 := ⟨⟨mw_1693, mw_1, by decide, by decide, by decide +kernel⟩, mw_1691, mw_1692⟩
theorem dL_tight_0 : decode cL_tight 0 = .ok (.aload_n 0, 1) := by decide +kernel
theorem dL_tight_1 : decode cL_tight 1 = .ok (.iload_n 1, 1) := by decide +kernel
theorem dL_tight_2 : decode cL_tight 2 = .ok (.iload_n 2, 1) := by decide +kernel
theorem dL_tight_3 : decode cL_tight 3 = .ok (.iload_n 3, 1) := by decide +kernel
theorem dL_tight_4 : decode cL_tight 4 = .ok (.invokevirtual 82, 3) := by decide +kernel
theorem dL_tight_7 : decode cL_tight 7 = .ok (.ireturn, 1) := by decide +kernel
theorem dL_tight_8 : decode cL_tight 8 = .ok (.astore 4, 2) := by decide +kernel
theorem dL_tight_10 : decode cL_tight 10 = .ok (.ldc 15, 2) := by decide +kernel
theorem dL_tight_12 : decode cL_tight 12 = .ok (.ireturn, 1) := by decide +kernel
set_option maxHeartbeats 4000000 in
set_option maxRecDepth 100000 in
theorem w_tight (l : Launch) (dC : Nat → ClassId) (dI : Nat → Nat → Nat) (k : Nat → ClassId) (hl0 : l.stackTraces = false) (T : Nat → Int → Int → Int → Int) (K : Nat → Int → Int) (qa : Nat) (cp : Nat) (tl : va_W) (v : Int) (pl : Int) (li : Int) (hPS : PS dI k T K qa cp tl) (hQ : OKT T K) (hrv : -2147483648 ≤ v ∧ v < 2147483648) (hrpl : -2147483648 ≤ pl ∧ pl < 2147483648) (hrli : -2147483648 ≤ li ∧ li < 2147483648) : Kn l dC dI k yL_tight (.codeWith yL_tight cL_tight 5 (some .int) [(0, 7, 8, 13)]) ({ frames := 10, cells := (131072 - cp + 1), slots := (12 * (131072 - cp) + 6), locals := 229 } : Room) [.ref qa, .int (iI v), .int (iI pl), .int (iI li)] ([] ++ tl) (fun r w gc gs => (∃ (cp2 : Nat) (tl2 : va_W), (PS dI k T K qa cp2 tl2) ∧ (cp ≤ cp2 ∧ cp2 ≤ 131072) ∧ ((0 ≤ v ∧ v ≤ 1) ∧ (0 ≤ pl ∧ pl < T 0 0 0 0) ∧ 0 ≤ li ∧ li < LCz T v (dgN T v) pl) ∧ r = some (.int (iI (LKz T v (dgN T v) pl li))) ∧ w = ([] ++ tl2) ∧ gc = (cp2 - cp + 1) ∧ gs = (12 * (cp2 - cp) + 6)) ∨ (∃ (cp2 : Nat) (tl2 : va_W), (PS dI k T K qa cp2 tl2) ∧ (cp ≤ cp2 ∧ cp2 ≤ 131072) ∧ (¬ ((0 ≤ v ∧ v ≤ 1) ∧ (0 ≤ pl ∧ pl < T 0 0 0 0) ∧ 0 ≤ li ∧ li < LCz T v (dgN T v) pl)) ∧ r = some (.int (iI (-2000000001))) ∧ w = ([] ++ tl2) ∧ gc = (cp2 - cp + 1) ∧ gs = (12 * (cp2 - cp) + 6))) := by
  refine kw_of (by decide) (Nat.le_of_ble_eq_true rfl) ?_
  intro p e s m args below meth c H locs B hr hT ls hl
  have hx := B.1.1
  have hb := B.1.2.1
  have hl : lv_has ls 5 [(0, .ref qa), (1, .int (iI v)), (2, .int (iI pl)), (3, .int (iI li))] := hl
  have hcp9 := PS_cp hPS
  refine lv_aload_n hx hb dL_tight_0 rfl (lv_at hl 0 rfl) ?_
  refine lv_iload_n hx hb dL_tight_1 rfl (lv_at hl 1 rfl) ?_
  refine lv_iload_n hx hb dL_tight_2 rfl (lv_at hl 2 rfl) ?_
  refine lv_iload_n hx hb dL_tight_3 rfl (lv_at hl 3 rfl) ?_
  have B := bd_swap (a := []) (b := []) (d := tl) (bd_to rfl B)
  obtain ⟨k_1, hk_1⟩ := pk_at (hs := []) (PS_go hPS).choose_spec
  refine k_Vx (rest := []) (wc := ([] ++ tl)) (wr := []) (a_tight l dC dI k hl0 T K qa cp tl v pl li hPS hQ hrv hrpl hrli) B mV_X11_tightness mw_1690 hl (q0 := k_1) (ci := 11) hk_1 rfl rfl ⟨Nat.le_of_ble_eq_true rfl, Nat.le_of_ble_eq_true rfl⟩ (Nat.le_of_ble_eq_true rfl) rfl dL_tight_4 ⟨by dsimp only; omega, by dsimp only; omega⟩ (fun E ce q9 w gc gs H locs hp B h1 h2 h3 => ?_) (fun r w gc gs H locs hp B => ?_)
  · skip
    obtain ⟨cp2_2, tl2_3, z_4, z_5, z_6, rfl, hw9, rfl, rfl⟩ := hp
    rw [hw9] at B; clear hw9
    have B := bd_to (ws' := ([] ++ tl2_3)) rfl B
    have hPS : PS dI k T K qa cp2_2 tl2_3 := z_4
    refine vx_catch B.1.2.2.2.1 [] ⟨0, 7, 8, 13⟩ [] (hT.trans rfl) (fun z hz => by cases hz) (by decide) (by decide) (B.1.2.2.2.2.1 _ mw_501) (ca.use (B.2.1.2.2.2.2.2.2.1.1.1 _ (by decide +kernel))) h1 h2 h3 ?_
    refine lv_astore (lv' := [(4, .ref q9), (0, .ref qa), (1, .int (iI v)), (2, .int (iI pl)), (3, .int (iI li))]) hx hb dL_tight_8 hl (by decide) rfl (fun ls hl => ?_)
    refine lv_ldc (v := (-2000000001)) hx hb B.1.2.2.2.1 (B.1.2.2.2.2.1 _ mw_593) dL_tight_10 ?_
    refine lv_seti (y := iI (-2000000001)) (by decide) ?_
    exact k_iret B hr (Or.inr (⟨cp2_2, tl2_3, z_4, z_5, z_6, rfl, rfl, rfl, rfl⟩)) ⟨(by first | omega | (dsimp only; omega)), (by first | omega | (dsimp only; omega))⟩ ⟨(by first | omega | (dsimp only; omega)), (by first | omega | (dsimp only; omega))⟩ dL_tight_12
  · skip
    obtain ⟨cp2_7, tl2_8, z_9, z_10, z_11, rfl, hw9, rfl, rfl⟩ := hp
    rw [hw9] at B; clear hw9
    have B := bd_to (ws' := ([] ++ tl2_8)) rfl B
    have hPS : PS dI k T K qa cp2_7 tl2_8 := z_9
    exact k_iret B hr (Or.inl (⟨cp2_7, tl2_8, z_9, z_10, z_11, rfl, rfl, rfl, rfl⟩)) ⟨(by first | omega | (dsimp only; omega)), (by first | omega | (dsimp only; omega))⟩ ⟨(by first | omega | (dsimp only; omega)), (by first | omega | (dsimp only; omega))⟩ dL_tight_7

theorem mw_1697 : (Jvm.Cond.methodLink "GalleyforgeLaw" (85 : Nat) ({ cls := "Galleyforge", name := "demerits", desc := "(II)J" } : Jvm.MethodName)) ∈ gt := gt_at 1767 (by decide +kernel) (by decide +kernel)
theorem mw_1698 : (Jvm.Cond.instanceMethod ({ cls := "Galleyforge", name := "demerits", desc := "(II)J" } : Jvm.MethodName)) ∈ gt := gt_at 1768 (by decide +kernel) (by decide +kernel)
theorem mw_1699 : (Jvm.Cond.selects "Galleyforge" ({ cls := "Galleyforge", name := "demerits", desc := "(II)J" } : Jvm.MethodName) ({ cls := "Galleyforge", name := "demerits", desc := "(II)J" } : Jvm.MethodName)) ∈ gt := gt_at 1769 (by decide +kernel) (by decide +kernel)
theorem mw_1700 : (Jvm.Cond.code ({ cls := "Galleyforge", name := "demerits", desc := "(II)J" } : Jvm.MethodName) prog_1_method_25_code (3 : Nat) (Option.some Jvm.ClassFile.FieldType.long)) ∈ gt := gt_at 1770 (by decide +kernel) (by decide +kernel)
theorem mw_1701 : (Jvm.Cond.constantLong "GalleyforgeLaw" (89 : Nat) (-2000000001 : Int64)) ∈ gt := gt_at 1771 (by decide +kernel) (by decide +kernel)
theorem mV_X11_demerits : mV yX11_demerits cX11_demerits 3 (some .long) 2 := ⟨⟨mw_1700, mw_1, by decide, by decide, by decide +kernel⟩, mw_1698, mw_1699⟩
theorem dL_demerits_0 : decode cL_demerits 0 = .ok (.aload_n 0, 1) := by decide +kernel
theorem dL_demerits_1 : decode cL_demerits 1 = .ok (.iload_n 1, 1) := by decide +kernel
theorem dL_demerits_2 : decode cL_demerits 2 = .ok (.iload_n 2, 1) := by decide +kernel
theorem dL_demerits_3 : decode cL_demerits 3 = .ok (.invokevirtual 85, 3) := by decide +kernel
theorem dL_demerits_6 : decode cL_demerits 6 = .ok (.lreturn, 1) := by decide +kernel
theorem dL_demerits_7 : decode cL_demerits 7 = .ok (.astore_n 3, 1) := by decide +kernel
theorem dL_demerits_8 : decode cL_demerits 8 = .ok (.ldc2_w 89, 3) := by decide +kernel
theorem dL_demerits_11 : decode cL_demerits 11 = .ok (.lreturn, 1) := by decide +kernel
set_option maxHeartbeats 4000000 in
set_option maxRecDepth 100000 in
theorem w_demerits (l : Launch) (dC : Nat → ClassId) (dI : Nat → Nat → Nat) (k : Nat → ClassId) (hl0 : l.stackTraces = false) (T : Nat → Int → Int → Int → Int) (K : Nat → Int → Int) (qa : Nat) (cp : Nat) (tl : va_W) (v : Int) (pl : Int) (hPS : PS dI k T K qa cp tl) (hQ : OKT T K) (hrv : -2147483648 ≤ v ∧ v < 2147483648) (hrpl : -2147483648 ≤ pl ∧ pl < 2147483648) : Kn l dC dI k yL_demerits (.codeWith yL_demerits cL_demerits 4 (some .long) [(0, 6, 7, 13)]) ({ frames := 10, cells := (131072 - cp + 1), slots := (12 * (131072 - cp) + 6), locals := 227 } : Room) [.ref qa, .int (iI v), .int (iI pl)] ([] ++ tl) (fun r w gc gs => (∃ (cp2 : Nat) (tl2 : va_W), (PS dI k T K qa cp2 tl2) ∧ (cp ≤ cp2 ∧ cp2 ≤ 131072) ∧ ((0 ≤ v ∧ v ≤ 1) ∧ 0 ≤ pl ∧ pl < T 0 0 0 0) ∧ r = some (.long (lI (LDz T v (dgN T v) pl))) ∧ w = ([] ++ tl2) ∧ gc = (cp2 - cp + 1) ∧ gs = (12 * (cp2 - cp) + 6)) ∨ (∃ (cp2 : Nat) (tl2 : va_W), (PS dI k T K qa cp2 tl2) ∧ (cp ≤ cp2 ∧ cp2 ≤ 131072) ∧ (¬ ((0 ≤ v ∧ v ≤ 1) ∧ 0 ≤ pl ∧ pl < T 0 0 0 0)) ∧ r = some (.long (lI (-2000000001))) ∧ w = ([] ++ tl2) ∧ gc = (cp2 - cp + 1) ∧ gs = (12 * (cp2 - cp) + 6))) := by
  refine kw_of (by decide) (Nat.le_of_ble_eq_true rfl) ?_
  intro p e s m args below meth c H locs B hr hT ls hl
  have hx := B.1.1
  have hb := B.1.2.1
  have hl : lv_has ls 4 [(0, .ref qa), (1, .int (iI v)), (2, .int (iI pl))] := hl
  have hcp9 := PS_cp hPS
  refine lv_aload_n hx hb dL_demerits_0 rfl (lv_at hl 0 rfl) ?_
  refine lv_iload_n hx hb dL_demerits_1 rfl (lv_at hl 1 rfl) ?_
  refine lv_iload_n hx hb dL_demerits_2 rfl (lv_at hl 2 rfl) ?_
  have B := bd_swap (a := []) (b := []) (d := tl) (bd_to rfl B)
  obtain ⟨k_1, hk_1⟩ := pk_at (hs := []) (PS_go hPS).choose_spec
  refine k_Vx (rest := []) (wc := ([] ++ tl)) (wr := []) (a_demerits l dC dI k hl0 T K qa cp tl v pl hPS hQ hrv hrpl) B mV_X11_demerits mw_1697 hl (q0 := k_1) (ci := 11) hk_1 rfl rfl ⟨Nat.le_of_ble_eq_true rfl, Nat.le_of_ble_eq_true rfl⟩ (Nat.le_of_ble_eq_true rfl) rfl dL_demerits_3 ⟨by dsimp only; omega, by dsimp only; omega⟩ (fun E ce q9 w gc gs H locs hp B h1 h2 h3 => ?_) (fun r w gc gs H locs hp B => ?_)
  · skip
    obtain ⟨cp2_2, tl2_3, z_4, z_5, z_6, rfl, hw9, rfl, rfl⟩ := hp
    rw [hw9] at B; clear hw9
    have B := bd_to (ws' := ([] ++ tl2_3)) rfl B
    have hPS : PS dI k T K qa cp2_2 tl2_3 := z_4
    refine vx_catch B.1.2.2.2.1 [] ⟨0, 6, 7, 13⟩ [] (hT.trans rfl) (fun z hz => by cases hz) (by decide) (by decide) (B.1.2.2.2.2.1 _ mw_501) (ca.use (B.2.1.2.2.2.2.2.2.1.1.1 _ (by decide +kernel))) h1 h2 h3 ?_
    refine lv_astore_n (lv' := [(3, .ref q9), (0, .ref qa), (1, .int (iI v)), (2, .int (iI pl))]) hx hb dL_demerits_7 rfl hl (by decide) rfl (fun ls hl => ?_)
    refine lv_ldc2 (v := (-2000000001)) hx hb B.1.2.2.2.1 (B.1.2.2.2.2.1 _ mw_1701) dL_demerits_8 ?_
    refine lv_setl (y := lI (-2000000001)) (by decide) ?_
    exact k_lret B hr (Or.inr (⟨cp2_2, tl2_3, z_4, z_5, z_6, rfl, rfl, rfl, rfl⟩)) ⟨(by first | omega | (dsimp only; omega)), (by first | omega | (dsimp only; omega))⟩ ⟨(by first | omega | (dsimp only; omega)), (by first | omega | (dsimp only; omega))⟩ dL_demerits_11
  · skip
    obtain ⟨cp2_7, tl2_8, z_9, z_10, z_11, rfl, hw9, rfl, rfl⟩ := hp
    rw [hw9] at B; clear hw9
    have B := bd_to (ws' := ([] ++ tl2_8)) rfl B
    have hPS : PS dI k T K qa cp2_7 tl2_8 := z_9
    exact k_lret B hr (Or.inl (⟨cp2_7, tl2_8, z_9, z_10, z_11, rfl, rfl, rfl, rfl⟩)) ⟨(by first | omega | (dsimp only; omega)), (by first | omega | (dsimp only; omega))⟩ ⟨(by first | omega | (dsimp only; omega)), (by first | omega | (dsimp only; omega))⟩ dL_demerits_6

theorem mw_1705 : (Jvm.Cond.methodLink "GalleyforgeLaw" (91 : Nat) ({ cls := "Galleyforge", name := "demeritsByAll", desc := "(II)J" } : Jvm.MethodName)) ∈ gt := gt_at 1775 (by decide +kernel) (by decide +kernel)
theorem mw_1706 : (Jvm.Cond.instanceMethod ({ cls := "Galleyforge", name := "demeritsByAll", desc := "(II)J" } : Jvm.MethodName)) ∈ gt := gt_at 1776 (by decide +kernel) (by decide +kernel)
theorem mw_1707 : (Jvm.Cond.selects "Galleyforge" ({ cls := "Galleyforge", name := "demeritsByAll", desc := "(II)J" } : Jvm.MethodName) ({ cls := "Galleyforge", name := "demeritsByAll", desc := "(II)J" } : Jvm.MethodName)) ∈ gt := gt_at 1777 (by decide +kernel) (by decide +kernel)
theorem mw_1708 : (Jvm.Cond.code ({ cls := "Galleyforge", name := "demeritsByAll", desc := "(II)J" } : Jvm.MethodName) prog_1_method_26_code (3 : Nat) (Option.some Jvm.ClassFile.FieldType.long)) ∈ gt := gt_at 1778 (by decide +kernel) (by decide +kernel)
theorem mV_X11_demeritsByAll : mV yX11_demeritsByAll cX11_demeritsByAll 3 (some .long) 2 := ⟨⟨mw_1708, mw_1, by decide, by decide, by decide +kernel⟩, mw_1706, mw_1707⟩
theorem dL_byAll_0 : decode cL_byAll 0 = .ok (.aload_n 0, 1) := by decide +kernel
theorem dL_byAll_1 : decode cL_byAll 1 = .ok (.iload_n 1, 1) := by decide +kernel
theorem dL_byAll_2 : decode cL_byAll 2 = .ok (.iload_n 2, 1) := by decide +kernel
theorem dL_byAll_3 : decode cL_byAll 3 = .ok (.invokevirtual 91, 3) := by decide +kernel
theorem dL_byAll_6 : decode cL_byAll 6 = .ok (.lreturn, 1) := by decide +kernel
theorem dL_byAll_7 : decode cL_byAll 7 = .ok (.astore_n 3, 1) := by decide +kernel
theorem dL_byAll_8 : decode cL_byAll 8 = .ok (.ldc2_w 89, 3) := by decide +kernel
theorem dL_byAll_11 : decode cL_byAll 11 = .ok (.lreturn, 1) := by decide +kernel
set_option maxHeartbeats 4000000 in
set_option maxRecDepth 100000 in
theorem w_byAll (l : Launch) (dC : Nat → ClassId) (dI : Nat → Nat → Nat) (k : Nat → ClassId) (hl0 : l.stackTraces = false) (T : Nat → Int → Int → Int → Int) (K : Nat → Int → Int) (qa : Nat) (cp : Nat) (tl : va_W) (v : Int) (pl : Int) (hPS : PS dI k T K qa cp tl) (hQ : OKT T K) (hrv : -2147483648 ≤ v ∧ v < 2147483648) (hrpl : -2147483648 ≤ pl ∧ pl < 2147483648) : Kn l dC dI k yL_byAll (.codeWith yL_byAll cL_byAll 4 (some .long) [(0, 6, 7, 13)]) ({ frames := 10, cells := (131072 - cp + 1), slots := (12 * (131072 - cp) + 6), locals := 227 } : Room) [.ref qa, .int (iI v), .int (iI pl)] ([] ++ tl) (fun r w gc gs => (∃ (cp2 : Nat) (tl2 : va_W), (PS dI k T K qa cp2 tl2) ∧ (cp ≤ cp2 ∧ cp2 ≤ 131072) ∧ ((0 ≤ v ∧ v ≤ 1) ∧ 0 ≤ pl ∧ pl < T 0 0 0 0) ∧ r = some (.long (lI (byZ T v (dgN T v) pl))) ∧ w = ([] ++ tl2) ∧ gc = (cp2 - cp + 1) ∧ gs = (12 * (cp2 - cp) + 6)) ∨ (∃ (cp2 : Nat) (tl2 : va_W), (PS dI k T K qa cp2 tl2) ∧ (cp ≤ cp2 ∧ cp2 ≤ 131072) ∧ (¬ ((0 ≤ v ∧ v ≤ 1) ∧ 0 ≤ pl ∧ pl < T 0 0 0 0)) ∧ r = some (.long (lI (-2000000001))) ∧ w = ([] ++ tl2) ∧ gc = (cp2 - cp + 1) ∧ gs = (12 * (cp2 - cp) + 6))) := by
  refine kw_of (by decide) (Nat.le_of_ble_eq_true rfl) ?_
  intro p e s m args below meth c H locs B hr hT ls hl
  have hx := B.1.1
  have hb := B.1.2.1
  have hl : lv_has ls 4 [(0, .ref qa), (1, .int (iI v)), (2, .int (iI pl))] := hl
  have hcp9 := PS_cp hPS
  refine lv_aload_n hx hb dL_byAll_0 rfl (lv_at hl 0 rfl) ?_
  refine lv_iload_n hx hb dL_byAll_1 rfl (lv_at hl 1 rfl) ?_
  refine lv_iload_n hx hb dL_byAll_2 rfl (lv_at hl 2 rfl) ?_
  have B := bd_swap (a := []) (b := []) (d := tl) (bd_to rfl B)
  obtain ⟨k_1, hk_1⟩ := pk_at (hs := []) (PS_go hPS).choose_spec
  refine k_Vx (rest := []) (wc := ([] ++ tl)) (wr := []) (a_dByAll l dC dI k hl0 T K qa cp tl v pl hPS hQ hrv hrpl) B mV_X11_demeritsByAll mw_1705 hl (q0 := k_1) (ci := 11) hk_1 rfl rfl ⟨Nat.le_of_ble_eq_true rfl, Nat.le_of_ble_eq_true rfl⟩ (Nat.le_of_ble_eq_true rfl) rfl dL_byAll_3 ⟨by dsimp only; omega, by dsimp only; omega⟩ (fun E ce q9 w gc gs H locs hp B h1 h2 h3 => ?_) (fun r w gc gs H locs hp B => ?_)
  · skip
    obtain ⟨cp2_2, tl2_3, z_4, z_5, z_6, rfl, hw9, rfl, rfl⟩ := hp
    rw [hw9] at B; clear hw9
    have B := bd_to (ws' := ([] ++ tl2_3)) rfl B
    have hPS : PS dI k T K qa cp2_2 tl2_3 := z_4
    refine vx_catch B.1.2.2.2.1 [] ⟨0, 6, 7, 13⟩ [] (hT.trans rfl) (fun z hz => by cases hz) (by decide) (by decide) (B.1.2.2.2.2.1 _ mw_501) (ca.use (B.2.1.2.2.2.2.2.2.1.1.1 _ (by decide +kernel))) h1 h2 h3 ?_
    refine lv_astore_n (lv' := [(3, .ref q9), (0, .ref qa), (1, .int (iI v)), (2, .int (iI pl))]) hx hb dL_byAll_7 rfl hl (by decide) rfl (fun ls hl => ?_)
    refine lv_ldc2 (v := (-2000000001)) hx hb B.1.2.2.2.1 (B.1.2.2.2.2.1 _ mw_1701) dL_byAll_8 ?_
    refine lv_setl (y := lI (-2000000001)) (by decide) ?_
    exact k_lret B hr (Or.inr (⟨cp2_2, tl2_3, z_4, z_5, z_6, rfl, rfl, rfl, rfl⟩)) ⟨(by first | omega | (dsimp only; omega)), (by first | omega | (dsimp only; omega))⟩ ⟨(by first | omega | (dsimp only; omega)), (by first | omega | (dsimp only; omega))⟩ dL_byAll_11
  · skip
    obtain ⟨cp2_7, tl2_8, z_9, z_10, z_11, rfl, hw9, rfl, rfl⟩ := hp
    rw [hw9] at B; clear hw9
    have B := bd_to (ws' := ([] ++ tl2_8)) rfl B
    have hPS : PS dI k T K qa cp2_7 tl2_8 := z_9
    exact k_lret B hr (Or.inl (⟨cp2_7, tl2_8, z_9, z_10, z_11, rfl, rfl, rfl, rfl⟩)) ⟨(by first | omega | (dsimp only; omega)), (by first | omega | (dsimp only; omega))⟩ ⟨(by first | omega | (dsimp only; omega)), (by first | omega | (dsimp only; omega))⟩ dL_byAll_6

theorem mw_1724 : (Jvm.Cond.methodLink "GalleyforgeLaw" (94 : Nat) ({ cls := "Galleyforge", name := "pages", desc := "(I)I" } : Jvm.MethodName)) ∈ gt := gt_at 1794 (by decide +kernel) (by decide +kernel)
theorem mw_1725 : (Jvm.Cond.instanceMethod ({ cls := "Galleyforge", name := "pages", desc := "(I)I" } : Jvm.MethodName)) ∈ gt := gt_at 1795 (by decide +kernel) (by decide +kernel)
theorem mw_1726 : (Jvm.Cond.selects "Galleyforge" ({ cls := "Galleyforge", name := "pages", desc := "(I)I" } : Jvm.MethodName) ({ cls := "Galleyforge", name := "pages", desc := "(I)I" } : Jvm.MethodName)) ∈ gt := gt_at 1796 (by decide +kernel) (by decide +kernel)
theorem mw_1727 : (Jvm.Cond.code ({ cls := "Galleyforge", name := "pages", desc := "(I)I" } : Jvm.MethodName) prog_1_method_27_code (2 : Nat) (Option.some Jvm.ClassFile.FieldType.int)) ∈ gt := gt_at 1797 (by decide +kernel) (by decide +kernel)
theorem mV_X11_pages : mV yX11_pages cX11_pages 2 (some .int) 1 := ⟨⟨mw_1727, mw_1, by decide, by decide, by decide +kernel⟩, mw_1725, mw_1726⟩
theorem dL_pages_0 : decode cL_pages 0 = .ok (.aload_n 0, 1) := by decide +kernel
theorem dL_pages_1 : decode cL_pages 1 = .ok (.iload_n 1, 1) := by decide +kernel
theorem dL_pages_2 : decode cL_pages 2 = .ok (.invokevirtual 94, 3) := by decide +kernel
theorem dL_pages_5 : decode cL_pages 5 = .ok (.ireturn, 1) := by decide +kernel
theorem dL_pages_6 : decode cL_pages 6 = .ok (.astore_n 2, 1) := by decide +kernel
theorem dL_pages_7 : decode cL_pages 7 = .ok (.ldc 15, 2) := by decide +kernel
theorem dL_pages_9 : decode cL_pages 9 = .ok (.ireturn, 1) := by decide +kernel
set_option maxHeartbeats 4000000 in
set_option maxRecDepth 100000 in
theorem w_pages (l : Launch) (dC : Nat → ClassId) (dI : Nat → Nat → Nat) (k : Nat → ClassId) (hl0 : l.stackTraces = false) (T : Nat → Int → Int → Int → Int) (K : Nat → Int → Int) (qa : Nat) (cp : Nat) (tl : va_W) (v : Int) (hPS : PS dI k T K qa cp tl) (hQ : OKT T K) (hrv : -2147483648 ≤ v ∧ v < 2147483648) : Kn l dC dI k yL_pages (.codeWith yL_pages cL_pages 3 (some .int) [(0, 5, 6, 13)]) ({ frames := 10, cells := (131072 - cp + 1), slots := (12 * (131072 - cp) + 6), locals := 226 } : Room) [.ref qa, .int (iI v)] ([] ++ tl) (fun r w gc gs => (∃ (cp2 : Nat) (tl2 : va_W), (PS dI k T K qa cp2 tl2) ∧ (cp ≤ cp2 ∧ cp2 ≤ 131072) ∧ ((0 ≤ v ∧ v ≤ 1)) ∧ r = some (.int (iI ((mkZ T (moC T v (dgN T v))) 0 0))) ∧ w = ([] ++ tl2) ∧ gc = (cp2 - cp + 1) ∧ gs = (12 * (cp2 - cp) + 6)) ∨ (∃ (cp2 : Nat) (tl2 : va_W), (PS dI k T K qa cp2 tl2) ∧ (cp ≤ cp2 ∧ cp2 ≤ 131072) ∧ (¬ ((0 ≤ v ∧ v ≤ 1))) ∧ r = some (.int (iI (-2000000001))) ∧ w = ([] ++ tl2) ∧ gc = (cp2 - cp + 1) ∧ gs = (12 * (cp2 - cp) + 6))) := by
  refine kw_of (by decide) (Nat.le_of_ble_eq_true rfl) ?_
  intro p e s m args below meth c H locs B hr hT ls hl
  have hx := B.1.1
  have hb := B.1.2.1
  have hl : lv_has ls 3 [(0, .ref qa), (1, .int (iI v))] := hl
  have hcp9 := PS_cp hPS
  refine lv_aload_n hx hb dL_pages_0 rfl (lv_at hl 0 rfl) ?_
  refine lv_iload_n hx hb dL_pages_1 rfl (lv_at hl 1 rfl) ?_
  have B := bd_swap (a := []) (b := []) (d := tl) (bd_to rfl B)
  obtain ⟨k_1, hk_1⟩ := pk_at (hs := []) (PS_go hPS).choose_spec
  refine k_Vx (rest := []) (wc := ([] ++ tl)) (wr := []) (a_pages l dC dI k hl0 T K qa cp tl v hPS hQ hrv) B mV_X11_pages mw_1724 hl (q0 := k_1) (ci := 11) hk_1 rfl rfl ⟨Nat.le_of_ble_eq_true rfl, Nat.le_of_ble_eq_true rfl⟩ (Nat.le_of_ble_eq_true rfl) rfl dL_pages_2 ⟨by dsimp only; omega, by dsimp only; omega⟩ (fun E ce q9 w gc gs H locs hp B h1 h2 h3 => ?_) (fun r w gc gs H locs hp B => ?_)
  · skip
    obtain ⟨cp2_2, tl2_3, z_4, z_5, z_6, rfl, hw9, rfl, rfl⟩ := hp
    rw [hw9] at B; clear hw9
    have B := bd_to (ws' := ([] ++ tl2_3)) rfl B
    have hPS : PS dI k T K qa cp2_2 tl2_3 := z_4
    refine vx_catch B.1.2.2.2.1 [] ⟨0, 5, 6, 13⟩ [] (hT.trans rfl) (fun z hz => by cases hz) (by decide) (by decide) (B.1.2.2.2.2.1 _ mw_501) (ca.use (B.2.1.2.2.2.2.2.2.1.1.1 _ (by decide +kernel))) h1 h2 h3 ?_
    refine lv_astore_n (lv' := [(2, .ref q9), (0, .ref qa), (1, .int (iI v))]) hx hb dL_pages_6 rfl hl (by decide) rfl (fun ls hl => ?_)
    refine lv_ldc (v := (-2000000001)) hx hb B.1.2.2.2.1 (B.1.2.2.2.2.1 _ mw_593) dL_pages_7 ?_
    refine lv_seti (y := iI (-2000000001)) (by decide) ?_
    exact k_iret B hr (Or.inr (⟨cp2_2, tl2_3, z_4, z_5, z_6, rfl, rfl, rfl, rfl⟩)) ⟨(by first | omega | (dsimp only; omega)), (by first | omega | (dsimp only; omega))⟩ ⟨(by first | omega | (dsimp only; omega)), (by first | omega | (dsimp only; omega))⟩ dL_pages_9
  · skip
    obtain ⟨cp2_7, tl2_8, z_9, z_10, z_11, rfl, hw9, rfl, rfl⟩ := hp
    rw [hw9] at B; clear hw9
    have B := bd_to (ws' := ([] ++ tl2_8)) rfl B
    have hPS : PS dI k T K qa cp2_7 tl2_8 := z_9
    exact k_iret B hr (Or.inl (⟨cp2_7, tl2_8, z_9, z_10, z_11, rfl, rfl, rfl, rfl⟩)) ⟨(by first | omega | (dsimp only; omega)), (by first | omega | (dsimp only; omega))⟩ ⟨(by first | omega | (dsimp only; omega)), (by first | omega | (dsimp only; omega))⟩ dL_pages_5

theorem mw_1731 : (Jvm.Cond.methodLink "GalleyforgeLaw" (97 : Nat) ({ cls := "Galleyforge", name := "cost", desc := "(I)I" } : Jvm.MethodName)) ∈ gt := gt_at 1801 (by decide +kernel) (by decide +kernel)
theorem mw_1732 : (Jvm.Cond.instanceMethod ({ cls := "Galleyforge", name := "cost", desc := "(I)I" } : Jvm.MethodName)) ∈ gt := gt_at 1802 (by decide +kernel) (by decide +kernel)
theorem mw_1733 : (Jvm.Cond.selects "Galleyforge" ({ cls := "Galleyforge", name := "cost", desc := "(I)I" } : Jvm.MethodName) ({ cls := "Galleyforge", name := "cost", desc := "(I)I" } : Jvm.MethodName)) ∈ gt := gt_at 1803 (by decide +kernel) (by decide +kernel)
theorem mw_1734 : (Jvm.Cond.code ({ cls := "Galleyforge", name := "cost", desc := "(I)I" } : Jvm.MethodName) prog_1_method_28_code (2 : Nat) (Option.some Jvm.ClassFile.FieldType.int)) ∈ gt := gt_at 1804 (by decide +kernel) (by decide +kernel)
theorem mV_X11_cost : mV yX11_cost cX11_cost 2 (some .int) 1 := ⟨⟨mw_1734, mw_1, by decide, by decide, by decide +kernel⟩, mw_1732, mw_1733⟩
theorem dL_cost_0 : decode cL_cost 0 = .ok (.aload_n 0, 1) := by decide +kernel
theorem dL_cost_1 : decode cL_cost 1 = .ok (.iload_n 1, 1) := by decide +kernel
theorem dL_cost_2 : decode cL_cost 2 = .ok (.invokevirtual 97, 3) := by decide +kernel
theorem dL_cost_5 : decode cL_cost 5 = .ok (.ireturn, 1) := by decide +kernel
theorem dL_cost_6 : decode cL_cost 6 = .ok (.astore_n 2, 1) := by decide +kernel
theorem dL_cost_7 : decode cL_cost 7 = .ok (.ldc 15, 2) := by decide +kernel
theorem dL_cost_9 : decode cL_cost 9 = .ok (.ireturn, 1) := by decide +kernel
set_option maxHeartbeats 4000000 in
set_option maxRecDepth 100000 in
theorem w_cost (l : Launch) (dC : Nat → ClassId) (dI : Nat → Nat → Nat) (k : Nat → ClassId) (hl0 : l.stackTraces = false) (T : Nat → Int → Int → Int → Int) (K : Nat → Int → Int) (qa : Nat) (cp : Nat) (tl : va_W) (v : Int) (hPS : PS dI k T K qa cp tl) (hQ : OKT T K) (hrv : -2147483648 ≤ v ∧ v < 2147483648) : Kn l dC dI k yL_cost (.codeWith yL_cost cL_cost 3 (some .int) [(0, 5, 6, 13)]) ({ frames := 10, cells := (131072 - cp + 1), slots := (12 * (131072 - cp) + 6), locals := 226 } : Room) [.ref qa, .int (iI v)] ([] ++ tl) (fun r w gc gs => (∃ (cp2 : Nat) (tl2 : va_W), (PS dI k T K qa cp2 tl2) ∧ (cp ≤ cp2 ∧ cp2 ≤ 131072) ∧ ((0 ≤ v ∧ v ≤ 1)) ∧ r = some (.int (iI ((mkZ T (moC T v (dgN T v))) 0 1))) ∧ w = ([] ++ tl2) ∧ gc = (cp2 - cp + 1) ∧ gs = (12 * (cp2 - cp) + 6)) ∨ (∃ (cp2 : Nat) (tl2 : va_W), (PS dI k T K qa cp2 tl2) ∧ (cp ≤ cp2 ∧ cp2 ≤ 131072) ∧ (¬ ((0 ≤ v ∧ v ≤ 1))) ∧ r = some (.int (iI (-2000000001))) ∧ w = ([] ++ tl2) ∧ gc = (cp2 - cp + 1) ∧ gs = (12 * (cp2 - cp) + 6))) := by
  refine kw_of (by decide) (Nat.le_of_ble_eq_true rfl) ?_
  intro p e s m args below meth c H locs B hr hT ls hl
  have hx := B.1.1
  have hb := B.1.2.1
  have hl : lv_has ls 3 [(0, .ref qa), (1, .int (iI v))] := hl
  have hcp9 := PS_cp hPS
  refine lv_aload_n hx hb dL_cost_0 rfl (lv_at hl 0 rfl) ?_
  refine lv_iload_n hx hb dL_cost_1 rfl (lv_at hl 1 rfl) ?_
  have B := bd_swap (a := []) (b := []) (d := tl) (bd_to rfl B)
  obtain ⟨k_1, hk_1⟩ := pk_at (hs := []) (PS_go hPS).choose_spec
  refine k_Vx (rest := []) (wc := ([] ++ tl)) (wr := []) (a_cost l dC dI k hl0 T K qa cp tl v hPS hQ hrv) B mV_X11_cost mw_1731 hl (q0 := k_1) (ci := 11) hk_1 rfl rfl ⟨Nat.le_of_ble_eq_true rfl, Nat.le_of_ble_eq_true rfl⟩ (Nat.le_of_ble_eq_true rfl) rfl dL_cost_2 ⟨by dsimp only; omega, by dsimp only; omega⟩ (fun E ce q9 w gc gs H locs hp B h1 h2 h3 => ?_) (fun r w gc gs H locs hp B => ?_)
  · skip
    obtain ⟨cp2_2, tl2_3, z_4, z_5, z_6, rfl, hw9, rfl, rfl⟩ := hp
    rw [hw9] at B; clear hw9
    have B := bd_to (ws' := ([] ++ tl2_3)) rfl B
    have hPS : PS dI k T K qa cp2_2 tl2_3 := z_4
    refine vx_catch B.1.2.2.2.1 [] ⟨0, 5, 6, 13⟩ [] (hT.trans rfl) (fun z hz => by cases hz) (by decide) (by decide) (B.1.2.2.2.2.1 _ mw_501) (ca.use (B.2.1.2.2.2.2.2.2.1.1.1 _ (by decide +kernel))) h1 h2 h3 ?_
    refine lv_astore_n (lv' := [(2, .ref q9), (0, .ref qa), (1, .int (iI v))]) hx hb dL_cost_6 rfl hl (by decide) rfl (fun ls hl => ?_)
    refine lv_ldc (v := (-2000000001)) hx hb B.1.2.2.2.1 (B.1.2.2.2.2.1 _ mw_593) dL_cost_7 ?_
    refine lv_seti (y := iI (-2000000001)) (by decide) ?_
    exact k_iret B hr (Or.inr (⟨cp2_2, tl2_3, z_4, z_5, z_6, rfl, rfl, rfl, rfl⟩)) ⟨(by first | omega | (dsimp only; omega)), (by first | omega | (dsimp only; omega))⟩ ⟨(by first | omega | (dsimp only; omega)), (by first | omega | (dsimp only; omega))⟩ dL_cost_9
  · skip
    obtain ⟨cp2_7, tl2_8, z_9, z_10, z_11, rfl, hw9, rfl, rfl⟩ := hp
    rw [hw9] at B; clear hw9
    have B := bd_to (ws' := ([] ++ tl2_8)) rfl B
    have hPS : PS dI k T K qa cp2_7 tl2_8 := z_9
    exact k_iret B hr (Or.inl (⟨cp2_7, tl2_8, z_9, z_10, z_11, rfl, rfl, rfl, rfl⟩)) ⟨(by first | omega | (dsimp only; omega)), (by first | omega | (dsimp only; omega))⟩ ⟨(by first | omega | (dsimp only; omega)), (by first | omega | (dsimp only; omega))⟩ dL_cost_5

theorem mw_1738 : (Jvm.Cond.methodLink "GalleyforgeLaw" (100 : Nat) ({ cls := "Galleyforge", name := "costAnew", desc := "(I)I" } : Jvm.MethodName)) ∈ gt := gt_at 1808 (by decide +kernel) (by decide +kernel)
theorem mw_1739 : (Jvm.Cond.instanceMethod ({ cls := "Galleyforge", name := "costAnew", desc := "(I)I" } : Jvm.MethodName)) ∈ gt := gt_at 1809 (by decide +kernel) (by decide +kernel)
theorem mw_1740 : (Jvm.Cond.selects "Galleyforge" ({ cls := "Galleyforge", name := "costAnew", desc := "(I)I" } : Jvm.MethodName) ({ cls := "Galleyforge", name := "costAnew", desc := "(I)I" } : Jvm.MethodName)) ∈ gt := gt_at 1810 (by decide +kernel) (by decide +kernel)
theorem mw_1741 : (Jvm.Cond.code ({ cls := "Galleyforge", name := "costAnew", desc := "(I)I" } : Jvm.MethodName) prog_1_method_29_code (2 : Nat) (Option.some Jvm.ClassFile.FieldType.int)) ∈ gt := gt_at 1811 (by decide +kernel) (by decide +kernel)
theorem mV_X11_costAnew : mV yX11_costAnew cX11_costAnew 2 (some .int) 1 := ⟨⟨mw_1741, mw_1, by decide, by decide, by decide +kernel⟩, mw_1739, mw_1740⟩
theorem dL_costAnew_0 : decode cL_costAnew 0 = .ok (.aload_n 0, 1) := by decide +kernel
theorem dL_costAnew_1 : decode cL_costAnew 1 = .ok (.iload_n 1, 1) := by decide +kernel
theorem dL_costAnew_2 : decode cL_costAnew 2 = .ok (.invokevirtual 100, 3) := by decide +kernel
theorem dL_costAnew_5 : decode cL_costAnew 5 = .ok (.ireturn, 1) := by decide +kernel
theorem dL_costAnew_6 : decode cL_costAnew 6 = .ok (.astore_n 2, 1) := by decide +kernel
theorem dL_costAnew_7 : decode cL_costAnew 7 = .ok (.ldc 15, 2) := by decide +kernel
theorem dL_costAnew_9 : decode cL_costAnew 9 = .ok (.ireturn, 1) := by decide +kernel
set_option maxHeartbeats 4000000 in
set_option maxRecDepth 100000 in
theorem w_costAnew (l : Launch) (dC : Nat → ClassId) (dI : Nat → Nat → Nat) (k : Nat → ClassId) (hl0 : l.stackTraces = false) (T : Nat → Int → Int → Int → Int) (K : Nat → Int → Int) (qa : Nat) (cp : Nat) (tl : va_W) (v : Int) (hPS : PS dI k T K qa cp tl) (hQ : OKT T K) (hrv : -2147483648 ≤ v ∧ v < 2147483648) : Kn l dC dI k yL_costAnew (.codeWith yL_costAnew cL_costAnew 3 (some .int) [(0, 5, 6, 13)]) ({ frames := 10, cells := (131072 - cp + 1), slots := (12 * (131072 - cp) + 6), locals := 226 } : Room) [.ref qa, .int (iI v)] ([] ++ tl) (fun r w gc gs => (∃ (cp2 : Nat) (tl2 : va_W), (PS dI k T K qa cp2 tl2) ∧ (cp ≤ cp2 ∧ cp2 ≤ 131072) ∧ ((0 ≤ v ∧ v ≤ 1)) ∧ r = some (.int (iI ((mkZ T (moC T v (dgN T v))) 0 1))) ∧ w = ([] ++ tl2) ∧ gc = (cp2 - cp + 1) ∧ gs = (12 * (cp2 - cp) + 6)) ∨ (∃ (cp2 : Nat) (tl2 : va_W), (PS dI k T K qa cp2 tl2) ∧ (cp ≤ cp2 ∧ cp2 ≤ 131072) ∧ (¬ ((0 ≤ v ∧ v ≤ 1))) ∧ r = some (.int (iI (-2000000001))) ∧ w = ([] ++ tl2) ∧ gc = (cp2 - cp + 1) ∧ gs = (12 * (cp2 - cp) + 6))) := by
  refine kw_of (by decide) (Nat.le_of_ble_eq_true rfl) ?_
  intro p e s m args below meth c H locs B hr hT ls hl
  have hx := B.1.1
  have hb := B.1.2.1
  have hl : lv_has ls 3 [(0, .ref qa), (1, .int (iI v))] := hl
  have hcp9 := PS_cp hPS
  refine lv_aload_n hx hb dL_costAnew_0 rfl (lv_at hl 0 rfl) ?_
  refine lv_iload_n hx hb dL_costAnew_1 rfl (lv_at hl 1 rfl) ?_
  have B := bd_swap (a := []) (b := []) (d := tl) (bd_to rfl B)
  obtain ⟨k_1, hk_1⟩ := pk_at (hs := []) (PS_go hPS).choose_spec
  refine k_Vx (rest := []) (wc := ([] ++ tl)) (wr := []) (a_costAnew l dC dI k hl0 T K qa cp tl v hPS hQ hrv) B mV_X11_costAnew mw_1738 hl (q0 := k_1) (ci := 11) hk_1 rfl rfl ⟨Nat.le_of_ble_eq_true rfl, Nat.le_of_ble_eq_true rfl⟩ (Nat.le_of_ble_eq_true rfl) rfl dL_costAnew_2 ⟨by dsimp only; omega, by dsimp only; omega⟩ (fun E ce q9 w gc gs H locs hp B h1 h2 h3 => ?_) (fun r w gc gs H locs hp B => ?_)
  · skip
    obtain ⟨cp2_2, tl2_3, z_4, z_5, z_6, rfl, hw9, rfl, rfl⟩ := hp
    rw [hw9] at B; clear hw9
    have B := bd_to (ws' := ([] ++ tl2_3)) rfl B
    have hPS : PS dI k T K qa cp2_2 tl2_3 := z_4
    refine vx_catch B.1.2.2.2.1 [] ⟨0, 5, 6, 13⟩ [] (hT.trans rfl) (fun z hz => by cases hz) (by decide) (by decide) (B.1.2.2.2.2.1 _ mw_501) (ca.use (B.2.1.2.2.2.2.2.2.1.1.1 _ (by decide +kernel))) h1 h2 h3 ?_
    refine lv_astore_n (lv' := [(2, .ref q9), (0, .ref qa), (1, .int (iI v))]) hx hb dL_costAnew_6 rfl hl (by decide) rfl (fun ls hl => ?_)
    refine lv_ldc (v := (-2000000001)) hx hb B.1.2.2.2.1 (B.1.2.2.2.2.1 _ mw_593) dL_costAnew_7 ?_
    refine lv_seti (y := iI (-2000000001)) (by decide) ?_
    exact k_iret B hr (Or.inr (⟨cp2_2, tl2_3, z_4, z_5, z_6, rfl, rfl, rfl, rfl⟩)) ⟨(by first | omega | (dsimp only; omega)), (by first | omega | (dsimp only; omega))⟩ ⟨(by first | omega | (dsimp only; omega)), (by first | omega | (dsimp only; omega))⟩ dL_costAnew_9
  · skip
    obtain ⟨cp2_7, tl2_8, z_9, z_10, z_11, rfl, hw9, rfl, rfl⟩ := hp
    rw [hw9] at B; clear hw9
    have B := bd_to (ws' := ([] ++ tl2_8)) rfl B
    have hPS : PS dI k T K qa cp2_7 tl2_8 := z_9
    exact k_iret B hr (Or.inl (⟨cp2_7, tl2_8, z_9, z_10, z_11, rfl, rfl, rfl, rfl⟩)) ⟨(by first | omega | (dsimp only; omega)), (by first | omega | (dsimp only; omega))⟩ ⟨(by first | omega | (dsimp only; omega)), (by first | omega | (dsimp only; omega))⟩ dL_costAnew_5

theorem mw_1745 : (Jvm.Cond.methodLink "GalleyforgeLaw" (103 : Nat) ({ cls := "Galleyforge", name := "rounds", desc := "(I)I" } : Jvm.MethodName)) ∈ gt := gt_at 1815 (by decide +kernel) (by decide +kernel)
theorem mw_1746 : (Jvm.Cond.instanceMethod ({ cls := "Galleyforge", name := "rounds", desc := "(I)I" } : Jvm.MethodName)) ∈ gt := gt_at 1816 (by decide +kernel) (by decide +kernel)
theorem mw_1747 : (Jvm.Cond.selects "Galleyforge" ({ cls := "Galleyforge", name := "rounds", desc := "(I)I" } : Jvm.MethodName) ({ cls := "Galleyforge", name := "rounds", desc := "(I)I" } : Jvm.MethodName)) ∈ gt := gt_at 1817 (by decide +kernel) (by decide +kernel)
theorem mw_1748 : (Jvm.Cond.code ({ cls := "Galleyforge", name := "rounds", desc := "(I)I" } : Jvm.MethodName) prog_1_method_30_code (2 : Nat) (Option.some Jvm.ClassFile.FieldType.int)) ∈ gt := gt_at 1818 (by decide +kernel) (by decide +kernel)
theorem mV_X11_rounds : mV yX11_rounds cX11_rounds 2 (some .int) 1 := ⟨⟨mw_1748, mw_1, by decide, by decide, by decide +kernel⟩, mw_1746, mw_1747⟩
theorem dL_rounds_0 : decode cL_rounds 0 = .ok (.aload_n 0, 1) := by decide +kernel
theorem dL_rounds_1 : decode cL_rounds 1 = .ok (.iload_n 1, 1) := by decide +kernel
theorem dL_rounds_2 : decode cL_rounds 2 = .ok (.invokevirtual 103, 3) := by decide +kernel
theorem dL_rounds_5 : decode cL_rounds 5 = .ok (.ireturn, 1) := by decide +kernel
theorem dL_rounds_6 : decode cL_rounds 6 = .ok (.astore_n 2, 1) := by decide +kernel
theorem dL_rounds_7 : decode cL_rounds 7 = .ok (.ldc 15, 2) := by decide +kernel
theorem dL_rounds_9 : decode cL_rounds 9 = .ok (.ireturn, 1) := by decide +kernel
set_option maxHeartbeats 4000000 in
set_option maxRecDepth 100000 in
theorem w_rounds (l : Launch) (dC : Nat → ClassId) (dI : Nat → Nat → Nat) (k : Nat → ClassId) (hl0 : l.stackTraces = false) (T : Nat → Int → Int → Int → Int) (K : Nat → Int → Int) (qa : Nat) (cp : Nat) (tl : va_W) (v : Int) (hPS : PS dI k T K qa cp tl) (hQ : OKT T K) (hrv : -2147483648 ≤ v ∧ v < 2147483648) : Kn l dC dI k yL_rounds (.codeWith yL_rounds cL_rounds 3 (some .int) [(0, 5, 6, 13)]) ({ frames := 10, cells := (131072 - cp + 1), slots := (12 * (131072 - cp) + 6), locals := 226 } : Room) [.ref qa, .int (iI v)] ([] ++ tl) (fun r w gc gs => (∃ (cp2 : Nat) (tl2 : va_W), (PS dI k T K qa cp2 tl2) ∧ (cp ≤ cp2 ∧ cp2 ≤ 131072) ∧ ((0 ≤ v ∧ v ≤ 1)) ∧ r = some (.int (iI (rnN T v))) ∧ w = ([] ++ tl2) ∧ gc = (cp2 - cp + 1) ∧ gs = (12 * (cp2 - cp) + 6)) ∨ (∃ (cp2 : Nat) (tl2 : va_W), (PS dI k T K qa cp2 tl2) ∧ (cp ≤ cp2 ∧ cp2 ≤ 131072) ∧ (¬ ((0 ≤ v ∧ v ≤ 1))) ∧ r = some (.int (iI (-2000000001))) ∧ w = ([] ++ tl2) ∧ gc = (cp2 - cp + 1) ∧ gs = (12 * (cp2 - cp) + 6))) := by
  refine kw_of (by decide) (Nat.le_of_ble_eq_true rfl) ?_
  intro p e s m args below meth c H locs B hr hT ls hl
  have hx := B.1.1
  have hb := B.1.2.1
  have hl : lv_has ls 3 [(0, .ref qa), (1, .int (iI v))] := hl
  have hcp9 := PS_cp hPS
  refine lv_aload_n hx hb dL_rounds_0 rfl (lv_at hl 0 rfl) ?_
  refine lv_iload_n hx hb dL_rounds_1 rfl (lv_at hl 1 rfl) ?_
  have B := bd_swap (a := []) (b := []) (d := tl) (bd_to rfl B)
  obtain ⟨k_1, hk_1⟩ := pk_at (hs := []) (PS_go hPS).choose_spec
  refine k_Vx (rest := []) (wc := ([] ++ tl)) (wr := []) (a_rounds l dC dI k hl0 T K qa cp tl v hPS hQ hrv) B mV_X11_rounds mw_1745 hl (q0 := k_1) (ci := 11) hk_1 rfl rfl ⟨Nat.le_of_ble_eq_true rfl, Nat.le_of_ble_eq_true rfl⟩ (Nat.le_of_ble_eq_true rfl) rfl dL_rounds_2 ⟨by dsimp only; omega, by dsimp only; omega⟩ (fun E ce q9 w gc gs H locs hp B h1 h2 h3 => ?_) (fun r w gc gs H locs hp B => ?_)
  · skip
    obtain ⟨cp2_2, tl2_3, z_4, z_5, z_6, rfl, hw9, rfl, rfl⟩ := hp
    rw [hw9] at B; clear hw9
    have B := bd_to (ws' := ([] ++ tl2_3)) rfl B
    have hPS : PS dI k T K qa cp2_2 tl2_3 := z_4
    refine vx_catch B.1.2.2.2.1 [] ⟨0, 5, 6, 13⟩ [] (hT.trans rfl) (fun z hz => by cases hz) (by decide) (by decide) (B.1.2.2.2.2.1 _ mw_501) (ca.use (B.2.1.2.2.2.2.2.2.1.1.1 _ (by decide +kernel))) h1 h2 h3 ?_
    refine lv_astore_n (lv' := [(2, .ref q9), (0, .ref qa), (1, .int (iI v))]) hx hb dL_rounds_6 rfl hl (by decide) rfl (fun ls hl => ?_)
    refine lv_ldc (v := (-2000000001)) hx hb B.1.2.2.2.1 (B.1.2.2.2.2.1 _ mw_593) dL_rounds_7 ?_
    refine lv_seti (y := iI (-2000000001)) (by decide) ?_
    exact k_iret B hr (Or.inr (⟨cp2_2, tl2_3, z_4, z_5, z_6, rfl, rfl, rfl, rfl⟩)) ⟨(by first | omega | (dsimp only; omega)), (by first | omega | (dsimp only; omega))⟩ ⟨(by first | omega | (dsimp only; omega)), (by first | omega | (dsimp only; omega))⟩ dL_rounds_9
  · skip
    obtain ⟨cp2_7, tl2_8, z_9, z_10, z_11, rfl, hw9, rfl, rfl⟩ := hp
    rw [hw9] at B; clear hw9
    have B := bd_to (ws' := ([] ++ tl2_8)) rfl B
    have hPS : PS dI k T K qa cp2_7 tl2_8 := z_9
    exact k_iret B hr (Or.inl (⟨cp2_7, tl2_8, z_9, z_10, z_11, rfl, rfl, rfl, rfl⟩)) ⟨(by first | omega | (dsimp only; omega)), (by first | omega | (dsimp only; omega))⟩ ⟨(by first | omega | (dsimp only; omega)), (by first | omega | (dsimp only; omega))⟩ dL_rounds_5

theorem mw_1759 : (Jvm.Cond.methodLink "GalleyforgeLaw" (110 : Nat) ({ cls := "Galleyforge", name := "on", desc := "(III)I" } : Jvm.MethodName)) ∈ gt := gt_at 1829 (by decide +kernel) (by decide +kernel)
theorem mw_1760 : (Jvm.Cond.instanceMethod ({ cls := "Galleyforge", name := "on", desc := "(III)I" } : Jvm.MethodName)) ∈ gt := gt_at 1830 (by decide +kernel) (by decide +kernel)
theorem mw_1761 : (Jvm.Cond.selects "Galleyforge" ({ cls := "Galleyforge", name := "on", desc := "(III)I" } : Jvm.MethodName) ({ cls := "Galleyforge", name := "on", desc := "(III)I" } : Jvm.MethodName)) ∈ gt := gt_at 1831 (by decide +kernel) (by decide +kernel)
theorem mw_1762 : (Jvm.Cond.code ({ cls := "Galleyforge", name := "on", desc := "(III)I" } : Jvm.MethodName) prog_1_method_32_code (5 : Nat) (Option.some Jvm.ClassFile.FieldType.int)) ∈ gt := gt_at 1832 (by decide +kernel) (by decide +kernel)
theorem mV_X11_on : mV yX11_on cX11_on 5 (some .int) 3 := ⟨⟨mw_1762, mw_1, by decide, by decide, by decide +kernel⟩, mw_1760, mw_1761⟩
theorem dL_on_0 : decode cL_on 0 = .ok (.aload_n 0, 1) := by decide +kernel
theorem dL_on_1 : decode cL_on 1 = .ok (.iload_n 1, 1) := by decide +kernel
theorem dL_on_2 : decode cL_on 2 = .ok (.iload_n 2, 1) := by decide +kernel
theorem dL_on_3 : decode cL_on 3 = .ok (.iload_n 3, 1) := by decide +kernel
theorem dL_on_4 : decode cL_on 4 = .ok (.invokevirtual 110, 3) := by decide +kernel
theorem dL_on_7 : decode cL_on 7 = .ok (.ireturn, 1) := by decide +kernel
theorem dL_on_8 : decode cL_on 8 = .ok (.astore 4, 2) := by decide +kernel
theorem dL_on_10 : decode cL_on 10 = .ok (.ldc 15, 2) := by decide +kernel
theorem dL_on_12 : decode cL_on 12 = .ok (.ireturn, 1) := by decide +kernel
set_option maxHeartbeats 4000000 in
set_option maxRecDepth 100000 in
theorem w_on (l : Launch) (dC : Nat → ClassId) (dI : Nat → Nat → Nat) (k : Nat → ClassId) (hl0 : l.stackTraces = false) (T : Nat → Int → Int → Int → Int) (K : Nat → Int → Int) (qa : Nat) (cp : Nat) (tl : va_W) (v : Int) (pg_ : Int) (wh : Int) (hPS : PS dI k T K qa cp tl) (hQ : OKT T K) (hrv : -2147483648 ≤ v ∧ v < 2147483648) (hrpg_ : -2147483648 ≤ pg_ ∧ pg_ < 2147483648) (hrwh : -2147483648 ≤ wh ∧ wh < 2147483648) (hwh : 0 ≤ wh ∧ wh ≤ 2) : Kn l dC dI k yL_on (.codeWith yL_on cL_on 5 (some .int) [(0, 7, 8, 13)]) ({ frames := 10, cells := (131072 - cp + 1), slots := (12 * (131072 - cp) + 6), locals := 229 } : Room) [.ref qa, .int (iI v), .int (iI pg_), .int (iI wh)] ([] ++ tl) (fun r w gc gs => (∃ (cp2 : Nat) (tl2 : va_W), (PS dI k T K qa cp2 tl2) ∧ (cp ≤ cp2 ∧ cp2 ≤ 131072) ∧ ((0 ≤ v ∧ v ≤ 1) ∧ (1 ≤ pg_ ∧ pg_ ≤ (mkZ T (moC T v (dgN T v))) 0 0)) ∧ r = some (.int (iI (onZ T v pg_ wh))) ∧ w = ([] ++ tl2) ∧ gc = (cp2 - cp + 1) ∧ gs = (12 * (cp2 - cp) + 6)) ∨ (∃ (cp2 : Nat) (tl2 : va_W), (PS dI k T K qa cp2 tl2) ∧ (cp ≤ cp2 ∧ cp2 ≤ 131072) ∧ (¬ ((0 ≤ v ∧ v ≤ 1) ∧ (1 ≤ pg_ ∧ pg_ ≤ (mkZ T (moC T v (dgN T v))) 0 0))) ∧ r = some (.int (iI (-2000000001))) ∧ w = ([] ++ tl2) ∧ gc = (cp2 - cp + 1) ∧ gs = (12 * (cp2 - cp) + 6))) := by
  refine kw_of (by decide) (Nat.le_of_ble_eq_true rfl) ?_
  intro p e s m args below meth c H locs B hr hT ls hl
  have hx := B.1.1
  have hb := B.1.2.1
  have hl : lv_has ls 5 [(0, .ref qa), (1, .int (iI v)), (2, .int (iI pg_)), (3, .int (iI wh))] := hl
  have hcp9 := PS_cp hPS
  refine lv_aload_n hx hb dL_on_0 rfl (lv_at hl 0 rfl) ?_
  refine lv_iload_n hx hb dL_on_1 rfl (lv_at hl 1 rfl) ?_
  refine lv_iload_n hx hb dL_on_2 rfl (lv_at hl 2 rfl) ?_
  refine lv_iload_n hx hb dL_on_3 rfl (lv_at hl 3 rfl) ?_
  have B := bd_swap (a := []) (b := []) (d := tl) (bd_to rfl B)
  obtain ⟨k_1, hk_1⟩ := pk_at (hs := []) (PS_go hPS).choose_spec
  refine k_Vx (rest := []) (wc := ([] ++ tl)) (wr := []) (a_on l dC dI k hl0 T K qa cp tl v pg_ wh hPS hQ hrv hrpg_ hrwh hwh) B mV_X11_on mw_1759 hl (q0 := k_1) (ci := 11) hk_1 rfl rfl ⟨Nat.le_of_ble_eq_true rfl, Nat.le_of_ble_eq_true rfl⟩ (Nat.le_of_ble_eq_true rfl) rfl dL_on_4 ⟨by dsimp only; omega, by dsimp only; omega⟩ (fun E ce q9 w gc gs H locs hp B h1 h2 h3 => ?_) (fun r w gc gs H locs hp B => ?_)
  · skip
    obtain ⟨cp2_2, tl2_3, z_4, z_5, z_6, rfl, hw9, rfl, rfl⟩ := hp
    rw [hw9] at B; clear hw9
    have B := bd_to (ws' := ([] ++ tl2_3)) rfl B
    have hPS : PS dI k T K qa cp2_2 tl2_3 := z_4
    refine vx_catch B.1.2.2.2.1 [] ⟨0, 7, 8, 13⟩ [] (hT.trans rfl) (fun z hz => by cases hz) (by decide) (by decide) (B.1.2.2.2.2.1 _ mw_501) (ca.use (B.2.1.2.2.2.2.2.2.1.1.1 _ (by decide +kernel))) h1 h2 h3 ?_
    refine lv_astore (lv' := [(4, .ref q9), (0, .ref qa), (1, .int (iI v)), (2, .int (iI pg_)), (3, .int (iI wh))]) hx hb dL_on_8 hl (by decide) rfl (fun ls hl => ?_)
    refine lv_ldc (v := (-2000000001)) hx hb B.1.2.2.2.1 (B.1.2.2.2.2.1 _ mw_593) dL_on_10 ?_
    refine lv_seti (y := iI (-2000000001)) (by decide) ?_
    exact k_iret B hr (Or.inr (⟨cp2_2, tl2_3, z_4, z_5, z_6, rfl, rfl, rfl, rfl⟩)) ⟨(by first | omega | (dsimp only; omega)), (by first | omega | (dsimp only; omega))⟩ ⟨(by first | omega | (dsimp only; omega)), (by first | omega | (dsimp only; omega))⟩ dL_on_12
  · skip
    obtain ⟨cp2_7, tl2_8, z_9, z_10, z_11, rfl, hw9, rfl, rfl⟩ := hp
    rw [hw9] at B; clear hw9
    have B := bd_to (ws' := ([] ++ tl2_8)) rfl B
    have hPS : PS dI k T K qa cp2_7 tl2_8 := z_9
    exact k_iret B hr (Or.inl (⟨cp2_7, tl2_8, z_9, z_10, z_11, rfl, rfl, rfl, rfl⟩)) ⟨(by first | omega | (dsimp only; omega)), (by first | omega | (dsimp only; omega))⟩ ⟨(by first | omega | (dsimp only; omega)), (by first | omega | (dsimp only; omega))⟩ dL_on_7

theorem mw_1771 : (Jvm.Cond.methodLink "GalleyforgeLaw" (113 : Nat) ({ cls := "Galleyforge", name := "head", desc := "(II)I" } : Jvm.MethodName)) ∈ gt := gt_at 1841 (by decide +kernel) (by decide +kernel)
theorem mw_1772 : (Jvm.Cond.instanceMethod ({ cls := "Galleyforge", name := "head", desc := "(II)I" } : Jvm.MethodName)) ∈ gt := gt_at 1842 (by decide +kernel) (by decide +kernel)
theorem mw_1773 : (Jvm.Cond.selects "Galleyforge" ({ cls := "Galleyforge", name := "head", desc := "(II)I" } : Jvm.MethodName) ({ cls := "Galleyforge", name := "head", desc := "(II)I" } : Jvm.MethodName)) ∈ gt := gt_at 1843 (by decide +kernel) (by decide +kernel)
theorem mw_1774 : (Jvm.Cond.code ({ cls := "Galleyforge", name := "head", desc := "(II)I" } : Jvm.MethodName) prog_1_method_33_code (4 : Nat) (Option.some Jvm.ClassFile.FieldType.int)) ∈ gt := gt_at 1844 (by decide +kernel) (by decide +kernel)
theorem mV_X11_head : mV yX11_head cX11_head 4 (some .int) 2 := ⟨⟨mw_1774, mw_1, by decide, by decide, by decide +kernel⟩, mw_1772, mw_1773⟩
theorem dL_head_0 : decode cL_head 0 = .ok (.aload_n 0, 1) := by decide +kernel
theorem dL_head_1 : decode cL_head 1 = .ok (.iload_n 1, 1) := by decide +kernel
theorem dL_head_2 : decode cL_head 2 = .ok (.iload_n 2, 1) := by decide +kernel
theorem dL_head_3 : decode cL_head 3 = .ok (.invokevirtual 113, 3) := by decide +kernel
theorem dL_head_6 : decode cL_head 6 = .ok (.ireturn, 1) := by decide +kernel
theorem dL_head_7 : decode cL_head 7 = .ok (.astore_n 3, 1) := by decide +kernel
theorem dL_head_8 : decode cL_head 8 = .ok (.ldc 15, 2) := by decide +kernel
theorem dL_head_10 : decode cL_head 10 = .ok (.ireturn, 1) := by decide +kernel
set_option maxHeartbeats 4000000 in
set_option maxRecDepth 100000 in
theorem w_head (l : Launch) (dC : Nat → ClassId) (dI : Nat → Nat → Nat) (k : Nat → ClassId) (hl0 : l.stackTraces = false) (T : Nat → Int → Int → Int → Int) (K : Nat → Int → Int) (qa : Nat) (cp : Nat) (tl : va_W) (v : Int) (pg_ : Int) (hPS : PS dI k T K qa cp tl) (hQ : OKT T K) (hrv : -2147483648 ≤ v ∧ v < 2147483648) (hrpg_ : -2147483648 ≤ pg_ ∧ pg_ < 2147483648) : Kn l dC dI k yL_head (.codeWith yL_head cL_head 4 (some .int) [(0, 6, 7, 13)]) ({ frames := 10, cells := (131072 - cp + 1), slots := (12 * (131072 - cp) + 6), locals := 228 } : Room) [.ref qa, .int (iI v), .int (iI pg_)] ([] ++ tl) (fun r w gc gs => (∃ (cp2 : Nat) (tl2 : va_W), (PS dI k T K qa cp2 tl2) ∧ (cp ≤ cp2 ∧ cp2 ≤ 131072) ∧ ((0 ≤ v ∧ v ≤ 1) ∧ (1 ≤ pg_ ∧ pg_ ≤ (mkZ T (moC T v (dgN T v))) 0 0)) ∧ r = some (.int (iI (hoZ T (moC T v (dgN T v)) (mkZ T (moC T v (dgN T v))) v pg_))) ∧ w = ([] ++ tl2) ∧ gc = (cp2 - cp + 1) ∧ gs = (12 * (cp2 - cp) + 6)) ∨ (∃ (cp2 : Nat) (tl2 : va_W), (PS dI k T K qa cp2 tl2) ∧ (cp ≤ cp2 ∧ cp2 ≤ 131072) ∧ (¬ ((0 ≤ v ∧ v ≤ 1) ∧ (1 ≤ pg_ ∧ pg_ ≤ (mkZ T (moC T v (dgN T v))) 0 0))) ∧ r = some (.int (iI (-2000000001))) ∧ w = ([] ++ tl2) ∧ gc = (cp2 - cp + 1) ∧ gs = (12 * (cp2 - cp) + 6))) := by
  refine kw_of (by decide) (Nat.le_of_ble_eq_true rfl) ?_
  intro p e s m args below meth c H locs B hr hT ls hl
  have hx := B.1.1
  have hb := B.1.2.1
  have hl : lv_has ls 4 [(0, .ref qa), (1, .int (iI v)), (2, .int (iI pg_))] := hl
  have hcp9 := PS_cp hPS
  refine lv_aload_n hx hb dL_head_0 rfl (lv_at hl 0 rfl) ?_
  refine lv_iload_n hx hb dL_head_1 rfl (lv_at hl 1 rfl) ?_
  refine lv_iload_n hx hb dL_head_2 rfl (lv_at hl 2 rfl) ?_
  have B := bd_swap (a := []) (b := []) (d := tl) (bd_to rfl B)
  obtain ⟨k_1, hk_1⟩ := pk_at (hs := []) (PS_go hPS).choose_spec
  refine k_Vx (rest := []) (wc := ([] ++ tl)) (wr := []) (a_head l dC dI k hl0 T K qa cp tl v pg_ hPS hQ hrv hrpg_) B mV_X11_head mw_1771 hl (q0 := k_1) (ci := 11) hk_1 rfl rfl ⟨Nat.le_of_ble_eq_true rfl, Nat.le_of_ble_eq_true rfl⟩ (Nat.le_of_ble_eq_true rfl) rfl dL_head_3 ⟨by dsimp only; omega, by dsimp only; omega⟩ (fun E ce q9 w gc gs H locs hp B h1 h2 h3 => ?_) (fun r w gc gs H locs hp B => ?_)
  · skip
    obtain ⟨cp2_2, tl2_3, z_4, z_5, z_6, rfl, hw9, rfl, rfl⟩ := hp
    rw [hw9] at B; clear hw9
    have B := bd_to (ws' := ([] ++ tl2_3)) rfl B
    have hPS : PS dI k T K qa cp2_2 tl2_3 := z_4
    refine vx_catch B.1.2.2.2.1 [] ⟨0, 6, 7, 13⟩ [] (hT.trans rfl) (fun z hz => by cases hz) (by decide) (by decide) (B.1.2.2.2.2.1 _ mw_501) (ca.use (B.2.1.2.2.2.2.2.2.1.1.1 _ (by decide +kernel))) h1 h2 h3 ?_
    refine lv_astore_n (lv' := [(3, .ref q9), (0, .ref qa), (1, .int (iI v)), (2, .int (iI pg_))]) hx hb dL_head_7 rfl hl (by decide) rfl (fun ls hl => ?_)
    refine lv_ldc (v := (-2000000001)) hx hb B.1.2.2.2.1 (B.1.2.2.2.2.1 _ mw_593) dL_head_8 ?_
    refine lv_seti (y := iI (-2000000001)) (by decide) ?_
    exact k_iret B hr (Or.inr (⟨cp2_2, tl2_3, z_4, z_5, z_6, rfl, rfl, rfl, rfl⟩)) ⟨(by first | omega | (dsimp only; omega)), (by first | omega | (dsimp only; omega))⟩ ⟨(by first | omega | (dsimp only; omega)), (by first | omega | (dsimp only; omega))⟩ dL_head_10
  · skip
    obtain ⟨cp2_7, tl2_8, z_9, z_10, z_11, rfl, hw9, rfl, rfl⟩ := hp
    rw [hw9] at B; clear hw9
    have B := bd_to (ws' := ([] ++ tl2_8)) rfl B
    have hPS : PS dI k T K qa cp2_7 tl2_8 := z_9
    exact k_iret B hr (Or.inl (⟨cp2_7, tl2_8, z_9, z_10, z_11, rfl, rfl, rfl, rfl⟩)) ⟨(by first | omega | (dsimp only; omega)), (by first | omega | (dsimp only; omega))⟩ ⟨(by first | omega | (dsimp only; omega)), (by first | omega | (dsimp only; omega))⟩ dL_head_6

theorem mw_1787 : (Jvm.Cond.methodLink "GalleyforgeLaw" (116 : Nat) ({ cls := "Galleyforge", name := "textAt", desc := "(III)I" } : Jvm.MethodName)) ∈ gt := gt_at 1857 (by decide +kernel) (by decide +kernel)
theorem mw_1788 : (Jvm.Cond.instanceMethod ({ cls := "Galleyforge", name := "textAt", desc := "(III)I" } : Jvm.MethodName)) ∈ gt := gt_at 1858 (by decide +kernel) (by decide +kernel)
theorem mw_1789 : (Jvm.Cond.selects "Galleyforge" ({ cls := "Galleyforge", name := "textAt", desc := "(III)I" } : Jvm.MethodName) ({ cls := "Galleyforge", name := "textAt", desc := "(III)I" } : Jvm.MethodName)) ∈ gt := gt_at 1859 (by decide +kernel) (by decide +kernel)
theorem mw_1790 : (Jvm.Cond.code ({ cls := "Galleyforge", name := "textAt", desc := "(III)I" } : Jvm.MethodName) prog_1_method_34_code (6 : Nat) (Option.some Jvm.ClassFile.FieldType.int)) ∈ gt := gt_at 1860 (by decide +kernel) (by decide +kernel)
theorem mV_X11_textAt : mV yX11_textAt cX11_textAt 6 (some .int) 3 := ⟨⟨mw_1790, mw_1, by decide, by decide, by decide +kernel⟩, mw_1788, mw_1789⟩
theorem dL_textAt_0 : decode cL_textAt 0 = .ok (.aload_n 0, 1) := by decide +kernel
theorem dL_textAt_1 : decode cL_textAt 1 = .ok (.iload_n 1, 1) := by decide +kernel
theorem dL_textAt_2 : decode cL_textAt 2 = .ok (.iload_n 2, 1) := by decide +kernel
theorem dL_textAt_3 : decode cL_textAt 3 = .ok (.iload_n 3, 1) := by decide +kernel
theorem dL_textAt_4 : decode cL_textAt 4 = .ok (.invokevirtual 116, 3) := by decide +kernel
theorem dL_textAt_7 : decode cL_textAt 7 = .ok (.ireturn, 1) := by decide +kernel
theorem dL_textAt_8 : decode cL_textAt 8 = .ok (.astore 4, 2) := by decide +kernel
theorem dL_textAt_10 : decode cL_textAt 10 = .ok (.ldc 15, 2) := by decide +kernel
theorem dL_textAt_12 : decode cL_textAt 12 = .ok (.ireturn, 1) := by decide +kernel
set_option maxHeartbeats 4000000 in
set_option maxRecDepth 100000 in
theorem w_textAt (l : Launch) (dC : Nat → ClassId) (dI : Nat → Nat → Nat) (k : Nat → ClassId) (hl0 : l.stackTraces = false) (T : Nat → Int → Int → Int → Int) (K : Nat → Int → Int) (qa : Nat) (cp : Nat) (tl : va_W) (v : Int) (pg_ : Int) (ro : Int) (hPS : PS dI k T K qa cp tl) (hQ : OKT T K) (hrv : -2147483648 ≤ v ∧ v < 2147483648) (hrpg_ : -2147483648 ≤ pg_ ∧ pg_ < 2147483648) (hrro : -2147483648 ≤ ro ∧ ro < 2147483648) : Kn l dC dI k yL_textAt (.codeWith yL_textAt cL_textAt 5 (some .int) [(0, 7, 8, 13)]) ({ frames := 10, cells := (131072 - cp + 1), slots := (12 * (131072 - cp) + 6), locals := 230 } : Room) [.ref qa, .int (iI v), .int (iI pg_), .int (iI ro)] ([] ++ tl) (fun r w gc gs => (∃ (cp2 : Nat) (tl2 : va_W), (PS dI k T K qa cp2 tl2) ∧ (cp ≤ cp2 ∧ cp2 ≤ 131072) ∧ ((0 ≤ v ∧ v ≤ 1) ∧ (1 ≤ pg_ ∧ pg_ ≤ (mkZ T (moC T v (dgN T v))) 0 0) ∧ (0 ≤ ro ∧ ro < (mkZ T (moC T v (dgN T v))) 2 (pg_ - 1))) ∧ r = some (.int (iI (txZ T v pg_ ro))) ∧ w = ([] ++ tl2) ∧ gc = (cp2 - cp + 1) ∧ gs = (12 * (cp2 - cp) + 6)) ∨ (∃ (cp2 : Nat) (tl2 : va_W), (PS dI k T K qa cp2 tl2) ∧ (cp ≤ cp2 ∧ cp2 ≤ 131072) ∧ (¬ ((0 ≤ v ∧ v ≤ 1) ∧ (1 ≤ pg_ ∧ pg_ ≤ (mkZ T (moC T v (dgN T v))) 0 0) ∧ (0 ≤ ro ∧ ro < (mkZ T (moC T v (dgN T v))) 2 (pg_ - 1)))) ∧ r = some (.int (iI (-2000000001))) ∧ w = ([] ++ tl2) ∧ gc = (cp2 - cp + 1) ∧ gs = (12 * (cp2 - cp) + 6))) := by
  refine kw_of (by decide) (Nat.le_of_ble_eq_true rfl) ?_
  intro p e s m args below meth c H locs B hr hT ls hl
  have hx := B.1.1
  have hb := B.1.2.1
  have hl : lv_has ls 5 [(0, .ref qa), (1, .int (iI v)), (2, .int (iI pg_)), (3, .int (iI ro))] := hl
  have hcp9 := PS_cp hPS
  refine lv_aload_n hx hb dL_textAt_0 rfl (lv_at hl 0 rfl) ?_
  refine lv_iload_n hx hb dL_textAt_1 rfl (lv_at hl 1 rfl) ?_
  refine lv_iload_n hx hb dL_textAt_2 rfl (lv_at hl 2 rfl) ?_
  refine lv_iload_n hx hb dL_textAt_3 rfl (lv_at hl 3 rfl) ?_
  have B := bd_swap (a := []) (b := []) (d := tl) (bd_to rfl B)
  obtain ⟨k_1, hk_1⟩ := pk_at (hs := []) (PS_go hPS).choose_spec
  refine k_Vx (rest := []) (wc := ([] ++ tl)) (wr := []) (a_textAt l dC dI k hl0 T K qa cp tl v pg_ ro hPS hQ hrv hrpg_ hrro) B mV_X11_textAt mw_1787 hl (q0 := k_1) (ci := 11) hk_1 rfl rfl ⟨Nat.le_of_ble_eq_true rfl, Nat.le_of_ble_eq_true rfl⟩ (Nat.le_of_ble_eq_true rfl) rfl dL_textAt_4 ⟨by dsimp only; omega, by dsimp only; omega⟩ (fun E ce q9 w gc gs H locs hp B h1 h2 h3 => ?_) (fun r w gc gs H locs hp B => ?_)
  · skip
    obtain ⟨cp2_2, tl2_3, z_4, z_5, z_6, rfl, hw9, rfl, rfl⟩ := hp
    rw [hw9] at B; clear hw9
    have B := bd_to (ws' := ([] ++ tl2_3)) rfl B
    have hPS : PS dI k T K qa cp2_2 tl2_3 := z_4
    refine vx_catch B.1.2.2.2.1 [] ⟨0, 7, 8, 13⟩ [] (hT.trans rfl) (fun z hz => by cases hz) (by decide) (by decide) (B.1.2.2.2.2.1 _ mw_501) (ca.use (B.2.1.2.2.2.2.2.2.1.1.1 _ (by decide +kernel))) h1 h2 h3 ?_
    refine lv_astore (lv' := [(4, .ref q9), (0, .ref qa), (1, .int (iI v)), (2, .int (iI pg_)), (3, .int (iI ro))]) hx hb dL_textAt_8 hl (by decide) rfl (fun ls hl => ?_)
    refine lv_ldc (v := (-2000000001)) hx hb B.1.2.2.2.1 (B.1.2.2.2.2.1 _ mw_593) dL_textAt_10 ?_
    refine lv_seti (y := iI (-2000000001)) (by decide) ?_
    exact k_iret B hr (Or.inr (⟨cp2_2, tl2_3, z_4, z_5, z_6, rfl, rfl, rfl, rfl⟩)) ⟨(by first | omega | (dsimp only; omega)), (by first | omega | (dsimp only; omega))⟩ ⟨(by first | omega | (dsimp only; omega)), (by first | omega | (dsimp only; omega))⟩ dL_textAt_12
  · skip
    obtain ⟨cp2_7, tl2_8, z_9, z_10, z_11, rfl, hw9, rfl, rfl⟩ := hp
    rw [hw9] at B; clear hw9
    have B := bd_to (ws' := ([] ++ tl2_8)) rfl B
    have hPS : PS dI k T K qa cp2_7 tl2_8 := z_9
    exact k_iret B hr (Or.inl (⟨cp2_7, tl2_8, z_9, z_10, z_11, rfl, rfl, rfl, rfl⟩)) ⟨(by first | omega | (dsimp only; omega)), (by first | omega | (dsimp only; omega))⟩ ⟨(by first | omega | (dsimp only; omega)), (by first | omega | (dsimp only; omega))⟩ dL_textAt_7

theorem mw_1794 : (Jvm.Cond.methodLink "GalleyforgeLaw" (119 : Nat) ({ cls := "Galleyforge", name := "whereIs", desc := "(III)I" } : Jvm.MethodName)) ∈ gt := gt_at 1864 (by decide +kernel) (by decide +kernel)
theorem mw_1795 : (Jvm.Cond.instanceMethod ({ cls := "Galleyforge", name := "whereIs", desc := "(III)I" } : Jvm.MethodName)) ∈ gt := gt_at 1865 (by decide +kernel) (by decide +kernel)
theorem mw_1796 : (Jvm.Cond.selects "Galleyforge" ({ cls := "Galleyforge", name := "whereIs", desc := "(III)I" } : Jvm.MethodName) ({ cls := "Galleyforge", name := "whereIs", desc := "(III)I" } : Jvm.MethodName)) ∈ gt := gt_at 1866 (by decide +kernel) (by decide +kernel)
theorem mw_1797 : (Jvm.Cond.code ({ cls := "Galleyforge", name := "whereIs", desc := "(III)I" } : Jvm.MethodName) prog_1_method_35_code (7 : Nat) (Option.some Jvm.ClassFile.FieldType.int)) ∈ gt := gt_at 1867 (by decide +kernel) (by decide +kernel)
theorem mV_X11_whereIs : mV yX11_whereIs cX11_whereIs 7 (some .int) 3 := ⟨⟨mw_1797, mw_1, by decide, by decide, by decide +kernel⟩, mw_1795, mw_1796⟩
theorem dL_whereIs_0 : decode cL_whereIs 0 = .ok (.aload_n 0, 1) := by decide +kernel
theorem dL_whereIs_1 : decode cL_whereIs 1 = .ok (.iload_n 1, 1) := by decide +kernel
theorem dL_whereIs_2 : decode cL_whereIs 2 = .ok (.iload_n 2, 1) := by decide +kernel
theorem dL_whereIs_3 : decode cL_whereIs 3 = .ok (.iload_n 3, 1) := by decide +kernel
theorem dL_whereIs_4 : decode cL_whereIs 4 = .ok (.invokevirtual 119, 3) := by decide +kernel
theorem dL_whereIs_7 : decode cL_whereIs 7 = .ok (.ireturn, 1) := by decide +kernel
theorem dL_whereIs_8 : decode cL_whereIs 8 = .ok (.astore 4, 2) := by decide +kernel
theorem dL_whereIs_10 : decode cL_whereIs 10 = .ok (.ldc 15, 2) := by decide +kernel
theorem dL_whereIs_12 : decode cL_whereIs 12 = .ok (.ireturn, 1) := by decide +kernel
set_option maxHeartbeats 4000000 in
set_option maxRecDepth 100000 in
theorem w_whereIs (l : Launch) (dC : Nat → ClassId) (dI : Nat → Nat → Nat) (k : Nat → ClassId) (hl0 : l.stackTraces = false) (T : Nat → Int → Int → Int → Int) (K : Nat → Int → Int) (qa : Nat) (cp : Nat) (tl : va_W) (v : Int) (pl : Int) (at_ : Int) (hPS : PS dI k T K qa cp tl) (hQ : OKT T K) (hrv : -2147483648 ≤ v ∧ v < 2147483648) (hrpl : -2147483648 ≤ pl ∧ pl < 2147483648) (hrat_ : -2147483648 ≤ at_ ∧ at_ < 2147483648) : Kn l dC dI k yL_whereIs (.codeWith yL_whereIs cL_whereIs 5 (some .int) [(0, 7, 8, 13)]) ({ frames := 10, cells := (131072 - cp + 1), slots := (12 * (131072 - cp) + 6), locals := 231 } : Room) [.ref qa, .int (iI v), .int (iI pl), .int (iI at_)] ([] ++ tl) (fun r w gc gs => (∃ (cp2 : Nat) (tl2 : va_W), (PS dI k T K qa cp2 tl2) ∧ (cp ≤ cp2 ∧ cp2 ≤ 131072) ∧ ((0 ≤ v ∧ v ≤ 1) ∧ (0 ≤ pl ∧ pl < T 0 0 0 0) ∧ (0 ≤ at_ ∧ at_ < T 3 pl 0 0)) ∧ r = some (.int (iI (whZ T v pl at_))) ∧ w = ([] ++ tl2) ∧ gc = (cp2 - cp + 1) ∧ gs = (12 * (cp2 - cp) + 6)) ∨ (∃ (cp2 : Nat) (tl2 : va_W), (PS dI k T K qa cp2 tl2) ∧ (cp ≤ cp2 ∧ cp2 ≤ 131072) ∧ (¬ ((0 ≤ v ∧ v ≤ 1) ∧ (0 ≤ pl ∧ pl < T 0 0 0 0) ∧ (0 ≤ at_ ∧ at_ < T 3 pl 0 0))) ∧ r = some (.int (iI (-2000000001))) ∧ w = ([] ++ tl2) ∧ gc = (cp2 - cp + 1) ∧ gs = (12 * (cp2 - cp) + 6))) := by
  refine kw_of (by decide) (Nat.le_of_ble_eq_true rfl) ?_
  intro p e s m args below meth c H locs B hr hT ls hl
  have hx := B.1.1
  have hb := B.1.2.1
  have hl : lv_has ls 5 [(0, .ref qa), (1, .int (iI v)), (2, .int (iI pl)), (3, .int (iI at_))] := hl
  have hcp9 := PS_cp hPS
  refine lv_aload_n hx hb dL_whereIs_0 rfl (lv_at hl 0 rfl) ?_
  refine lv_iload_n hx hb dL_whereIs_1 rfl (lv_at hl 1 rfl) ?_
  refine lv_iload_n hx hb dL_whereIs_2 rfl (lv_at hl 2 rfl) ?_
  refine lv_iload_n hx hb dL_whereIs_3 rfl (lv_at hl 3 rfl) ?_
  have B := bd_swap (a := []) (b := []) (d := tl) (bd_to rfl B)
  obtain ⟨k_1, hk_1⟩ := pk_at (hs := []) (PS_go hPS).choose_spec
  refine k_Vx (rest := []) (wc := ([] ++ tl)) (wr := []) (a_whereIs l dC dI k hl0 T K qa cp tl v pl at_ hPS hQ hrv hrpl hrat_) B mV_X11_whereIs mw_1794 hl (q0 := k_1) (ci := 11) hk_1 rfl rfl ⟨Nat.le_of_ble_eq_true rfl, Nat.le_of_ble_eq_true rfl⟩ (Nat.le_of_ble_eq_true rfl) rfl dL_whereIs_4 ⟨by dsimp only; omega, by dsimp only; omega⟩ (fun E ce q9 w gc gs H locs hp B h1 h2 h3 => ?_) (fun r w gc gs H locs hp B => ?_)
  · skip
    obtain ⟨cp2_2, tl2_3, z_4, z_5, z_6, rfl, hw9, rfl, rfl⟩ := hp
    rw [hw9] at B; clear hw9
    have B := bd_to (ws' := ([] ++ tl2_3)) rfl B
    have hPS : PS dI k T K qa cp2_2 tl2_3 := z_4
    refine vx_catch B.1.2.2.2.1 [] ⟨0, 7, 8, 13⟩ [] (hT.trans rfl) (fun z hz => by cases hz) (by decide) (by decide) (B.1.2.2.2.2.1 _ mw_501) (ca.use (B.2.1.2.2.2.2.2.2.1.1.1 _ (by decide +kernel))) h1 h2 h3 ?_
    refine lv_astore (lv' := [(4, .ref q9), (0, .ref qa), (1, .int (iI v)), (2, .int (iI pl)), (3, .int (iI at_))]) hx hb dL_whereIs_8 hl (by decide) rfl (fun ls hl => ?_)
    refine lv_ldc (v := (-2000000001)) hx hb B.1.2.2.2.1 (B.1.2.2.2.2.1 _ mw_593) dL_whereIs_10 ?_
    refine lv_seti (y := iI (-2000000001)) (by decide) ?_
    exact k_iret B hr (Or.inr (⟨cp2_2, tl2_3, z_4, z_5, z_6, rfl, rfl, rfl, rfl⟩)) ⟨(by first | omega | (dsimp only; omega)), (by first | omega | (dsimp only; omega))⟩ ⟨(by first | omega | (dsimp only; omega)), (by first | omega | (dsimp only; omega))⟩ dL_whereIs_12
  · skip
    obtain ⟨cp2_7, tl2_8, z_9, z_10, z_11, rfl, hw9, rfl, rfl⟩ := hp
    rw [hw9] at B; clear hw9
    have B := bd_to (ws' := ([] ++ tl2_8)) rfl B
    have hPS : PS dI k T K qa cp2_7 tl2_8 := z_9
    exact k_iret B hr (Or.inl (⟨cp2_7, tl2_8, z_9, z_10, z_11, rfl, rfl, rfl, rfl⟩)) ⟨(by first | omega | (dsimp only; omega)), (by first | omega | (dsimp only; omega))⟩ ⟨(by first | omega | (dsimp only; omega)), (by first | omega | (dsimp only; omega))⟩ dL_whereIs_7

theorem mw_1802 : (Jvm.Cond.methodLink "GalleyforgeLaw" (122 : Nat) ({ cls := "Galleyforge", name := "figureAt", desc := "(II)I" } : Jvm.MethodName)) ∈ gt := gt_at 1872 (by decide +kernel) (by decide +kernel)
theorem mw_1803 : (Jvm.Cond.instanceMethod ({ cls := "Galleyforge", name := "figureAt", desc := "(II)I" } : Jvm.MethodName)) ∈ gt := gt_at 1873 (by decide +kernel) (by decide +kernel)
theorem mw_1804 : (Jvm.Cond.selects "Galleyforge" ({ cls := "Galleyforge", name := "figureAt", desc := "(II)I" } : Jvm.MethodName) ({ cls := "Galleyforge", name := "figureAt", desc := "(II)I" } : Jvm.MethodName)) ∈ gt := gt_at 1874 (by decide +kernel) (by decide +kernel)
theorem mw_1805 : (Jvm.Cond.code ({ cls := "Galleyforge", name := "figureAt", desc := "(II)I" } : Jvm.MethodName) prog_1_method_36_code (3 : Nat) (Option.some Jvm.ClassFile.FieldType.int)) ∈ gt := gt_at 1875 (by decide +kernel) (by decide +kernel)
theorem mV_X11_figureAt : mV yX11_figureAt cX11_figureAt 3 (some .int) 2 := ⟨⟨mw_1805, mw_1, by decide, by decide, by decide +kernel⟩, mw_1803, mw_1804⟩
theorem dL_figureAt_0 : decode cL_figureAt 0 = .ok (.aload_n 0, 1) := by decide +kernel
theorem dL_figureAt_1 : decode cL_figureAt 1 = .ok (.iload_n 1, 1) := by decide +kernel
theorem dL_figureAt_2 : decode cL_figureAt 2 = .ok (.iload_n 2, 1) := by decide +kernel
theorem dL_figureAt_3 : decode cL_figureAt 3 = .ok (.invokevirtual 122, 3) := by decide +kernel
theorem dL_figureAt_6 : decode cL_figureAt 6 = .ok (.ireturn, 1) := by decide +kernel
theorem dL_figureAt_7 : decode cL_figureAt 7 = .ok (.astore_n 3, 1) := by decide +kernel
theorem dL_figureAt_8 : decode cL_figureAt 8 = .ok (.ldc 15, 2) := by decide +kernel
theorem dL_figureAt_10 : decode cL_figureAt 10 = .ok (.ireturn, 1) := by decide +kernel
set_option maxHeartbeats 4000000 in
set_option maxRecDepth 100000 in
theorem w_figureAt (l : Launch) (dC : Nat → ClassId) (dI : Nat → Nat → Nat) (k : Nat → ClassId) (hl0 : l.stackTraces = false) (T : Nat → Int → Int → Int → Int) (K : Nat → Int → Int) (qa : Nat) (cp : Nat) (tl : va_W) (v : Int) (fi : Int) (hPS : PS dI k T K qa cp tl) (hQ : OKT T K) (hrv : -2147483648 ≤ v ∧ v < 2147483648) (hrfi : -2147483648 ≤ fi ∧ fi < 2147483648) : Kn l dC dI k yL_figureAt (.codeWith yL_figureAt cL_figureAt 4 (some .int) [(0, 6, 7, 13)]) ({ frames := 10, cells := (131072 - cp + 1), slots := (12 * (131072 - cp) + 6), locals := 227 } : Room) [.ref qa, .int (iI v), .int (iI fi)] ([] ++ tl) (fun r w gc gs => (∃ (cp2 : Nat) (tl2 : va_W), (PS dI k T K qa cp2 tl2) ∧ (cp ≤ cp2 ∧ cp2 ≤ 131072) ∧ ((0 ≤ v ∧ v ≤ 1) ∧ (0 ≤ fi ∧ fi < T 12 0 0 0)) ∧ r = some (.int (iI ((mkZ T (moC T v (dgN T v))) 6 fi))) ∧ w = ([] ++ tl2) ∧ gc = (cp2 - cp + 1) ∧ gs = (12 * (cp2 - cp) + 6)) ∨ (∃ (cp2 : Nat) (tl2 : va_W), (PS dI k T K qa cp2 tl2) ∧ (cp ≤ cp2 ∧ cp2 ≤ 131072) ∧ (¬ ((0 ≤ v ∧ v ≤ 1) ∧ (0 ≤ fi ∧ fi < T 12 0 0 0))) ∧ r = some (.int (iI (-2000000001))) ∧ w = ([] ++ tl2) ∧ gc = (cp2 - cp + 1) ∧ gs = (12 * (cp2 - cp) + 6))) := by
  refine kw_of (by decide) (Nat.le_of_ble_eq_true rfl) ?_
  intro p e s m args below meth c H locs B hr hT ls hl
  have hx := B.1.1
  have hb := B.1.2.1
  have hl : lv_has ls 4 [(0, .ref qa), (1, .int (iI v)), (2, .int (iI fi))] := hl
  have hcp9 := PS_cp hPS
  refine lv_aload_n hx hb dL_figureAt_0 rfl (lv_at hl 0 rfl) ?_
  refine lv_iload_n hx hb dL_figureAt_1 rfl (lv_at hl 1 rfl) ?_
  refine lv_iload_n hx hb dL_figureAt_2 rfl (lv_at hl 2 rfl) ?_
  have B := bd_swap (a := []) (b := []) (d := tl) (bd_to rfl B)
  obtain ⟨k_1, hk_1⟩ := pk_at (hs := []) (PS_go hPS).choose_spec
  refine k_Vx (rest := []) (wc := ([] ++ tl)) (wr := []) (a_figureAt l dC dI k hl0 T K qa cp tl v fi hPS hQ hrv hrfi) B mV_X11_figureAt mw_1802 hl (q0 := k_1) (ci := 11) hk_1 rfl rfl ⟨Nat.le_of_ble_eq_true rfl, Nat.le_of_ble_eq_true rfl⟩ (Nat.le_of_ble_eq_true rfl) rfl dL_figureAt_3 ⟨by dsimp only; omega, by dsimp only; omega⟩ (fun E ce q9 w gc gs H locs hp B h1 h2 h3 => ?_) (fun r w gc gs H locs hp B => ?_)
  · skip
    obtain ⟨cp2_2, tl2_3, z_4, z_5, z_6, rfl, hw9, rfl, rfl⟩ := hp
    rw [hw9] at B; clear hw9
    have B := bd_to (ws' := ([] ++ tl2_3)) rfl B
    have hPS : PS dI k T K qa cp2_2 tl2_3 := z_4
    refine vx_catch B.1.2.2.2.1 [] ⟨0, 6, 7, 13⟩ [] (hT.trans rfl) (fun z hz => by cases hz) (by decide) (by decide) (B.1.2.2.2.2.1 _ mw_501) (ca.use (B.2.1.2.2.2.2.2.2.1.1.1 _ (by decide +kernel))) h1 h2 h3 ?_
    refine lv_astore_n (lv' := [(3, .ref q9), (0, .ref qa), (1, .int (iI v)), (2, .int (iI fi))]) hx hb dL_figureAt_7 rfl hl (by decide) rfl (fun ls hl => ?_)
    refine lv_ldc (v := (-2000000001)) hx hb B.1.2.2.2.1 (B.1.2.2.2.2.1 _ mw_593) dL_figureAt_8 ?_
    refine lv_seti (y := iI (-2000000001)) (by decide) ?_
    exact k_iret B hr (Or.inr (⟨cp2_2, tl2_3, z_4, z_5, z_6, rfl, rfl, rfl, rfl⟩)) ⟨(by first | omega | (dsimp only; omega)), (by first | omega | (dsimp only; omega))⟩ ⟨(by first | omega | (dsimp only; omega)), (by first | omega | (dsimp only; omega))⟩ dL_figureAt_10
  · skip
    obtain ⟨cp2_7, tl2_8, z_9, z_10, z_11, rfl, hw9, rfl, rfl⟩ := hp
    rw [hw9] at B; clear hw9
    have B := bd_to (ws' := ([] ++ tl2_8)) rfl B
    have hPS : PS dI k T K qa cp2_7 tl2_8 := z_9
    exact k_iret B hr (Or.inl (⟨cp2_7, tl2_8, z_9, z_10, z_11, rfl, rfl, rfl, rfl⟩)) ⟨(by first | omega | (dsimp only; omega)), (by first | omega | (dsimp only; omega))⟩ ⟨(by first | omega | (dsimp only; omega)), (by first | omega | (dsimp only; omega))⟩ dL_figureAt_6

theorem mw_1810 : (Jvm.Cond.methodLink "GalleyforgeLaw" (125 : Nat) ({ cls := "Galleyforge", name := "labelPage", desc := "(II)I" } : Jvm.MethodName)) ∈ gt := gt_at 1880 (by decide +kernel) (by decide +kernel)
theorem mw_1811 : (Jvm.Cond.instanceMethod ({ cls := "Galleyforge", name := "labelPage", desc := "(II)I" } : Jvm.MethodName)) ∈ gt := gt_at 1881 (by decide +kernel) (by decide +kernel)
theorem mw_1812 : (Jvm.Cond.selects "Galleyforge" ({ cls := "Galleyforge", name := "labelPage", desc := "(II)I" } : Jvm.MethodName) ({ cls := "Galleyforge", name := "labelPage", desc := "(II)I" } : Jvm.MethodName)) ∈ gt := gt_at 1882 (by decide +kernel) (by decide +kernel)
theorem mw_1813 : (Jvm.Cond.code ({ cls := "Galleyforge", name := "labelPage", desc := "(II)I" } : Jvm.MethodName) prog_1_method_37_code (3 : Nat) (Option.some Jvm.ClassFile.FieldType.int)) ∈ gt := gt_at 1883 (by decide +kernel) (by decide +kernel)
theorem mV_X11_labelPage : mV yX11_labelPage cX11_labelPage 3 (some .int) 2 := ⟨⟨mw_1813, mw_1, by decide, by decide, by decide +kernel⟩, mw_1811, mw_1812⟩
theorem dL_label_0 : decode cL_label 0 = .ok (.aload_n 0, 1) := by decide +kernel
theorem dL_label_1 : decode cL_label 1 = .ok (.iload_n 1, 1) := by decide +kernel
theorem dL_label_2 : decode cL_label 2 = .ok (.iload_n 2, 1) := by decide +kernel
theorem dL_label_3 : decode cL_label 3 = .ok (.invokevirtual 125, 3) := by decide +kernel
theorem dL_label_6 : decode cL_label 6 = .ok (.ireturn, 1) := by decide +kernel
theorem dL_label_7 : decode cL_label 7 = .ok (.astore_n 3, 1) := by decide +kernel
theorem dL_label_8 : decode cL_label 8 = .ok (.ldc 15, 2) := by decide +kernel
theorem dL_label_10 : decode cL_label 10 = .ok (.ireturn, 1) := by decide +kernel
set_option maxHeartbeats 4000000 in
set_option maxRecDepth 100000 in
theorem w_label (l : Launch) (dC : Nat → ClassId) (dI : Nat → Nat → Nat) (k : Nat → ClassId) (hl0 : l.stackTraces = false) (T : Nat → Int → Int → Int → Int) (K : Nat → Int → Int) (qa : Nat) (cp : Nat) (tl : va_W) (v : Int) (b_ : Int) (hPS : PS dI k T K qa cp tl) (hQ : OKT T K) (hrv : -2147483648 ≤ v ∧ v < 2147483648) (hrb_ : -2147483648 ≤ b_ ∧ b_ < 2147483648) : Kn l dC dI k yL_label (.codeWith yL_label cL_label 4 (some .int) [(0, 6, 7, 13)]) ({ frames := 10, cells := (131072 - cp + 1), slots := (12 * (131072 - cp) + 6), locals := 227 } : Room) [.ref qa, .int (iI v), .int (iI b_)] ([] ++ tl) (fun r w gc gs => (∃ (cp2 : Nat) (tl2 : va_W), (PS dI k T K qa cp2 tl2) ∧ (cp ≤ cp2 ∧ cp2 ≤ 131072) ∧ ((0 ≤ v ∧ v ≤ 1) ∧ (0 ≤ b_ ∧ b_ ≤ 5)) ∧ r = some (.int (iI (lbZ (moC T v (dgN T v)) (mkZ T (moC T v (dgN T v))) b_))) ∧ w = ([] ++ tl2) ∧ gc = (cp2 - cp + 1) ∧ gs = (12 * (cp2 - cp) + 6)) ∨ (∃ (cp2 : Nat) (tl2 : va_W), (PS dI k T K qa cp2 tl2) ∧ (cp ≤ cp2 ∧ cp2 ≤ 131072) ∧ (¬ ((0 ≤ v ∧ v ≤ 1) ∧ (0 ≤ b_ ∧ b_ ≤ 5))) ∧ r = some (.int (iI (-2000000001))) ∧ w = ([] ++ tl2) ∧ gc = (cp2 - cp + 1) ∧ gs = (12 * (cp2 - cp) + 6))) := by
  refine kw_of (by decide) (Nat.le_of_ble_eq_true rfl) ?_
  intro p e s m args below meth c H locs B hr hT ls hl
  have hx := B.1.1
  have hb := B.1.2.1
  have hl : lv_has ls 4 [(0, .ref qa), (1, .int (iI v)), (2, .int (iI b_))] := hl
  have hcp9 := PS_cp hPS
  refine lv_aload_n hx hb dL_label_0 rfl (lv_at hl 0 rfl) ?_
  refine lv_iload_n hx hb dL_label_1 rfl (lv_at hl 1 rfl) ?_
  refine lv_iload_n hx hb dL_label_2 rfl (lv_at hl 2 rfl) ?_
  have B := bd_swap (a := []) (b := []) (d := tl) (bd_to rfl B)
  obtain ⟨k_1, hk_1⟩ := pk_at (hs := []) (PS_go hPS).choose_spec
  refine k_Vx (rest := []) (wc := ([] ++ tl)) (wr := []) (a_labelPage l dC dI k hl0 T K qa cp tl v b_ hPS hQ hrv hrb_) B mV_X11_labelPage mw_1810 hl (q0 := k_1) (ci := 11) hk_1 rfl rfl ⟨Nat.le_of_ble_eq_true rfl, Nat.le_of_ble_eq_true rfl⟩ (Nat.le_of_ble_eq_true rfl) rfl dL_label_3 ⟨by dsimp only; omega, by dsimp only; omega⟩ (fun E ce q9 w gc gs H locs hp B h1 h2 h3 => ?_) (fun r w gc gs H locs hp B => ?_)
  · skip
    obtain ⟨cp2_2, tl2_3, z_4, z_5, z_6, rfl, hw9, rfl, rfl⟩ := hp
    rw [hw9] at B; clear hw9
    have B := bd_to (ws' := ([] ++ tl2_3)) rfl B
    have hPS : PS dI k T K qa cp2_2 tl2_3 := z_4
    refine vx_catch B.1.2.2.2.1 [] ⟨0, 6, 7, 13⟩ [] (hT.trans rfl) (fun z hz => by cases hz) (by decide) (by decide) (B.1.2.2.2.2.1 _ mw_501) (ca.use (B.2.1.2.2.2.2.2.2.1.1.1 _ (by decide +kernel))) h1 h2 h3 ?_
    refine lv_astore_n (lv' := [(3, .ref q9), (0, .ref qa), (1, .int (iI v)), (2, .int (iI b_))]) hx hb dL_label_7 rfl hl (by decide) rfl (fun ls hl => ?_)
    refine lv_ldc (v := (-2000000001)) hx hb B.1.2.2.2.1 (B.1.2.2.2.2.1 _ mw_593) dL_label_8 ?_
    refine lv_seti (y := iI (-2000000001)) (by decide) ?_
    exact k_iret B hr (Or.inr (⟨cp2_2, tl2_3, z_4, z_5, z_6, rfl, rfl, rfl, rfl⟩)) ⟨(by first | omega | (dsimp only; omega)), (by first | omega | (dsimp only; omega))⟩ ⟨(by first | omega | (dsimp only; omega)), (by first | omega | (dsimp only; omega))⟩ dL_label_10
  · skip
    obtain ⟨cp2_7, tl2_8, z_9, z_10, z_11, rfl, hw9, rfl, rfl⟩ := hp
    rw [hw9] at B; clear hw9
    have B := bd_to (ws' := ([] ++ tl2_8)) rfl B
    have hPS : PS dI k T K qa cp2_7 tl2_8 := z_9
    exact k_iret B hr (Or.inl (⟨cp2_7, tl2_8, z_9, z_10, z_11, rfl, rfl, rfl, rfl⟩)) ⟨(by first | omega | (dsimp only; omega)), (by first | omega | (dsimp only; omega))⟩ ⟨(by first | omega | (dsimp only; omega)), (by first | omega | (dsimp only; omega))⟩ dL_label_6

theorem mw_1818 : (Jvm.Cond.methodLink "GalleyforgeLaw" (128 : Nat) ({ cls := "Galleyforge", name := "contentsAt", desc := "(II)I" } : Jvm.MethodName)) ∈ gt := gt_at 1888 (by decide +kernel) (by decide +kernel)
theorem mw_1819 : (Jvm.Cond.instanceMethod ({ cls := "Galleyforge", name := "contentsAt", desc := "(II)I" } : Jvm.MethodName)) ∈ gt := gt_at 1889 (by decide +kernel) (by decide +kernel)
theorem mw_1820 : (Jvm.Cond.selects "Galleyforge" ({ cls := "Galleyforge", name := "contentsAt", desc := "(II)I" } : Jvm.MethodName) ({ cls := "Galleyforge", name := "contentsAt", desc := "(II)I" } : Jvm.MethodName)) ∈ gt := gt_at 1890 (by decide +kernel) (by decide +kernel)
theorem mw_1821 : (Jvm.Cond.code ({ cls := "Galleyforge", name := "contentsAt", desc := "(II)I" } : Jvm.MethodName) prog_1_method_38_code (5 : Nat) (Option.some Jvm.ClassFile.FieldType.int)) ∈ gt := gt_at 1891 (by decide +kernel) (by decide +kernel)
theorem mV_X11_contentsAt : mV yX11_contentsAt cX11_contentsAt 5 (some .int) 2 := ⟨⟨mw_1821, mw_1, by decide, by decide, by decide +kernel⟩, mw_1819, mw_1820⟩
theorem dL_contents_0 : decode cL_contents 0 = .ok (.aload_n 0, 1) := by decide +kernel
theorem dL_contents_1 : decode cL_contents 1 = .ok (.iload_n 1, 1) := by decide +kernel
theorem dL_contents_2 : decode cL_contents 2 = .ok (.iload_n 2, 1) := by decide +kernel
theorem dL_contents_3 : decode cL_contents 3 = .ok (.invokevirtual 128, 3) := by decide +kernel
theorem dL_contents_6 : decode cL_contents 6 = .ok (.ireturn, 1) := by decide +kernel
theorem dL_contents_7 : decode cL_contents 7 = .ok (.astore_n 3, 1) := by decide +kernel
theorem dL_contents_8 : decode cL_contents 8 = .ok (.ldc 15, 2) := by decide +kernel
theorem dL_contents_10 : decode cL_contents 10 = .ok (.ireturn, 1) := by decide +kernel
set_option maxHeartbeats 4000000 in
set_option maxRecDepth 100000 in
theorem w_contents (l : Launch) (dC : Nat → ClassId) (dI : Nat → Nat → Nat) (k : Nat → ClassId) (hl0 : l.stackTraces = false) (T : Nat → Int → Int → Int → Int) (K : Nat → Int → Int) (qa : Nat) (cp : Nat) (tl : va_W) (v : Int) (ix : Int) (hPS : PS dI k T K qa cp tl) (hQ : OKT T K) (hrv : -2147483648 ≤ v ∧ v < 2147483648) (hrix : -2147483648 ≤ ix ∧ ix < 2147483648) : Kn l dC dI k yL_contents (.codeWith yL_contents cL_contents 4 (some .int) [(0, 6, 7, 13)]) ({ frames := 10, cells := (131072 - cp + 1), slots := (12 * (131072 - cp) + 6), locals := 229 } : Room) [.ref qa, .int (iI v), .int (iI ix)] ([] ++ tl) (fun r w gc gs => (∃ (cp2 : Nat) (tl2 : va_W), (PS dI k T K qa cp2 tl2) ∧ (cp ≤ cp2 ∧ cp2 ≤ 131072) ∧ ((0 ≤ v ∧ v ≤ 1) ∧ haZ T v ix ≠ -1) ∧ r = some (.int (iI (coZ T v ix))) ∧ w = ([] ++ tl2) ∧ gc = (cp2 - cp + 1) ∧ gs = (12 * (cp2 - cp) + 6)) ∨ (∃ (cp2 : Nat) (tl2 : va_W), (PS dI k T K qa cp2 tl2) ∧ (cp ≤ cp2 ∧ cp2 ≤ 131072) ∧ (¬ ((0 ≤ v ∧ v ≤ 1) ∧ haZ T v ix ≠ -1)) ∧ r = some (.int (iI (-2000000001))) ∧ w = ([] ++ tl2) ∧ gc = (cp2 - cp + 1) ∧ gs = (12 * (cp2 - cp) + 6))) := by
  refine kw_of (by decide) (Nat.le_of_ble_eq_true rfl) ?_
  intro p e s m args below meth c H locs B hr hT ls hl
  have hx := B.1.1
  have hb := B.1.2.1
  have hl : lv_has ls 4 [(0, .ref qa), (1, .int (iI v)), (2, .int (iI ix))] := hl
  have hcp9 := PS_cp hPS
  refine lv_aload_n hx hb dL_contents_0 rfl (lv_at hl 0 rfl) ?_
  refine lv_iload_n hx hb dL_contents_1 rfl (lv_at hl 1 rfl) ?_
  refine lv_iload_n hx hb dL_contents_2 rfl (lv_at hl 2 rfl) ?_
  have B := bd_swap (a := []) (b := []) (d := tl) (bd_to rfl B)
  obtain ⟨k_1, hk_1⟩ := pk_at (hs := []) (PS_go hPS).choose_spec
  refine k_Vx (rest := []) (wc := ([] ++ tl)) (wr := []) (a_contentsAt l dC dI k hl0 T K qa cp tl v ix hPS hQ hrv hrix) B mV_X11_contentsAt mw_1818 hl (q0 := k_1) (ci := 11) hk_1 rfl rfl ⟨Nat.le_of_ble_eq_true rfl, Nat.le_of_ble_eq_true rfl⟩ (Nat.le_of_ble_eq_true rfl) rfl dL_contents_3 ⟨by dsimp only; omega, by dsimp only; omega⟩ (fun E ce q9 w gc gs H locs hp B h1 h2 h3 => ?_) (fun r w gc gs H locs hp B => ?_)
  · skip
    obtain ⟨cp2_2, tl2_3, z_4, z_5, z_6, rfl, hw9, rfl, rfl⟩ := hp
    rw [hw9] at B; clear hw9
    have B := bd_to (ws' := ([] ++ tl2_3)) rfl B
    have hPS : PS dI k T K qa cp2_2 tl2_3 := z_4
    refine vx_catch B.1.2.2.2.1 [] ⟨0, 6, 7, 13⟩ [] (hT.trans rfl) (fun z hz => by cases hz) (by decide) (by decide) (B.1.2.2.2.2.1 _ mw_501) (ca.use (B.2.1.2.2.2.2.2.2.1.1.1 _ (by decide +kernel))) h1 h2 h3 ?_
    refine lv_astore_n (lv' := [(3, .ref q9), (0, .ref qa), (1, .int (iI v)), (2, .int (iI ix))]) hx hb dL_contents_7 rfl hl (by decide) rfl (fun ls hl => ?_)
    refine lv_ldc (v := (-2000000001)) hx hb B.1.2.2.2.1 (B.1.2.2.2.2.1 _ mw_593) dL_contents_8 ?_
    refine lv_seti (y := iI (-2000000001)) (by decide) ?_
    exact k_iret B hr (Or.inr (⟨cp2_2, tl2_3, z_4, z_5, z_6, rfl, rfl, rfl, rfl⟩)) ⟨(by first | omega | (dsimp only; omega)), (by first | omega | (dsimp only; omega))⟩ ⟨(by first | omega | (dsimp only; omega)), (by first | omega | (dsimp only; omega))⟩ dL_contents_10
  · skip
    obtain ⟨cp2_7, tl2_8, z_9, z_10, z_11, rfl, hw9, rfl, rfl⟩ := hp
    rw [hw9] at B; clear hw9
    have B := bd_to (ws' := ([] ++ tl2_8)) rfl B
    have hPS : PS dI k T K qa cp2_7 tl2_8 := z_9
    exact k_iret B hr (Or.inl (⟨cp2_7, tl2_8, z_9, z_10, z_11, rfl, rfl, rfl, rfl⟩)) ⟨(by first | omega | (dsimp only; omega)), (by first | omega | (dsimp only; omega))⟩ ⟨(by first | omega | (dsimp only; omega)), (by first | omega | (dsimp only; omega))⟩ dL_contents_6

theorem mw_1830 : (Jvm.Cond.methodLink "GalleyforgeLaw" (131 : Nat) ({ cls := "Galleyforge", name := "indexAt", desc := "(II)I" } : Jvm.MethodName)) ∈ gt := gt_at 1900 (by decide +kernel) (by decide +kernel)
theorem mw_1831 : (Jvm.Cond.instanceMethod ({ cls := "Galleyforge", name := "indexAt", desc := "(II)I" } : Jvm.MethodName)) ∈ gt := gt_at 1901 (by decide +kernel) (by decide +kernel)
theorem mw_1832 : (Jvm.Cond.selects "Galleyforge" ({ cls := "Galleyforge", name := "indexAt", desc := "(II)I" } : Jvm.MethodName) ({ cls := "Galleyforge", name := "indexAt", desc := "(II)I" } : Jvm.MethodName)) ∈ gt := gt_at 1902 (by decide +kernel) (by decide +kernel)
theorem mw_1833 : (Jvm.Cond.code ({ cls := "Galleyforge", name := "indexAt", desc := "(II)I" } : Jvm.MethodName) prog_1_method_39_code (4 : Nat) (Option.some Jvm.ClassFile.FieldType.int)) ∈ gt := gt_at 1903 (by decide +kernel) (by decide +kernel)
theorem mV_X11_indexAt : mV yX11_indexAt cX11_indexAt 4 (some .int) 2 := ⟨⟨mw_1833, mw_1, by decide, by decide, by decide +kernel⟩, mw_1831, mw_1832⟩
theorem dL_term_0 : decode cL_term 0 = .ok (.aload_n 0, 1) := by decide +kernel
theorem dL_term_1 : decode cL_term 1 = .ok (.iload_n 1, 1) := by decide +kernel
theorem dL_term_2 : decode cL_term 2 = .ok (.iload_n 2, 1) := by decide +kernel
theorem dL_term_3 : decode cL_term 3 = .ok (.invokevirtual 131, 3) := by decide +kernel
theorem dL_term_6 : decode cL_term 6 = .ok (.ireturn, 1) := by decide +kernel
theorem dL_term_7 : decode cL_term 7 = .ok (.astore_n 3, 1) := by decide +kernel
theorem dL_term_8 : decode cL_term 8 = .ok (.ldc 15, 2) := by decide +kernel
theorem dL_term_10 : decode cL_term 10 = .ok (.ireturn, 1) := by decide +kernel
set_option maxHeartbeats 4000000 in
set_option maxRecDepth 100000 in
theorem w_term (l : Launch) (dC : Nat → ClassId) (dI : Nat → Nat → Nat) (k : Nat → ClassId) (hl0 : l.stackTraces = false) (T : Nat → Int → Int → Int → Int) (K : Nat → Int → Int) (qa : Nat) (cp : Nat) (tl : va_W) (v : Int) (ix : Int) (hPS : PS dI k T K qa cp tl) (hQ : OKT T K) (hrv : -2147483648 ≤ v ∧ v < 2147483648) (hrix : -2147483648 ≤ ix ∧ ix < 2147483648) : Kn l dC dI k yL_term (.codeWith yL_term cL_term 4 (some .int) [(0, 6, 7, 13)]) ({ frames := 10, cells := (131072 - cp + 1), slots := (12 * (131072 - cp) + 6), locals := 228 } : Room) [.ref qa, .int (iI v), .int (iI ix)] ([] ++ tl) (fun r w gc gs => (∃ (cp2 : Nat) (tl2 : va_W), (PS dI k T K qa cp2 tl2) ∧ (cp ≤ cp2 ∧ cp2 ≤ 131072) ∧ ((0 ≤ v ∧ v ≤ 1) ∧ tmF T (moC T v (dgN T v)) ix 8 0 ≠ -1) ∧ r = some (.int (iI (tmF T (moC T v (dgN T v)) ix 8 0))) ∧ w = ([] ++ tl2) ∧ gc = (cp2 - cp + 1) ∧ gs = (12 * (cp2 - cp) + 6)) ∨ (∃ (cp2 : Nat) (tl2 : va_W), (PS dI k T K qa cp2 tl2) ∧ (cp ≤ cp2 ∧ cp2 ≤ 131072) ∧ (¬ ((0 ≤ v ∧ v ≤ 1) ∧ tmF T (moC T v (dgN T v)) ix 8 0 ≠ -1)) ∧ r = some (.int (iI (-2000000001))) ∧ w = ([] ++ tl2) ∧ gc = (cp2 - cp + 1) ∧ gs = (12 * (cp2 - cp) + 6))) := by
  refine kw_of (by decide) (Nat.le_of_ble_eq_true rfl) ?_
  intro p e s m args below meth c H locs B hr hT ls hl
  have hx := B.1.1
  have hb := B.1.2.1
  have hl : lv_has ls 4 [(0, .ref qa), (1, .int (iI v)), (2, .int (iI ix))] := hl
  have hcp9 := PS_cp hPS
  refine lv_aload_n hx hb dL_term_0 rfl (lv_at hl 0 rfl) ?_
  refine lv_iload_n hx hb dL_term_1 rfl (lv_at hl 1 rfl) ?_
  refine lv_iload_n hx hb dL_term_2 rfl (lv_at hl 2 rfl) ?_
  have B := bd_swap (a := []) (b := []) (d := tl) (bd_to rfl B)
  obtain ⟨k_1, hk_1⟩ := pk_at (hs := []) (PS_go hPS).choose_spec
  refine k_Vx (rest := []) (wc := ([] ++ tl)) (wr := []) (a_indexAt l dC dI k hl0 T K qa cp tl v ix hPS hQ hrv hrix) B mV_X11_indexAt mw_1830 hl (q0 := k_1) (ci := 11) hk_1 rfl rfl ⟨Nat.le_of_ble_eq_true rfl, Nat.le_of_ble_eq_true rfl⟩ (Nat.le_of_ble_eq_true rfl) rfl dL_term_3 ⟨by dsimp only; omega, by dsimp only; omega⟩ (fun E ce q9 w gc gs H locs hp B h1 h2 h3 => ?_) (fun r w gc gs H locs hp B => ?_)
  · skip
    obtain ⟨cp2_2, tl2_3, z_4, z_5, z_6, rfl, hw9, rfl, rfl⟩ := hp
    rw [hw9] at B; clear hw9
    have B := bd_to (ws' := ([] ++ tl2_3)) rfl B
    have hPS : PS dI k T K qa cp2_2 tl2_3 := z_4
    refine vx_catch B.1.2.2.2.1 [] ⟨0, 6, 7, 13⟩ [] (hT.trans rfl) (fun z hz => by cases hz) (by decide) (by decide) (B.1.2.2.2.2.1 _ mw_501) (ca.use (B.2.1.2.2.2.2.2.2.1.1.1 _ (by decide +kernel))) h1 h2 h3 ?_
    refine lv_astore_n (lv' := [(3, .ref q9), (0, .ref qa), (1, .int (iI v)), (2, .int (iI ix))]) hx hb dL_term_7 rfl hl (by decide) rfl (fun ls hl => ?_)
    refine lv_ldc (v := (-2000000001)) hx hb B.1.2.2.2.1 (B.1.2.2.2.2.1 _ mw_593) dL_term_8 ?_
    refine lv_seti (y := iI (-2000000001)) (by decide) ?_
    exact k_iret B hr (Or.inr (⟨cp2_2, tl2_3, z_4, z_5, z_6, rfl, rfl, rfl, rfl⟩)) ⟨(by first | omega | (dsimp only; omega)), (by first | omega | (dsimp only; omega))⟩ ⟨(by first | omega | (dsimp only; omega)), (by first | omega | (dsimp only; omega))⟩ dL_term_10
  · skip
    obtain ⟨cp2_7, tl2_8, z_9, z_10, z_11, rfl, hw9, rfl, rfl⟩ := hp
    rw [hw9] at B; clear hw9
    have B := bd_to (ws' := ([] ++ tl2_8)) rfl B
    have hPS : PS dI k T K qa cp2_7 tl2_8 := z_9
    exact k_iret B hr (Or.inl (⟨cp2_7, tl2_8, z_9, z_10, z_11, rfl, rfl, rfl, rfl⟩)) ⟨(by first | omega | (dsimp only; omega)), (by first | omega | (dsimp only; omega))⟩ ⟨(by first | omega | (dsimp only; omega)), (by first | omega | (dsimp only; omega))⟩ dL_term_6

theorem mw_1846 : (Jvm.Cond.methodLink "GalleyforgeLaw" (134 : Nat) ({ cls := "Galleyforge", name := "range", desc := "(III)I" } : Jvm.MethodName)) ∈ gt := gt_at 1916 (by decide +kernel) (by decide +kernel)
theorem mw_1847 : (Jvm.Cond.instanceMethod ({ cls := "Galleyforge", name := "range", desc := "(III)I" } : Jvm.MethodName)) ∈ gt := gt_at 1917 (by decide +kernel) (by decide +kernel)
theorem mw_1848 : (Jvm.Cond.selects "Galleyforge" ({ cls := "Galleyforge", name := "range", desc := "(III)I" } : Jvm.MethodName) ({ cls := "Galleyforge", name := "range", desc := "(III)I" } : Jvm.MethodName)) ∈ gt := gt_at 1918 (by decide +kernel) (by decide +kernel)
theorem mw_1849 : (Jvm.Cond.code ({ cls := "Galleyforge", name := "range", desc := "(III)I" } : Jvm.MethodName) prog_1_method_40_code (5 : Nat) (Option.some Jvm.ClassFile.FieldType.int)) ∈ gt := gt_at 1919 (by decide +kernel) (by decide +kernel)
theorem mV_X11_range : mV yX11_range cX11_range 5 (some .int) 3 := ⟨⟨mw_1849, mw_1, by decide, by decide, by decide +kernel⟩, mw_1847, mw_1848⟩
theorem dL_range_0 : decode cL_range 0 = .ok (.aload_n 0, 1) := by decide +kernel
theorem dL_range_1 : decode cL_range 1 = .ok (.iload_n 1, 1) := by decide +kernel
theorem dL_range_2 : decode cL_range 2 = .ok (.iload_n 2, 1) := by decide +kernel
theorem dL_range_3 : decode cL_range 3 = .ok (.iload_n 3, 1) := by decide +kernel
theorem dL_range_4 : decode cL_range 4 = .ok (.invokevirtual 134, 3) := by decide +kernel
theorem dL_range_7 : decode cL_range 7 = .ok (.ireturn, 1) := by decide +kernel
theorem dL_range_8 : decode cL_range 8 = .ok (.astore 4, 2) := by decide +kernel
theorem dL_range_10 : decode cL_range 10 = .ok (.ldc 15, 2) := by decide +kernel
theorem dL_range_12 : decode cL_range 12 = .ok (.ireturn, 1) := by decide +kernel
set_option maxHeartbeats 4000000 in
set_option maxRecDepth 100000 in
theorem w_range (l : Launch) (dC : Nat → ClassId) (dI : Nat → Nat → Nat) (k : Nat → ClassId) (hl0 : l.stackTraces = false) (T : Nat → Int → Int → Int → Int) (K : Nat → Int → Int) (qa : Nat) (cp : Nat) (tl : va_W) (v : Int) (t : Int) (ix : Int) (hPS : PS dI k T K qa cp tl) (hQ : OKT T K) (hrv : -2147483648 ≤ v ∧ v < 2147483648) (hrt : -2147483648 ≤ t ∧ t < 2147483648) (hrix : -2147483648 ≤ ix ∧ ix < 2147483648) : Kn l dC dI k yL_range (.codeWith yL_range cL_range 5 (some .int) [(0, 7, 8, 13)]) ({ frames := 10, cells := (131072 - cp + 1), slots := (12 * (131072 - cp) + 6), locals := 229 } : Room) [.ref qa, .int (iI v), .int (iI t), .int (iI ix)] ([] ++ tl) (fun r w gc gs => (∃ (cp2 : Nat) (tl2 : va_W), (PS dI k T K qa cp2 tl2) ∧ (cp ≤ cp2 ∧ cp2 ≤ 131072) ∧ ((0 ≤ v ∧ v ≤ 1) ∧ (0 ≤ t ∧ t ≤ 7) ∧ rgZ (fpZ T (moC T v (dgN T v)) (mkZ T (moC T v (dgN T v))) t) ix ((mkZ T (moC T v (dgN T v))) 0 0) ≠ -1) ∧ r = some (.int (iI (rgZ (fpZ T (moC T v (dgN T v)) (mkZ T (moC T v (dgN T v))) t) ix ((mkZ T (moC T v (dgN T v))) 0 0)))) ∧ w = ([] ++ tl2) ∧ gc = (cp2 - cp + 1) ∧ gs = (12 * (cp2 - cp) + 6)) ∨ (∃ (cp2 : Nat) (tl2 : va_W), (PS dI k T K qa cp2 tl2) ∧ (cp ≤ cp2 ∧ cp2 ≤ 131072) ∧ (¬ ((0 ≤ v ∧ v ≤ 1) ∧ (0 ≤ t ∧ t ≤ 7) ∧ rgZ (fpZ T (moC T v (dgN T v)) (mkZ T (moC T v (dgN T v))) t) ix ((mkZ T (moC T v (dgN T v))) 0 0) ≠ -1)) ∧ r = some (.int (iI (-2000000001))) ∧ w = ([] ++ tl2) ∧ gc = (cp2 - cp + 1) ∧ gs = (12 * (cp2 - cp) + 6))) := by
  refine kw_of (by decide) (Nat.le_of_ble_eq_true rfl) ?_
  intro p e s m args below meth c H locs B hr hT ls hl
  have hx := B.1.1
  have hb := B.1.2.1
  have hl : lv_has ls 5 [(0, .ref qa), (1, .int (iI v)), (2, .int (iI t)), (3, .int (iI ix))] := hl
  have hcp9 := PS_cp hPS
  refine lv_aload_n hx hb dL_range_0 rfl (lv_at hl 0 rfl) ?_
  refine lv_iload_n hx hb dL_range_1 rfl (lv_at hl 1 rfl) ?_
  refine lv_iload_n hx hb dL_range_2 rfl (lv_at hl 2 rfl) ?_
  refine lv_iload_n hx hb dL_range_3 rfl (lv_at hl 3 rfl) ?_
  have B := bd_swap (a := []) (b := []) (d := tl) (bd_to rfl B)
  obtain ⟨k_1, hk_1⟩ := pk_at (hs := []) (PS_go hPS).choose_spec
  refine k_Vx (rest := []) (wc := ([] ++ tl)) (wr := []) (a_range l dC dI k hl0 T K qa cp tl v t ix hPS hQ hrv hrt hrix) B mV_X11_range mw_1846 hl (q0 := k_1) (ci := 11) hk_1 rfl rfl ⟨Nat.le_of_ble_eq_true rfl, Nat.le_of_ble_eq_true rfl⟩ (Nat.le_of_ble_eq_true rfl) rfl dL_range_4 ⟨by dsimp only; omega, by dsimp only; omega⟩ (fun E ce q9 w gc gs H locs hp B h1 h2 h3 => ?_) (fun r w gc gs H locs hp B => ?_)
  · skip
    obtain ⟨cp2_2, tl2_3, z_4, z_5, z_6, rfl, hw9, rfl, rfl⟩ := hp
    rw [hw9] at B; clear hw9
    have B := bd_to (ws' := ([] ++ tl2_3)) rfl B
    have hPS : PS dI k T K qa cp2_2 tl2_3 := z_4
    refine vx_catch B.1.2.2.2.1 [] ⟨0, 7, 8, 13⟩ [] (hT.trans rfl) (fun z hz => by cases hz) (by decide) (by decide) (B.1.2.2.2.2.1 _ mw_501) (ca.use (B.2.1.2.2.2.2.2.2.1.1.1 _ (by decide +kernel))) h1 h2 h3 ?_
    refine lv_astore (lv' := [(4, .ref q9), (0, .ref qa), (1, .int (iI v)), (2, .int (iI t)), (3, .int (iI ix))]) hx hb dL_range_8 hl (by decide) rfl (fun ls hl => ?_)
    refine lv_ldc (v := (-2000000001)) hx hb B.1.2.2.2.1 (B.1.2.2.2.2.1 _ mw_593) dL_range_10 ?_
    refine lv_seti (y := iI (-2000000001)) (by decide) ?_
    exact k_iret B hr (Or.inr (⟨cp2_2, tl2_3, z_4, z_5, z_6, rfl, rfl, rfl, rfl⟩)) ⟨(by first | omega | (dsimp only; omega)), (by first | omega | (dsimp only; omega))⟩ ⟨(by first | omega | (dsimp only; omega)), (by first | omega | (dsimp only; omega))⟩ dL_range_12
  · skip
    obtain ⟨cp2_7, tl2_8, z_9, z_10, z_11, rfl, hw9, rfl, rfl⟩ := hp
    rw [hw9] at B; clear hw9
    have B := bd_to (ws' := ([] ++ tl2_8)) rfl B
    have hPS : PS dI k T K qa cp2_7 tl2_8 := z_9
    exact k_iret B hr (Or.inl (⟨cp2_7, tl2_8, z_9, z_10, z_11, rfl, rfl, rfl, rfl⟩)) ⟨(by first | omega | (dsimp only; omega)), (by first | omega | (dsimp only; omega))⟩ ⟨(by first | omega | (dsimp only; omega)), (by first | omega | (dsimp only; omega))⟩ dL_range_7

theorem mw_1752 : (Jvm.Cond.methodLink "GalleyforgeLaw" (106 : Nat) ({ cls := "Galleyforge", name := "isSettled", desc := "(I)Z" } : Jvm.MethodName)) ∈ gt := gt_at 1822 (by decide +kernel) (by decide +kernel)
theorem mw_1753 : (Jvm.Cond.instanceMethod ({ cls := "Galleyforge", name := "isSettled", desc := "(I)Z" } : Jvm.MethodName)) ∈ gt := gt_at 1823 (by decide +kernel) (by decide +kernel)
theorem mw_1754 : (Jvm.Cond.selects "Galleyforge" ({ cls := "Galleyforge", name := "isSettled", desc := "(I)Z" } : Jvm.MethodName) ({ cls := "Galleyforge", name := "isSettled", desc := "(I)Z" } : Jvm.MethodName)) ∈ gt := gt_at 1824 (by decide +kernel) (by decide +kernel)
theorem mw_1755 : (Jvm.Cond.code ({ cls := "Galleyforge", name := "isSettled", desc := "(I)Z" } : Jvm.MethodName) prog_1_method_31_code (2 : Nat) (Option.some Jvm.ClassFile.FieldType.boolean)) ∈ gt := gt_at 1825 (by decide +kernel) (by decide +kernel)
theorem mV_X11_isSettled : mV yX11_isSettled cX11_isSettled 2 (some .boolean) 1 := ⟨⟨mw_1755, mw_1, by decide, by decide, by decide +kernel⟩, mw_1753, mw_1754⟩
theorem dL_settled_0 : decode cL_settled 0 = .ok (.aload_n 0, 1) := by decide +kernel
theorem dL_settled_1 : decode cL_settled 1 = .ok (.iload_n 1, 1) := by decide +kernel
theorem dL_settled_2 : decode cL_settled 2 = .ok (.invokevirtual 106, 3) := by decide +kernel
theorem dL_settled_5 : decode cL_settled 5 = .ok (.ifCond .eq 7, 3) := by decide +kernel
theorem dL_settled_8 : decode cL_settled 8 = .ok (.iconst 1, 1) := by decide +kernel
theorem dL_settled_9 : decode cL_settled 9 = .ok (.goto 4, 3) := by decide +kernel
theorem dL_settled_12 : decode cL_settled 12 = .ok (.iconst 0, 1) := by decide +kernel
theorem dL_settled_13 : decode cL_settled 13 = .ok (.ireturn, 1) := by decide +kernel
theorem dL_settled_14 : decode cL_settled 14 = .ok (.astore_n 2, 1) := by decide +kernel
theorem dL_settled_15 : decode cL_settled 15 = .ok (.ldc 15, 2) := by decide +kernel
theorem dL_settled_17 : decode cL_settled 17 = .ok (.ireturn, 1) := by decide +kernel
set_option maxHeartbeats 4000000 in
set_option maxRecDepth 100000 in
theorem w_settled (l : Launch) (dC : Nat → ClassId) (dI : Nat → Nat → Nat) (k : Nat → ClassId) (hl0 : l.stackTraces = false) (T : Nat → Int → Int → Int → Int) (K : Nat → Int → Int) (qa : Nat) (cp : Nat) (tl : va_W) (v : Int) (hPS : PS dI k T K qa cp tl) (hQ : OKT T K) (hrv : -2147483648 ≤ v ∧ v < 2147483648) : Kn l dC dI k yL_settled (.codeWith yL_settled cL_settled 3 (some .int) [(0, 13, 14, 13)]) ({ frames := 10, cells := (131072 - cp + 1), slots := (12 * (131072 - cp) + 6), locals := 226 } : Room) [.ref qa, .int (iI v)] ([] ++ tl) (fun r w gc gs => (∃ (cp2 : Nat) (tl2 : va_W), (PS dI k T K qa cp2 tl2) ∧ (cp ≤ cp2 ∧ cp2 ≤ 131072) ∧ ((0 ≤ v ∧ v ≤ 1)) ∧ r = some (.int (iI (stN T v))) ∧ w = ([] ++ tl2) ∧ gc = (cp2 - cp + 1) ∧ gs = (12 * (cp2 - cp) + 6)) ∨ (∃ (cp2 : Nat) (tl2 : va_W), (PS dI k T K qa cp2 tl2) ∧ (cp ≤ cp2 ∧ cp2 ≤ 131072) ∧ (¬ ((0 ≤ v ∧ v ≤ 1))) ∧ r = some (.int (iI (-2000000001))) ∧ w = ([] ++ tl2) ∧ gc = (cp2 - cp + 1) ∧ gs = (12 * (cp2 - cp) + 6))) := by
  refine kw_of (by decide) (Nat.le_of_ble_eq_true rfl) ?_
  intro p e s m args below meth c H locs B hr hT ls hl
  have hx := B.1.1
  have hb := B.1.2.1
  have hl : lv_has ls 3 [(0, .ref qa), (1, .int (iI v))] := hl
  have hcp9 := PS_cp hPS
  have hst9 := stN_in (T := T) (v := v)
  refine lv_aload_n hx hb dL_settled_0 rfl (lv_at hl 0 rfl) ?_
  refine lv_iload_n hx hb dL_settled_1 rfl (lv_at hl 1 rfl) ?_
  have B := bd_swap (a := []) (b := []) (d := tl) (bd_to rfl B)
  obtain ⟨k_1, hk_1⟩ := pk_at (hs := []) (PS_go hPS).choose_spec
  refine k_Vx (rest := []) (wc := ([] ++ tl)) (wr := []) (a_isSettled l dC dI k hl0 T K qa cp tl v hPS hQ hrv) B mV_X11_isSettled mw_1752 hl (q0 := k_1) (ci := 11) hk_1 rfl rfl ⟨Nat.le_of_ble_eq_true rfl, Nat.le_of_ble_eq_true rfl⟩ (Nat.le_of_ble_eq_true rfl) rfl dL_settled_2 ⟨by dsimp only; omega, by dsimp only; omega⟩ (fun E ce q9 w gc gs H locs hp B h1 h2 h3 => ?_) (fun r w gc gs H locs hp B => ?_)
  · skip
    obtain ⟨cp2_2, tl2_3, z_4, z_5, z_6, rfl, hw9, rfl, rfl⟩ := hp
    rw [hw9] at B; clear hw9
    have B := bd_to (ws' := ([] ++ tl2_3)) rfl B
    have hPS : PS dI k T K qa cp2_2 tl2_3 := z_4
    refine vx_catch B.1.2.2.2.1 [] ⟨0, 13, 14, 13⟩ [] (hT.trans rfl) (fun z hz => by cases hz) (by decide) (by decide) (B.1.2.2.2.2.1 _ mw_501) (ca.use (B.2.1.2.2.2.2.2.2.1.1.1 _ (by decide +kernel))) h1 h2 h3 ?_
    refine lv_astore_n (lv' := [(2, .ref q9), (0, .ref qa), (1, .int (iI v))]) hx hb dL_settled_14 rfl hl (by decide) rfl (fun ls hl => ?_)
    refine lv_ldc (v := (-2000000001)) hx hb B.1.2.2.2.1 (B.1.2.2.2.2.1 _ mw_593) dL_settled_15 ?_
    refine lv_seti (y := iI (-2000000001)) (by decide) ?_
    exact k_iret B hr (Or.inr (⟨cp2_2, tl2_3, z_4, z_5, z_6, rfl, rfl, rfl, rfl⟩)) ⟨(by first | omega | (dsimp only; omega)), (by first | omega | (dsimp only; omega))⟩ ⟨(by first | omega | (dsimp only; omega)), (by first | omega | (dsimp only; omega))⟩ dL_settled_17
  · skip
    obtain ⟨cp2_7, tl2_8, z_9, z_10, z_11, rfl, hw9, rfl, rfl⟩ := hp
    rw [hw9] at B; clear hw9
    have B := bd_to (ws' := ([] ++ tl2_8)) rfl B
    have hPS : PS dI k T K qa cp2_7 tl2_8 := z_9
    refine lv_if_eq (tgt := 12) hx hb dL_settled_5 (by decide) (fun c_12 => ?_) (fun c_12 => ?_)
    · have zc_12 : (stN T v) = 0 := jeq (a := (stN T v)) (b := 0) (by omega) (by omega) c_12
      refine lv_iconst (v := iI 0) hx hb dL_settled_12 (by decide) ?_
      have e_13 : (stN T v) = 0 := (by first | rfl | omega)
      skip
      exact k_iret B hr (Or.inl (⟨cp2_7, tl2_8, z_9, z_10, z_11, (by rw [e_13]), rfl, rfl, rfl⟩)) ⟨(by first | omega | (dsimp only; omega)), (by first | omega | (dsimp only; omega))⟩ ⟨(by first | omega | (dsimp only; omega)), (by first | omega | (dsimp only; omega))⟩ dL_settled_13
    · have zc_12 : (stN T v) ≠ 0 := jne (a := (stN T v)) (b := 0) (by omega) (by omega) c_12
      refine lv_iconst (v := iI 1) hx hb dL_settled_8 (by decide) ?_
      refine lv_goto (tgt := 13) hx hb dL_settled_9 (by decide) ?_
      have e_14 : (stN T v) = 1 := (by first | rfl | omega)
      skip
      exact k_iret B hr (Or.inl (⟨cp2_7, tl2_8, z_9, z_10, z_11, (by rw [e_14]), rfl, rfl, rfl⟩)) ⟨(by first | omega | (dsimp only; omega)), (by first | omega | (dsimp only; omega))⟩ ⟨(by first | omega | (dsimp only; omega)), (by first | omega | (dsimp only; omega))⟩ dL_settled_13

end
