section
/-- how many bits a set of five has -/
def bcZ (x : Int) : Int := x % 2 + x / 2 % 2 + x / 4 % 2 + x / 8 % 2 + x / 16 % 2
theorem bcZ_in (x : Int) : 0 ≤ bcZ x ∧ bcZ x ≤ 5 := by unfold bcZ; omega

theorem mw_1606 : (Jvm.Cond.constant "java/lang/Integer" (265 : Nat) (1431655765 : Int32)) ∈ gt := gt_at 1676 (by decide +kernel) (by decide +kernel)
theorem mw_1607 : (Jvm.Cond.constant "java/lang/Integer" (266 : Nat) (858993459 : Int32)) ∈ gt := gt_at 1677 (by decide +kernel) (by decide +kernel)
theorem mw_1608 : (Jvm.Cond.constant "java/lang/Integer" (267 : Nat) (252645135 : Int32)) ∈ gt := gt_at 1678 (by decide +kernel) (by decide +kernel)
theorem dJ6_bitCount_0f7a4_0 : decode cJ6_bitCount_0f7a4 0 = .ok (.iload_n 0, 1) := by decide +kernel
theorem dJ6_bitCount_0f7a4_1 : decode cJ6_bitCount_0f7a4 1 = .ok (.iload_n 0, 1) := by decide +kernel
theorem dJ6_bitCount_0f7a4_2 : decode cJ6_bitCount_0f7a4 2 = .ok (.iconst 1, 1) := by decide +kernel
theorem dJ6_bitCount_0f7a4_3 : decode cJ6_bitCount_0f7a4 3 = .ok (.iushr, 1) := by decide +kernel
theorem dJ6_bitCount_0f7a4_4 : decode cJ6_bitCount_0f7a4 4 = .ok (.ldc_w 265, 3) := by decide +kernel
theorem dJ6_bitCount_0f7a4_7 : decode cJ6_bitCount_0f7a4 7 = .ok (.iand, 1) := by decide +kernel
theorem dJ6_bitCount_0f7a4_8 : decode cJ6_bitCount_0f7a4 8 = .ok (.isub, 1) := by decide +kernel
theorem dJ6_bitCount_0f7a4_9 : decode cJ6_bitCount_0f7a4 9 = .ok (.istore_n 0, 1) := by decide +kernel
theorem dJ6_bitCount_0f7a4_10 : decode cJ6_bitCount_0f7a4 10 = .ok (.iload_n 0, 1) := by decide +kernel
theorem dJ6_bitCount_0f7a4_11 : decode cJ6_bitCount_0f7a4 11 = .ok (.ldc_w 266, 3) := by decide +kernel
theorem dJ6_bitCount_0f7a4_14 : decode cJ6_bitCount_0f7a4 14 = .ok (.iand, 1) := by decide +kernel
theorem dJ6_bitCount_0f7a4_15 : decode cJ6_bitCount_0f7a4 15 = .ok (.iload_n 0, 1) := by decide +kernel
theorem dJ6_bitCount_0f7a4_16 : decode cJ6_bitCount_0f7a4 16 = .ok (.iconst 2, 1) := by decide +kernel
theorem dJ6_bitCount_0f7a4_17 : decode cJ6_bitCount_0f7a4 17 = .ok (.iushr, 1) := by decide +kernel
theorem dJ6_bitCount_0f7a4_18 : decode cJ6_bitCount_0f7a4 18 = .ok (.ldc_w 266, 3) := by decide +kernel
theorem dJ6_bitCount_0f7a4_21 : decode cJ6_bitCount_0f7a4 21 = .ok (.iand, 1) := by decide +kernel
theorem dJ6_bitCount_0f7a4_22 : decode cJ6_bitCount_0f7a4 22 = .ok (.iadd, 1) := by decide +kernel
theorem dJ6_bitCount_0f7a4_23 : decode cJ6_bitCount_0f7a4 23 = .ok (.istore_n 0, 1) := by decide +kernel
theorem dJ6_bitCount_0f7a4_24 : decode cJ6_bitCount_0f7a4 24 = .ok (.iload_n 0, 1) := by decide +kernel
theorem dJ6_bitCount_0f7a4_25 : decode cJ6_bitCount_0f7a4 25 = .ok (.iload_n 0, 1) := by decide +kernel
theorem dJ6_bitCount_0f7a4_26 : decode cJ6_bitCount_0f7a4 26 = .ok (.iconst 4, 1) := by decide +kernel
theorem dJ6_bitCount_0f7a4_27 : decode cJ6_bitCount_0f7a4 27 = .ok (.iushr, 1) := by decide +kernel
theorem dJ6_bitCount_0f7a4_28 : decode cJ6_bitCount_0f7a4 28 = .ok (.iadd, 1) := by decide +kernel
theorem dJ6_bitCount_0f7a4_29 : decode cJ6_bitCount_0f7a4 29 = .ok (.ldc_w 267, 3) := by decide +kernel
theorem dJ6_bitCount_0f7a4_32 : decode cJ6_bitCount_0f7a4 32 = .ok (.iand, 1) := by decide +kernel
theorem dJ6_bitCount_0f7a4_33 : decode cJ6_bitCount_0f7a4 33 = .ok (.istore_n 0, 1) := by decide +kernel
theorem dJ6_bitCount_0f7a4_34 : decode cJ6_bitCount_0f7a4 34 = .ok (.iload_n 0, 1) := by decide +kernel
theorem dJ6_bitCount_0f7a4_35 : decode cJ6_bitCount_0f7a4 35 = .ok (.iload_n 0, 1) := by decide +kernel
theorem dJ6_bitCount_0f7a4_36 : decode cJ6_bitCount_0f7a4 36 = .ok (.bipush 8, 2) := by decide +kernel
theorem dJ6_bitCount_0f7a4_38 : decode cJ6_bitCount_0f7a4 38 = .ok (.iushr, 1) := by decide +kernel
theorem dJ6_bitCount_0f7a4_39 : decode cJ6_bitCount_0f7a4 39 = .ok (.iadd, 1) := by decide +kernel
theorem dJ6_bitCount_0f7a4_40 : decode cJ6_bitCount_0f7a4 40 = .ok (.istore_n 0, 1) := by decide +kernel
theorem dJ6_bitCount_0f7a4_41 : decode cJ6_bitCount_0f7a4 41 = .ok (.iload_n 0, 1) := by decide +kernel
theorem dJ6_bitCount_0f7a4_42 : decode cJ6_bitCount_0f7a4 42 = .ok (.iload_n 0, 1) := by decide +kernel
theorem dJ6_bitCount_0f7a4_43 : decode cJ6_bitCount_0f7a4 43 = .ok (.bipush 16, 2) := by decide +kernel
theorem dJ6_bitCount_0f7a4_45 : decode cJ6_bitCount_0f7a4 45 = .ok (.iushr, 1) := by decide +kernel
theorem dJ6_bitCount_0f7a4_46 : decode cJ6_bitCount_0f7a4 46 = .ok (.iadd, 1) := by decide +kernel
theorem dJ6_bitCount_0f7a4_47 : decode cJ6_bitCount_0f7a4 47 = .ok (.istore_n 0, 1) := by decide +kernel
theorem dJ6_bitCount_0f7a4_48 : decode cJ6_bitCount_0f7a4 48 = .ok (.iload_n 0, 1) := by decide +kernel
theorem dJ6_bitCount_0f7a4_49 : decode cJ6_bitCount_0f7a4 49 = .ok (.bipush 63, 2) := by decide +kernel
theorem dJ6_bitCount_0f7a4_51 : decode cJ6_bitCount_0f7a4 51 = .ok (.iand, 1) := by decide +kernel
theorem dJ6_bitCount_0f7a4_52 : decode cJ6_bitCount_0f7a4 52 = .ok (.ireturn, 1) := by decide +kernel
set_option maxHeartbeats 4000000 in
set_option maxRecDepth 100000 in
theorem k_bc0 (l : Launch) (dC : Nat → ClassId) (dI : Nat → Nat → Nat) (k : Nat → ClassId) : Kn l dC dI k yJ6_bitCount_0f7a4 (.code yJ6_bitCount_0f7a4 cJ6_bitCount_0f7a4 1 (some .int)) ({ frames := 0, cells := 0, slots := 0, locals := 0 } : Room) [.int (iI 0)] [] (fun r w gc gs => (r = some (.int (iI (bcZ 0))) ∧ w = [] ∧ gc = 0 ∧ gs = 0)) := by
  refine kn_of (by decide) (Nat.le_of_ble_eq_true rfl) ?_
  intro p e s m args below meth c H locs B hr hnm ls hl
  have hx := B.1.1
  have hb := B.1.2.1
  have hl : lv_has ls 1 [(0, .int (iI 0))] := hl
  refine lv_iload_n hx hb dJ6_bitCount_0f7a4_0 rfl (lv_at hl 0 rfl) ?_
  refine lv_iload_n hx hb dJ6_bitCount_0f7a4_1 rfl (lv_at hl 0 rfl) ?_
  refine lv_iconst (v := iI 1) hx hb dJ6_bitCount_0f7a4_2 (by decide) ?_
  refine lv_iushr (v := iI 0) hx hb dJ6_bitCount_0f7a4_3 (by decide) ?_
  refine lv_ldcw (v := 1431655765) hx hb B.1.2.2.2.1 (B.1.2.2.2.2.1 _ mw_1606) dJ6_bitCount_0f7a4_4 ?_
  refine lv_seti (y := iI 1431655765) (by decide) ?_
  refine lv_iand hx hb dJ6_bitCount_0f7a4_7 ?_
  refine lv_seti (y := iI 0) (by decide) ?_
  refine lv_isub hx hb dJ6_bitCount_0f7a4_8 ?_
  refine lv_seti (y := iI 0) (by decide) ?_
  refine lv_istore_n (lv' := [(0, .int (iI 0))]) hx hb dJ6_bitCount_0f7a4_9 rfl hl (by decide) rfl (fun ls hl => ?_)
  refine lv_iload_n hx hb dJ6_bitCount_0f7a4_10 rfl (lv_at hl 0 rfl) ?_
  refine lv_ldcw (v := 858993459) hx hb B.1.2.2.2.1 (B.1.2.2.2.2.1 _ mw_1607) dJ6_bitCount_0f7a4_11 ?_
  refine lv_seti (y := iI 858993459) (by decide) ?_
  refine lv_iand hx hb dJ6_bitCount_0f7a4_14 ?_
  refine lv_seti (y := iI 0) (by decide) ?_
  refine lv_iload_n hx hb dJ6_bitCount_0f7a4_15 rfl (lv_at hl 0 rfl) ?_
  refine lv_iconst (v := iI 2) hx hb dJ6_bitCount_0f7a4_16 (by decide) ?_
  refine lv_iushr (v := iI 0) hx hb dJ6_bitCount_0f7a4_17 (by decide) ?_
  refine lv_ldcw (v := 858993459) hx hb B.1.2.2.2.1 (B.1.2.2.2.2.1 _ mw_1607) dJ6_bitCount_0f7a4_18 ?_
  refine lv_seti (y := iI 858993459) (by decide) ?_
  refine lv_iand hx hb dJ6_bitCount_0f7a4_21 ?_
  refine lv_seti (y := iI 0) (by decide) ?_
  refine lv_iadd hx hb dJ6_bitCount_0f7a4_22 ?_
  refine lv_seti (y := iI 0) (by decide) ?_
  refine lv_istore_n (lv' := [(0, .int (iI 0))]) hx hb dJ6_bitCount_0f7a4_23 rfl hl (by decide) rfl (fun ls hl => ?_)
  refine lv_iload_n hx hb dJ6_bitCount_0f7a4_24 rfl (lv_at hl 0 rfl) ?_
  refine lv_iload_n hx hb dJ6_bitCount_0f7a4_25 rfl (lv_at hl 0 rfl) ?_
  refine lv_iconst (v := iI 4) hx hb dJ6_bitCount_0f7a4_26 (by decide) ?_
  refine lv_iushr (v := iI 0) hx hb dJ6_bitCount_0f7a4_27 (by decide) ?_
  refine lv_iadd hx hb dJ6_bitCount_0f7a4_28 ?_
  refine lv_seti (y := iI 0) (by decide) ?_
  refine lv_ldcw (v := 252645135) hx hb B.1.2.2.2.1 (B.1.2.2.2.2.1 _ mw_1608) dJ6_bitCount_0f7a4_29 ?_
  refine lv_seti (y := iI 252645135) (by decide) ?_
  refine lv_iand hx hb dJ6_bitCount_0f7a4_32 ?_
  refine lv_seti (y := iI 0) (by decide) ?_
  refine lv_istore_n (lv' := [(0, .int (iI 0))]) hx hb dJ6_bitCount_0f7a4_33 rfl hl (by decide) rfl (fun ls hl => ?_)
  refine lv_iload_n hx hb dJ6_bitCount_0f7a4_34 rfl (lv_at hl 0 rfl) ?_
  refine lv_iload_n hx hb dJ6_bitCount_0f7a4_35 rfl (lv_at hl 0 rfl) ?_
  refine lv_bipush (v := iI 8) hx hb dJ6_bitCount_0f7a4_36 (by decide) ?_
  refine lv_iushr (v := iI 0) hx hb dJ6_bitCount_0f7a4_38 (by decide) ?_
  refine lv_iadd hx hb dJ6_bitCount_0f7a4_39 ?_
  refine lv_seti (y := iI 0) (by decide) ?_
  refine lv_istore_n (lv' := [(0, .int (iI 0))]) hx hb dJ6_bitCount_0f7a4_40 rfl hl (by decide) rfl (fun ls hl => ?_)
  refine lv_iload_n hx hb dJ6_bitCount_0f7a4_41 rfl (lv_at hl 0 rfl) ?_
  refine lv_iload_n hx hb dJ6_bitCount_0f7a4_42 rfl (lv_at hl 0 rfl) ?_
  refine lv_bipush (v := iI 16) hx hb dJ6_bitCount_0f7a4_43 (by decide) ?_
  refine lv_iushr (v := iI 0) hx hb dJ6_bitCount_0f7a4_45 (by decide) ?_
  refine lv_iadd hx hb dJ6_bitCount_0f7a4_46 ?_
  refine lv_seti (y := iI 0) (by decide) ?_
  refine lv_istore_n (lv' := [(0, .int (iI 0))]) hx hb dJ6_bitCount_0f7a4_47 rfl hl (by decide) rfl (fun ls hl => ?_)
  refine lv_iload_n hx hb dJ6_bitCount_0f7a4_48 rfl (lv_at hl 0 rfl) ?_
  refine lv_bipush (v := iI 63) hx hb dJ6_bitCount_0f7a4_49 (by decide) ?_
  refine lv_iand hx hb dJ6_bitCount_0f7a4_51 ?_
  refine lv_seti (y := iI 0) (by decide) ?_
  have e_1 : (bcZ 0) = 0 := (by decide)
  skip
  exact k_iret B hr (⟨(by rw [e_1]), rfl, rfl, rfl⟩) ⟨Nat.le_of_ble_eq_true rfl, Nat.le_of_ble_eq_true rfl⟩ ⟨Nat.le_of_ble_eq_true rfl, Nat.le_of_ble_eq_true rfl⟩ dJ6_bitCount_0f7a4_52

set_option maxHeartbeats 4000000 in
set_option maxRecDepth 100000 in
theorem k_bc1 (l : Launch) (dC : Nat → ClassId) (dI : Nat → Nat → Nat) (k : Nat → ClassId) : Kn l dC dI k yJ6_bitCount_0f7a4 (.code yJ6_bitCount_0f7a4 cJ6_bitCount_0f7a4 1 (some .int)) ({ frames := 0, cells := 0, slots := 0, locals := 0 } : Room) [.int (iI 1)] [] (fun r w gc gs => (r = some (.int (iI (bcZ 1))) ∧ w = [] ∧ gc = 0 ∧ gs = 0)) := by
  refine kn_of (by decide) (Nat.le_of_ble_eq_true rfl) ?_
  intro p e s m args below meth c H locs B hr hnm ls hl
  have hx := B.1.1
  have hb := B.1.2.1
  have hl : lv_has ls 1 [(0, .int (iI 1))] := hl
  refine lv_iload_n hx hb dJ6_bitCount_0f7a4_0 rfl (lv_at hl 0 rfl) ?_
  refine lv_iload_n hx hb dJ6_bitCount_0f7a4_1 rfl (lv_at hl 0 rfl) ?_
  refine lv_iconst (v := iI 1) hx hb dJ6_bitCount_0f7a4_2 (by decide) ?_
  refine lv_iushr (v := iI 0) hx hb dJ6_bitCount_0f7a4_3 (by decide) ?_
  refine lv_ldcw (v := 1431655765) hx hb B.1.2.2.2.1 (B.1.2.2.2.2.1 _ mw_1606) dJ6_bitCount_0f7a4_4 ?_
  refine lv_seti (y := iI 1431655765) (by decide) ?_
  refine lv_iand hx hb dJ6_bitCount_0f7a4_7 ?_
  refine lv_seti (y := iI 0) (by decide) ?_
  refine lv_isub hx hb dJ6_bitCount_0f7a4_8 ?_
  refine lv_seti (y := iI 1) (by decide) ?_
  refine lv_istore_n (lv' := [(0, .int (iI 1))]) hx hb dJ6_bitCount_0f7a4_9 rfl hl (by decide) rfl (fun ls hl => ?_)
  refine lv_iload_n hx hb dJ6_bitCount_0f7a4_10 rfl (lv_at hl 0 rfl) ?_
  refine lv_ldcw (v := 858993459) hx hb B.1.2.2.2.1 (B.1.2.2.2.2.1 _ mw_1607) dJ6_bitCount_0f7a4_11 ?_
  refine lv_seti (y := iI 858993459) (by decide) ?_
  refine lv_iand hx hb dJ6_bitCount_0f7a4_14 ?_
  refine lv_seti (y := iI 1) (by decide) ?_
  refine lv_iload_n hx hb dJ6_bitCount_0f7a4_15 rfl (lv_at hl 0 rfl) ?_
  refine lv_iconst (v := iI 2) hx hb dJ6_bitCount_0f7a4_16 (by decide) ?_
  refine lv_iushr (v := iI 0) hx hb dJ6_bitCount_0f7a4_17 (by decide) ?_
  refine lv_ldcw (v := 858993459) hx hb B.1.2.2.2.1 (B.1.2.2.2.2.1 _ mw_1607) dJ6_bitCount_0f7a4_18 ?_
  refine lv_seti (y := iI 858993459) (by decide) ?_
  refine lv_iand hx hb dJ6_bitCount_0f7a4_21 ?_
  refine lv_seti (y := iI 0) (by decide) ?_
  refine lv_iadd hx hb dJ6_bitCount_0f7a4_22 ?_
  refine lv_seti (y := iI 1) (by decide) ?_
  refine lv_istore_n (lv' := [(0, .int (iI 1))]) hx hb dJ6_bitCount_0f7a4_23 rfl hl (by decide) rfl (fun ls hl => ?_)
  refine lv_iload_n hx hb dJ6_bitCount_0f7a4_24 rfl (lv_at hl 0 rfl) ?_
  refine lv_iload_n hx hb dJ6_bitCount_0f7a4_25 rfl (lv_at hl 0 rfl) ?_
  refine lv_iconst (v := iI 4) hx hb dJ6_bitCount_0f7a4_26 (by decide) ?_
  refine lv_iushr (v := iI 0) hx hb dJ6_bitCount_0f7a4_27 (by decide) ?_
  refine lv_iadd hx hb dJ6_bitCount_0f7a4_28 ?_
  refine lv_seti (y := iI 1) (by decide) ?_
  refine lv_ldcw (v := 252645135) hx hb B.1.2.2.2.1 (B.1.2.2.2.2.1 _ mw_1608) dJ6_bitCount_0f7a4_29 ?_
  refine lv_seti (y := iI 252645135) (by decide) ?_
  refine lv_iand hx hb dJ6_bitCount_0f7a4_32 ?_
  refine lv_seti (y := iI 1) (by decide) ?_
  refine lv_istore_n (lv' := [(0, .int (iI 1))]) hx hb dJ6_bitCount_0f7a4_33 rfl hl (by decide) rfl (fun ls hl => ?_)
  refine lv_iload_n hx hb dJ6_bitCount_0f7a4_34 rfl (lv_at hl 0 rfl) ?_
  refine lv_iload_n hx hb dJ6_bitCount_0f7a4_35 rfl (lv_at hl 0 rfl) ?_
  refine lv_bipush (v := iI 8) hx hb dJ6_bitCount_0f7a4_36 (by decide) ?_
  refine lv_iushr (v := iI 0) hx hb dJ6_bitCount_0f7a4_38 (by decide) ?_
  refine lv_iadd hx hb dJ6_bitCount_0f7a4_39 ?_
  refine lv_seti (y := iI 1) (by decide) ?_
  refine lv_istore_n (lv' := [(0, .int (iI 1))]) hx hb dJ6_bitCount_0f7a4_40 rfl hl (by decide) rfl (fun ls hl => ?_)
  refine lv_iload_n hx hb dJ6_bitCount_0f7a4_41 rfl (lv_at hl 0 rfl) ?_
  refine lv_iload_n hx hb dJ6_bitCount_0f7a4_42 rfl (lv_at hl 0 rfl) ?_
  refine lv_bipush (v := iI 16) hx hb dJ6_bitCount_0f7a4_43 (by decide) ?_
  refine lv_iushr (v := iI 0) hx hb dJ6_bitCount_0f7a4_45 (by decide) ?_
  refine lv_iadd hx hb dJ6_bitCount_0f7a4_46 ?_
  refine lv_seti (y := iI 1) (by decide) ?_
  refine lv_istore_n (lv' := [(0, .int (iI 1))]) hx hb dJ6_bitCount_0f7a4_47 rfl hl (by decide) rfl (fun ls hl => ?_)
  refine lv_iload_n hx hb dJ6_bitCount_0f7a4_48 rfl (lv_at hl 0 rfl) ?_
  refine lv_bipush (v := iI 63) hx hb dJ6_bitCount_0f7a4_49 (by decide) ?_
  refine lv_iand hx hb dJ6_bitCount_0f7a4_51 ?_
  refine lv_seti (y := iI 1) (by decide) ?_
  have e_1 : (bcZ 1) = 1 := (by decide)
  skip
  exact k_iret B hr (⟨(by rw [e_1]), rfl, rfl, rfl⟩) ⟨Nat.le_of_ble_eq_true rfl, Nat.le_of_ble_eq_true rfl⟩ ⟨Nat.le_of_ble_eq_true rfl, Nat.le_of_ble_eq_true rfl⟩ dJ6_bitCount_0f7a4_52

set_option maxHeartbeats 4000000 in
set_option maxRecDepth 100000 in
theorem k_bc2 (l : Launch) (dC : Nat → ClassId) (dI : Nat → Nat → Nat) (k : Nat → ClassId) : Kn l dC dI k yJ6_bitCount_0f7a4 (.code yJ6_bitCount_0f7a4 cJ6_bitCount_0f7a4 1 (some .int)) ({ frames := 0, cells := 0, slots := 0, locals := 0 } : Room) [.int (iI 2)] [] (fun r w gc gs => (r = some (.int (iI (bcZ 2))) ∧ w = [] ∧ gc = 0 ∧ gs = 0)) := by
  refine kn_of (by decide) (Nat.le_of_ble_eq_true rfl) ?_
  intro p e s m args below meth c H locs B hr hnm ls hl
  have hx := B.1.1
  have hb := B.1.2.1
  have hl : lv_has ls 1 [(0, .int (iI 2))] := hl
  refine lv_iload_n hx hb dJ6_bitCount_0f7a4_0 rfl (lv_at hl 0 rfl) ?_
  refine lv_iload_n hx hb dJ6_bitCount_0f7a4_1 rfl (lv_at hl 0 rfl) ?_
  refine lv_iconst (v := iI 1) hx hb dJ6_bitCount_0f7a4_2 (by decide) ?_
  refine lv_iushr (v := iI 1) hx hb dJ6_bitCount_0f7a4_3 (by decide) ?_
  refine lv_ldcw (v := 1431655765) hx hb B.1.2.2.2.1 (B.1.2.2.2.2.1 _ mw_1606) dJ6_bitCount_0f7a4_4 ?_
  refine lv_seti (y := iI 1431655765) (by decide) ?_
  refine lv_iand hx hb dJ6_bitCount_0f7a4_7 ?_
  refine lv_seti (y := iI 1) (by decide) ?_
  refine lv_isub hx hb dJ6_bitCount_0f7a4_8 ?_
  refine lv_seti (y := iI 1) (by decide) ?_
  refine lv_istore_n (lv' := [(0, .int (iI 1))]) hx hb dJ6_bitCount_0f7a4_9 rfl hl (by decide) rfl (fun ls hl => ?_)
  refine lv_iload_n hx hb dJ6_bitCount_0f7a4_10 rfl (lv_at hl 0 rfl) ?_
  refine lv_ldcw (v := 858993459) hx hb B.1.2.2.2.1 (B.1.2.2.2.2.1 _ mw_1607) dJ6_bitCount_0f7a4_11 ?_
  refine lv_seti (y := iI 858993459) (by decide) ?_
  refine lv_iand hx hb dJ6_bitCount_0f7a4_14 ?_
  refine lv_seti (y := iI 1) (by decide) ?_
  refine lv_iload_n hx hb dJ6_bitCount_0f7a4_15 rfl (lv_at hl 0 rfl) ?_
  refine lv_iconst (v := iI 2) hx hb dJ6_bitCount_0f7a4_16 (by decide) ?_
  refine lv_iushr (v := iI 0) hx hb dJ6_bitCount_0f7a4_17 (by decide) ?_
  refine lv_ldcw (v := 858993459) hx hb B.1.2.2.2.1 (B.1.2.2.2.2.1 _ mw_1607) dJ6_bitCount_0f7a4_18 ?_
  refine lv_seti (y := iI 858993459) (by decide) ?_
  refine lv_iand hx hb dJ6_bitCount_0f7a4_21 ?_
  refine lv_seti (y := iI 0) (by decide) ?_
  refine lv_iadd hx hb dJ6_bitCount_0f7a4_22 ?_
  refine lv_seti (y := iI 1) (by decide) ?_
  refine lv_istore_n (lv' := [(0, .int (iI 1))]) hx hb dJ6_bitCount_0f7a4_23 rfl hl (by decide) rfl (fun ls hl => ?_)
  refine lv_iload_n hx hb dJ6_bitCount_0f7a4_24 rfl (lv_at hl 0 rfl) ?_
  refine lv_iload_n hx hb dJ6_bitCount_0f7a4_25 rfl (lv_at hl 0 rfl) ?_
  refine lv_iconst (v := iI 4) hx hb dJ6_bitCount_0f7a4_26 (by decide) ?_
  refine lv_iushr (v := iI 0) hx hb dJ6_bitCount_0f7a4_27 (by decide) ?_
  refine lv_iadd hx hb dJ6_bitCount_0f7a4_28 ?_
  refine lv_seti (y := iI 1) (by decide) ?_
  refine lv_ldcw (v := 252645135) hx hb B.1.2.2.2.1 (B.1.2.2.2.2.1 _ mw_1608) dJ6_bitCount_0f7a4_29 ?_
  refine lv_seti (y := iI 252645135) (by decide) ?_
  refine lv_iand hx hb dJ6_bitCount_0f7a4_32 ?_
  refine lv_seti (y := iI 1) (by decide) ?_
  refine lv_istore_n (lv' := [(0, .int (iI 1))]) hx hb dJ6_bitCount_0f7a4_33 rfl hl (by decide) rfl (fun ls hl => ?_)
  refine lv_iload_n hx hb dJ6_bitCount_0f7a4_34 rfl (lv_at hl 0 rfl) ?_
  refine lv_iload_n hx hb dJ6_bitCount_0f7a4_35 rfl (lv_at hl 0 rfl) ?_
  refine lv_bipush (v := iI 8) hx hb dJ6_bitCount_0f7a4_36 (by decide) ?_
  refine lv_iushr (v := iI 0) hx hb dJ6_bitCount_0f7a4_38 (by decide) ?_
  refine lv_iadd hx hb dJ6_bitCount_0f7a4_39 ?_
  refine lv_seti (y := iI 1) (by decide) ?_
  refine lv_istore_n (lv' := [(0, .int (iI 1))]) hx hb dJ6_bitCount_0f7a4_40 rfl hl (by decide) rfl (fun ls hl => ?_)
  refine lv_iload_n hx hb dJ6_bitCount_0f7a4_41 rfl (lv_at hl 0 rfl) ?_
  refine lv_iload_n hx hb dJ6_bitCount_0f7a4_42 rfl (lv_at hl 0 rfl) ?_
  refine lv_bipush (v := iI 16) hx hb dJ6_bitCount_0f7a4_43 (by decide) ?_
  refine lv_iushr (v := iI 0) hx hb dJ6_bitCount_0f7a4_45 (by decide) ?_
  refine lv_iadd hx hb dJ6_bitCount_0f7a4_46 ?_
  refine lv_seti (y := iI 1) (by decide) ?_
  refine lv_istore_n (lv' := [(0, .int (iI 1))]) hx hb dJ6_bitCount_0f7a4_47 rfl hl (by decide) rfl (fun ls hl => ?_)
  refine lv_iload_n hx hb dJ6_bitCount_0f7a4_48 rfl (lv_at hl 0 rfl) ?_
  refine lv_bipush (v := iI 63) hx hb dJ6_bitCount_0f7a4_49 (by decide) ?_
  refine lv_iand hx hb dJ6_bitCount_0f7a4_51 ?_
  refine lv_seti (y := iI 1) (by decide) ?_
  have e_1 : (bcZ 2) = 1 := (by decide)
  skip
  exact k_iret B hr (⟨(by rw [e_1]), rfl, rfl, rfl⟩) ⟨Nat.le_of_ble_eq_true rfl, Nat.le_of_ble_eq_true rfl⟩ ⟨Nat.le_of_ble_eq_true rfl, Nat.le_of_ble_eq_true rfl⟩ dJ6_bitCount_0f7a4_52

set_option maxHeartbeats 4000000 in
set_option maxRecDepth 100000 in
theorem k_bc3 (l : Launch) (dC : Nat → ClassId) (dI : Nat → Nat → Nat) (k : Nat → ClassId) : Kn l dC dI k yJ6_bitCount_0f7a4 (.code yJ6_bitCount_0f7a4 cJ6_bitCount_0f7a4 1 (some .int)) ({ frames := 0, cells := 0, slots := 0, locals := 0 } : Room) [.int (iI 3)] [] (fun r w gc gs => (r = some (.int (iI (bcZ 3))) ∧ w = [] ∧ gc = 0 ∧ gs = 0)) := by
  refine kn_of (by decide) (Nat.le_of_ble_eq_true rfl) ?_
  intro p e s m args below meth c H locs B hr hnm ls hl
  have hx := B.1.1
  have hb := B.1.2.1
  have hl : lv_has ls 1 [(0, .int (iI 3))] := hl
  refine lv_iload_n hx hb dJ6_bitCount_0f7a4_0 rfl (lv_at hl 0 rfl) ?_
  refine lv_iload_n hx hb dJ6_bitCount_0f7a4_1 rfl (lv_at hl 0 rfl) ?_
  refine lv_iconst (v := iI 1) hx hb dJ6_bitCount_0f7a4_2 (by decide) ?_
  refine lv_iushr (v := iI 1) hx hb dJ6_bitCount_0f7a4_3 (by decide) ?_
  refine lv_ldcw (v := 1431655765) hx hb B.1.2.2.2.1 (B.1.2.2.2.2.1 _ mw_1606) dJ6_bitCount_0f7a4_4 ?_
  refine lv_seti (y := iI 1431655765) (by decide) ?_
  refine lv_iand hx hb dJ6_bitCount_0f7a4_7 ?_
  refine lv_seti (y := iI 1) (by decide) ?_
  refine lv_isub hx hb dJ6_bitCount_0f7a4_8 ?_
  refine lv_seti (y := iI 2) (by decide) ?_
  refine lv_istore_n (lv' := [(0, .int (iI 2))]) hx hb dJ6_bitCount_0f7a4_9 rfl hl (by decide) rfl (fun ls hl => ?_)
  refine lv_iload_n hx hb dJ6_bitCount_0f7a4_10 rfl (lv_at hl 0 rfl) ?_
  refine lv_ldcw (v := 858993459) hx hb B.1.2.2.2.1 (B.1.2.2.2.2.1 _ mw_1607) dJ6_bitCount_0f7a4_11 ?_
  refine lv_seti (y := iI 858993459) (by decide) ?_
  refine lv_iand hx hb dJ6_bitCount_0f7a4_14 ?_
  refine lv_seti (y := iI 2) (by decide) ?_
  refine lv_iload_n hx hb dJ6_bitCount_0f7a4_15 rfl (lv_at hl 0 rfl) ?_
  refine lv_iconst (v := iI 2) hx hb dJ6_bitCount_0f7a4_16 (by decide) ?_
  refine lv_iushr (v := iI 0) hx hb dJ6_bitCount_0f7a4_17 (by decide) ?_
  refine lv_ldcw (v := 858993459) hx hb B.1.2.2.2.1 (B.1.2.2.2.2.1 _ mw_1607) dJ6_bitCount_0f7a4_18 ?_
  refine lv_seti (y := iI 858993459) (by decide) ?_
  refine lv_iand hx hb dJ6_bitCount_0f7a4_21 ?_
  refine lv_seti (y := iI 0) (by decide) ?_
  refine lv_iadd hx hb dJ6_bitCount_0f7a4_22 ?_
  refine lv_seti (y := iI 2) (by decide) ?_
  refine lv_istore_n (lv' := [(0, .int (iI 2))]) hx hb dJ6_bitCount_0f7a4_23 rfl hl (by decide) rfl (fun ls hl => ?_)
  refine lv_iload_n hx hb dJ6_bitCount_0f7a4_24 rfl (lv_at hl 0 rfl) ?_
  refine lv_iload_n hx hb dJ6_bitCount_0f7a4_25 rfl (lv_at hl 0 rfl) ?_
  refine lv_iconst (v := iI 4) hx hb dJ6_bitCount_0f7a4_26 (by decide) ?_
  refine lv_iushr (v := iI 0) hx hb dJ6_bitCount_0f7a4_27 (by decide) ?_
  refine lv_iadd hx hb dJ6_bitCount_0f7a4_28 ?_
  refine lv_seti (y := iI 2) (by decide) ?_
  refine lv_ldcw (v := 252645135) hx hb B.1.2.2.2.1 (B.1.2.2.2.2.1 _ mw_1608) dJ6_bitCount_0f7a4_29 ?_
  refine lv_seti (y := iI 252645135) (by decide) ?_
  refine lv_iand hx hb dJ6_bitCount_0f7a4_32 ?_
  refine lv_seti (y := iI 2) (by decide) ?_
  refine lv_istore_n (lv' := [(0, .int (iI 2))]) hx hb dJ6_bitCount_0f7a4_33 rfl hl (by decide) rfl (fun ls hl => ?_)
  refine lv_iload_n hx hb dJ6_bitCount_0f7a4_34 rfl (lv_at hl 0 rfl) ?_
  refine lv_iload_n hx hb dJ6_bitCount_0f7a4_35 rfl (lv_at hl 0 rfl) ?_
  refine lv_bipush (v := iI 8) hx hb dJ6_bitCount_0f7a4_36 (by decide) ?_
  refine lv_iushr (v := iI 0) hx hb dJ6_bitCount_0f7a4_38 (by decide) ?_
  refine lv_iadd hx hb dJ6_bitCount_0f7a4_39 ?_
  refine lv_seti (y := iI 2) (by decide) ?_
  refine lv_istore_n (lv' := [(0, .int (iI 2))]) hx hb dJ6_bitCount_0f7a4_40 rfl hl (by decide) rfl (fun ls hl => ?_)
  refine lv_iload_n hx hb dJ6_bitCount_0f7a4_41 rfl (lv_at hl 0 rfl) ?_
  refine lv_iload_n hx hb dJ6_bitCount_0f7a4_42 rfl (lv_at hl 0 rfl) ?_
  refine lv_bipush (v := iI 16) hx hb dJ6_bitCount_0f7a4_43 (by decide) ?_
  refine lv_iushr (v := iI 0) hx hb dJ6_bitCount_0f7a4_45 (by decide) ?_
  refine lv_iadd hx hb dJ6_bitCount_0f7a4_46 ?_
  refine lv_seti (y := iI 2) (by decide) ?_
  refine lv_istore_n (lv' := [(0, .int (iI 2))]) hx hb dJ6_bitCount_0f7a4_47 rfl hl (by decide) rfl (fun ls hl => ?_)
  refine lv_iload_n hx hb dJ6_bitCount_0f7a4_48 rfl (lv_at hl 0 rfl) ?_
  refine lv_bipush (v := iI 63) hx hb dJ6_bitCount_0f7a4_49 (by decide) ?_
  refine lv_iand hx hb dJ6_bitCount_0f7a4_51 ?_
  refine lv_seti (y := iI 2) (by decide) ?_
  have e_1 : (bcZ 3) = 2 := (by decide)
  skip
  exact k_iret B hr (⟨(by rw [e_1]), rfl, rfl, rfl⟩) ⟨Nat.le_of_ble_eq_true rfl, Nat.le_of_ble_eq_true rfl⟩ ⟨Nat.le_of_ble_eq_true rfl, Nat.le_of_ble_eq_true rfl⟩ dJ6_bitCount_0f7a4_52

set_option maxHeartbeats 4000000 in
set_option maxRecDepth 100000 in
theorem k_bc4 (l : Launch) (dC : Nat → ClassId) (dI : Nat → Nat → Nat) (k : Nat → ClassId) : Kn l dC dI k yJ6_bitCount_0f7a4 (.code yJ6_bitCount_0f7a4 cJ6_bitCount_0f7a4 1 (some .int)) ({ frames := 0, cells := 0, slots := 0, locals := 0 } : Room) [.int (iI 4)] [] (fun r w gc gs => (r = some (.int (iI (bcZ 4))) ∧ w = [] ∧ gc = 0 ∧ gs = 0)) := by
  refine kn_of (by decide) (Nat.le_of_ble_eq_true rfl) ?_
  intro p e s m args below meth c H locs B hr hnm ls hl
  have hx := B.1.1
  have hb := B.1.2.1
  have hl : lv_has ls 1 [(0, .int (iI 4))] := hl
  refine lv_iload_n hx hb dJ6_bitCount_0f7a4_0 rfl (lv_at hl 0 rfl) ?_
  refine lv_iload_n hx hb dJ6_bitCount_0f7a4_1 rfl (lv_at hl 0 rfl) ?_
  refine lv_iconst (v := iI 1) hx hb dJ6_bitCount_0f7a4_2 (by decide) ?_
  refine lv_iushr (v := iI 2) hx hb dJ6_bitCount_0f7a4_3 (by decide) ?_
  refine lv_ldcw (v := 1431655765) hx hb B.1.2.2.2.1 (B.1.2.2.2.2.1 _ mw_1606) dJ6_bitCount_0f7a4_4 ?_
  refine lv_seti (y := iI 1431655765) (by decide) ?_
  refine lv_iand hx hb dJ6_bitCount_0f7a4_7 ?_
  refine lv_seti (y := iI 0) (by decide) ?_
  refine lv_isub hx hb dJ6_bitCount_0f7a4_8 ?_
  refine lv_seti (y := iI 4) (by decide) ?_
  refine lv_istore_n (lv' := [(0, .int (iI 4))]) hx hb dJ6_bitCount_0f7a4_9 rfl hl (by decide) rfl (fun ls hl => ?_)
  refine lv_iload_n hx hb dJ6_bitCount_0f7a4_10 rfl (lv_at hl 0 rfl) ?_
  refine lv_ldcw (v := 858993459) hx hb B.1.2.2.2.1 (B.1.2.2.2.2.1 _ mw_1607) dJ6_bitCount_0f7a4_11 ?_
  refine lv_seti (y := iI 858993459) (by decide) ?_
  refine lv_iand hx hb dJ6_bitCount_0f7a4_14 ?_
  refine lv_seti (y := iI 0) (by decide) ?_
  refine lv_iload_n hx hb dJ6_bitCount_0f7a4_15 rfl (lv_at hl 0 rfl) ?_
  refine lv_iconst (v := iI 2) hx hb dJ6_bitCount_0f7a4_16 (by decide) ?_
  refine lv_iushr (v := iI 1) hx hb dJ6_bitCount_0f7a4_17 (by decide) ?_
  refine lv_ldcw (v := 858993459) hx hb B.1.2.2.2.1 (B.1.2.2.2.2.1 _ mw_1607) dJ6_bitCount_0f7a4_18 ?_
  refine lv_seti (y := iI 858993459) (by decide) ?_
  refine lv_iand hx hb dJ6_bitCount_0f7a4_21 ?_
  refine lv_seti (y := iI 1) (by decide) ?_
  refine lv_iadd hx hb dJ6_bitCount_0f7a4_22 ?_
  refine lv_seti (y := iI 1) (by decide) ?_
  refine lv_istore_n (lv' := [(0, .int (iI 1))]) hx hb dJ6_bitCount_0f7a4_23 rfl hl (by decide) rfl (fun ls hl => ?_)
  refine lv_iload_n hx hb dJ6_bitCount_0f7a4_24 rfl (lv_at hl 0 rfl) ?_
  refine lv_iload_n hx hb dJ6_bitCount_0f7a4_25 rfl (lv_at hl 0 rfl) ?_
  refine lv_iconst (v := iI 4) hx hb dJ6_bitCount_0f7a4_26 (by decide) ?_
  refine lv_iushr (v := iI 0) hx hb dJ6_bitCount_0f7a4_27 (by decide) ?_
  refine lv_iadd hx hb dJ6_bitCount_0f7a4_28 ?_
  refine lv_seti (y := iI 1) (by decide) ?_
  refine lv_ldcw (v := 252645135) hx hb B.1.2.2.2.1 (B.1.2.2.2.2.1 _ mw_1608) dJ6_bitCount_0f7a4_29 ?_
  refine lv_seti (y := iI 252645135) (by decide) ?_
  refine lv_iand hx hb dJ6_bitCount_0f7a4_32 ?_
  refine lv_seti (y := iI 1) (by decide) ?_
  refine lv_istore_n (lv' := [(0, .int (iI 1))]) hx hb dJ6_bitCount_0f7a4_33 rfl hl (by decide) rfl (fun ls hl => ?_)
  refine lv_iload_n hx hb dJ6_bitCount_0f7a4_34 rfl (lv_at hl 0 rfl) ?_
  refine lv_iload_n hx hb dJ6_bitCount_0f7a4_35 rfl (lv_at hl 0 rfl) ?_
  refine lv_bipush (v := iI 8) hx hb dJ6_bitCount_0f7a4_36 (by decide) ?_
  refine lv_iushr (v := iI 0) hx hb dJ6_bitCount_0f7a4_38 (by decide) ?_
  refine lv_iadd hx hb dJ6_bitCount_0f7a4_39 ?_
  refine lv_seti (y := iI 1) (by decide) ?_
  refine lv_istore_n (lv' := [(0, .int (iI 1))]) hx hb dJ6_bitCount_0f7a4_40 rfl hl (by decide) rfl (fun ls hl => ?_)
  refine lv_iload_n hx hb dJ6_bitCount_0f7a4_41 rfl (lv_at hl 0 rfl) ?_
  refine lv_iload_n hx hb dJ6_bitCount_0f7a4_42 rfl (lv_at hl 0 rfl) ?_
  refine lv_bipush (v := iI 16) hx hb dJ6_bitCount_0f7a4_43 (by decide) ?_
  refine lv_iushr (v := iI 0) hx hb dJ6_bitCount_0f7a4_45 (by decide) ?_
  refine lv_iadd hx hb dJ6_bitCount_0f7a4_46 ?_
  refine lv_seti (y := iI 1) (by decide) ?_
  refine lv_istore_n (lv' := [(0, .int (iI 1))]) hx hb dJ6_bitCount_0f7a4_47 rfl hl (by decide) rfl (fun ls hl => ?_)
  refine lv_iload_n hx hb dJ6_bitCount_0f7a4_48 rfl (lv_at hl 0 rfl) ?_
  refine lv_bipush (v := iI 63) hx hb dJ6_bitCount_0f7a4_49 (by decide) ?_
  refine lv_iand hx hb dJ6_bitCount_0f7a4_51 ?_
  refine lv_seti (y := iI 1) (by decide) ?_
  have e_1 : (bcZ 4) = 1 := (by decide)
  skip
  exact k_iret B hr (⟨(by rw [e_1]), rfl, rfl, rfl⟩) ⟨Nat.le_of_ble_eq_true rfl, Nat.le_of_ble_eq_true rfl⟩ ⟨Nat.le_of_ble_eq_true rfl, Nat.le_of_ble_eq_true rfl⟩ dJ6_bitCount_0f7a4_52

set_option maxHeartbeats 4000000 in
set_option maxRecDepth 100000 in
theorem k_bc5 (l : Launch) (dC : Nat → ClassId) (dI : Nat → Nat → Nat) (k : Nat → ClassId) : Kn l dC dI k yJ6_bitCount_0f7a4 (.code yJ6_bitCount_0f7a4 cJ6_bitCount_0f7a4 1 (some .int)) ({ frames := 0, cells := 0, slots := 0, locals := 0 } : Room) [.int (iI 5)] [] (fun r w gc gs => (r = some (.int (iI (bcZ 5))) ∧ w = [] ∧ gc = 0 ∧ gs = 0)) := by
  refine kn_of (by decide) (Nat.le_of_ble_eq_true rfl) ?_
  intro p e s m args below meth c H locs B hr hnm ls hl
  have hx := B.1.1
  have hb := B.1.2.1
  have hl : lv_has ls 1 [(0, .int (iI 5))] := hl
  refine lv_iload_n hx hb dJ6_bitCount_0f7a4_0 rfl (lv_at hl 0 rfl) ?_
  refine lv_iload_n hx hb dJ6_bitCount_0f7a4_1 rfl (lv_at hl 0 rfl) ?_
  refine lv_iconst (v := iI 1) hx hb dJ6_bitCount_0f7a4_2 (by decide) ?_
  refine lv_iushr (v := iI 2) hx hb dJ6_bitCount_0f7a4_3 (by decide) ?_
  refine lv_ldcw (v := 1431655765) hx hb B.1.2.2.2.1 (B.1.2.2.2.2.1 _ mw_1606) dJ6_bitCount_0f7a4_4 ?_
  refine lv_seti (y := iI 1431655765) (by decide) ?_
  refine lv_iand hx hb dJ6_bitCount_0f7a4_7 ?_
  refine lv_seti (y := iI 0) (by decide) ?_
  refine lv_isub hx hb dJ6_bitCount_0f7a4_8 ?_
  refine lv_seti (y := iI 5) (by decide) ?_
  refine lv_istore_n (lv' := [(0, .int (iI 5))]) hx hb dJ6_bitCount_0f7a4_9 rfl hl (by decide) rfl (fun ls hl => ?_)
  refine lv_iload_n hx hb dJ6_bitCount_0f7a4_10 rfl (lv_at hl 0 rfl) ?_
  refine lv_ldcw (v := 858993459) hx hb B.1.2.2.2.1 (B.1.2.2.2.2.1 _ mw_1607) dJ6_bitCount_0f7a4_11 ?_
  refine lv_seti (y := iI 858993459) (by decide) ?_
  refine lv_iand hx hb dJ6_bitCount_0f7a4_14 ?_
  refine lv_seti (y := iI 1) (by decide) ?_
  refine lv_iload_n hx hb dJ6_bitCount_0f7a4_15 rfl (lv_at hl 0 rfl) ?_
  refine lv_iconst (v := iI 2) hx hb dJ6_bitCount_0f7a4_16 (by decide) ?_
  refine lv_iushr (v := iI 1) hx hb dJ6_bitCount_0f7a4_17 (by decide) ?_
  refine lv_ldcw (v := 858993459) hx hb B.1.2.2.2.1 (B.1.2.2.2.2.1 _ mw_1607) dJ6_bitCount_0f7a4_18 ?_
  refine lv_seti (y := iI 858993459) (by decide) ?_
  refine lv_iand hx hb dJ6_bitCount_0f7a4_21 ?_
  refine lv_seti (y := iI 1) (by decide) ?_
  refine lv_iadd hx hb dJ6_bitCount_0f7a4_22 ?_
  refine lv_seti (y := iI 2) (by decide) ?_
  refine lv_istore_n (lv' := [(0, .int (iI 2))]) hx hb dJ6_bitCount_0f7a4_23 rfl hl (by decide) rfl (fun ls hl => ?_)
  refine lv_iload_n hx hb dJ6_bitCount_0f7a4_24 rfl (lv_at hl 0 rfl) ?_
  refine lv_iload_n hx hb dJ6_bitCount_0f7a4_25 rfl (lv_at hl 0 rfl) ?_
  refine lv_iconst (v := iI 4) hx hb dJ6_bitCount_0f7a4_26 (by decide) ?_
  refine lv_iushr (v := iI 0) hx hb dJ6_bitCount_0f7a4_27 (by decide) ?_
  refine lv_iadd hx hb dJ6_bitCount_0f7a4_28 ?_
  refine lv_seti (y := iI 2) (by decide) ?_
  refine lv_ldcw (v := 252645135) hx hb B.1.2.2.2.1 (B.1.2.2.2.2.1 _ mw_1608) dJ6_bitCount_0f7a4_29 ?_
  refine lv_seti (y := iI 252645135) (by decide) ?_
  refine lv_iand hx hb dJ6_bitCount_0f7a4_32 ?_
  refine lv_seti (y := iI 2) (by decide) ?_
  refine lv_istore_n (lv' := [(0, .int (iI 2))]) hx hb dJ6_bitCount_0f7a4_33 rfl hl (by decide) rfl (fun ls hl => ?_)
  refine lv_iload_n hx hb dJ6_bitCount_0f7a4_34 rfl (lv_at hl 0 rfl) ?_
  refine lv_iload_n hx hb dJ6_bitCount_0f7a4_35 rfl (lv_at hl 0 rfl) ?_
  refine lv_bipush (v := iI 8) hx hb dJ6_bitCount_0f7a4_36 (by decide) ?_
  refine lv_iushr (v := iI 0) hx hb dJ6_bitCount_0f7a4_38 (by decide) ?_
  refine lv_iadd hx hb dJ6_bitCount_0f7a4_39 ?_
  refine lv_seti (y := iI 2) (by decide) ?_
  refine lv_istore_n (lv' := [(0, .int (iI 2))]) hx hb dJ6_bitCount_0f7a4_40 rfl hl (by decide) rfl (fun ls hl => ?_)
  refine lv_iload_n hx hb dJ6_bitCount_0f7a4_41 rfl (lv_at hl 0 rfl) ?_
  refine lv_iload_n hx hb dJ6_bitCount_0f7a4_42 rfl (lv_at hl 0 rfl) ?_
  refine lv_bipush (v := iI 16) hx hb dJ6_bitCount_0f7a4_43 (by decide) ?_
  refine lv_iushr (v := iI 0) hx hb dJ6_bitCount_0f7a4_45 (by decide) ?_
  refine lv_iadd hx hb dJ6_bitCount_0f7a4_46 ?_
  refine lv_seti (y := iI 2) (by decide) ?_
  refine lv_istore_n (lv' := [(0, .int (iI 2))]) hx hb dJ6_bitCount_0f7a4_47 rfl hl (by decide) rfl (fun ls hl => ?_)
  refine lv_iload_n hx hb dJ6_bitCount_0f7a4_48 rfl (lv_at hl 0 rfl) ?_
  refine lv_bipush (v := iI 63) hx hb dJ6_bitCount_0f7a4_49 (by decide) ?_
  refine lv_iand hx hb dJ6_bitCount_0f7a4_51 ?_
  refine lv_seti (y := iI 2) (by decide) ?_
  have e_1 : (bcZ 5) = 2 := (by decide)
  skip
  exact k_iret B hr (⟨(by rw [e_1]), rfl, rfl, rfl⟩) ⟨Nat.le_of_ble_eq_true rfl, Nat.le_of_ble_eq_true rfl⟩ ⟨Nat.le_of_ble_eq_true rfl, Nat.le_of_ble_eq_true rfl⟩ dJ6_bitCount_0f7a4_52

set_option maxHeartbeats 4000000 in
set_option maxRecDepth 100000 in
theorem k_bc6 (l : Launch) (dC : Nat → ClassId) (dI : Nat → Nat → Nat) (k : Nat → ClassId) : Kn l dC dI k yJ6_bitCount_0f7a4 (.code yJ6_bitCount_0f7a4 cJ6_bitCount_0f7a4 1 (some .int)) ({ frames := 0, cells := 0, slots := 0, locals := 0 } : Room) [.int (iI 6)] [] (fun r w gc gs => (r = some (.int (iI (bcZ 6))) ∧ w = [] ∧ gc = 0 ∧ gs = 0)) := by
  refine kn_of (by decide) (Nat.le_of_ble_eq_true rfl) ?_
  intro p e s m args below meth c H locs B hr hnm ls hl
  have hx := B.1.1
  have hb := B.1.2.1
  have hl : lv_has ls 1 [(0, .int (iI 6))] := hl
  refine lv_iload_n hx hb dJ6_bitCount_0f7a4_0 rfl (lv_at hl 0 rfl) ?_
  refine lv_iload_n hx hb dJ6_bitCount_0f7a4_1 rfl (lv_at hl 0 rfl) ?_
  refine lv_iconst (v := iI 1) hx hb dJ6_bitCount_0f7a4_2 (by decide) ?_
  refine lv_iushr (v := iI 3) hx hb dJ6_bitCount_0f7a4_3 (by decide) ?_
  refine lv_ldcw (v := 1431655765) hx hb B.1.2.2.2.1 (B.1.2.2.2.2.1 _ mw_1606) dJ6_bitCount_0f7a4_4 ?_
  refine lv_seti (y := iI 1431655765) (by decide) ?_
  refine lv_iand hx hb dJ6_bitCount_0f7a4_7 ?_
  refine lv_seti (y := iI 1) (by decide) ?_
  refine lv_isub hx hb dJ6_bitCount_0f7a4_8 ?_
  refine lv_seti (y := iI 5) (by decide) ?_
  refine lv_istore_n (lv' := [(0, .int (iI 5))]) hx hb dJ6_bitCount_0f7a4_9 rfl hl (by decide) rfl (fun ls hl => ?_)
  refine lv_iload_n hx hb dJ6_bitCount_0f7a4_10 rfl (lv_at hl 0 rfl) ?_
  refine lv_ldcw (v := 858993459) hx hb B.1.2.2.2.1 (B.1.2.2.2.2.1 _ mw_1607) dJ6_bitCount_0f7a4_11 ?_
  refine lv_seti (y := iI 858993459) (by decide) ?_
  refine lv_iand hx hb dJ6_bitCount_0f7a4_14 ?_
  refine lv_seti (y := iI 1) (by decide) ?_
  refine lv_iload_n hx hb dJ6_bitCount_0f7a4_15 rfl (lv_at hl 0 rfl) ?_
  refine lv_iconst (v := iI 2) hx hb dJ6_bitCount_0f7a4_16 (by decide) ?_
  refine lv_iushr (v := iI 1) hx hb dJ6_bitCount_0f7a4_17 (by decide) ?_
  refine lv_ldcw (v := 858993459) hx hb B.1.2.2.2.1 (B.1.2.2.2.2.1 _ mw_1607) dJ6_bitCount_0f7a4_18 ?_
  refine lv_seti (y := iI 858993459) (by decide) ?_
  refine lv_iand hx hb dJ6_bitCount_0f7a4_21 ?_
  refine lv_seti (y := iI 1) (by decide) ?_
  refine lv_iadd hx hb dJ6_bitCount_0f7a4_22 ?_
  refine lv_seti (y := iI 2) (by decide) ?_
  refine lv_istore_n (lv' := [(0, .int (iI 2))]) hx hb dJ6_bitCount_0f7a4_23 rfl hl (by decide) rfl (fun ls hl => ?_)
  refine lv_iload_n hx hb dJ6_bitCount_0f7a4_24 rfl (lv_at hl 0 rfl) ?_
  refine lv_iload_n hx hb dJ6_bitCount_0f7a4_25 rfl (lv_at hl 0 rfl) ?_
  refine lv_iconst (v := iI 4) hx hb dJ6_bitCount_0f7a4_26 (by decide) ?_
  refine lv_iushr (v := iI 0) hx hb dJ6_bitCount_0f7a4_27 (by decide) ?_
  refine lv_iadd hx hb dJ6_bitCount_0f7a4_28 ?_
  refine lv_seti (y := iI 2) (by decide) ?_
  refine lv_ldcw (v := 252645135) hx hb B.1.2.2.2.1 (B.1.2.2.2.2.1 _ mw_1608) dJ6_bitCount_0f7a4_29 ?_
  refine lv_seti (y := iI 252645135) (by decide) ?_
  refine lv_iand hx hb dJ6_bitCount_0f7a4_32 ?_
  refine lv_seti (y := iI 2) (by decide) ?_
  refine lv_istore_n (lv' := [(0, .int (iI 2))]) hx hb dJ6_bitCount_0f7a4_33 rfl hl (by decide) rfl (fun ls hl => ?_)
  refine lv_iload_n hx hb dJ6_bitCount_0f7a4_34 rfl (lv_at hl 0 rfl) ?_
  refine lv_iload_n hx hb dJ6_bitCount_0f7a4_35 rfl (lv_at hl 0 rfl) ?_
  refine lv_bipush (v := iI 8) hx hb dJ6_bitCount_0f7a4_36 (by decide) ?_
  refine lv_iushr (v := iI 0) hx hb dJ6_bitCount_0f7a4_38 (by decide) ?_
  refine lv_iadd hx hb dJ6_bitCount_0f7a4_39 ?_
  refine lv_seti (y := iI 2) (by decide) ?_
  refine lv_istore_n (lv' := [(0, .int (iI 2))]) hx hb dJ6_bitCount_0f7a4_40 rfl hl (by decide) rfl (fun ls hl => ?_)
  refine lv_iload_n hx hb dJ6_bitCount_0f7a4_41 rfl (lv_at hl 0 rfl) ?_
  refine lv_iload_n hx hb dJ6_bitCount_0f7a4_42 rfl (lv_at hl 0 rfl) ?_
  refine lv_bipush (v := iI 16) hx hb dJ6_bitCount_0f7a4_43 (by decide) ?_
  refine lv_iushr (v := iI 0) hx hb dJ6_bitCount_0f7a4_45 (by decide) ?_
  refine lv_iadd hx hb dJ6_bitCount_0f7a4_46 ?_
  refine lv_seti (y := iI 2) (by decide) ?_
  refine lv_istore_n (lv' := [(0, .int (iI 2))]) hx hb dJ6_bitCount_0f7a4_47 rfl hl (by decide) rfl (fun ls hl => ?_)
  refine lv_iload_n hx hb dJ6_bitCount_0f7a4_48 rfl (lv_at hl 0 rfl) ?_
  refine lv_bipush (v := iI 63) hx hb dJ6_bitCount_0f7a4_49 (by decide) ?_
  refine lv_iand hx hb dJ6_bitCount_0f7a4_51 ?_
  refine lv_seti (y := iI 2) (by decide) ?_
  have e_1 : (bcZ 6) = 2 := (by decide)
  skip
  exact k_iret B hr (⟨(by rw [e_1]), rfl, rfl, rfl⟩) ⟨Nat.le_of_ble_eq_true rfl, Nat.le_of_ble_eq_true rfl⟩ ⟨Nat.le_of_ble_eq_true rfl, Nat.le_of_ble_eq_true rfl⟩ dJ6_bitCount_0f7a4_52

set_option maxHeartbeats 4000000 in
set_option maxRecDepth 100000 in
theorem k_bc7 (l : Launch) (dC : Nat → ClassId) (dI : Nat → Nat → Nat) (k : Nat → ClassId) : Kn l dC dI k yJ6_bitCount_0f7a4 (.code yJ6_bitCount_0f7a4 cJ6_bitCount_0f7a4 1 (some .int)) ({ frames := 0, cells := 0, slots := 0, locals := 0 } : Room) [.int (iI 7)] [] (fun r w gc gs => (r = some (.int (iI (bcZ 7))) ∧ w = [] ∧ gc = 0 ∧ gs = 0)) := by
  refine kn_of (by decide) (Nat.le_of_ble_eq_true rfl) ?_
  intro p e s m args below meth c H locs B hr hnm ls hl
  have hx := B.1.1
  have hb := B.1.2.1
  have hl : lv_has ls 1 [(0, .int (iI 7))] := hl
  refine lv_iload_n hx hb dJ6_bitCount_0f7a4_0 rfl (lv_at hl 0 rfl) ?_
  refine lv_iload_n hx hb dJ6_bitCount_0f7a4_1 rfl (lv_at hl 0 rfl) ?_
  refine lv_iconst (v := iI 1) hx hb dJ6_bitCount_0f7a4_2 (by decide) ?_
  refine lv_iushr (v := iI 3) hx hb dJ6_bitCount_0f7a4_3 (by decide) ?_
  refine lv_ldcw (v := 1431655765) hx hb B.1.2.2.2.1 (B.1.2.2.2.2.1 _ mw_1606) dJ6_bitCount_0f7a4_4 ?_
  refine lv_seti (y := iI 1431655765) (by decide) ?_
  refine lv_iand hx hb dJ6_bitCount_0f7a4_7 ?_
  refine lv_seti (y := iI 1) (by decide) ?_
  refine lv_isub hx hb dJ6_bitCount_0f7a4_8 ?_
  refine lv_seti (y := iI 6) (by decide) ?_
  refine lv_istore_n (lv' := [(0, .int (iI 6))]) hx hb dJ6_bitCount_0f7a4_9 rfl hl (by decide) rfl (fun ls hl => ?_)
  refine lv_iload_n hx hb dJ6_bitCount_0f7a4_10 rfl (lv_at hl 0 rfl) ?_
  refine lv_ldcw (v := 858993459) hx hb B.1.2.2.2.1 (B.1.2.2.2.2.1 _ mw_1607) dJ6_bitCount_0f7a4_11 ?_
  refine lv_seti (y := iI 858993459) (by decide) ?_
  refine lv_iand hx hb dJ6_bitCount_0f7a4_14 ?_
  refine lv_seti (y := iI 2) (by decide) ?_
  refine lv_iload_n hx hb dJ6_bitCount_0f7a4_15 rfl (lv_at hl 0 rfl) ?_
  refine lv_iconst (v := iI 2) hx hb dJ6_bitCount_0f7a4_16 (by decide) ?_
  refine lv_iushr (v := iI 1) hx hb dJ6_bitCount_0f7a4_17 (by decide) ?_
  refine lv_ldcw (v := 858993459) hx hb B.1.2.2.2.1 (B.1.2.2.2.2.1 _ mw_1607) dJ6_bitCount_0f7a4_18 ?_
  refine lv_seti (y := iI 858993459) (by decide) ?_
  refine lv_iand hx hb dJ6_bitCount_0f7a4_21 ?_
  refine lv_seti (y := iI 1) (by decide) ?_
  refine lv_iadd hx hb dJ6_bitCount_0f7a4_22 ?_
  refine lv_seti (y := iI 3) (by decide) ?_
  refine lv_istore_n (lv' := [(0, .int (iI 3))]) hx hb dJ6_bitCount_0f7a4_23 rfl hl (by decide) rfl (fun ls hl => ?_)
  refine lv_iload_n hx hb dJ6_bitCount_0f7a4_24 rfl (lv_at hl 0 rfl) ?_
  refine lv_iload_n hx hb dJ6_bitCount_0f7a4_25 rfl (lv_at hl 0 rfl) ?_
  refine lv_iconst (v := iI 4) hx hb dJ6_bitCount_0f7a4_26 (by decide) ?_
  refine lv_iushr (v := iI 0) hx hb dJ6_bitCount_0f7a4_27 (by decide) ?_
  refine lv_iadd hx hb dJ6_bitCount_0f7a4_28 ?_
  refine lv_seti (y := iI 3) (by decide) ?_
  refine lv_ldcw (v := 252645135) hx hb B.1.2.2.2.1 (B.1.2.2.2.2.1 _ mw_1608) dJ6_bitCount_0f7a4_29 ?_
  refine lv_seti (y := iI 252645135) (by decide) ?_
  refine lv_iand hx hb dJ6_bitCount_0f7a4_32 ?_
  refine lv_seti (y := iI 3) (by decide) ?_
  refine lv_istore_n (lv' := [(0, .int (iI 3))]) hx hb dJ6_bitCount_0f7a4_33 rfl hl (by decide) rfl (fun ls hl => ?_)
  refine lv_iload_n hx hb dJ6_bitCount_0f7a4_34 rfl (lv_at hl 0 rfl) ?_
  refine lv_iload_n hx hb dJ6_bitCount_0f7a4_35 rfl (lv_at hl 0 rfl) ?_
  refine lv_bipush (v := iI 8) hx hb dJ6_bitCount_0f7a4_36 (by decide) ?_
  refine lv_iushr (v := iI 0) hx hb dJ6_bitCount_0f7a4_38 (by decide) ?_
  refine lv_iadd hx hb dJ6_bitCount_0f7a4_39 ?_
  refine lv_seti (y := iI 3) (by decide) ?_
  refine lv_istore_n (lv' := [(0, .int (iI 3))]) hx hb dJ6_bitCount_0f7a4_40 rfl hl (by decide) rfl (fun ls hl => ?_)
  refine lv_iload_n hx hb dJ6_bitCount_0f7a4_41 rfl (lv_at hl 0 rfl) ?_
  refine lv_iload_n hx hb dJ6_bitCount_0f7a4_42 rfl (lv_at hl 0 rfl) ?_
  refine lv_bipush (v := iI 16) hx hb dJ6_bitCount_0f7a4_43 (by decide) ?_
  refine lv_iushr (v := iI 0) hx hb dJ6_bitCount_0f7a4_45 (by decide) ?_
  refine lv_iadd hx hb dJ6_bitCount_0f7a4_46 ?_
  refine lv_seti (y := iI 3) (by decide) ?_
  refine lv_istore_n (lv' := [(0, .int (iI 3))]) hx hb dJ6_bitCount_0f7a4_47 rfl hl (by decide) rfl (fun ls hl => ?_)
  refine lv_iload_n hx hb dJ6_bitCount_0f7a4_48 rfl (lv_at hl 0 rfl) ?_
  refine lv_bipush (v := iI 63) hx hb dJ6_bitCount_0f7a4_49 (by decide) ?_
  refine lv_iand hx hb dJ6_bitCount_0f7a4_51 ?_
  refine lv_seti (y := iI 3) (by decide) ?_
  have e_1 : (bcZ 7) = 3 := (by decide)
  skip
  exact k_iret B hr (⟨(by rw [e_1]), rfl, rfl, rfl⟩) ⟨Nat.le_of_ble_eq_true rfl, Nat.le_of_ble_eq_true rfl⟩ ⟨Nat.le_of_ble_eq_true rfl, Nat.le_of_ble_eq_true rfl⟩ dJ6_bitCount_0f7a4_52

set_option maxHeartbeats 4000000 in
set_option maxRecDepth 100000 in
theorem k_bc8 (l : Launch) (dC : Nat → ClassId) (dI : Nat → Nat → Nat) (k : Nat → ClassId) : Kn l dC dI k yJ6_bitCount_0f7a4 (.code yJ6_bitCount_0f7a4 cJ6_bitCount_0f7a4 1 (some .int)) ({ frames := 0, cells := 0, slots := 0, locals := 0 } : Room) [.int (iI 8)] [] (fun r w gc gs => (r = some (.int (iI (bcZ 8))) ∧ w = [] ∧ gc = 0 ∧ gs = 0)) := by
  refine kn_of (by decide) (Nat.le_of_ble_eq_true rfl) ?_
  intro p e s m args below meth c H locs B hr hnm ls hl
  have hx := B.1.1
  have hb := B.1.2.1
  have hl : lv_has ls 1 [(0, .int (iI 8))] := hl
  refine lv_iload_n hx hb dJ6_bitCount_0f7a4_0 rfl (lv_at hl 0 rfl) ?_
  refine lv_iload_n hx hb dJ6_bitCount_0f7a4_1 rfl (lv_at hl 0 rfl) ?_
  refine lv_iconst (v := iI 1) hx hb dJ6_bitCount_0f7a4_2 (by decide) ?_
  refine lv_iushr (v := iI 4) hx hb dJ6_bitCount_0f7a4_3 (by decide) ?_
  refine lv_ldcw (v := 1431655765) hx hb B.1.2.2.2.1 (B.1.2.2.2.2.1 _ mw_1606) dJ6_bitCount_0f7a4_4 ?_
  refine lv_seti (y := iI 1431655765) (by decide) ?_
  refine lv_iand hx hb dJ6_bitCount_0f7a4_7 ?_
  refine lv_seti (y := iI 4) (by decide) ?_
  refine lv_isub hx hb dJ6_bitCount_0f7a4_8 ?_
  refine lv_seti (y := iI 4) (by decide) ?_
  refine lv_istore_n (lv' := [(0, .int (iI 4))]) hx hb dJ6_bitCount_0f7a4_9 rfl hl (by decide) rfl (fun ls hl => ?_)
  refine lv_iload_n hx hb dJ6_bitCount_0f7a4_10 rfl (lv_at hl 0 rfl) ?_
  refine lv_ldcw (v := 858993459) hx hb B.1.2.2.2.1 (B.1.2.2.2.2.1 _ mw_1607) dJ6_bitCount_0f7a4_11 ?_
  refine lv_seti (y := iI 858993459) (by decide) ?_
  refine lv_iand hx hb dJ6_bitCount_0f7a4_14 ?_
  refine lv_seti (y := iI 0) (by decide) ?_
  refine lv_iload_n hx hb dJ6_bitCount_0f7a4_15 rfl (lv_at hl 0 rfl) ?_
  refine lv_iconst (v := iI 2) hx hb dJ6_bitCount_0f7a4_16 (by decide) ?_
  refine lv_iushr (v := iI 1) hx hb dJ6_bitCount_0f7a4_17 (by decide) ?_
  refine lv_ldcw (v := 858993459) hx hb B.1.2.2.2.1 (B.1.2.2.2.2.1 _ mw_1607) dJ6_bitCount_0f7a4_18 ?_
  refine lv_seti (y := iI 858993459) (by decide) ?_
  refine lv_iand hx hb dJ6_bitCount_0f7a4_21 ?_
  refine lv_seti (y := iI 1) (by decide) ?_
  refine lv_iadd hx hb dJ6_bitCount_0f7a4_22 ?_
  refine lv_seti (y := iI 1) (by decide) ?_
  refine lv_istore_n (lv' := [(0, .int (iI 1))]) hx hb dJ6_bitCount_0f7a4_23 rfl hl (by decide) rfl (fun ls hl => ?_)
  refine lv_iload_n hx hb dJ6_bitCount_0f7a4_24 rfl (lv_at hl 0 rfl) ?_
  refine lv_iload_n hx hb dJ6_bitCount_0f7a4_25 rfl (lv_at hl 0 rfl) ?_
  refine lv_iconst (v := iI 4) hx hb dJ6_bitCount_0f7a4_26 (by decide) ?_
  refine lv_iushr (v := iI 0) hx hb dJ6_bitCount_0f7a4_27 (by decide) ?_
  refine lv_iadd hx hb dJ6_bitCount_0f7a4_28 ?_
  refine lv_seti (y := iI 1) (by decide) ?_
  refine lv_ldcw (v := 252645135) hx hb B.1.2.2.2.1 (B.1.2.2.2.2.1 _ mw_1608) dJ6_bitCount_0f7a4_29 ?_
  refine lv_seti (y := iI 252645135) (by decide) ?_
  refine lv_iand hx hb dJ6_bitCount_0f7a4_32 ?_
  refine lv_seti (y := iI 1) (by decide) ?_
  refine lv_istore_n (lv' := [(0, .int (iI 1))]) hx hb dJ6_bitCount_0f7a4_33 rfl hl (by decide) rfl (fun ls hl => ?_)
  refine lv_iload_n hx hb dJ6_bitCount_0f7a4_34 rfl (lv_at hl 0 rfl) ?_
  refine lv_iload_n hx hb dJ6_bitCount_0f7a4_35 rfl (lv_at hl 0 rfl) ?_
  refine lv_bipush (v := iI 8) hx hb dJ6_bitCount_0f7a4_36 (by decide) ?_
  refine lv_iushr (v := iI 0) hx hb dJ6_bitCount_0f7a4_38 (by decide) ?_
  refine lv_iadd hx hb dJ6_bitCount_0f7a4_39 ?_
  refine lv_seti (y := iI 1) (by decide) ?_
  refine lv_istore_n (lv' := [(0, .int (iI 1))]) hx hb dJ6_bitCount_0f7a4_40 rfl hl (by decide) rfl (fun ls hl => ?_)
  refine lv_iload_n hx hb dJ6_bitCount_0f7a4_41 rfl (lv_at hl 0 rfl) ?_
  refine lv_iload_n hx hb dJ6_bitCount_0f7a4_42 rfl (lv_at hl 0 rfl) ?_
  refine lv_bipush (v := iI 16) hx hb dJ6_bitCount_0f7a4_43 (by decide) ?_
  refine lv_iushr (v := iI 0) hx hb dJ6_bitCount_0f7a4_45 (by decide) ?_
  refine lv_iadd hx hb dJ6_bitCount_0f7a4_46 ?_
  refine lv_seti (y := iI 1) (by decide) ?_
  refine lv_istore_n (lv' := [(0, .int (iI 1))]) hx hb dJ6_bitCount_0f7a4_47 rfl hl (by decide) rfl (fun ls hl => ?_)
  refine lv_iload_n hx hb dJ6_bitCount_0f7a4_48 rfl (lv_at hl 0 rfl) ?_
  refine lv_bipush (v := iI 63) hx hb dJ6_bitCount_0f7a4_49 (by decide) ?_
  refine lv_iand hx hb dJ6_bitCount_0f7a4_51 ?_
  refine lv_seti (y := iI 1) (by decide) ?_
  have e_1 : (bcZ 8) = 1 := (by decide)
  skip
  exact k_iret B hr (⟨(by rw [e_1]), rfl, rfl, rfl⟩) ⟨Nat.le_of_ble_eq_true rfl, Nat.le_of_ble_eq_true rfl⟩ ⟨Nat.le_of_ble_eq_true rfl, Nat.le_of_ble_eq_true rfl⟩ dJ6_bitCount_0f7a4_52

set_option maxHeartbeats 4000000 in
set_option maxRecDepth 100000 in
theorem k_bc9 (l : Launch) (dC : Nat → ClassId) (dI : Nat → Nat → Nat) (k : Nat → ClassId) : Kn l dC dI k yJ6_bitCount_0f7a4 (.code yJ6_bitCount_0f7a4 cJ6_bitCount_0f7a4 1 (some .int)) ({ frames := 0, cells := 0, slots := 0, locals := 0 } : Room) [.int (iI 9)] [] (fun r w gc gs => (r = some (.int (iI (bcZ 9))) ∧ w = [] ∧ gc = 0 ∧ gs = 0)) := by
  refine kn_of (by decide) (Nat.le_of_ble_eq_true rfl) ?_
  intro p e s m args below meth c H locs B hr hnm ls hl
  have hx := B.1.1
  have hb := B.1.2.1
  have hl : lv_has ls 1 [(0, .int (iI 9))] := hl
  refine lv_iload_n hx hb dJ6_bitCount_0f7a4_0 rfl (lv_at hl 0 rfl) ?_
  refine lv_iload_n hx hb dJ6_bitCount_0f7a4_1 rfl (lv_at hl 0 rfl) ?_
  refine lv_iconst (v := iI 1) hx hb dJ6_bitCount_0f7a4_2 (by decide) ?_
  refine lv_iushr (v := iI 4) hx hb dJ6_bitCount_0f7a4_3 (by decide) ?_
  refine lv_ldcw (v := 1431655765) hx hb B.1.2.2.2.1 (B.1.2.2.2.2.1 _ mw_1606) dJ6_bitCount_0f7a4_4 ?_
  refine lv_seti (y := iI 1431655765) (by decide) ?_
  refine lv_iand hx hb dJ6_bitCount_0f7a4_7 ?_
  refine lv_seti (y := iI 4) (by decide) ?_
  refine lv_isub hx hb dJ6_bitCount_0f7a4_8 ?_
  refine lv_seti (y := iI 5) (by decide) ?_
  refine lv_istore_n (lv' := [(0, .int (iI 5))]) hx hb dJ6_bitCount_0f7a4_9 rfl hl (by decide) rfl (fun ls hl => ?_)
  refine lv_iload_n hx hb dJ6_bitCount_0f7a4_10 rfl (lv_at hl 0 rfl) ?_
  refine lv_ldcw (v := 858993459) hx hb B.1.2.2.2.1 (B.1.2.2.2.2.1 _ mw_1607) dJ6_bitCount_0f7a4_11 ?_
  refine lv_seti (y := iI 858993459) (by decide) ?_
  refine lv_iand hx hb dJ6_bitCount_0f7a4_14 ?_
  refine lv_seti (y := iI 1) (by decide) ?_
  refine lv_iload_n hx hb dJ6_bitCount_0f7a4_15 rfl (lv_at hl 0 rfl) ?_
  refine lv_iconst (v := iI 2) hx hb dJ6_bitCount_0f7a4_16 (by decide) ?_
  refine lv_iushr (v := iI 1) hx hb dJ6_bitCount_0f7a4_17 (by decide) ?_
  refine lv_ldcw (v := 858993459) hx hb B.1.2.2.2.1 (B.1.2.2.2.2.1 _ mw_1607) dJ6_bitCount_0f7a4_18 ?_
  refine lv_seti (y := iI 858993459) (by decide) ?_
  refine lv_iand hx hb dJ6_bitCount_0f7a4_21 ?_
  refine lv_seti (y := iI 1) (by decide) ?_
  refine lv_iadd hx hb dJ6_bitCount_0f7a4_22 ?_
  refine lv_seti (y := iI 2) (by decide) ?_
  refine lv_istore_n (lv' := [(0, .int (iI 2))]) hx hb dJ6_bitCount_0f7a4_23 rfl hl (by decide) rfl (fun ls hl => ?_)
  refine lv_iload_n hx hb dJ6_bitCount_0f7a4_24 rfl (lv_at hl 0 rfl) ?_
  refine lv_iload_n hx hb dJ6_bitCount_0f7a4_25 rfl (lv_at hl 0 rfl) ?_
  refine lv_iconst (v := iI 4) hx hb dJ6_bitCount_0f7a4_26 (by decide) ?_
  refine lv_iushr (v := iI 0) hx hb dJ6_bitCount_0f7a4_27 (by decide) ?_
  refine lv_iadd hx hb dJ6_bitCount_0f7a4_28 ?_
  refine lv_seti (y := iI 2) (by decide) ?_
  refine lv_ldcw (v := 252645135) hx hb B.1.2.2.2.1 (B.1.2.2.2.2.1 _ mw_1608) dJ6_bitCount_0f7a4_29 ?_
  refine lv_seti (y := iI 252645135) (by decide) ?_
  refine lv_iand hx hb dJ6_bitCount_0f7a4_32 ?_
  refine lv_seti (y := iI 2) (by decide) ?_
  refine lv_istore_n (lv' := [(0, .int (iI 2))]) hx hb dJ6_bitCount_0f7a4_33 rfl hl (by decide) rfl (fun ls hl => ?_)
  refine lv_iload_n hx hb dJ6_bitCount_0f7a4_34 rfl (lv_at hl 0 rfl) ?_
  refine lv_iload_n hx hb dJ6_bitCount_0f7a4_35 rfl (lv_at hl 0 rfl) ?_
  refine lv_bipush (v := iI 8) hx hb dJ6_bitCount_0f7a4_36 (by decide) ?_
  refine lv_iushr (v := iI 0) hx hb dJ6_bitCount_0f7a4_38 (by decide) ?_
  refine lv_iadd hx hb dJ6_bitCount_0f7a4_39 ?_
  refine lv_seti (y := iI 2) (by decide) ?_
  refine lv_istore_n (lv' := [(0, .int (iI 2))]) hx hb dJ6_bitCount_0f7a4_40 rfl hl (by decide) rfl (fun ls hl => ?_)
  refine lv_iload_n hx hb dJ6_bitCount_0f7a4_41 rfl (lv_at hl 0 rfl) ?_
  refine lv_iload_n hx hb dJ6_bitCount_0f7a4_42 rfl (lv_at hl 0 rfl) ?_
  refine lv_bipush (v := iI 16) hx hb dJ6_bitCount_0f7a4_43 (by decide) ?_
  refine lv_iushr (v := iI 0) hx hb dJ6_bitCount_0f7a4_45 (by decide) ?_
  refine lv_iadd hx hb dJ6_bitCount_0f7a4_46 ?_
  refine lv_seti (y := iI 2) (by decide) ?_
  refine lv_istore_n (lv' := [(0, .int (iI 2))]) hx hb dJ6_bitCount_0f7a4_47 rfl hl (by decide) rfl (fun ls hl => ?_)
  refine lv_iload_n hx hb dJ6_bitCount_0f7a4_48 rfl (lv_at hl 0 rfl) ?_
  refine lv_bipush (v := iI 63) hx hb dJ6_bitCount_0f7a4_49 (by decide) ?_
  refine lv_iand hx hb dJ6_bitCount_0f7a4_51 ?_
  refine lv_seti (y := iI 2) (by decide) ?_
  have e_1 : (bcZ 9) = 2 := (by decide)
  skip
  exact k_iret B hr (⟨(by rw [e_1]), rfl, rfl, rfl⟩) ⟨Nat.le_of_ble_eq_true rfl, Nat.le_of_ble_eq_true rfl⟩ ⟨Nat.le_of_ble_eq_true rfl, Nat.le_of_ble_eq_true rfl⟩ dJ6_bitCount_0f7a4_52

set_option maxHeartbeats 4000000 in
set_option maxRecDepth 100000 in
theorem k_bc10 (l : Launch) (dC : Nat → ClassId) (dI : Nat → Nat → Nat) (k : Nat → ClassId) : Kn l dC dI k yJ6_bitCount_0f7a4 (.code yJ6_bitCount_0f7a4 cJ6_bitCount_0f7a4 1 (some .int)) ({ frames := 0, cells := 0, slots := 0, locals := 0 } : Room) [.int (iI 10)] [] (fun r w gc gs => (r = some (.int (iI (bcZ 10))) ∧ w = [] ∧ gc = 0 ∧ gs = 0)) := by
  refine kn_of (by decide) (Nat.le_of_ble_eq_true rfl) ?_
  intro p e s m args below meth c H locs B hr hnm ls hl
  have hx := B.1.1
  have hb := B.1.2.1
  have hl : lv_has ls 1 [(0, .int (iI 10))] := hl
  refine lv_iload_n hx hb dJ6_bitCount_0f7a4_0 rfl (lv_at hl 0 rfl) ?_
  refine lv_iload_n hx hb dJ6_bitCount_0f7a4_1 rfl (lv_at hl 0 rfl) ?_
  refine lv_iconst (v := iI 1) hx hb dJ6_bitCount_0f7a4_2 (by decide) ?_
  refine lv_iushr (v := iI 5) hx hb dJ6_bitCount_0f7a4_3 (by decide) ?_
  refine lv_ldcw (v := 1431655765) hx hb B.1.2.2.2.1 (B.1.2.2.2.2.1 _ mw_1606) dJ6_bitCount_0f7a4_4 ?_
  refine lv_seti (y := iI 1431655765) (by decide) ?_
  refine lv_iand hx hb dJ6_bitCount_0f7a4_7 ?_
  refine lv_seti (y := iI 5) (by decide) ?_
  refine lv_isub hx hb dJ6_bitCount_0f7a4_8 ?_
  refine lv_seti (y := iI 5) (by decide) ?_
  refine lv_istore_n (lv' := [(0, .int (iI 5))]) hx hb dJ6_bitCount_0f7a4_9 rfl hl (by decide) rfl (fun ls hl => ?_)
  refine lv_iload_n hx hb dJ6_bitCount_0f7a4_10 rfl (lv_at hl 0 rfl) ?_
  refine lv_ldcw (v := 858993459) hx hb B.1.2.2.2.1 (B.1.2.2.2.2.1 _ mw_1607) dJ6_bitCount_0f7a4_11 ?_
  refine lv_seti (y := iI 858993459) (by decide) ?_
  refine lv_iand hx hb dJ6_bitCount_0f7a4_14 ?_
  refine lv_seti (y := iI 1) (by decide) ?_
  refine lv_iload_n hx hb dJ6_bitCount_0f7a4_15 rfl (lv_at hl 0 rfl) ?_
  refine lv_iconst (v := iI 2) hx hb dJ6_bitCount_0f7a4_16 (by decide) ?_
  refine lv_iushr (v := iI 1) hx hb dJ6_bitCount_0f7a4_17 (by decide) ?_
  refine lv_ldcw (v := 858993459) hx hb B.1.2.2.2.1 (B.1.2.2.2.2.1 _ mw_1607) dJ6_bitCount_0f7a4_18 ?_
  refine lv_seti (y := iI 858993459) (by decide) ?_
  refine lv_iand hx hb dJ6_bitCount_0f7a4_21 ?_
  refine lv_seti (y := iI 1) (by decide) ?_
  refine lv_iadd hx hb dJ6_bitCount_0f7a4_22 ?_
  refine lv_seti (y := iI 2) (by decide) ?_
  refine lv_istore_n (lv' := [(0, .int (iI 2))]) hx hb dJ6_bitCount_0f7a4_23 rfl hl (by decide) rfl (fun ls hl => ?_)
  refine lv_iload_n hx hb dJ6_bitCount_0f7a4_24 rfl (lv_at hl 0 rfl) ?_
  refine lv_iload_n hx hb dJ6_bitCount_0f7a4_25 rfl (lv_at hl 0 rfl) ?_
  refine lv_iconst (v := iI 4) hx hb dJ6_bitCount_0f7a4_26 (by decide) ?_
  refine lv_iushr (v := iI 0) hx hb dJ6_bitCount_0f7a4_27 (by decide) ?_
  refine lv_iadd hx hb dJ6_bitCount_0f7a4_28 ?_
  refine lv_seti (y := iI 2) (by decide) ?_
  refine lv_ldcw (v := 252645135) hx hb B.1.2.2.2.1 (B.1.2.2.2.2.1 _ mw_1608) dJ6_bitCount_0f7a4_29 ?_
  refine lv_seti (y := iI 252645135) (by decide) ?_
  refine lv_iand hx hb dJ6_bitCount_0f7a4_32 ?_
  refine lv_seti (y := iI 2) (by decide) ?_
  refine lv_istore_n (lv' := [(0, .int (iI 2))]) hx hb dJ6_bitCount_0f7a4_33 rfl hl (by decide) rfl (fun ls hl => ?_)
  refine lv_iload_n hx hb dJ6_bitCount_0f7a4_34 rfl (lv_at hl 0 rfl) ?_
  refine lv_iload_n hx hb dJ6_bitCount_0f7a4_35 rfl (lv_at hl 0 rfl) ?_
  refine lv_bipush (v := iI 8) hx hb dJ6_bitCount_0f7a4_36 (by decide) ?_
  refine lv_iushr (v := iI 0) hx hb dJ6_bitCount_0f7a4_38 (by decide) ?_
  refine lv_iadd hx hb dJ6_bitCount_0f7a4_39 ?_
  refine lv_seti (y := iI 2) (by decide) ?_
  refine lv_istore_n (lv' := [(0, .int (iI 2))]) hx hb dJ6_bitCount_0f7a4_40 rfl hl (by decide) rfl (fun ls hl => ?_)
  refine lv_iload_n hx hb dJ6_bitCount_0f7a4_41 rfl (lv_at hl 0 rfl) ?_
  refine lv_iload_n hx hb dJ6_bitCount_0f7a4_42 rfl (lv_at hl 0 rfl) ?_
  refine lv_bipush (v := iI 16) hx hb dJ6_bitCount_0f7a4_43 (by decide) ?_
  refine lv_iushr (v := iI 0) hx hb dJ6_bitCount_0f7a4_45 (by decide) ?_
  refine lv_iadd hx hb dJ6_bitCount_0f7a4_46 ?_
  refine lv_seti (y := iI 2) (by decide) ?_
  refine lv_istore_n (lv' := [(0, .int (iI 2))]) hx hb dJ6_bitCount_0f7a4_47 rfl hl (by decide) rfl (fun ls hl => ?_)
  refine lv_iload_n hx hb dJ6_bitCount_0f7a4_48 rfl (lv_at hl 0 rfl) ?_
  refine lv_bipush (v := iI 63) hx hb dJ6_bitCount_0f7a4_49 (by decide) ?_
  refine lv_iand hx hb dJ6_bitCount_0f7a4_51 ?_
  refine lv_seti (y := iI 2) (by decide) ?_
  have e_1 : (bcZ 10) = 2 := (by decide)
  skip
  exact k_iret B hr (⟨(by rw [e_1]), rfl, rfl, rfl⟩) ⟨Nat.le_of_ble_eq_true rfl, Nat.le_of_ble_eq_true rfl⟩ ⟨Nat.le_of_ble_eq_true rfl, Nat.le_of_ble_eq_true rfl⟩ dJ6_bitCount_0f7a4_52

set_option maxHeartbeats 4000000 in
set_option maxRecDepth 100000 in
theorem k_bc11 (l : Launch) (dC : Nat → ClassId) (dI : Nat → Nat → Nat) (k : Nat → ClassId) : Kn l dC dI k yJ6_bitCount_0f7a4 (.code yJ6_bitCount_0f7a4 cJ6_bitCount_0f7a4 1 (some .int)) ({ frames := 0, cells := 0, slots := 0, locals := 0 } : Room) [.int (iI 11)] [] (fun r w gc gs => (r = some (.int (iI (bcZ 11))) ∧ w = [] ∧ gc = 0 ∧ gs = 0)) := by
  refine kn_of (by decide) (Nat.le_of_ble_eq_true rfl) ?_
  intro p e s m args below meth c H locs B hr hnm ls hl
  have hx := B.1.1
  have hb := B.1.2.1
  have hl : lv_has ls 1 [(0, .int (iI 11))] := hl
  refine lv_iload_n hx hb dJ6_bitCount_0f7a4_0 rfl (lv_at hl 0 rfl) ?_
  refine lv_iload_n hx hb dJ6_bitCount_0f7a4_1 rfl (lv_at hl 0 rfl) ?_
  refine lv_iconst (v := iI 1) hx hb dJ6_bitCount_0f7a4_2 (by decide) ?_
  refine lv_iushr (v := iI 5) hx hb dJ6_bitCount_0f7a4_3 (by decide) ?_
  refine lv_ldcw (v := 1431655765) hx hb B.1.2.2.2.1 (B.1.2.2.2.2.1 _ mw_1606) dJ6_bitCount_0f7a4_4 ?_
  refine lv_seti (y := iI 1431655765) (by decide) ?_
  refine lv_iand hx hb dJ6_bitCount_0f7a4_7 ?_
  refine lv_seti (y := iI 5) (by decide) ?_
  refine lv_isub hx hb dJ6_bitCount_0f7a4_8 ?_
  refine lv_seti (y := iI 6) (by decide) ?_
  refine lv_istore_n (lv' := [(0, .int (iI 6))]) hx hb dJ6_bitCount_0f7a4_9 rfl hl (by decide) rfl (fun ls hl => ?_)
  refine lv_iload_n hx hb dJ6_bitCount_0f7a4_10 rfl (lv_at hl 0 rfl) ?_
  refine lv_ldcw (v := 858993459) hx hb B.1.2.2.2.1 (B.1.2.2.2.2.1 _ mw_1607) dJ6_bitCount_0f7a4_11 ?_
  refine lv_seti (y := iI 858993459) (by decide) ?_
  refine lv_iand hx hb dJ6_bitCount_0f7a4_14 ?_
  refine lv_seti (y := iI 2) (by decide) ?_
  refine lv_iload_n hx hb dJ6_bitCount_0f7a4_15 rfl (lv_at hl 0 rfl) ?_
  refine lv_iconst (v := iI 2) hx hb dJ6_bitCount_0f7a4_16 (by decide) ?_
  refine lv_iushr (v := iI 1) hx hb dJ6_bitCount_0f7a4_17 (by decide) ?_
  refine lv_ldcw (v := 858993459) hx hb B.1.2.2.2.1 (B.1.2.2.2.2.1 _ mw_1607) dJ6_bitCount_0f7a4_18 ?_
  refine lv_seti (y := iI 858993459) (by decide) ?_
  refine lv_iand hx hb dJ6_bitCount_0f7a4_21 ?_
  refine lv_seti (y := iI 1) (by decide) ?_
  refine lv_iadd hx hb dJ6_bitCount_0f7a4_22 ?_
  refine lv_seti (y := iI 3) (by decide) ?_
  refine lv_istore_n (lv' := [(0, .int (iI 3))]) hx hb dJ6_bitCount_0f7a4_23 rfl hl (by decide) rfl (fun ls hl => ?_)
  refine lv_iload_n hx hb dJ6_bitCount_0f7a4_24 rfl (lv_at hl 0 rfl) ?_
  refine lv_iload_n hx hb dJ6_bitCount_0f7a4_25 rfl (lv_at hl 0 rfl) ?_
  refine lv_iconst (v := iI 4) hx hb dJ6_bitCount_0f7a4_26 (by decide) ?_
  refine lv_iushr (v := iI 0) hx hb dJ6_bitCount_0f7a4_27 (by decide) ?_
  refine lv_iadd hx hb dJ6_bitCount_0f7a4_28 ?_
  refine lv_seti (y := iI 3) (by decide) ?_
  refine lv_ldcw (v := 252645135) hx hb B.1.2.2.2.1 (B.1.2.2.2.2.1 _ mw_1608) dJ6_bitCount_0f7a4_29 ?_
  refine lv_seti (y := iI 252645135) (by decide) ?_
  refine lv_iand hx hb dJ6_bitCount_0f7a4_32 ?_
  refine lv_seti (y := iI 3) (by decide) ?_
  refine lv_istore_n (lv' := [(0, .int (iI 3))]) hx hb dJ6_bitCount_0f7a4_33 rfl hl (by decide) rfl (fun ls hl => ?_)
  refine lv_iload_n hx hb dJ6_bitCount_0f7a4_34 rfl (lv_at hl 0 rfl) ?_
  refine lv_iload_n hx hb dJ6_bitCount_0f7a4_35 rfl (lv_at hl 0 rfl) ?_
  refine lv_bipush (v := iI 8) hx hb dJ6_bitCount_0f7a4_36 (by decide) ?_
  refine lv_iushr (v := iI 0) hx hb dJ6_bitCount_0f7a4_38 (by decide) ?_
  refine lv_iadd hx hb dJ6_bitCount_0f7a4_39 ?_
  refine lv_seti (y := iI 3) (by decide) ?_
  refine lv_istore_n (lv' := [(0, .int (iI 3))]) hx hb dJ6_bitCount_0f7a4_40 rfl hl (by decide) rfl (fun ls hl => ?_)
  refine lv_iload_n hx hb dJ6_bitCount_0f7a4_41 rfl (lv_at hl 0 rfl) ?_
  refine lv_iload_n hx hb dJ6_bitCount_0f7a4_42 rfl (lv_at hl 0 rfl) ?_
  refine lv_bipush (v := iI 16) hx hb dJ6_bitCount_0f7a4_43 (by decide) ?_
  refine lv_iushr (v := iI 0) hx hb dJ6_bitCount_0f7a4_45 (by decide) ?_
  refine lv_iadd hx hb dJ6_bitCount_0f7a4_46 ?_
  refine lv_seti (y := iI 3) (by decide) ?_
  refine lv_istore_n (lv' := [(0, .int (iI 3))]) hx hb dJ6_bitCount_0f7a4_47 rfl hl (by decide) rfl (fun ls hl => ?_)
  refine lv_iload_n hx hb dJ6_bitCount_0f7a4_48 rfl (lv_at hl 0 rfl) ?_
  refine lv_bipush (v := iI 63) hx hb dJ6_bitCount_0f7a4_49 (by decide) ?_
  refine lv_iand hx hb dJ6_bitCount_0f7a4_51 ?_
  refine lv_seti (y := iI 3) (by decide) ?_
  have e_1 : (bcZ 11) = 3 := (by decide)
  skip
  exact k_iret B hr (⟨(by rw [e_1]), rfl, rfl, rfl⟩) ⟨Nat.le_of_ble_eq_true rfl, Nat.le_of_ble_eq_true rfl⟩ ⟨Nat.le_of_ble_eq_true rfl, Nat.le_of_ble_eq_true rfl⟩ dJ6_bitCount_0f7a4_52

set_option maxHeartbeats 4000000 in
set_option maxRecDepth 100000 in
theorem k_bc12 (l : Launch) (dC : Nat → ClassId) (dI : Nat → Nat → Nat) (k : Nat → ClassId) : Kn l dC dI k yJ6_bitCount_0f7a4 (.code yJ6_bitCount_0f7a4 cJ6_bitCount_0f7a4 1 (some .int)) ({ frames := 0, cells := 0, slots := 0, locals := 0 } : Room) [.int (iI 12)] [] (fun r w gc gs => (r = some (.int (iI (bcZ 12))) ∧ w = [] ∧ gc = 0 ∧ gs = 0)) := by
  refine kn_of (by decide) (Nat.le_of_ble_eq_true rfl) ?_
  intro p e s m args below meth c H locs B hr hnm ls hl
  have hx := B.1.1
  have hb := B.1.2.1
  have hl : lv_has ls 1 [(0, .int (iI 12))] := hl
  refine lv_iload_n hx hb dJ6_bitCount_0f7a4_0 rfl (lv_at hl 0 rfl) ?_
  refine lv_iload_n hx hb dJ6_bitCount_0f7a4_1 rfl (lv_at hl 0 rfl) ?_
  refine lv_iconst (v := iI 1) hx hb dJ6_bitCount_0f7a4_2 (by decide) ?_
  refine lv_iushr (v := iI 6) hx hb dJ6_bitCount_0f7a4_3 (by decide) ?_
  refine lv_ldcw (v := 1431655765) hx hb B.1.2.2.2.1 (B.1.2.2.2.2.1 _ mw_1606) dJ6_bitCount_0f7a4_4 ?_
  refine lv_seti (y := iI 1431655765) (by decide) ?_
  refine lv_iand hx hb dJ6_bitCount_0f7a4_7 ?_
  refine lv_seti (y := iI 4) (by decide) ?_
  refine lv_isub hx hb dJ6_bitCount_0f7a4_8 ?_
  refine lv_seti (y := iI 8) (by decide) ?_
  refine lv_istore_n (lv' := [(0, .int (iI 8))]) hx hb dJ6_bitCount_0f7a4_9 rfl hl (by decide) rfl (fun ls hl => ?_)
  refine lv_iload_n hx hb dJ6_bitCount_0f7a4_10 rfl (lv_at hl 0 rfl) ?_
  refine lv_ldcw (v := 858993459) hx hb B.1.2.2.2.1 (B.1.2.2.2.2.1 _ mw_1607) dJ6_bitCount_0f7a4_11 ?_
  refine lv_seti (y := iI 858993459) (by decide) ?_
  refine lv_iand hx hb dJ6_bitCount_0f7a4_14 ?_
  refine lv_seti (y := iI 0) (by decide) ?_
  refine lv_iload_n hx hb dJ6_bitCount_0f7a4_15 rfl (lv_at hl 0 rfl) ?_
  refine lv_iconst (v := iI 2) hx hb dJ6_bitCount_0f7a4_16 (by decide) ?_
  refine lv_iushr (v := iI 2) hx hb dJ6_bitCount_0f7a4_17 (by decide) ?_
  refine lv_ldcw (v := 858993459) hx hb B.1.2.2.2.1 (B.1.2.2.2.2.1 _ mw_1607) dJ6_bitCount_0f7a4_18 ?_
  refine lv_seti (y := iI 858993459) (by decide) ?_
  refine lv_iand hx hb dJ6_bitCount_0f7a4_21 ?_
  refine lv_seti (y := iI 2) (by decide) ?_
  refine lv_iadd hx hb dJ6_bitCount_0f7a4_22 ?_
  refine lv_seti (y := iI 2) (by decide) ?_
  refine lv_istore_n (lv' := [(0, .int (iI 2))]) hx hb dJ6_bitCount_0f7a4_23 rfl hl (by decide) rfl (fun ls hl => ?_)
  refine lv_iload_n hx hb dJ6_bitCount_0f7a4_24 rfl (lv_at hl 0 rfl) ?_
  refine lv_iload_n hx hb dJ6_bitCount_0f7a4_25 rfl (lv_at hl 0 rfl) ?_
  refine lv_iconst (v := iI 4) hx hb dJ6_bitCount_0f7a4_26 (by decide) ?_
  refine lv_iushr (v := iI 0) hx hb dJ6_bitCount_0f7a4_27 (by decide) ?_
  refine lv_iadd hx hb dJ6_bitCount_0f7a4_28 ?_
  refine lv_seti (y := iI 2) (by decide) ?_
  refine lv_ldcw (v := 252645135) hx hb B.1.2.2.2.1 (B.1.2.2.2.2.1 _ mw_1608) dJ6_bitCount_0f7a4_29 ?_
  refine lv_seti (y := iI 252645135) (by decide) ?_
  refine lv_iand hx hb dJ6_bitCount_0f7a4_32 ?_
  refine lv_seti (y := iI 2) (by decide) ?_
  refine lv_istore_n (lv' := [(0, .int (iI 2))]) hx hb dJ6_bitCount_0f7a4_33 rfl hl (by decide) rfl (fun ls hl => ?_)
  refine lv_iload_n hx hb dJ6_bitCount_0f7a4_34 rfl (lv_at hl 0 rfl) ?_
  refine lv_iload_n hx hb dJ6_bitCount_0f7a4_35 rfl (lv_at hl 0 rfl) ?_
  refine lv_bipush (v := iI 8) hx hb dJ6_bitCount_0f7a4_36 (by decide) ?_
  refine lv_iushr (v := iI 0) hx hb dJ6_bitCount_0f7a4_38 (by decide) ?_
  refine lv_iadd hx hb dJ6_bitCount_0f7a4_39 ?_
  refine lv_seti (y := iI 2) (by decide) ?_
  refine lv_istore_n (lv' := [(0, .int (iI 2))]) hx hb dJ6_bitCount_0f7a4_40 rfl hl (by decide) rfl (fun ls hl => ?_)
  refine lv_iload_n hx hb dJ6_bitCount_0f7a4_41 rfl (lv_at hl 0 rfl) ?_
  refine lv_iload_n hx hb dJ6_bitCount_0f7a4_42 rfl (lv_at hl 0 rfl) ?_
  refine lv_bipush (v := iI 16) hx hb dJ6_bitCount_0f7a4_43 (by decide) ?_
  refine lv_iushr (v := iI 0) hx hb dJ6_bitCount_0f7a4_45 (by decide) ?_
  refine lv_iadd hx hb dJ6_bitCount_0f7a4_46 ?_
  refine lv_seti (y := iI 2) (by decide) ?_
  refine lv_istore_n (lv' := [(0, .int (iI 2))]) hx hb dJ6_bitCount_0f7a4_47 rfl hl (by decide) rfl (fun ls hl => ?_)
  refine lv_iload_n hx hb dJ6_bitCount_0f7a4_48 rfl (lv_at hl 0 rfl) ?_
  refine lv_bipush (v := iI 63) hx hb dJ6_bitCount_0f7a4_49 (by decide) ?_
  refine lv_iand hx hb dJ6_bitCount_0f7a4_51 ?_
  refine lv_seti (y := iI 2) (by decide) ?_
  have e_1 : (bcZ 12) = 2 := (by decide)
  skip
  exact k_iret B hr (⟨(by rw [e_1]), rfl, rfl, rfl⟩) ⟨Nat.le_of_ble_eq_true rfl, Nat.le_of_ble_eq_true rfl⟩ ⟨Nat.le_of_ble_eq_true rfl, Nat.le_of_ble_eq_true rfl⟩ dJ6_bitCount_0f7a4_52

set_option maxHeartbeats 4000000 in
set_option maxRecDepth 100000 in
theorem k_bc13 (l : Launch) (dC : Nat → ClassId) (dI : Nat → Nat → Nat) (k : Nat → ClassId) : Kn l dC dI k yJ6_bitCount_0f7a4 (.code yJ6_bitCount_0f7a4 cJ6_bitCount_0f7a4 1 (some .int)) ({ frames := 0, cells := 0, slots := 0, locals := 0 } : Room) [.int (iI 13)] [] (fun r w gc gs => (r = some (.int (iI (bcZ 13))) ∧ w = [] ∧ gc = 0 ∧ gs = 0)) := by
  refine kn_of (by decide) (Nat.le_of_ble_eq_true rfl) ?_
  intro p e s m args below meth c H locs B hr hnm ls hl
  have hx := B.1.1
  have hb := B.1.2.1
  have hl : lv_has ls 1 [(0, .int (iI 13))] := hl
  refine lv_iload_n hx hb dJ6_bitCount_0f7a4_0 rfl (lv_at hl 0 rfl) ?_
  refine lv_iload_n hx hb dJ6_bitCount_0f7a4_1 rfl (lv_at hl 0 rfl) ?_
  refine lv_iconst (v := iI 1) hx hb dJ6_bitCount_0f7a4_2 (by decide) ?_
  refine lv_iushr (v := iI 6) hx hb dJ6_bitCount_0f7a4_3 (by decide) ?_
  refine lv_ldcw (v := 1431655765) hx hb B.1.2.2.2.1 (B.1.2.2.2.2.1 _ mw_1606) dJ6_bitCount_0f7a4_4 ?_
  refine lv_seti (y := iI 1431655765) (by decide) ?_
  refine lv_iand hx hb dJ6_bitCount_0f7a4_7 ?_
  refine lv_seti (y := iI 4) (by decide) ?_
  refine lv_isub hx hb dJ6_bitCount_0f7a4_8 ?_
  refine lv_seti (y := iI 9) (by decide) ?_
  refine lv_istore_n (lv' := [(0, .int (iI 9))]) hx hb dJ6_bitCount_0f7a4_9 rfl hl (by decide) rfl (fun ls hl => ?_)
  refine lv_iload_n hx hb dJ6_bitCount_0f7a4_10 rfl (lv_at hl 0 rfl) ?_
  refine lv_ldcw (v := 858993459) hx hb B.1.2.2.2.1 (B.1.2.2.2.2.1 _ mw_1607) dJ6_bitCount_0f7a4_11 ?_
  refine lv_seti (y := iI 858993459) (by decide) ?_
  refine lv_iand hx hb dJ6_bitCount_0f7a4_14 ?_
  refine lv_seti (y := iI 1) (by decide) ?_
  refine lv_iload_n hx hb dJ6_bitCount_0f7a4_15 rfl (lv_at hl 0 rfl) ?_
  refine lv_iconst (v := iI 2) hx hb dJ6_bitCount_0f7a4_16 (by decide) ?_
  refine lv_iushr (v := iI 2) hx hb dJ6_bitCount_0f7a4_17 (by decide) ?_
  refine lv_ldcw (v := 858993459) hx hb B.1.2.2.2.1 (B.1.2.2.2.2.1 _ mw_1607) dJ6_bitCount_0f7a4_18 ?_
  refine lv_seti (y := iI 858993459) (by decide) ?_
  refine lv_iand hx hb dJ6_bitCount_0f7a4_21 ?_
  refine lv_seti (y := iI 2) (by decide) ?_
  refine lv_iadd hx hb dJ6_bitCount_0f7a4_22 ?_
  refine lv_seti (y := iI 3) (by decide) ?_
  refine lv_istore_n (lv' := [(0, .int (iI 3))]) hx hb dJ6_bitCount_0f7a4_23 rfl hl (by decide) rfl (fun ls hl => ?_)
  refine lv_iload_n hx hb dJ6_bitCount_0f7a4_24 rfl (lv_at hl 0 rfl) ?_
  refine lv_iload_n hx hb dJ6_bitCount_0f7a4_25 rfl (lv_at hl 0 rfl) ?_
  refine lv_iconst (v := iI 4) hx hb dJ6_bitCount_0f7a4_26 (by decide) ?_
  refine lv_iushr (v := iI 0) hx hb dJ6_bitCount_0f7a4_27 (by decide) ?_
  refine lv_iadd hx hb dJ6_bitCount_0f7a4_28 ?_
  refine lv_seti (y := iI 3) (by decide) ?_
  refine lv_ldcw (v := 252645135) hx hb B.1.2.2.2.1 (B.1.2.2.2.2.1 _ mw_1608) dJ6_bitCount_0f7a4_29 ?_
  refine lv_seti (y := iI 252645135) (by decide) ?_
  refine lv_iand hx hb dJ6_bitCount_0f7a4_32 ?_
  refine lv_seti (y := iI 3) (by decide) ?_
  refine lv_istore_n (lv' := [(0, .int (iI 3))]) hx hb dJ6_bitCount_0f7a4_33 rfl hl (by decide) rfl (fun ls hl => ?_)
  refine lv_iload_n hx hb dJ6_bitCount_0f7a4_34 rfl (lv_at hl 0 rfl) ?_
  refine lv_iload_n hx hb dJ6_bitCount_0f7a4_35 rfl (lv_at hl 0 rfl) ?_
  refine lv_bipush (v := iI 8) hx hb dJ6_bitCount_0f7a4_36 (by decide) ?_
  refine lv_iushr (v := iI 0) hx hb dJ6_bitCount_0f7a4_38 (by decide) ?_
  refine lv_iadd hx hb dJ6_bitCount_0f7a4_39 ?_
  refine lv_seti (y := iI 3) (by decide) ?_
  refine lv_istore_n (lv' := [(0, .int (iI 3))]) hx hb dJ6_bitCount_0f7a4_40 rfl hl (by decide) rfl (fun ls hl => ?_)
  refine lv_iload_n hx hb dJ6_bitCount_0f7a4_41 rfl (lv_at hl 0 rfl) ?_
  refine lv_iload_n hx hb dJ6_bitCount_0f7a4_42 rfl (lv_at hl 0 rfl) ?_
  refine lv_bipush (v := iI 16) hx hb dJ6_bitCount_0f7a4_43 (by decide) ?_
  refine lv_iushr (v := iI 0) hx hb dJ6_bitCount_0f7a4_45 (by decide) ?_
  refine lv_iadd hx hb dJ6_bitCount_0f7a4_46 ?_
  refine lv_seti (y := iI 3) (by decide) ?_
  refine lv_istore_n (lv' := [(0, .int (iI 3))]) hx hb dJ6_bitCount_0f7a4_47 rfl hl (by decide) rfl (fun ls hl => ?_)
  refine lv_iload_n hx hb dJ6_bitCount_0f7a4_48 rfl (lv_at hl 0 rfl) ?_
  refine lv_bipush (v := iI 63) hx hb dJ6_bitCount_0f7a4_49 (by decide) ?_
  refine lv_iand hx hb dJ6_bitCount_0f7a4_51 ?_
  refine lv_seti (y := iI 3) (by decide) ?_
  have e_1 : (bcZ 13) = 3 := (by decide)
  skip
  exact k_iret B hr (⟨(by rw [e_1]), rfl, rfl, rfl⟩) ⟨Nat.le_of_ble_eq_true rfl, Nat.le_of_ble_eq_true rfl⟩ ⟨Nat.le_of_ble_eq_true rfl, Nat.le_of_ble_eq_true rfl⟩ dJ6_bitCount_0f7a4_52

set_option maxHeartbeats 4000000 in
set_option maxRecDepth 100000 in
theorem k_bc14 (l : Launch) (dC : Nat → ClassId) (dI : Nat → Nat → Nat) (k : Nat → ClassId) : Kn l dC dI k yJ6_bitCount_0f7a4 (.code yJ6_bitCount_0f7a4 cJ6_bitCount_0f7a4 1 (some .int)) ({ frames := 0, cells := 0, slots := 0, locals := 0 } : Room) [.int (iI 14)] [] (fun r w gc gs => (r = some (.int (iI (bcZ 14))) ∧ w = [] ∧ gc = 0 ∧ gs = 0)) := by
  refine kn_of (by decide) (Nat.le_of_ble_eq_true rfl) ?_
  intro p e s m args below meth c H locs B hr hnm ls hl
  have hx := B.1.1
  have hb := B.1.2.1
  have hl : lv_has ls 1 [(0, .int (iI 14))] := hl
  refine lv_iload_n hx hb dJ6_bitCount_0f7a4_0 rfl (lv_at hl 0 rfl) ?_
  refine lv_iload_n hx hb dJ6_bitCount_0f7a4_1 rfl (lv_at hl 0 rfl) ?_
  refine lv_iconst (v := iI 1) hx hb dJ6_bitCount_0f7a4_2 (by decide) ?_
  refine lv_iushr (v := iI 7) hx hb dJ6_bitCount_0f7a4_3 (by decide) ?_
  refine lv_ldcw (v := 1431655765) hx hb B.1.2.2.2.1 (B.1.2.2.2.2.1 _ mw_1606) dJ6_bitCount_0f7a4_4 ?_
  refine lv_seti (y := iI 1431655765) (by decide) ?_
  refine lv_iand hx hb dJ6_bitCount_0f7a4_7 ?_
  refine lv_seti (y := iI 5) (by decide) ?_
  refine lv_isub hx hb dJ6_bitCount_0f7a4_8 ?_
  refine lv_seti (y := iI 9) (by decide) ?_
  refine lv_istore_n (lv' := [(0, .int (iI 9))]) hx hb dJ6_bitCount_0f7a4_9 rfl hl (by decide) rfl (fun ls hl => ?_)
  refine lv_iload_n hx hb dJ6_bitCount_0f7a4_10 rfl (lv_at hl 0 rfl) ?_
  refine lv_ldcw (v := 858993459) hx hb B.1.2.2.2.1 (B.1.2.2.2.2.1 _ mw_1607) dJ6_bitCount_0f7a4_11 ?_
  refine lv_seti (y := iI 858993459) (by decide) ?_
  refine lv_iand hx hb dJ6_bitCount_0f7a4_14 ?_
  refine lv_seti (y := iI 1) (by decide) ?_
  refine lv_iload_n hx hb dJ6_bitCount_0f7a4_15 rfl (lv_at hl 0 rfl) ?_
  refine lv_iconst (v := iI 2) hx hb dJ6_bitCount_0f7a4_16 (by decide) ?_
  refine lv_iushr (v := iI 2) hx hb dJ6_bitCount_0f7a4_17 (by decide) ?_
  refine lv_ldcw (v := 858993459) hx hb B.1.2.2.2.1 (B.1.2.2.2.2.1 _ mw_1607) dJ6_bitCount_0f7a4_18 ?_
  refine lv_seti (y := iI 858993459) (by decide) ?_
  refine lv_iand hx hb dJ6_bitCount_0f7a4_21 ?_
  refine lv_seti (y := iI 2) (by decide) ?_
  refine lv_iadd hx hb dJ6_bitCount_0f7a4_22 ?_
  refine lv_seti (y := iI 3) (by decide) ?_
  refine lv_istore_n (lv' := [(0, .int (iI 3))]) hx hb dJ6_bitCount_0f7a4_23 rfl hl (by decide) rfl (fun ls hl => ?_)
  refine lv_iload_n hx hb dJ6_bitCount_0f7a4_24 rfl (lv_at hl 0 rfl) ?_
  refine lv_iload_n hx hb dJ6_bitCount_0f7a4_25 rfl (lv_at hl 0 rfl) ?_
  refine lv_iconst (v := iI 4) hx hb dJ6_bitCount_0f7a4_26 (by decide) ?_
  refine lv_iushr (v := iI 0) hx hb dJ6_bitCount_0f7a4_27 (by decide) ?_
  refine lv_iadd hx hb dJ6_bitCount_0f7a4_28 ?_
  refine lv_seti (y := iI 3) (by decide) ?_
  refine lv_ldcw (v := 252645135) hx hb B.1.2.2.2.1 (B.1.2.2.2.2.1 _ mw_1608) dJ6_bitCount_0f7a4_29 ?_
  refine lv_seti (y := iI 252645135) (by decide) ?_
  refine lv_iand hx hb dJ6_bitCount_0f7a4_32 ?_
  refine lv_seti (y := iI 3) (by decide) ?_
  refine lv_istore_n (lv' := [(0, .int (iI 3))]) hx hb dJ6_bitCount_0f7a4_33 rfl hl (by decide) rfl (fun ls hl => ?_)
  refine lv_iload_n hx hb dJ6_bitCount_0f7a4_34 rfl (lv_at hl 0 rfl) ?_
  refine lv_iload_n hx hb dJ6_bitCount_0f7a4_35 rfl (lv_at hl 0 rfl) ?_
  refine lv_bipush (v := iI 8) hx hb dJ6_bitCount_0f7a4_36 (by decide) ?_
  refine lv_iushr (v := iI 0) hx hb dJ6_bitCount_0f7a4_38 (by decide) ?_
  refine lv_iadd hx hb dJ6_bitCount_0f7a4_39 ?_
  refine lv_seti (y := iI 3) (by decide) ?_
  refine lv_istore_n (lv' := [(0, .int (iI 3))]) hx hb dJ6_bitCount_0f7a4_40 rfl hl (by decide) rfl (fun ls hl => ?_)
  refine lv_iload_n hx hb dJ6_bitCount_0f7a4_41 rfl (lv_at hl 0 rfl) ?_
  refine lv_iload_n hx hb dJ6_bitCount_0f7a4_42 rfl (lv_at hl 0 rfl) ?_
  refine lv_bipush (v := iI 16) hx hb dJ6_bitCount_0f7a4_43 (by decide) ?_
  refine lv_iushr (v := iI 0) hx hb dJ6_bitCount_0f7a4_45 (by decide) ?_
  refine lv_iadd hx hb dJ6_bitCount_0f7a4_46 ?_
  refine lv_seti (y := iI 3) (by decide) ?_
  refine lv_istore_n (lv' := [(0, .int (iI 3))]) hx hb dJ6_bitCount_0f7a4_47 rfl hl (by decide) rfl (fun ls hl => ?_)
  refine lv_iload_n hx hb dJ6_bitCount_0f7a4_48 rfl (lv_at hl 0 rfl) ?_
  refine lv_bipush (v := iI 63) hx hb dJ6_bitCount_0f7a4_49 (by decide) ?_
  refine lv_iand hx hb dJ6_bitCount_0f7a4_51 ?_
  refine lv_seti (y := iI 3) (by decide) ?_
  have e_1 : (bcZ 14) = 3 := (by decide)
  skip
  exact k_iret B hr (⟨(by rw [e_1]), rfl, rfl, rfl⟩) ⟨Nat.le_of_ble_eq_true rfl, Nat.le_of_ble_eq_true rfl⟩ ⟨Nat.le_of_ble_eq_true rfl, Nat.le_of_ble_eq_true rfl⟩ dJ6_bitCount_0f7a4_52

set_option maxHeartbeats 4000000 in
set_option maxRecDepth 100000 in
theorem k_bc15 (l : Launch) (dC : Nat → ClassId) (dI : Nat → Nat → Nat) (k : Nat → ClassId) : Kn l dC dI k yJ6_bitCount_0f7a4 (.code yJ6_bitCount_0f7a4 cJ6_bitCount_0f7a4 1 (some .int)) ({ frames := 0, cells := 0, slots := 0, locals := 0 } : Room) [.int (iI 15)] [] (fun r w gc gs => (r = some (.int (iI (bcZ 15))) ∧ w = [] ∧ gc = 0 ∧ gs = 0)) := by
  refine kn_of (by decide) (Nat.le_of_ble_eq_true rfl) ?_
  intro p e s m args below meth c H locs B hr hnm ls hl
  have hx := B.1.1
  have hb := B.1.2.1
  have hl : lv_has ls 1 [(0, .int (iI 15))] := hl
  refine lv_iload_n hx hb dJ6_bitCount_0f7a4_0 rfl (lv_at hl 0 rfl) ?_
  refine lv_iload_n hx hb dJ6_bitCount_0f7a4_1 rfl (lv_at hl 0 rfl) ?_
  refine lv_iconst (v := iI 1) hx hb dJ6_bitCount_0f7a4_2 (by decide) ?_
  refine lv_iushr (v := iI 7) hx hb dJ6_bitCount_0f7a4_3 (by decide) ?_
  refine lv_ldcw (v := 1431655765) hx hb B.1.2.2.2.1 (B.1.2.2.2.2.1 _ mw_1606) dJ6_bitCount_0f7a4_4 ?_
  refine lv_seti (y := iI 1431655765) (by decide) ?_
  refine lv_iand hx hb dJ6_bitCount_0f7a4_7 ?_
  refine lv_seti (y := iI 5) (by decide) ?_
  refine lv_isub hx hb dJ6_bitCount_0f7a4_8 ?_
  refine lv_seti (y := iI 10) (by decide) ?_
  refine lv_istore_n (lv' := [(0, .int (iI 10))]) hx hb dJ6_bitCount_0f7a4_9 rfl hl (by decide) rfl (fun ls hl => ?_)
  refine lv_iload_n hx hb dJ6_bitCount_0f7a4_10 rfl (lv_at hl 0 rfl) ?_
  refine lv_ldcw (v := 858993459) hx hb B.1.2.2.2.1 (B.1.2.2.2.2.1 _ mw_1607) dJ6_bitCount_0f7a4_11 ?_
  refine lv_seti (y := iI 858993459) (by decide) ?_
  refine lv_iand hx hb dJ6_bitCount_0f7a4_14 ?_
  refine lv_seti (y := iI 2) (by decide) ?_
  refine lv_iload_n hx hb dJ6_bitCount_0f7a4_15 rfl (lv_at hl 0 rfl) ?_
  refine lv_iconst (v := iI 2) hx hb dJ6_bitCount_0f7a4_16 (by decide) ?_
  refine lv_iushr (v := iI 2) hx hb dJ6_bitCount_0f7a4_17 (by decide) ?_
  refine lv_ldcw (v := 858993459) hx hb B.1.2.2.2.1 (B.1.2.2.2.2.1 _ mw_1607) dJ6_bitCount_0f7a4_18 ?_
  refine lv_seti (y := iI 858993459) (by decide) ?_
  refine lv_iand hx hb dJ6_bitCount_0f7a4_21 ?_
  refine lv_seti (y := iI 2) (by decide) ?_
  refine lv_iadd hx hb dJ6_bitCount_0f7a4_22 ?_
  refine lv_seti (y := iI 4) (by decide) ?_
  refine lv_istore_n (lv' := [(0, .int (iI 4))]) hx hb dJ6_bitCount_0f7a4_23 rfl hl (by decide) rfl (fun ls hl => ?_)
  refine lv_iload_n hx hb dJ6_bitCount_0f7a4_24 rfl (lv_at hl 0 rfl) ?_
  refine lv_iload_n hx hb dJ6_bitCount_0f7a4_25 rfl (lv_at hl 0 rfl) ?_
  refine lv_iconst (v := iI 4) hx hb dJ6_bitCount_0f7a4_26 (by decide) ?_
  refine lv_iushr (v := iI 0) hx hb dJ6_bitCount_0f7a4_27 (by decide) ?_
  refine lv_iadd hx hb dJ6_bitCount_0f7a4_28 ?_
  refine lv_seti (y := iI 4) (by decide) ?_
  refine lv_ldcw (v := 252645135) hx hb B.1.2.2.2.1 (B.1.2.2.2.2.1 _ mw_1608) dJ6_bitCount_0f7a4_29 ?_
  refine lv_seti (y := iI 252645135) (by decide) ?_
  refine lv_iand hx hb dJ6_bitCount_0f7a4_32 ?_
  refine lv_seti (y := iI 4) (by decide) ?_
  refine lv_istore_n (lv' := [(0, .int (iI 4))]) hx hb dJ6_bitCount_0f7a4_33 rfl hl (by decide) rfl (fun ls hl => ?_)
  refine lv_iload_n hx hb dJ6_bitCount_0f7a4_34 rfl (lv_at hl 0 rfl) ?_
  refine lv_iload_n hx hb dJ6_bitCount_0f7a4_35 rfl (lv_at hl 0 rfl) ?_
  refine lv_bipush (v := iI 8) hx hb dJ6_bitCount_0f7a4_36 (by decide) ?_
  refine lv_iushr (v := iI 0) hx hb dJ6_bitCount_0f7a4_38 (by decide) ?_
  refine lv_iadd hx hb dJ6_bitCount_0f7a4_39 ?_
  refine lv_seti (y := iI 4) (by decide) ?_
  refine lv_istore_n (lv' := [(0, .int (iI 4))]) hx hb dJ6_bitCount_0f7a4_40 rfl hl (by decide) rfl (fun ls hl => ?_)
  refine lv_iload_n hx hb dJ6_bitCount_0f7a4_41 rfl (lv_at hl 0 rfl) ?_
  refine lv_iload_n hx hb dJ6_bitCount_0f7a4_42 rfl (lv_at hl 0 rfl) ?_
  refine lv_bipush (v := iI 16) hx hb dJ6_bitCount_0f7a4_43 (by decide) ?_
  refine lv_iushr (v := iI 0) hx hb dJ6_bitCount_0f7a4_45 (by decide) ?_
  refine lv_iadd hx hb dJ6_bitCount_0f7a4_46 ?_
  refine lv_seti (y := iI 4) (by decide) ?_
  refine lv_istore_n (lv' := [(0, .int (iI 4))]) hx hb dJ6_bitCount_0f7a4_47 rfl hl (by decide) rfl (fun ls hl => ?_)
  refine lv_iload_n hx hb dJ6_bitCount_0f7a4_48 rfl (lv_at hl 0 rfl) ?_
  refine lv_bipush (v := iI 63) hx hb dJ6_bitCount_0f7a4_49 (by decide) ?_
  refine lv_iand hx hb dJ6_bitCount_0f7a4_51 ?_
  refine lv_seti (y := iI 4) (by decide) ?_
  have e_1 : (bcZ 15) = 4 := (by decide)
  skip
  exact k_iret B hr (⟨(by rw [e_1]), rfl, rfl, rfl⟩) ⟨Nat.le_of_ble_eq_true rfl, Nat.le_of_ble_eq_true rfl⟩ ⟨Nat.le_of_ble_eq_true rfl, Nat.le_of_ble_eq_true rfl⟩ dJ6_bitCount_0f7a4_52

set_option maxHeartbeats 4000000 in
set_option maxRecDepth 100000 in
theorem k_bc16 (l : Launch) (dC : Nat → ClassId) (dI : Nat → Nat → Nat) (k : Nat → ClassId) : Kn l dC dI k yJ6_bitCount_0f7a4 (.code yJ6_bitCount_0f7a4 cJ6_bitCount_0f7a4 1 (some .int)) ({ frames := 0, cells := 0, slots := 0, locals := 0 } : Room) [.int (iI 16)] [] (fun r w gc gs => (r = some (.int (iI (bcZ 16))) ∧ w = [] ∧ gc = 0 ∧ gs = 0)) := by
  refine kn_of (by decide) (Nat.le_of_ble_eq_true rfl) ?_
  intro p e s m args below meth c H locs B hr hnm ls hl
  have hx := B.1.1
  have hb := B.1.2.1
  have hl : lv_has ls 1 [(0, .int (iI 16))] := hl
  refine lv_iload_n hx hb dJ6_bitCount_0f7a4_0 rfl (lv_at hl 0 rfl) ?_
  refine lv_iload_n hx hb dJ6_bitCount_0f7a4_1 rfl (lv_at hl 0 rfl) ?_
  refine lv_iconst (v := iI 1) hx hb dJ6_bitCount_0f7a4_2 (by decide) ?_
  refine lv_iushr (v := iI 8) hx hb dJ6_bitCount_0f7a4_3 (by decide) ?_
  refine lv_ldcw (v := 1431655765) hx hb B.1.2.2.2.1 (B.1.2.2.2.2.1 _ mw_1606) dJ6_bitCount_0f7a4_4 ?_
  refine lv_seti (y := iI 1431655765) (by decide) ?_
  refine lv_iand hx hb dJ6_bitCount_0f7a4_7 ?_
  refine lv_seti (y := iI 0) (by decide) ?_
  refine lv_isub hx hb dJ6_bitCount_0f7a4_8 ?_
  refine lv_seti (y := iI 16) (by decide) ?_
  refine lv_istore_n (lv' := [(0, .int (iI 16))]) hx hb dJ6_bitCount_0f7a4_9 rfl hl (by decide) rfl (fun ls hl => ?_)
  refine lv_iload_n hx hb dJ6_bitCount_0f7a4_10 rfl (lv_at hl 0 rfl) ?_
  refine lv_ldcw (v := 858993459) hx hb B.1.2.2.2.1 (B.1.2.2.2.2.1 _ mw_1607) dJ6_bitCount_0f7a4_11 ?_
  refine lv_seti (y := iI 858993459) (by decide) ?_
  refine lv_iand hx hb dJ6_bitCount_0f7a4_14 ?_
  refine lv_seti (y := iI 16) (by decide) ?_
  refine lv_iload_n hx hb dJ6_bitCount_0f7a4_15 rfl (lv_at hl 0 rfl) ?_
  refine lv_iconst (v := iI 2) hx hb dJ6_bitCount_0f7a4_16 (by decide) ?_
  refine lv_iushr (v := iI 4) hx hb dJ6_bitCount_0f7a4_17 (by decide) ?_
  refine lv_ldcw (v := 858993459) hx hb B.1.2.2.2.1 (B.1.2.2.2.2.1 _ mw_1607) dJ6_bitCount_0f7a4_18 ?_
  refine lv_seti (y := iI 858993459) (by decide) ?_
  refine lv_iand hx hb dJ6_bitCount_0f7a4_21 ?_
  refine lv_seti (y := iI 0) (by decide) ?_
  refine lv_iadd hx hb dJ6_bitCount_0f7a4_22 ?_
  refine lv_seti (y := iI 16) (by decide) ?_
  refine lv_istore_n (lv' := [(0, .int (iI 16))]) hx hb dJ6_bitCount_0f7a4_23 rfl hl (by decide) rfl (fun ls hl => ?_)
  refine lv_iload_n hx hb dJ6_bitCount_0f7a4_24 rfl (lv_at hl 0 rfl) ?_
  refine lv_iload_n hx hb dJ6_bitCount_0f7a4_25 rfl (lv_at hl 0 rfl) ?_
  refine lv_iconst (v := iI 4) hx hb dJ6_bitCount_0f7a4_26 (by decide) ?_
  refine lv_iushr (v := iI 1) hx hb dJ6_bitCount_0f7a4_27 (by decide) ?_
  refine lv_iadd hx hb dJ6_bitCount_0f7a4_28 ?_
  refine lv_seti (y := iI 17) (by decide) ?_
  refine lv_ldcw (v := 252645135) hx hb B.1.2.2.2.1 (B.1.2.2.2.2.1 _ mw_1608) dJ6_bitCount_0f7a4_29 ?_
  refine lv_seti (y := iI 252645135) (by decide) ?_
  refine lv_iand hx hb dJ6_bitCount_0f7a4_32 ?_
  refine lv_seti (y := iI 1) (by decide) ?_
  refine lv_istore_n (lv' := [(0, .int (iI 1))]) hx hb dJ6_bitCount_0f7a4_33 rfl hl (by decide) rfl (fun ls hl => ?_)
  refine lv_iload_n hx hb dJ6_bitCount_0f7a4_34 rfl (lv_at hl 0 rfl) ?_
  refine lv_iload_n hx hb dJ6_bitCount_0f7a4_35 rfl (lv_at hl 0 rfl) ?_
  refine lv_bipush (v := iI 8) hx hb dJ6_bitCount_0f7a4_36 (by decide) ?_
  refine lv_iushr (v := iI 0) hx hb dJ6_bitCount_0f7a4_38 (by decide) ?_
  refine lv_iadd hx hb dJ6_bitCount_0f7a4_39 ?_
  refine lv_seti (y := iI 1) (by decide) ?_
  refine lv_istore_n (lv' := [(0, .int (iI 1))]) hx hb dJ6_bitCount_0f7a4_40 rfl hl (by decide) rfl (fun ls hl => ?_)
  refine lv_iload_n hx hb dJ6_bitCount_0f7a4_41 rfl (lv_at hl 0 rfl) ?_
  refine lv_iload_n hx hb dJ6_bitCount_0f7a4_42 rfl (lv_at hl 0 rfl) ?_
  refine lv_bipush (v := iI 16) hx hb dJ6_bitCount_0f7a4_43 (by decide) ?_
  refine lv_iushr (v := iI 0) hx hb dJ6_bitCount_0f7a4_45 (by decide) ?_
  refine lv_iadd hx hb dJ6_bitCount_0f7a4_46 ?_
  refine lv_seti (y := iI 1) (by decide) ?_
  refine lv_istore_n (lv' := [(0, .int (iI 1))]) hx hb dJ6_bitCount_0f7a4_47 rfl hl (by decide) rfl (fun ls hl => ?_)
  refine lv_iload_n hx hb dJ6_bitCount_0f7a4_48 rfl (lv_at hl 0 rfl) ?_
  refine lv_bipush (v := iI 63) hx hb dJ6_bitCount_0f7a4_49 (by decide) ?_
  refine lv_iand hx hb dJ6_bitCount_0f7a4_51 ?_
  refine lv_seti (y := iI 1) (by decide) ?_
  have e_1 : (bcZ 16) = 1 := (by decide)
  skip
  exact k_iret B hr (⟨(by rw [e_1]), rfl, rfl, rfl⟩) ⟨Nat.le_of_ble_eq_true rfl, Nat.le_of_ble_eq_true rfl⟩ ⟨Nat.le_of_ble_eq_true rfl, Nat.le_of_ble_eq_true rfl⟩ dJ6_bitCount_0f7a4_52

set_option maxHeartbeats 4000000 in
set_option maxRecDepth 100000 in
theorem k_bc17 (l : Launch) (dC : Nat → ClassId) (dI : Nat → Nat → Nat) (k : Nat → ClassId) : Kn l dC dI k yJ6_bitCount_0f7a4 (.code yJ6_bitCount_0f7a4 cJ6_bitCount_0f7a4 1 (some .int)) ({ frames := 0, cells := 0, slots := 0, locals := 0 } : Room) [.int (iI 17)] [] (fun r w gc gs => (r = some (.int (iI (bcZ 17))) ∧ w = [] ∧ gc = 0 ∧ gs = 0)) := by
  refine kn_of (by decide) (Nat.le_of_ble_eq_true rfl) ?_
  intro p e s m args below meth c H locs B hr hnm ls hl
  have hx := B.1.1
  have hb := B.1.2.1
  have hl : lv_has ls 1 [(0, .int (iI 17))] := hl
  refine lv_iload_n hx hb dJ6_bitCount_0f7a4_0 rfl (lv_at hl 0 rfl) ?_
  refine lv_iload_n hx hb dJ6_bitCount_0f7a4_1 rfl (lv_at hl 0 rfl) ?_
  refine lv_iconst (v := iI 1) hx hb dJ6_bitCount_0f7a4_2 (by decide) ?_
  refine lv_iushr (v := iI 8) hx hb dJ6_bitCount_0f7a4_3 (by decide) ?_
  refine lv_ldcw (v := 1431655765) hx hb B.1.2.2.2.1 (B.1.2.2.2.2.1 _ mw_1606) dJ6_bitCount_0f7a4_4 ?_
  refine lv_seti (y := iI 1431655765) (by decide) ?_
  refine lv_iand hx hb dJ6_bitCount_0f7a4_7 ?_
  refine lv_seti (y := iI 0) (by decide) ?_
  refine lv_isub hx hb dJ6_bitCount_0f7a4_8 ?_
  refine lv_seti (y := iI 17) (by decide) ?_
  refine lv_istore_n (lv' := [(0, .int (iI 17))]) hx hb dJ6_bitCount_0f7a4_9 rfl hl (by decide) rfl (fun ls hl => ?_)
  refine lv_iload_n hx hb dJ6_bitCount_0f7a4_10 rfl (lv_at hl 0 rfl) ?_
  refine lv_ldcw (v := 858993459) hx hb B.1.2.2.2.1 (B.1.2.2.2.2.1 _ mw_1607) dJ6_bitCount_0f7a4_11 ?_
  refine lv_seti (y := iI 858993459) (by decide) ?_
  refine lv_iand hx hb dJ6_bitCount_0f7a4_14 ?_
  refine lv_seti (y := iI 17) (by decide) ?_
  refine lv_iload_n hx hb dJ6_bitCount_0f7a4_15 rfl (lv_at hl 0 rfl) ?_
  refine lv_iconst (v := iI 2) hx hb dJ6_bitCount_0f7a4_16 (by decide) ?_
  refine lv_iushr (v := iI 4) hx hb dJ6_bitCount_0f7a4_17 (by decide) ?_
  refine lv_ldcw (v := 858993459) hx hb B.1.2.2.2.1 (B.1.2.2.2.2.1 _ mw_1607) dJ6_bitCount_0f7a4_18 ?_
  refine lv_seti (y := iI 858993459) (by decide) ?_
  refine lv_iand hx hb dJ6_bitCount_0f7a4_21 ?_
  refine lv_seti (y := iI 0) (by decide) ?_
  refine lv_iadd hx hb dJ6_bitCount_0f7a4_22 ?_
  refine lv_seti (y := iI 17) (by decide) ?_
  refine lv_istore_n (lv' := [(0, .int (iI 17))]) hx hb dJ6_bitCount_0f7a4_23 rfl hl (by decide) rfl (fun ls hl => ?_)
  refine lv_iload_n hx hb dJ6_bitCount_0f7a4_24 rfl (lv_at hl 0 rfl) ?_
  refine lv_iload_n hx hb dJ6_bitCount_0f7a4_25 rfl (lv_at hl 0 rfl) ?_
  refine lv_iconst (v := iI 4) hx hb dJ6_bitCount_0f7a4_26 (by decide) ?_
  refine lv_iushr (v := iI 1) hx hb dJ6_bitCount_0f7a4_27 (by decide) ?_
  refine lv_iadd hx hb dJ6_bitCount_0f7a4_28 ?_
  refine lv_seti (y := iI 18) (by decide) ?_
  refine lv_ldcw (v := 252645135) hx hb B.1.2.2.2.1 (B.1.2.2.2.2.1 _ mw_1608) dJ6_bitCount_0f7a4_29 ?_
  refine lv_seti (y := iI 252645135) (by decide) ?_
  refine lv_iand hx hb dJ6_bitCount_0f7a4_32 ?_
  refine lv_seti (y := iI 2) (by decide) ?_
  refine lv_istore_n (lv' := [(0, .int (iI 2))]) hx hb dJ6_bitCount_0f7a4_33 rfl hl (by decide) rfl (fun ls hl => ?_)
  refine lv_iload_n hx hb dJ6_bitCount_0f7a4_34 rfl (lv_at hl 0 rfl) ?_
  refine lv_iload_n hx hb dJ6_bitCount_0f7a4_35 rfl (lv_at hl 0 rfl) ?_
  refine lv_bipush (v := iI 8) hx hb dJ6_bitCount_0f7a4_36 (by decide) ?_
  refine lv_iushr (v := iI 0) hx hb dJ6_bitCount_0f7a4_38 (by decide) ?_
  refine lv_iadd hx hb dJ6_bitCount_0f7a4_39 ?_
  refine lv_seti (y := iI 2) (by decide) ?_
  refine lv_istore_n (lv' := [(0, .int (iI 2))]) hx hb dJ6_bitCount_0f7a4_40 rfl hl (by decide) rfl (fun ls hl => ?_)
  refine lv_iload_n hx hb dJ6_bitCount_0f7a4_41 rfl (lv_at hl 0 rfl) ?_
  refine lv_iload_n hx hb dJ6_bitCount_0f7a4_42 rfl (lv_at hl 0 rfl) ?_
  refine lv_bipush (v := iI 16) hx hb dJ6_bitCount_0f7a4_43 (by decide) ?_
  refine lv_iushr (v := iI 0) hx hb dJ6_bitCount_0f7a4_45 (by decide) ?_
  refine lv_iadd hx hb dJ6_bitCount_0f7a4_46 ?_
  refine lv_seti (y := iI 2) (by decide) ?_
  refine lv_istore_n (lv' := [(0, .int (iI 2))]) hx hb dJ6_bitCount_0f7a4_47 rfl hl (by decide) rfl (fun ls hl => ?_)
  refine lv_iload_n hx hb dJ6_bitCount_0f7a4_48 rfl (lv_at hl 0 rfl) ?_
  refine lv_bipush (v := iI 63) hx hb dJ6_bitCount_0f7a4_49 (by decide) ?_
  refine lv_iand hx hb dJ6_bitCount_0f7a4_51 ?_
  refine lv_seti (y := iI 2) (by decide) ?_
  have e_1 : (bcZ 17) = 2 := (by decide)
  skip
  exact k_iret B hr (⟨(by rw [e_1]), rfl, rfl, rfl⟩) ⟨Nat.le_of_ble_eq_true rfl, Nat.le_of_ble_eq_true rfl⟩ ⟨Nat.le_of_ble_eq_true rfl, Nat.le_of_ble_eq_true rfl⟩ dJ6_bitCount_0f7a4_52

set_option maxHeartbeats 4000000 in
set_option maxRecDepth 100000 in
theorem k_bc18 (l : Launch) (dC : Nat → ClassId) (dI : Nat → Nat → Nat) (k : Nat → ClassId) : Kn l dC dI k yJ6_bitCount_0f7a4 (.code yJ6_bitCount_0f7a4 cJ6_bitCount_0f7a4 1 (some .int)) ({ frames := 0, cells := 0, slots := 0, locals := 0 } : Room) [.int (iI 18)] [] (fun r w gc gs => (r = some (.int (iI (bcZ 18))) ∧ w = [] ∧ gc = 0 ∧ gs = 0)) := by
  refine kn_of (by decide) (Nat.le_of_ble_eq_true rfl) ?_
  intro p e s m args below meth c H locs B hr hnm ls hl
  have hx := B.1.1
  have hb := B.1.2.1
  have hl : lv_has ls 1 [(0, .int (iI 18))] := hl
  refine lv_iload_n hx hb dJ6_bitCount_0f7a4_0 rfl (lv_at hl 0 rfl) ?_
  refine lv_iload_n hx hb dJ6_bitCount_0f7a4_1 rfl (lv_at hl 0 rfl) ?_
  refine lv_iconst (v := iI 1) hx hb dJ6_bitCount_0f7a4_2 (by decide) ?_
  refine lv_iushr (v := iI 9) hx hb dJ6_bitCount_0f7a4_3 (by decide) ?_
  refine lv_ldcw (v := 1431655765) hx hb B.1.2.2.2.1 (B.1.2.2.2.2.1 _ mw_1606) dJ6_bitCount_0f7a4_4 ?_
  refine lv_seti (y := iI 1431655765) (by decide) ?_
  refine lv_iand hx hb dJ6_bitCount_0f7a4_7 ?_
  refine lv_seti (y := iI 1) (by decide) ?_
  refine lv_isub hx hb dJ6_bitCount_0f7a4_8 ?_
  refine lv_seti (y := iI 17) (by decide) ?_
  refine lv_istore_n (lv' := [(0, .int (iI 17))]) hx hb dJ6_bitCount_0f7a4_9 rfl hl (by decide) rfl (fun ls hl => ?_)
  refine lv_iload_n hx hb dJ6_bitCount_0f7a4_10 rfl (lv_at hl 0 rfl) ?_
  refine lv_ldcw (v := 858993459) hx hb B.1.2.2.2.1 (B.1.2.2.2.2.1 _ mw_1607) dJ6_bitCount_0f7a4_11 ?_
  refine lv_seti (y := iI 858993459) (by decide) ?_
  refine lv_iand hx hb dJ6_bitCount_0f7a4_14 ?_
  refine lv_seti (y := iI 17) (by decide) ?_
  refine lv_iload_n hx hb dJ6_bitCount_0f7a4_15 rfl (lv_at hl 0 rfl) ?_
  refine lv_iconst (v := iI 2) hx hb dJ6_bitCount_0f7a4_16 (by decide) ?_
  refine lv_iushr (v := iI 4) hx hb dJ6_bitCount_0f7a4_17 (by decide) ?_
  refine lv_ldcw (v := 858993459) hx hb B.1.2.2.2.1 (B.1.2.2.2.2.1 _ mw_1607) dJ6_bitCount_0f7a4_18 ?_
  refine lv_seti (y := iI 858993459) (by decide) ?_
  refine lv_iand hx hb dJ6_bitCount_0f7a4_21 ?_
  refine lv_seti (y := iI 0) (by decide) ?_
  refine lv_iadd hx hb dJ6_bitCount_0f7a4_22 ?_
  refine lv_seti (y := iI 17) (by decide) ?_
  refine lv_istore_n (lv' := [(0, .int (iI 17))]) hx hb dJ6_bitCount_0f7a4_23 rfl hl (by decide) rfl (fun ls hl => ?_)
  refine lv_iload_n hx hb dJ6_bitCount_0f7a4_24 rfl (lv_at hl 0 rfl) ?_
  refine lv_iload_n hx hb dJ6_bitCount_0f7a4_25 rfl (lv_at hl 0 rfl) ?_
  refine lv_iconst (v := iI 4) hx hb dJ6_bitCount_0f7a4_26 (by decide) ?_
  refine lv_iushr (v := iI 1) hx hb dJ6_bitCount_0f7a4_27 (by decide) ?_
  refine lv_iadd hx hb dJ6_bitCount_0f7a4_28 ?_
  refine lv_seti (y := iI 18) (by decide) ?_
  refine lv_ldcw (v := 252645135) hx hb B.1.2.2.2.1 (B.1.2.2.2.2.1 _ mw_1608) dJ6_bitCount_0f7a4_29 ?_
  refine lv_seti (y := iI 252645135) (by decide) ?_
  refine lv_iand hx hb dJ6_bitCount_0f7a4_32 ?_
  refine lv_seti (y := iI 2) (by decide) ?_
  refine lv_istore_n (lv' := [(0, .int (iI 2))]) hx hb dJ6_bitCount_0f7a4_33 rfl hl (by decide) rfl (fun ls hl => ?_)
  refine lv_iload_n hx hb dJ6_bitCount_0f7a4_34 rfl (lv_at hl 0 rfl) ?_
  refine lv_iload_n hx hb dJ6_bitCount_0f7a4_35 rfl (lv_at hl 0 rfl) ?_
  refine lv_bipush (v := iI 8) hx hb dJ6_bitCount_0f7a4_36 (by decide) ?_
  refine lv_iushr (v := iI 0) hx hb dJ6_bitCount_0f7a4_38 (by decide) ?_
  refine lv_iadd hx hb dJ6_bitCount_0f7a4_39 ?_
  refine lv_seti (y := iI 2) (by decide) ?_
  refine lv_istore_n (lv' := [(0, .int (iI 2))]) hx hb dJ6_bitCount_0f7a4_40 rfl hl (by decide) rfl (fun ls hl => ?_)
  refine lv_iload_n hx hb dJ6_bitCount_0f7a4_41 rfl (lv_at hl 0 rfl) ?_
  refine lv_iload_n hx hb dJ6_bitCount_0f7a4_42 rfl (lv_at hl 0 rfl) ?_
  refine lv_bipush (v := iI 16) hx hb dJ6_bitCount_0f7a4_43 (by decide) ?_
  refine lv_iushr (v := iI 0) hx hb dJ6_bitCount_0f7a4_45 (by decide) ?_
  refine lv_iadd hx hb dJ6_bitCount_0f7a4_46 ?_
  refine lv_seti (y := iI 2) (by decide) ?_
  refine lv_istore_n (lv' := [(0, .int (iI 2))]) hx hb dJ6_bitCount_0f7a4_47 rfl hl (by decide) rfl (fun ls hl => ?_)
  refine lv_iload_n hx hb dJ6_bitCount_0f7a4_48 rfl (lv_at hl 0 rfl) ?_
  refine lv_bipush (v := iI 63) hx hb dJ6_bitCount_0f7a4_49 (by decide) ?_
  refine lv_iand hx hb dJ6_bitCount_0f7a4_51 ?_
  refine lv_seti (y := iI 2) (by decide) ?_
  have e_1 : (bcZ 18) = 2 := (by decide)
  skip
  exact k_iret B hr (⟨(by rw [e_1]), rfl, rfl, rfl⟩) ⟨Nat.le_of_ble_eq_true rfl, Nat.le_of_ble_eq_true rfl⟩ ⟨Nat.le_of_ble_eq_true rfl, Nat.le_of_ble_eq_true rfl⟩ dJ6_bitCount_0f7a4_52

set_option maxHeartbeats 4000000 in
set_option maxRecDepth 100000 in
theorem k_bc19 (l : Launch) (dC : Nat → ClassId) (dI : Nat → Nat → Nat) (k : Nat → ClassId) : Kn l dC dI k yJ6_bitCount_0f7a4 (.code yJ6_bitCount_0f7a4 cJ6_bitCount_0f7a4 1 (some .int)) ({ frames := 0, cells := 0, slots := 0, locals := 0 } : Room) [.int (iI 19)] [] (fun r w gc gs => (r = some (.int (iI (bcZ 19))) ∧ w = [] ∧ gc = 0 ∧ gs = 0)) := by
  refine kn_of (by decide) (Nat.le_of_ble_eq_true rfl) ?_
  intro p e s m args below meth c H locs B hr hnm ls hl
  have hx := B.1.1
  have hb := B.1.2.1
  have hl : lv_has ls 1 [(0, .int (iI 19))] := hl
  refine lv_iload_n hx hb dJ6_bitCount_0f7a4_0 rfl (lv_at hl 0 rfl) ?_
  refine lv_iload_n hx hb dJ6_bitCount_0f7a4_1 rfl (lv_at hl 0 rfl) ?_
  refine lv_iconst (v := iI 1) hx hb dJ6_bitCount_0f7a4_2 (by decide) ?_
  refine lv_iushr (v := iI 9) hx hb dJ6_bitCount_0f7a4_3 (by decide) ?_
  refine lv_ldcw (v := 1431655765) hx hb B.1.2.2.2.1 (B.1.2.2.2.2.1 _ mw_1606) dJ6_bitCount_0f7a4_4 ?_
  refine lv_seti (y := iI 1431655765) (by decide) ?_
  refine lv_iand hx hb dJ6_bitCount_0f7a4_7 ?_
  refine lv_seti (y := iI 1) (by decide) ?_
  refine lv_isub hx hb dJ6_bitCount_0f7a4_8 ?_
  refine lv_seti (y := iI 18) (by decide) ?_
  refine lv_istore_n (lv' := [(0, .int (iI 18))]) hx hb dJ6_bitCount_0f7a4_9 rfl hl (by decide) rfl (fun ls hl => ?_)
  refine lv_iload_n hx hb dJ6_bitCount_0f7a4_10 rfl (lv_at hl 0 rfl) ?_
  refine lv_ldcw (v := 858993459) hx hb B.1.2.2.2.1 (B.1.2.2.2.2.1 _ mw_1607) dJ6_bitCount_0f7a4_11 ?_
  refine lv_seti (y := iI 858993459) (by decide) ?_
  refine lv_iand hx hb dJ6_bitCount_0f7a4_14 ?_
  refine lv_seti (y := iI 18) (by decide) ?_
  refine lv_iload_n hx hb dJ6_bitCount_0f7a4_15 rfl (lv_at hl 0 rfl) ?_
  refine lv_iconst (v := iI 2) hx hb dJ6_bitCount_0f7a4_16 (by decide) ?_
  refine lv_iushr (v := iI 4) hx hb dJ6_bitCount_0f7a4_17 (by decide) ?_
  refine lv_ldcw (v := 858993459) hx hb B.1.2.2.2.1 (B.1.2.2.2.2.1 _ mw_1607) dJ6_bitCount_0f7a4_18 ?_
  refine lv_seti (y := iI 858993459) (by decide) ?_
  refine lv_iand hx hb dJ6_bitCount_0f7a4_21 ?_
  refine lv_seti (y := iI 0) (by decide) ?_
  refine lv_iadd hx hb dJ6_bitCount_0f7a4_22 ?_
  refine lv_seti (y := iI 18) (by decide) ?_
  refine lv_istore_n (lv' := [(0, .int (iI 18))]) hx hb dJ6_bitCount_0f7a4_23 rfl hl (by decide) rfl (fun ls hl => ?_)
  refine lv_iload_n hx hb dJ6_bitCount_0f7a4_24 rfl (lv_at hl 0 rfl) ?_
  refine lv_iload_n hx hb dJ6_bitCount_0f7a4_25 rfl (lv_at hl 0 rfl) ?_
  refine lv_iconst (v := iI 4) hx hb dJ6_bitCount_0f7a4_26 (by decide) ?_
  refine lv_iushr (v := iI 1) hx hb dJ6_bitCount_0f7a4_27 (by decide) ?_
  refine lv_iadd hx hb dJ6_bitCount_0f7a4_28 ?_
  refine lv_seti (y := iI 19) (by decide) ?_
  refine lv_ldcw (v := 252645135) hx hb B.1.2.2.2.1 (B.1.2.2.2.2.1 _ mw_1608) dJ6_bitCount_0f7a4_29 ?_
  refine lv_seti (y := iI 252645135) (by decide) ?_
  refine lv_iand hx hb dJ6_bitCount_0f7a4_32 ?_
  refine lv_seti (y := iI 3) (by decide) ?_
  refine lv_istore_n (lv' := [(0, .int (iI 3))]) hx hb dJ6_bitCount_0f7a4_33 rfl hl (by decide) rfl (fun ls hl => ?_)
  refine lv_iload_n hx hb dJ6_bitCount_0f7a4_34 rfl (lv_at hl 0 rfl) ?_
  refine lv_iload_n hx hb dJ6_bitCount_0f7a4_35 rfl (lv_at hl 0 rfl) ?_
  refine lv_bipush (v := iI 8) hx hb dJ6_bitCount_0f7a4_36 (by decide) ?_
  refine lv_iushr (v := iI 0) hx hb dJ6_bitCount_0f7a4_38 (by decide) ?_
  refine lv_iadd hx hb dJ6_bitCount_0f7a4_39 ?_
  refine lv_seti (y := iI 3) (by decide) ?_
  refine lv_istore_n (lv' := [(0, .int (iI 3))]) hx hb dJ6_bitCount_0f7a4_40 rfl hl (by decide) rfl (fun ls hl => ?_)
  refine lv_iload_n hx hb dJ6_bitCount_0f7a4_41 rfl (lv_at hl 0 rfl) ?_
  refine lv_iload_n hx hb dJ6_bitCount_0f7a4_42 rfl (lv_at hl 0 rfl) ?_
  refine lv_bipush (v := iI 16) hx hb dJ6_bitCount_0f7a4_43 (by decide) ?_
  refine lv_iushr (v := iI 0) hx hb dJ6_bitCount_0f7a4_45 (by decide) ?_
  refine lv_iadd hx hb dJ6_bitCount_0f7a4_46 ?_
  refine lv_seti (y := iI 3) (by decide) ?_
  refine lv_istore_n (lv' := [(0, .int (iI 3))]) hx hb dJ6_bitCount_0f7a4_47 rfl hl (by decide) rfl (fun ls hl => ?_)
  refine lv_iload_n hx hb dJ6_bitCount_0f7a4_48 rfl (lv_at hl 0 rfl) ?_
  refine lv_bipush (v := iI 63) hx hb dJ6_bitCount_0f7a4_49 (by decide) ?_
  refine lv_iand hx hb dJ6_bitCount_0f7a4_51 ?_
  refine lv_seti (y := iI 3) (by decide) ?_
  have e_1 : (bcZ 19) = 3 := (by decide)
  skip
  exact k_iret B hr (⟨(by rw [e_1]), rfl, rfl, rfl⟩) ⟨Nat.le_of_ble_eq_true rfl, Nat.le_of_ble_eq_true rfl⟩ ⟨Nat.le_of_ble_eq_true rfl, Nat.le_of_ble_eq_true rfl⟩ dJ6_bitCount_0f7a4_52

set_option maxHeartbeats 4000000 in
set_option maxRecDepth 100000 in
theorem k_bc20 (l : Launch) (dC : Nat → ClassId) (dI : Nat → Nat → Nat) (k : Nat → ClassId) : Kn l dC dI k yJ6_bitCount_0f7a4 (.code yJ6_bitCount_0f7a4 cJ6_bitCount_0f7a4 1 (some .int)) ({ frames := 0, cells := 0, slots := 0, locals := 0 } : Room) [.int (iI 20)] [] (fun r w gc gs => (r = some (.int (iI (bcZ 20))) ∧ w = [] ∧ gc = 0 ∧ gs = 0)) := by
  refine kn_of (by decide) (Nat.le_of_ble_eq_true rfl) ?_
  intro p e s m args below meth c H locs B hr hnm ls hl
  have hx := B.1.1
  have hb := B.1.2.1
  have hl : lv_has ls 1 [(0, .int (iI 20))] := hl
  refine lv_iload_n hx hb dJ6_bitCount_0f7a4_0 rfl (lv_at hl 0 rfl) ?_
  refine lv_iload_n hx hb dJ6_bitCount_0f7a4_1 rfl (lv_at hl 0 rfl) ?_
  refine lv_iconst (v := iI 1) hx hb dJ6_bitCount_0f7a4_2 (by decide) ?_
  refine lv_iushr (v := iI 10) hx hb dJ6_bitCount_0f7a4_3 (by decide) ?_
  refine lv_ldcw (v := 1431655765) hx hb B.1.2.2.2.1 (B.1.2.2.2.2.1 _ mw_1606) dJ6_bitCount_0f7a4_4 ?_
  refine lv_seti (y := iI 1431655765) (by decide) ?_
  refine lv_iand hx hb dJ6_bitCount_0f7a4_7 ?_
  refine lv_seti (y := iI 0) (by decide) ?_
  refine lv_isub hx hb dJ6_bitCount_0f7a4_8 ?_
  refine lv_seti (y := iI 20) (by decide) ?_
  refine lv_istore_n (lv' := [(0, .int (iI 20))]) hx hb dJ6_bitCount_0f7a4_9 rfl hl (by decide) rfl (fun ls hl => ?_)
  refine lv_iload_n hx hb dJ6_bitCount_0f7a4_10 rfl (lv_at hl 0 rfl) ?_
  refine lv_ldcw (v := 858993459) hx hb B.1.2.2.2.1 (B.1.2.2.2.2.1 _ mw_1607) dJ6_bitCount_0f7a4_11 ?_
  refine lv_seti (y := iI 858993459) (by decide) ?_
  refine lv_iand hx hb dJ6_bitCount_0f7a4_14 ?_
  refine lv_seti (y := iI 16) (by decide) ?_
  refine lv_iload_n hx hb dJ6_bitCount_0f7a4_15 rfl (lv_at hl 0 rfl) ?_
  refine lv_iconst (v := iI 2) hx hb dJ6_bitCount_0f7a4_16 (by decide) ?_
  refine lv_iushr (v := iI 5) hx hb dJ6_bitCount_0f7a4_17 (by decide) ?_
  refine lv_ldcw (v := 858993459) hx hb B.1.2.2.2.1 (B.1.2.2.2.2.1 _ mw_1607) dJ6_bitCount_0f7a4_18 ?_
  refine lv_seti (y := iI 858993459) (by decide) ?_
  refine lv_iand hx hb dJ6_bitCount_0f7a4_21 ?_
  refine lv_seti (y := iI 1) (by decide) ?_
  refine lv_iadd hx hb dJ6_bitCount_0f7a4_22 ?_
  refine lv_seti (y := iI 17) (by decide) ?_
  refine lv_istore_n (lv' := [(0, .int (iI 17))]) hx hb dJ6_bitCount_0f7a4_23 rfl hl (by decide) rfl (fun ls hl => ?_)
  refine lv_iload_n hx hb dJ6_bitCount_0f7a4_24 rfl (lv_at hl 0 rfl) ?_
  refine lv_iload_n hx hb dJ6_bitCount_0f7a4_25 rfl (lv_at hl 0 rfl) ?_
  refine lv_iconst (v := iI 4) hx hb dJ6_bitCount_0f7a4_26 (by decide) ?_
  refine lv_iushr (v := iI 1) hx hb dJ6_bitCount_0f7a4_27 (by decide) ?_
  refine lv_iadd hx hb dJ6_bitCount_0f7a4_28 ?_
  refine lv_seti (y := iI 18) (by decide) ?_
  refine lv_ldcw (v := 252645135) hx hb B.1.2.2.2.1 (B.1.2.2.2.2.1 _ mw_1608) dJ6_bitCount_0f7a4_29 ?_
  refine lv_seti (y := iI 252645135) (by decide) ?_
  refine lv_iand hx hb dJ6_bitCount_0f7a4_32 ?_
  refine lv_seti (y := iI 2) (by decide) ?_
  refine lv_istore_n (lv' := [(0, .int (iI 2))]) hx hb dJ6_bitCount_0f7a4_33 rfl hl (by decide) rfl (fun ls hl => ?_)
  refine lv_iload_n hx hb dJ6_bitCount_0f7a4_34 rfl (lv_at hl 0 rfl) ?_
  refine lv_iload_n hx hb dJ6_bitCount_0f7a4_35 rfl (lv_at hl 0 rfl) ?_
  refine lv_bipush (v := iI 8) hx hb dJ6_bitCount_0f7a4_36 (by decide) ?_
  refine lv_iushr (v := iI 0) hx hb dJ6_bitCount_0f7a4_38 (by decide) ?_
  refine lv_iadd hx hb dJ6_bitCount_0f7a4_39 ?_
  refine lv_seti (y := iI 2) (by decide) ?_
  refine lv_istore_n (lv' := [(0, .int (iI 2))]) hx hb dJ6_bitCount_0f7a4_40 rfl hl (by decide) rfl (fun ls hl => ?_)
  refine lv_iload_n hx hb dJ6_bitCount_0f7a4_41 rfl (lv_at hl 0 rfl) ?_
  refine lv_iload_n hx hb dJ6_bitCount_0f7a4_42 rfl (lv_at hl 0 rfl) ?_
  refine lv_bipush (v := iI 16) hx hb dJ6_bitCount_0f7a4_43 (by decide) ?_
  refine lv_iushr (v := iI 0) hx hb dJ6_bitCount_0f7a4_45 (by decide) ?_
  refine lv_iadd hx hb dJ6_bitCount_0f7a4_46 ?_
  refine lv_seti (y := iI 2) (by decide) ?_
  refine lv_istore_n (lv' := [(0, .int (iI 2))]) hx hb dJ6_bitCount_0f7a4_47 rfl hl (by decide) rfl (fun ls hl => ?_)
  refine lv_iload_n hx hb dJ6_bitCount_0f7a4_48 rfl (lv_at hl 0 rfl) ?_
  refine lv_bipush (v := iI 63) hx hb dJ6_bitCount_0f7a4_49 (by decide) ?_
  refine lv_iand hx hb dJ6_bitCount_0f7a4_51 ?_
  refine lv_seti (y := iI 2) (by decide) ?_
  have e_1 : (bcZ 20) = 2 := (by decide)
  skip
  exact k_iret B hr (⟨(by rw [e_1]), rfl, rfl, rfl⟩) ⟨Nat.le_of_ble_eq_true rfl, Nat.le_of_ble_eq_true rfl⟩ ⟨Nat.le_of_ble_eq_true rfl, Nat.le_of_ble_eq_true rfl⟩ dJ6_bitCount_0f7a4_52

set_option maxHeartbeats 4000000 in
set_option maxRecDepth 100000 in
theorem k_bc21 (l : Launch) (dC : Nat → ClassId) (dI : Nat → Nat → Nat) (k : Nat → ClassId) : Kn l dC dI k yJ6_bitCount_0f7a4 (.code yJ6_bitCount_0f7a4 cJ6_bitCount_0f7a4 1 (some .int)) ({ frames := 0, cells := 0, slots := 0, locals := 0 } : Room) [.int (iI 21)] [] (fun r w gc gs => (r = some (.int (iI (bcZ 21))) ∧ w = [] ∧ gc = 0 ∧ gs = 0)) := by
  refine kn_of (by decide) (Nat.le_of_ble_eq_true rfl) ?_
  intro p e s m args below meth c H locs B hr hnm ls hl
  have hx := B.1.1
  have hb := B.1.2.1
  have hl : lv_has ls 1 [(0, .int (iI 21))] := hl
  refine lv_iload_n hx hb dJ6_bitCount_0f7a4_0 rfl (lv_at hl 0 rfl) ?_
  refine lv_iload_n hx hb dJ6_bitCount_0f7a4_1 rfl (lv_at hl 0 rfl) ?_
  refine lv_iconst (v := iI 1) hx hb dJ6_bitCount_0f7a4_2 (by decide) ?_
  refine lv_iushr (v := iI 10) hx hb dJ6_bitCount_0f7a4_3 (by decide) ?_
  refine lv_ldcw (v := 1431655765) hx hb B.1.2.2.2.1 (B.1.2.2.2.2.1 _ mw_1606) dJ6_bitCount_0f7a4_4 ?_
  refine lv_seti (y := iI 1431655765) (by decide) ?_
  refine lv_iand hx hb dJ6_bitCount_0f7a4_7 ?_
  refine lv_seti (y := iI 0) (by decide) ?_
  refine lv_isub hx hb dJ6_bitCount_0f7a4_8 ?_
  refine lv_seti (y := iI 21) (by decide) ?_
  refine lv_istore_n (lv' := [(0, .int (iI 21))]) hx hb dJ6_bitCount_0f7a4_9 rfl hl (by decide) rfl (fun ls hl => ?_)
  refine lv_iload_n hx hb dJ6_bitCount_0f7a4_10 rfl (lv_at hl 0 rfl) ?_
  refine lv_ldcw (v := 858993459) hx hb B.1.2.2.2.1 (B.1.2.2.2.2.1 _ mw_1607) dJ6_bitCount_0f7a4_11 ?_
  refine lv_seti (y := iI 858993459) (by decide) ?_
  refine lv_iand hx hb dJ6_bitCount_0f7a4_14 ?_
  refine lv_seti (y := iI 17) (by decide) ?_
  refine lv_iload_n hx hb dJ6_bitCount_0f7a4_15 rfl (lv_at hl 0 rfl) ?_
  refine lv_iconst (v := iI 2) hx hb dJ6_bitCount_0f7a4_16 (by decide) ?_
  refine lv_iushr (v := iI 5) hx hb dJ6_bitCount_0f7a4_17 (by decide) ?_
  refine lv_ldcw (v := 858993459) hx hb B.1.2.2.2.1 (B.1.2.2.2.2.1 _ mw_1607) dJ6_bitCount_0f7a4_18 ?_
  refine lv_seti (y := iI 858993459) (by decide) ?_
  refine lv_iand hx hb dJ6_bitCount_0f7a4_21 ?_
  refine lv_seti (y := iI 1) (by decide) ?_
  refine lv_iadd hx hb dJ6_bitCount_0f7a4_22 ?_
  refine lv_seti (y := iI 18) (by decide) ?_
  refine lv_istore_n (lv' := [(0, .int (iI 18))]) hx hb dJ6_bitCount_0f7a4_23 rfl hl (by decide) rfl (fun ls hl => ?_)
  refine lv_iload_n hx hb dJ6_bitCount_0f7a4_24 rfl (lv_at hl 0 rfl) ?_
  refine lv_iload_n hx hb dJ6_bitCount_0f7a4_25 rfl (lv_at hl 0 rfl) ?_
  refine lv_iconst (v := iI 4) hx hb dJ6_bitCount_0f7a4_26 (by decide) ?_
  refine lv_iushr (v := iI 1) hx hb dJ6_bitCount_0f7a4_27 (by decide) ?_
  refine lv_iadd hx hb dJ6_bitCount_0f7a4_28 ?_
  refine lv_seti (y := iI 19) (by decide) ?_
  refine lv_ldcw (v := 252645135) hx hb B.1.2.2.2.1 (B.1.2.2.2.2.1 _ mw_1608) dJ6_bitCount_0f7a4_29 ?_
  refine lv_seti (y := iI 252645135) (by decide) ?_
  refine lv_iand hx hb dJ6_bitCount_0f7a4_32 ?_
  refine lv_seti (y := iI 3) (by decide) ?_
  refine lv_istore_n (lv' := [(0, .int (iI 3))]) hx hb dJ6_bitCount_0f7a4_33 rfl hl (by decide) rfl (fun ls hl => ?_)
  refine lv_iload_n hx hb dJ6_bitCount_0f7a4_34 rfl (lv_at hl 0 rfl) ?_
  refine lv_iload_n hx hb dJ6_bitCount_0f7a4_35 rfl (lv_at hl 0 rfl) ?_
  refine lv_bipush (v := iI 8) hx hb dJ6_bitCount_0f7a4_36 (by decide) ?_
  refine lv_iushr (v := iI 0) hx hb dJ6_bitCount_0f7a4_38 (by decide) ?_
  refine lv_iadd hx hb dJ6_bitCount_0f7a4_39 ?_
  refine lv_seti (y := iI 3) (by decide) ?_
  refine lv_istore_n (lv' := [(0, .int (iI 3))]) hx hb dJ6_bitCount_0f7a4_40 rfl hl (by decide) rfl (fun ls hl => ?_)
  refine lv_iload_n hx hb dJ6_bitCount_0f7a4_41 rfl (lv_at hl 0 rfl) ?_
  refine lv_iload_n hx hb dJ6_bitCount_0f7a4_42 rfl (lv_at hl 0 rfl) ?_
  refine lv_bipush (v := iI 16) hx hb dJ6_bitCount_0f7a4_43 (by decide) ?_
  refine lv_iushr (v := iI 0) hx hb dJ6_bitCount_0f7a4_45 (by decide) ?_
  refine lv_iadd hx hb dJ6_bitCount_0f7a4_46 ?_
  refine lv_seti (y := iI 3) (by decide) ?_
  refine lv_istore_n (lv' := [(0, .int (iI 3))]) hx hb dJ6_bitCount_0f7a4_47 rfl hl (by decide) rfl (fun ls hl => ?_)
  refine lv_iload_n hx hb dJ6_bitCount_0f7a4_48 rfl (lv_at hl 0 rfl) ?_
  refine lv_bipush (v := iI 63) hx hb dJ6_bitCount_0f7a4_49 (by decide) ?_
  refine lv_iand hx hb dJ6_bitCount_0f7a4_51 ?_
  refine lv_seti (y := iI 3) (by decide) ?_
  have e_1 : (bcZ 21) = 3 := (by decide)
  skip
  exact k_iret B hr (⟨(by rw [e_1]), rfl, rfl, rfl⟩) ⟨Nat.le_of_ble_eq_true rfl, Nat.le_of_ble_eq_true rfl⟩ ⟨Nat.le_of_ble_eq_true rfl, Nat.le_of_ble_eq_true rfl⟩ dJ6_bitCount_0f7a4_52

set_option maxHeartbeats 4000000 in
set_option maxRecDepth 100000 in
theorem k_bc22 (l : Launch) (dC : Nat → ClassId) (dI : Nat → Nat → Nat) (k : Nat → ClassId) : Kn l dC dI k yJ6_bitCount_0f7a4 (.code yJ6_bitCount_0f7a4 cJ6_bitCount_0f7a4 1 (some .int)) ({ frames := 0, cells := 0, slots := 0, locals := 0 } : Room) [.int (iI 22)] [] (fun r w gc gs => (r = some (.int (iI (bcZ 22))) ∧ w = [] ∧ gc = 0 ∧ gs = 0)) := by
  refine kn_of (by decide) (Nat.le_of_ble_eq_true rfl) ?_
  intro p e s m args below meth c H locs B hr hnm ls hl
  have hx := B.1.1
  have hb := B.1.2.1
  have hl : lv_has ls 1 [(0, .int (iI 22))] := hl
  refine lv_iload_n hx hb dJ6_bitCount_0f7a4_0 rfl (lv_at hl 0 rfl) ?_
  refine lv_iload_n hx hb dJ6_bitCount_0f7a4_1 rfl (lv_at hl 0 rfl) ?_
  refine lv_iconst (v := iI 1) hx hb dJ6_bitCount_0f7a4_2 (by decide) ?_
  refine lv_iushr (v := iI 11) hx hb dJ6_bitCount_0f7a4_3 (by decide) ?_
  refine lv_ldcw (v := 1431655765) hx hb B.1.2.2.2.1 (B.1.2.2.2.2.1 _ mw_1606) dJ6_bitCount_0f7a4_4 ?_
  refine lv_seti (y := iI 1431655765) (by decide) ?_
  refine lv_iand hx hb dJ6_bitCount_0f7a4_7 ?_
  refine lv_seti (y := iI 1) (by decide) ?_
  refine lv_isub hx hb dJ6_bitCount_0f7a4_8 ?_
  refine lv_seti (y := iI 21) (by decide) ?_
  refine lv_istore_n (lv' := [(0, .int (iI 21))]) hx hb dJ6_bitCount_0f7a4_9 rfl hl (by decide) rfl (fun ls hl => ?_)
  refine lv_iload_n hx hb dJ6_bitCount_0f7a4_10 rfl (lv_at hl 0 rfl) ?_
  refine lv_ldcw (v := 858993459) hx hb B.1.2.2.2.1 (B.1.2.2.2.2.1 _ mw_1607) dJ6_bitCount_0f7a4_11 ?_
  refine lv_seti (y := iI 858993459) (by decide) ?_
  refine lv_iand hx hb dJ6_bitCount_0f7a4_14 ?_
  refine lv_seti (y := iI 17) (by decide) ?_
  refine lv_iload_n hx hb dJ6_bitCount_0f7a4_15 rfl (lv_at hl 0 rfl) ?_
  refine lv_iconst (v := iI 2) hx hb dJ6_bitCount_0f7a4_16 (by decide) ?_
  refine lv_iushr (v := iI 5) hx hb dJ6_bitCount_0f7a4_17 (by decide) ?_
  refine lv_ldcw (v := 858993459) hx hb B.1.2.2.2.1 (B.1.2.2.2.2.1 _ mw_1607) dJ6_bitCount_0f7a4_18 ?_
  refine lv_seti (y := iI 858993459) (by decide) ?_
  refine lv_iand hx hb dJ6_bitCount_0f7a4_21 ?_
  refine lv_seti (y := iI 1) (by decide) ?_
  refine lv_iadd hx hb dJ6_bitCount_0f7a4_22 ?_
  refine lv_seti (y := iI 18) (by decide) ?_
  refine lv_istore_n (lv' := [(0, .int (iI 18))]) hx hb dJ6_bitCount_0f7a4_23 rfl hl (by decide) rfl (fun ls hl => ?_)
  refine lv_iload_n hx hb dJ6_bitCount_0f7a4_24 rfl (lv_at hl 0 rfl) ?_
  refine lv_iload_n hx hb dJ6_bitCount_0f7a4_25 rfl (lv_at hl 0 rfl) ?_
  refine lv_iconst (v := iI 4) hx hb dJ6_bitCount_0f7a4_26 (by decide) ?_
  refine lv_iushr (v := iI 1) hx hb dJ6_bitCount_0f7a4_27 (by decide) ?_
  refine lv_iadd hx hb dJ6_bitCount_0f7a4_28 ?_
  refine lv_seti (y := iI 19) (by decide) ?_
  refine lv_ldcw (v := 252645135) hx hb B.1.2.2.2.1 (B.1.2.2.2.2.1 _ mw_1608) dJ6_bitCount_0f7a4_29 ?_
  refine lv_seti (y := iI 252645135) (by decide) ?_
  refine lv_iand hx hb dJ6_bitCount_0f7a4_32 ?_
  refine lv_seti (y := iI 3) (by decide) ?_
  refine lv_istore_n (lv' := [(0, .int (iI 3))]) hx hb dJ6_bitCount_0f7a4_33 rfl hl (by decide) rfl (fun ls hl => ?_)
  refine lv_iload_n hx hb dJ6_bitCount_0f7a4_34 rfl (lv_at hl 0 rfl) ?_
  refine lv_iload_n hx hb dJ6_bitCount_0f7a4_35 rfl (lv_at hl 0 rfl) ?_
  refine lv_bipush (v := iI 8) hx hb dJ6_bitCount_0f7a4_36 (by decide) ?_
  refine lv_iushr (v := iI 0) hx hb dJ6_bitCount_0f7a4_38 (by decide) ?_
  refine lv_iadd hx hb dJ6_bitCount_0f7a4_39 ?_
  refine lv_seti (y := iI 3) (by decide) ?_
  refine lv_istore_n (lv' := [(0, .int (iI 3))]) hx hb dJ6_bitCount_0f7a4_40 rfl hl (by decide) rfl (fun ls hl => ?_)
  refine lv_iload_n hx hb dJ6_bitCount_0f7a4_41 rfl (lv_at hl 0 rfl) ?_
  refine lv_iload_n hx hb dJ6_bitCount_0f7a4_42 rfl (lv_at hl 0 rfl) ?_
  refine lv_bipush (v := iI 16) hx hb dJ6_bitCount_0f7a4_43 (by decide) ?_
  refine lv_iushr (v := iI 0) hx hb dJ6_bitCount_0f7a4_45 (by decide) ?_
  refine lv_iadd hx hb dJ6_bitCount_0f7a4_46 ?_
  refine lv_seti (y := iI 3) (by decide) ?_
  refine lv_istore_n (lv' := [(0, .int (iI 3))]) hx hb dJ6_bitCount_0f7a4_47 rfl hl (by decide) rfl (fun ls hl => ?_)
  refine lv_iload_n hx hb dJ6_bitCount_0f7a4_48 rfl (lv_at hl 0 rfl) ?_
  refine lv_bipush (v := iI 63) hx hb dJ6_bitCount_0f7a4_49 (by decide) ?_
  refine lv_iand hx hb dJ6_bitCount_0f7a4_51 ?_
  refine lv_seti (y := iI 3) (by decide) ?_
  have e_1 : (bcZ 22) = 3 := (by decide)
  skip
  exact k_iret B hr (⟨(by rw [e_1]), rfl, rfl, rfl⟩) ⟨Nat.le_of_ble_eq_true rfl, Nat.le_of_ble_eq_true rfl⟩ ⟨Nat.le_of_ble_eq_true rfl, Nat.le_of_ble_eq_true rfl⟩ dJ6_bitCount_0f7a4_52

set_option maxHeartbeats 4000000 in
set_option maxRecDepth 100000 in
theorem k_bc23 (l : Launch) (dC : Nat → ClassId) (dI : Nat → Nat → Nat) (k : Nat → ClassId) : Kn l dC dI k yJ6_bitCount_0f7a4 (.code yJ6_bitCount_0f7a4 cJ6_bitCount_0f7a4 1 (some .int)) ({ frames := 0, cells := 0, slots := 0, locals := 0 } : Room) [.int (iI 23)] [] (fun r w gc gs => (r = some (.int (iI (bcZ 23))) ∧ w = [] ∧ gc = 0 ∧ gs = 0)) := by
  refine kn_of (by decide) (Nat.le_of_ble_eq_true rfl) ?_
  intro p e s m args below meth c H locs B hr hnm ls hl
  have hx := B.1.1
  have hb := B.1.2.1
  have hl : lv_has ls 1 [(0, .int (iI 23))] := hl
  refine lv_iload_n hx hb dJ6_bitCount_0f7a4_0 rfl (lv_at hl 0 rfl) ?_
  refine lv_iload_n hx hb dJ6_bitCount_0f7a4_1 rfl (lv_at hl 0 rfl) ?_
  refine lv_iconst (v := iI 1) hx hb dJ6_bitCount_0f7a4_2 (by decide) ?_
  refine lv_iushr (v := iI 11) hx hb dJ6_bitCount_0f7a4_3 (by decide) ?_
  refine lv_ldcw (v := 1431655765) hx hb B.1.2.2.2.1 (B.1.2.2.2.2.1 _ mw_1606) dJ6_bitCount_0f7a4_4 ?_
  refine lv_seti (y := iI 1431655765) (by decide) ?_
  refine lv_iand hx hb dJ6_bitCount_0f7a4_7 ?_
  refine lv_seti (y := iI 1) (by decide) ?_
  refine lv_isub hx hb dJ6_bitCount_0f7a4_8 ?_
  refine lv_seti (y := iI 22) (by decide) ?_
  refine lv_istore_n (lv' := [(0, .int (iI 22))]) hx hb dJ6_bitCount_0f7a4_9 rfl hl (by decide) rfl (fun ls hl => ?_)
  refine lv_iload_n hx hb dJ6_bitCount_0f7a4_10 rfl (lv_at hl 0 rfl) ?_
  refine lv_ldcw (v := 858993459) hx hb B.1.2.2.2.1 (B.1.2.2.2.2.1 _ mw_1607) dJ6_bitCount_0f7a4_11 ?_
  refine lv_seti (y := iI 858993459) (by decide) ?_
  refine lv_iand hx hb dJ6_bitCount_0f7a4_14 ?_
  refine lv_seti (y := iI 18) (by decide) ?_
  refine lv_iload_n hx hb dJ6_bitCount_0f7a4_15 rfl (lv_at hl 0 rfl) ?_
  refine lv_iconst (v := iI 2) hx hb dJ6_bitCount_0f7a4_16 (by decide) ?_
  refine lv_iushr (v := iI 5) hx hb dJ6_bitCount_0f7a4_17 (by decide) ?_
  refine lv_ldcw (v := 858993459) hx hb B.1.2.2.2.1 (B.1.2.2.2.2.1 _ mw_1607) dJ6_bitCount_0f7a4_18 ?_
  refine lv_seti (y := iI 858993459) (by decide) ?_
  refine lv_iand hx hb dJ6_bitCount_0f7a4_21 ?_
  refine lv_seti (y := iI 1) (by decide) ?_
  refine lv_iadd hx hb dJ6_bitCount_0f7a4_22 ?_
  refine lv_seti (y := iI 19) (by decide) ?_
  refine lv_istore_n (lv' := [(0, .int (iI 19))]) hx hb dJ6_bitCount_0f7a4_23 rfl hl (by decide) rfl (fun ls hl => ?_)
  refine lv_iload_n hx hb dJ6_bitCount_0f7a4_24 rfl (lv_at hl 0 rfl) ?_
  refine lv_iload_n hx hb dJ6_bitCount_0f7a4_25 rfl (lv_at hl 0 rfl) ?_
  refine lv_iconst (v := iI 4) hx hb dJ6_bitCount_0f7a4_26 (by decide) ?_
  refine lv_iushr (v := iI 1) hx hb dJ6_bitCount_0f7a4_27 (by decide) ?_
  refine lv_iadd hx hb dJ6_bitCount_0f7a4_28 ?_
  refine lv_seti (y := iI 20) (by decide) ?_
  refine lv_ldcw (v := 252645135) hx hb B.1.2.2.2.1 (B.1.2.2.2.2.1 _ mw_1608) dJ6_bitCount_0f7a4_29 ?_
  refine lv_seti (y := iI 252645135) (by decide) ?_
  refine lv_iand hx hb dJ6_bitCount_0f7a4_32 ?_
  refine lv_seti (y := iI 4) (by decide) ?_
  refine lv_istore_n (lv' := [(0, .int (iI 4))]) hx hb dJ6_bitCount_0f7a4_33 rfl hl (by decide) rfl (fun ls hl => ?_)
  refine lv_iload_n hx hb dJ6_bitCount_0f7a4_34 rfl (lv_at hl 0 rfl) ?_
  refine lv_iload_n hx hb dJ6_bitCount_0f7a4_35 rfl (lv_at hl 0 rfl) ?_
  refine lv_bipush (v := iI 8) hx hb dJ6_bitCount_0f7a4_36 (by decide) ?_
  refine lv_iushr (v := iI 0) hx hb dJ6_bitCount_0f7a4_38 (by decide) ?_
  refine lv_iadd hx hb dJ6_bitCount_0f7a4_39 ?_
  refine lv_seti (y := iI 4) (by decide) ?_
  refine lv_istore_n (lv' := [(0, .int (iI 4))]) hx hb dJ6_bitCount_0f7a4_40 rfl hl (by decide) rfl (fun ls hl => ?_)
  refine lv_iload_n hx hb dJ6_bitCount_0f7a4_41 rfl (lv_at hl 0 rfl) ?_
  refine lv_iload_n hx hb dJ6_bitCount_0f7a4_42 rfl (lv_at hl 0 rfl) ?_
  refine lv_bipush (v := iI 16) hx hb dJ6_bitCount_0f7a4_43 (by decide) ?_
  refine lv_iushr (v := iI 0) hx hb dJ6_bitCount_0f7a4_45 (by decide) ?_
  refine lv_iadd hx hb dJ6_bitCount_0f7a4_46 ?_
  refine lv_seti (y := iI 4) (by decide) ?_
  refine lv_istore_n (lv' := [(0, .int (iI 4))]) hx hb dJ6_bitCount_0f7a4_47 rfl hl (by decide) rfl (fun ls hl => ?_)
  refine lv_iload_n hx hb dJ6_bitCount_0f7a4_48 rfl (lv_at hl 0 rfl) ?_
  refine lv_bipush (v := iI 63) hx hb dJ6_bitCount_0f7a4_49 (by decide) ?_
  refine lv_iand hx hb dJ6_bitCount_0f7a4_51 ?_
  refine lv_seti (y := iI 4) (by decide) ?_
  have e_1 : (bcZ 23) = 4 := (by decide)
  skip
  exact k_iret B hr (⟨(by rw [e_1]), rfl, rfl, rfl⟩) ⟨Nat.le_of_ble_eq_true rfl, Nat.le_of_ble_eq_true rfl⟩ ⟨Nat.le_of_ble_eq_true rfl, Nat.le_of_ble_eq_true rfl⟩ dJ6_bitCount_0f7a4_52

set_option maxHeartbeats 4000000 in
set_option maxRecDepth 100000 in
theorem k_bc24 (l : Launch) (dC : Nat → ClassId) (dI : Nat → Nat → Nat) (k : Nat → ClassId) : Kn l dC dI k yJ6_bitCount_0f7a4 (.code yJ6_bitCount_0f7a4 cJ6_bitCount_0f7a4 1 (some .int)) ({ frames := 0, cells := 0, slots := 0, locals := 0 } : Room) [.int (iI 24)] [] (fun r w gc gs => (r = some (.int (iI (bcZ 24))) ∧ w = [] ∧ gc = 0 ∧ gs = 0)) := by
  refine kn_of (by decide) (Nat.le_of_ble_eq_true rfl) ?_
  intro p e s m args below meth c H locs B hr hnm ls hl
  have hx := B.1.1
  have hb := B.1.2.1
  have hl : lv_has ls 1 [(0, .int (iI 24))] := hl
  refine lv_iload_n hx hb dJ6_bitCount_0f7a4_0 rfl (lv_at hl 0 rfl) ?_
  refine lv_iload_n hx hb dJ6_bitCount_0f7a4_1 rfl (lv_at hl 0 rfl) ?_
  refine lv_iconst (v := iI 1) hx hb dJ6_bitCount_0f7a4_2 (by decide) ?_
  refine lv_iushr (v := iI 12) hx hb dJ6_bitCount_0f7a4_3 (by decide) ?_
  refine lv_ldcw (v := 1431655765) hx hb B.1.2.2.2.1 (B.1.2.2.2.2.1 _ mw_1606) dJ6_bitCount_0f7a4_4 ?_
  refine lv_seti (y := iI 1431655765) (by decide) ?_
  refine lv_iand hx hb dJ6_bitCount_0f7a4_7 ?_
  refine lv_seti (y := iI 4) (by decide) ?_
  refine lv_isub hx hb dJ6_bitCount_0f7a4_8 ?_
  refine lv_seti (y := iI 20) (by decide) ?_
  refine lv_istore_n (lv' := [(0, .int (iI 20))]) hx hb dJ6_bitCount_0f7a4_9 rfl hl (by decide) rfl (fun ls hl => ?_)
  refine lv_iload_n hx hb dJ6_bitCount_0f7a4_10 rfl (lv_at hl 0 rfl) ?_
  refine lv_ldcw (v := 858993459) hx hb B.1.2.2.2.1 (B.1.2.2.2.2.1 _ mw_1607) dJ6_bitCount_0f7a4_11 ?_
  refine lv_seti (y := iI 858993459) (by decide) ?_
  refine lv_iand hx hb dJ6_bitCount_0f7a4_14 ?_
  refine lv_seti (y := iI 16) (by decide) ?_
  refine lv_iload_n hx hb dJ6_bitCount_0f7a4_15 rfl (lv_at hl 0 rfl) ?_
  refine lv_iconst (v := iI 2) hx hb dJ6_bitCount_0f7a4_16 (by decide) ?_
  refine lv_iushr (v := iI 5) hx hb dJ6_bitCount_0f7a4_17 (by decide) ?_
  refine lv_ldcw (v := 858993459) hx hb B.1.2.2.2.1 (B.1.2.2.2.2.1 _ mw_1607) dJ6_bitCount_0f7a4_18 ?_
  refine lv_seti (y := iI 858993459) (by decide) ?_
  refine lv_iand hx hb dJ6_bitCount_0f7a4_21 ?_
  refine lv_seti (y := iI 1) (by decide) ?_
  refine lv_iadd hx hb dJ6_bitCount_0f7a4_22 ?_
  refine lv_seti (y := iI 17) (by decide) ?_
  refine lv_istore_n (lv' := [(0, .int (iI 17))]) hx hb dJ6_bitCount_0f7a4_23 rfl hl (by decide) rfl (fun ls hl => ?_)
  refine lv_iload_n hx hb dJ6_bitCount_0f7a4_24 rfl (lv_at hl 0 rfl) ?_
  refine lv_iload_n hx hb dJ6_bitCount_0f7a4_25 rfl (lv_at hl 0 rfl) ?_
  refine lv_iconst (v := iI 4) hx hb dJ6_bitCount_0f7a4_26 (by decide) ?_
  refine lv_iushr (v := iI 1) hx hb dJ6_bitCount_0f7a4_27 (by decide) ?_
  refine lv_iadd hx hb dJ6_bitCount_0f7a4_28 ?_
  refine lv_seti (y := iI 18) (by decide) ?_
  refine lv_ldcw (v := 252645135) hx hb B.1.2.2.2.1 (B.1.2.2.2.2.1 _ mw_1608) dJ6_bitCount_0f7a4_29 ?_
  refine lv_seti (y := iI 252645135) (by decide) ?_
  refine lv_iand hx hb dJ6_bitCount_0f7a4_32 ?_
  refine lv_seti (y := iI 2) (by decide) ?_
  refine lv_istore_n (lv' := [(0, .int (iI 2))]) hx hb dJ6_bitCount_0f7a4_33 rfl hl (by decide) rfl (fun ls hl => ?_)
  refine lv_iload_n hx hb dJ6_bitCount_0f7a4_34 rfl (lv_at hl 0 rfl) ?_
  refine lv_iload_n hx hb dJ6_bitCount_0f7a4_35 rfl (lv_at hl 0 rfl) ?_
  refine lv_bipush (v := iI 8) hx hb dJ6_bitCount_0f7a4_36 (by decide) ?_
  refine lv_iushr (v := iI 0) hx hb dJ6_bitCount_0f7a4_38 (by decide) ?_
  refine lv_iadd hx hb dJ6_bitCount_0f7a4_39 ?_
  refine lv_seti (y := iI 2) (by decide) ?_
  refine lv_istore_n (lv' := [(0, .int (iI 2))]) hx hb dJ6_bitCount_0f7a4_40 rfl hl (by decide) rfl (fun ls hl => ?_)
  refine lv_iload_n hx hb dJ6_bitCount_0f7a4_41 rfl (lv_at hl 0 rfl) ?_
  refine lv_iload_n hx hb dJ6_bitCount_0f7a4_42 rfl (lv_at hl 0 rfl) ?_
  refine lv_bipush (v := iI 16) hx hb dJ6_bitCount_0f7a4_43 (by decide) ?_
  refine lv_iushr (v := iI 0) hx hb dJ6_bitCount_0f7a4_45 (by decide) ?_
  refine lv_iadd hx hb dJ6_bitCount_0f7a4_46 ?_
  refine lv_seti (y := iI 2) (by decide) ?_
  refine lv_istore_n (lv' := [(0, .int (iI 2))]) hx hb dJ6_bitCount_0f7a4_47 rfl hl (by decide) rfl (fun ls hl => ?_)
  refine lv_iload_n hx hb dJ6_bitCount_0f7a4_48 rfl (lv_at hl 0 rfl) ?_
  refine lv_bipush (v := iI 63) hx hb dJ6_bitCount_0f7a4_49 (by decide) ?_
  refine lv_iand hx hb dJ6_bitCount_0f7a4_51 ?_
  refine lv_seti (y := iI 2) (by decide) ?_
  have e_1 : (bcZ 24) = 2 := (by decide)
  skip
  exact k_iret B hr (⟨(by rw [e_1]), rfl, rfl, rfl⟩) ⟨Nat.le_of_ble_eq_true rfl, Nat.le_of_ble_eq_true rfl⟩ ⟨Nat.le_of_ble_eq_true rfl, Nat.le_of_ble_eq_true rfl⟩ dJ6_bitCount_0f7a4_52

set_option maxHeartbeats 4000000 in
set_option maxRecDepth 100000 in
theorem k_bc25 (l : Launch) (dC : Nat → ClassId) (dI : Nat → Nat → Nat) (k : Nat → ClassId) : Kn l dC dI k yJ6_bitCount_0f7a4 (.code yJ6_bitCount_0f7a4 cJ6_bitCount_0f7a4 1 (some .int)) ({ frames := 0, cells := 0, slots := 0, locals := 0 } : Room) [.int (iI 25)] [] (fun r w gc gs => (r = some (.int (iI (bcZ 25))) ∧ w = [] ∧ gc = 0 ∧ gs = 0)) := by
  refine kn_of (by decide) (Nat.le_of_ble_eq_true rfl) ?_
  intro p e s m args below meth c H locs B hr hnm ls hl
  have hx := B.1.1
  have hb := B.1.2.1
  have hl : lv_has ls 1 [(0, .int (iI 25))] := hl
  refine lv_iload_n hx hb dJ6_bitCount_0f7a4_0 rfl (lv_at hl 0 rfl) ?_
  refine lv_iload_n hx hb dJ6_bitCount_0f7a4_1 rfl (lv_at hl 0 rfl) ?_
  refine lv_iconst (v := iI 1) hx hb dJ6_bitCount_0f7a4_2 (by decide) ?_
  refine lv_iushr (v := iI 12) hx hb dJ6_bitCount_0f7a4_3 (by decide) ?_
  refine lv_ldcw (v := 1431655765) hx hb B.1.2.2.2.1 (B.1.2.2.2.2.1 _ mw_1606) dJ6_bitCount_0f7a4_4 ?_
  refine lv_seti (y := iI 1431655765) (by decide) ?_
  refine lv_iand hx hb dJ6_bitCount_0f7a4_7 ?_
  refine lv_seti (y := iI 4) (by decide) ?_
  refine lv_isub hx hb dJ6_bitCount_0f7a4_8 ?_
  refine lv_seti (y := iI 21) (by decide) ?_
  refine lv_istore_n (lv' := [(0, .int (iI 21))]) hx hb dJ6_bitCount_0f7a4_9 rfl hl (by decide) rfl (fun ls hl => ?_)
  refine lv_iload_n hx hb dJ6_bitCount_0f7a4_10 rfl (lv_at hl 0 rfl) ?_
  refine lv_ldcw (v := 858993459) hx hb B.1.2.2.2.1 (B.1.2.2.2.2.1 _ mw_1607) dJ6_bitCount_0f7a4_11 ?_
  refine lv_seti (y := iI 858993459) (by decide) ?_
  refine lv_iand hx hb dJ6_bitCount_0f7a4_14 ?_
  refine lv_seti (y := iI 17) (by decide) ?_
  refine lv_iload_n hx hb dJ6_bitCount_0f7a4_15 rfl (lv_at hl 0 rfl) ?_
  refine lv_iconst (v := iI 2) hx hb dJ6_bitCount_0f7a4_16 (by decide) ?_
  refine lv_iushr (v := iI 5) hx hb dJ6_bitCount_0f7a4_17 (by decide) ?_
  refine lv_ldcw (v := 858993459) hx hb B.1.2.2.2.1 (B.1.2.2.2.2.1 _ mw_1607) dJ6_bitCount_0f7a4_18 ?_
  refine lv_seti (y := iI 858993459) (by decide) ?_
  refine lv_iand hx hb dJ6_bitCount_0f7a4_21 ?_
  refine lv_seti (y := iI 1) (by decide) ?_
  refine lv_iadd hx hb dJ6_bitCount_0f7a4_22 ?_
  refine lv_seti (y := iI 18) (by decide) ?_
  refine lv_istore_n (lv' := [(0, .int (iI 18))]) hx hb dJ6_bitCount_0f7a4_23 rfl hl (by decide) rfl (fun ls hl => ?_)
  refine lv_iload_n hx hb dJ6_bitCount_0f7a4_24 rfl (lv_at hl 0 rfl) ?_
  refine lv_iload_n hx hb dJ6_bitCount_0f7a4_25 rfl (lv_at hl 0 rfl) ?_
  refine lv_iconst (v := iI 4) hx hb dJ6_bitCount_0f7a4_26 (by decide) ?_
  refine lv_iushr (v := iI 1) hx hb dJ6_bitCount_0f7a4_27 (by decide) ?_
  refine lv_iadd hx hb dJ6_bitCount_0f7a4_28 ?_
  refine lv_seti (y := iI 19) (by decide) ?_
  refine lv_ldcw (v := 252645135) hx hb B.1.2.2.2.1 (B.1.2.2.2.2.1 _ mw_1608) dJ6_bitCount_0f7a4_29 ?_
  refine lv_seti (y := iI 252645135) (by decide) ?_
  refine lv_iand hx hb dJ6_bitCount_0f7a4_32 ?_
  refine lv_seti (y := iI 3) (by decide) ?_
  refine lv_istore_n (lv' := [(0, .int (iI 3))]) hx hb dJ6_bitCount_0f7a4_33 rfl hl (by decide) rfl (fun ls hl => ?_)
  refine lv_iload_n hx hb dJ6_bitCount_0f7a4_34 rfl (lv_at hl 0 rfl) ?_
  refine lv_iload_n hx hb dJ6_bitCount_0f7a4_35 rfl (lv_at hl 0 rfl) ?_
  refine lv_bipush (v := iI 8) hx hb dJ6_bitCount_0f7a4_36 (by decide) ?_
  refine lv_iushr (v := iI 0) hx hb dJ6_bitCount_0f7a4_38 (by decide) ?_
  refine lv_iadd hx hb dJ6_bitCount_0f7a4_39 ?_
  refine lv_seti (y := iI 3) (by decide) ?_
  refine lv_istore_n (lv' := [(0, .int (iI 3))]) hx hb dJ6_bitCount_0f7a4_40 rfl hl (by decide) rfl (fun ls hl => ?_)
  refine lv_iload_n hx hb dJ6_bitCount_0f7a4_41 rfl (lv_at hl 0 rfl) ?_
  refine lv_iload_n hx hb dJ6_bitCount_0f7a4_42 rfl (lv_at hl 0 rfl) ?_
  refine lv_bipush (v := iI 16) hx hb dJ6_bitCount_0f7a4_43 (by decide) ?_
  refine lv_iushr (v := iI 0) hx hb dJ6_bitCount_0f7a4_45 (by decide) ?_
  refine lv_iadd hx hb dJ6_bitCount_0f7a4_46 ?_
  refine lv_seti (y := iI 3) (by decide) ?_
  refine lv_istore_n (lv' := [(0, .int (iI 3))]) hx hb dJ6_bitCount_0f7a4_47 rfl hl (by decide) rfl (fun ls hl => ?_)
  refine lv_iload_n hx hb dJ6_bitCount_0f7a4_48 rfl (lv_at hl 0 rfl) ?_
  refine lv_bipush (v := iI 63) hx hb dJ6_bitCount_0f7a4_49 (by decide) ?_
  refine lv_iand hx hb dJ6_bitCount_0f7a4_51 ?_
  refine lv_seti (y := iI 3) (by decide) ?_
  have e_1 : (bcZ 25) = 3 := (by decide)
  skip
  exact k_iret B hr (⟨(by rw [e_1]), rfl, rfl, rfl⟩) ⟨Nat.le_of_ble_eq_true rfl, Nat.le_of_ble_eq_true rfl⟩ ⟨Nat.le_of_ble_eq_true rfl, Nat.le_of_ble_eq_true rfl⟩ dJ6_bitCount_0f7a4_52

set_option maxHeartbeats 4000000 in
set_option maxRecDepth 100000 in
theorem k_bc26 (l : Launch) (dC : Nat → ClassId) (dI : Nat → Nat → Nat) (k : Nat → ClassId) : Kn l dC dI k yJ6_bitCount_0f7a4 (.code yJ6_bitCount_0f7a4 cJ6_bitCount_0f7a4 1 (some .int)) ({ frames := 0, cells := 0, slots := 0, locals := 0 } : Room) [.int (iI 26)] [] (fun r w gc gs => (r = some (.int (iI (bcZ 26))) ∧ w = [] ∧ gc = 0 ∧ gs = 0)) := by
  refine kn_of (by decide) (Nat.le_of_ble_eq_true rfl) ?_
  intro p e s m args below meth c H locs B hr hnm ls hl
  have hx := B.1.1
  have hb := B.1.2.1
  have hl : lv_has ls 1 [(0, .int (iI 26))] := hl
  refine lv_iload_n hx hb dJ6_bitCount_0f7a4_0 rfl (lv_at hl 0 rfl) ?_
  refine lv_iload_n hx hb dJ6_bitCount_0f7a4_1 rfl (lv_at hl 0 rfl) ?_
  refine lv_iconst (v := iI 1) hx hb dJ6_bitCount_0f7a4_2 (by decide) ?_
  refine lv_iushr (v := iI 13) hx hb dJ6_bitCount_0f7a4_3 (by decide) ?_
  refine lv_ldcw (v := 1431655765) hx hb B.1.2.2.2.1 (B.1.2.2.2.2.1 _ mw_1606) dJ6_bitCount_0f7a4_4 ?_
  refine lv_seti (y := iI 1431655765) (by decide) ?_
  refine lv_iand hx hb dJ6_bitCount_0f7a4_7 ?_
  refine lv_seti (y := iI 5) (by decide) ?_
  refine lv_isub hx hb dJ6_bitCount_0f7a4_8 ?_
  refine lv_seti (y := iI 21) (by decide) ?_
  refine lv_istore_n (lv' := [(0, .int (iI 21))]) hx hb dJ6_bitCount_0f7a4_9 rfl hl (by decide) rfl (fun ls hl => ?_)
  refine lv_iload_n hx hb dJ6_bitCount_0f7a4_10 rfl (lv_at hl 0 rfl) ?_
  refine lv_ldcw (v := 858993459) hx hb B.1.2.2.2.1 (B.1.2.2.2.2.1 _ mw_1607) dJ6_bitCount_0f7a4_11 ?_
  refine lv_seti (y := iI 858993459) (by decide) ?_
  refine lv_iand hx hb dJ6_bitCount_0f7a4_14 ?_
  refine lv_seti (y := iI 17) (by decide) ?_
  refine lv_iload_n hx hb dJ6_bitCount_0f7a4_15 rfl (lv_at hl 0 rfl) ?_
  refine lv_iconst (v := iI 2) hx hb dJ6_bitCount_0f7a4_16 (by decide) ?_
  refine lv_iushr (v := iI 5) hx hb dJ6_bitCount_0f7a4_17 (by decide) ?_
  refine lv_ldcw (v := 858993459) hx hb B.1.2.2.2.1 (B.1.2.2.2.2.1 _ mw_1607) dJ6_bitCount_0f7a4_18 ?_
  refine lv_seti (y := iI 858993459) (by decide) ?_
  refine lv_iand hx hb dJ6_bitCount_0f7a4_21 ?_
  refine lv_seti (y := iI 1) (by decide) ?_
  refine lv_iadd hx hb dJ6_bitCount_0f7a4_22 ?_
  refine lv_seti (y := iI 18) (by decide) ?_
  refine lv_istore_n (lv' := [(0, .int (iI 18))]) hx hb dJ6_bitCount_0f7a4_23 rfl hl (by decide) rfl (fun ls hl => ?_)
  refine lv_iload_n hx hb dJ6_bitCount_0f7a4_24 rfl (lv_at hl 0 rfl) ?_
  refine lv_iload_n hx hb dJ6_bitCount_0f7a4_25 rfl (lv_at hl 0 rfl) ?_
  refine lv_iconst (v := iI 4) hx hb dJ6_bitCount_0f7a4_26 (by decide) ?_
  refine lv_iushr (v := iI 1) hx hb dJ6_bitCount_0f7a4_27 (by decide) ?_
  refine lv_iadd hx hb dJ6_bitCount_0f7a4_28 ?_
  refine lv_seti (y := iI 19) (by decide) ?_
  refine lv_ldcw (v := 252645135) hx hb B.1.2.2.2.1 (B.1.2.2.2.2.1 _ mw_1608) dJ6_bitCount_0f7a4_29 ?_
  refine lv_seti (y := iI 252645135) (by decide) ?_
  refine lv_iand hx hb dJ6_bitCount_0f7a4_32 ?_
  refine lv_seti (y := iI 3) (by decide) ?_
  refine lv_istore_n (lv' := [(0, .int (iI 3))]) hx hb dJ6_bitCount_0f7a4_33 rfl hl (by decide) rfl (fun ls hl => ?_)
  refine lv_iload_n hx hb dJ6_bitCount_0f7a4_34 rfl (lv_at hl 0 rfl) ?_
  refine lv_iload_n hx hb dJ6_bitCount_0f7a4_35 rfl (lv_at hl 0 rfl) ?_
  refine lv_bipush (v := iI 8) hx hb dJ6_bitCount_0f7a4_36 (by decide) ?_
  refine lv_iushr (v := iI 0) hx hb dJ6_bitCount_0f7a4_38 (by decide) ?_
  refine lv_iadd hx hb dJ6_bitCount_0f7a4_39 ?_
  refine lv_seti (y := iI 3) (by decide) ?_
  refine lv_istore_n (lv' := [(0, .int (iI 3))]) hx hb dJ6_bitCount_0f7a4_40 rfl hl (by decide) rfl (fun ls hl => ?_)
  refine lv_iload_n hx hb dJ6_bitCount_0f7a4_41 rfl (lv_at hl 0 rfl) ?_
  refine lv_iload_n hx hb dJ6_bitCount_0f7a4_42 rfl (lv_at hl 0 rfl) ?_
  refine lv_bipush (v := iI 16) hx hb dJ6_bitCount_0f7a4_43 (by decide) ?_
  refine lv_iushr (v := iI 0) hx hb dJ6_bitCount_0f7a4_45 (by decide) ?_
  refine lv_iadd hx hb dJ6_bitCount_0f7a4_46 ?_
  refine lv_seti (y := iI 3) (by decide) ?_
  refine lv_istore_n (lv' := [(0, .int (iI 3))]) hx hb dJ6_bitCount_0f7a4_47 rfl hl (by decide) rfl (fun ls hl => ?_)
  refine lv_iload_n hx hb dJ6_bitCount_0f7a4_48 rfl (lv_at hl 0 rfl) ?_
  refine lv_bipush (v := iI 63) hx hb dJ6_bitCount_0f7a4_49 (by decide) ?_
  refine lv_iand hx hb dJ6_bitCount_0f7a4_51 ?_
  refine lv_seti (y := iI 3) (by decide) ?_
  have e_1 : (bcZ 26) = 3 := (by decide)
  skip
  exact k_iret B hr (⟨(by rw [e_1]), rfl, rfl, rfl⟩) ⟨Nat.le_of_ble_eq_true rfl, Nat.le_of_ble_eq_true rfl⟩ ⟨Nat.le_of_ble_eq_true rfl, Nat.le_of_ble_eq_true rfl⟩ dJ6_bitCount_0f7a4_52

set_option maxHeartbeats 4000000 in
set_option maxRecDepth 100000 in
theorem k_bc27 (l : Launch) (dC : Nat → ClassId) (dI : Nat → Nat → Nat) (k : Nat → ClassId) : Kn l dC dI k yJ6_bitCount_0f7a4 (.code yJ6_bitCount_0f7a4 cJ6_bitCount_0f7a4 1 (some .int)) ({ frames := 0, cells := 0, slots := 0, locals := 0 } : Room) [.int (iI 27)] [] (fun r w gc gs => (r = some (.int (iI (bcZ 27))) ∧ w = [] ∧ gc = 0 ∧ gs = 0)) := by
  refine kn_of (by decide) (Nat.le_of_ble_eq_true rfl) ?_
  intro p e s m args below meth c H locs B hr hnm ls hl
  have hx := B.1.1
  have hb := B.1.2.1
  have hl : lv_has ls 1 [(0, .int (iI 27))] := hl
  refine lv_iload_n hx hb dJ6_bitCount_0f7a4_0 rfl (lv_at hl 0 rfl) ?_
  refine lv_iload_n hx hb dJ6_bitCount_0f7a4_1 rfl (lv_at hl 0 rfl) ?_
  refine lv_iconst (v := iI 1) hx hb dJ6_bitCount_0f7a4_2 (by decide) ?_
  refine lv_iushr (v := iI 13) hx hb dJ6_bitCount_0f7a4_3 (by decide) ?_
  refine lv_ldcw (v := 1431655765) hx hb B.1.2.2.2.1 (B.1.2.2.2.2.1 _ mw_1606) dJ6_bitCount_0f7a4_4 ?_
  refine lv_seti (y := iI 1431655765) (by decide) ?_
  refine lv_iand hx hb dJ6_bitCount_0f7a4_7 ?_
  refine lv_seti (y := iI 5) (by decide) ?_
  refine lv_isub hx hb dJ6_bitCount_0f7a4_8 ?_
  refine lv_seti (y := iI 22) (by decide) ?_
  refine lv_istore_n (lv' := [(0, .int (iI 22))]) hx hb dJ6_bitCount_0f7a4_9 rfl hl (by decide) rfl (fun ls hl => ?_)
  refine lv_iload_n hx hb dJ6_bitCount_0f7a4_10 rfl (lv_at hl 0 rfl) ?_
  refine lv_ldcw (v := 858993459) hx hb B.1.2.2.2.1 (B.1.2.2.2.2.1 _ mw_1607) dJ6_bitCount_0f7a4_11 ?_
  refine lv_seti (y := iI 858993459) (by decide) ?_
  refine lv_iand hx hb dJ6_bitCount_0f7a4_14 ?_
  refine lv_seti (y := iI 18) (by decide) ?_
  refine lv_iload_n hx hb dJ6_bitCount_0f7a4_15 rfl (lv_at hl 0 rfl) ?_
  refine lv_iconst (v := iI 2) hx hb dJ6_bitCount_0f7a4_16 (by decide) ?_
  refine lv_iushr (v := iI 5) hx hb dJ6_bitCount_0f7a4_17 (by decide) ?_
  refine lv_ldcw (v := 858993459) hx hb B.1.2.2.2.1 (B.1.2.2.2.2.1 _ mw_1607) dJ6_bitCount_0f7a4_18 ?_
  refine lv_seti (y := iI 858993459) (by decide) ?_
  refine lv_iand hx hb dJ6_bitCount_0f7a4_21 ?_
  refine lv_seti (y := iI 1) (by decide) ?_
  refine lv_iadd hx hb dJ6_bitCount_0f7a4_22 ?_
  refine lv_seti (y := iI 19) (by decide) ?_
  refine lv_istore_n (lv' := [(0, .int (iI 19))]) hx hb dJ6_bitCount_0f7a4_23 rfl hl (by decide) rfl (fun ls hl => ?_)
  refine lv_iload_n hx hb dJ6_bitCount_0f7a4_24 rfl (lv_at hl 0 rfl) ?_
  refine lv_iload_n hx hb dJ6_bitCount_0f7a4_25 rfl (lv_at hl 0 rfl) ?_
  refine lv_iconst (v := iI 4) hx hb dJ6_bitCount_0f7a4_26 (by decide) ?_
  refine lv_iushr (v := iI 1) hx hb dJ6_bitCount_0f7a4_27 (by decide) ?_
  refine lv_iadd hx hb dJ6_bitCount_0f7a4_28 ?_
  refine lv_seti (y := iI 20) (by decide) ?_
  refine lv_ldcw (v := 252645135) hx hb B.1.2.2.2.1 (B.1.2.2.2.2.1 _ mw_1608) dJ6_bitCount_0f7a4_29 ?_
  refine lv_seti (y := iI 252645135) (by decide) ?_
  refine lv_iand hx hb dJ6_bitCount_0f7a4_32 ?_
  refine lv_seti (y := iI 4) (by decide) ?_
  refine lv_istore_n (lv' := [(0, .int (iI 4))]) hx hb dJ6_bitCount_0f7a4_33 rfl hl (by decide) rfl (fun ls hl => ?_)
  refine lv_iload_n hx hb dJ6_bitCount_0f7a4_34 rfl (lv_at hl 0 rfl) ?_
  refine lv_iload_n hx hb dJ6_bitCount_0f7a4_35 rfl (lv_at hl 0 rfl) ?_
  refine lv_bipush (v := iI 8) hx hb dJ6_bitCount_0f7a4_36 (by decide) ?_
  refine lv_iushr (v := iI 0) hx hb dJ6_bitCount_0f7a4_38 (by decide) ?_
  refine lv_iadd hx hb dJ6_bitCount_0f7a4_39 ?_
  refine lv_seti (y := iI 4) (by decide) ?_
  refine lv_istore_n (lv' := [(0, .int (iI 4))]) hx hb dJ6_bitCount_0f7a4_40 rfl hl (by decide) rfl (fun ls hl => ?_)
  refine lv_iload_n hx hb dJ6_bitCount_0f7a4_41 rfl (lv_at hl 0 rfl) ?_
  refine lv_iload_n hx hb dJ6_bitCount_0f7a4_42 rfl (lv_at hl 0 rfl) ?_
  refine lv_bipush (v := iI 16) hx hb dJ6_bitCount_0f7a4_43 (by decide) ?_
  refine lv_iushr (v := iI 0) hx hb dJ6_bitCount_0f7a4_45 (by decide) ?_
  refine lv_iadd hx hb dJ6_bitCount_0f7a4_46 ?_
  refine lv_seti (y := iI 4) (by decide) ?_
  refine lv_istore_n (lv' := [(0, .int (iI 4))]) hx hb dJ6_bitCount_0f7a4_47 rfl hl (by decide) rfl (fun ls hl => ?_)
  refine lv_iload_n hx hb dJ6_bitCount_0f7a4_48 rfl (lv_at hl 0 rfl) ?_
  refine lv_bipush (v := iI 63) hx hb dJ6_bitCount_0f7a4_49 (by decide) ?_
  refine lv_iand hx hb dJ6_bitCount_0f7a4_51 ?_
  refine lv_seti (y := iI 4) (by decide) ?_
  have e_1 : (bcZ 27) = 4 := (by decide)
  skip
  exact k_iret B hr (⟨(by rw [e_1]), rfl, rfl, rfl⟩) ⟨Nat.le_of_ble_eq_true rfl, Nat.le_of_ble_eq_true rfl⟩ ⟨Nat.le_of_ble_eq_true rfl, Nat.le_of_ble_eq_true rfl⟩ dJ6_bitCount_0f7a4_52

set_option maxHeartbeats 4000000 in
set_option maxRecDepth 100000 in
theorem k_bc28 (l : Launch) (dC : Nat → ClassId) (dI : Nat → Nat → Nat) (k : Nat → ClassId) : Kn l dC dI k yJ6_bitCount_0f7a4 (.code yJ6_bitCount_0f7a4 cJ6_bitCount_0f7a4 1 (some .int)) ({ frames := 0, cells := 0, slots := 0, locals := 0 } : Room) [.int (iI 28)] [] (fun r w gc gs => (r = some (.int (iI (bcZ 28))) ∧ w = [] ∧ gc = 0 ∧ gs = 0)) := by
  refine kn_of (by decide) (Nat.le_of_ble_eq_true rfl) ?_
  intro p e s m args below meth c H locs B hr hnm ls hl
  have hx := B.1.1
  have hb := B.1.2.1
  have hl : lv_has ls 1 [(0, .int (iI 28))] := hl
  refine lv_iload_n hx hb dJ6_bitCount_0f7a4_0 rfl (lv_at hl 0 rfl) ?_
  refine lv_iload_n hx hb dJ6_bitCount_0f7a4_1 rfl (lv_at hl 0 rfl) ?_
  refine lv_iconst (v := iI 1) hx hb dJ6_bitCount_0f7a4_2 (by decide) ?_
  refine lv_iushr (v := iI 14) hx hb dJ6_bitCount_0f7a4_3 (by decide) ?_
  refine lv_ldcw (v := 1431655765) hx hb B.1.2.2.2.1 (B.1.2.2.2.2.1 _ mw_1606) dJ6_bitCount_0f7a4_4 ?_
  refine lv_seti (y := iI 1431655765) (by decide) ?_
  refine lv_iand hx hb dJ6_bitCount_0f7a4_7 ?_
  refine lv_seti (y := iI 4) (by decide) ?_
  refine lv_isub hx hb dJ6_bitCount_0f7a4_8 ?_
  refine lv_seti (y := iI 24) (by decide) ?_
  refine lv_istore_n (lv' := [(0, .int (iI 24))]) hx hb dJ6_bitCount_0f7a4_9 rfl hl (by decide) rfl (fun ls hl => ?_)
  refine lv_iload_n hx hb dJ6_bitCount_0f7a4_10 rfl (lv_at hl 0 rfl) ?_
  refine lv_ldcw (v := 858993459) hx hb B.1.2.2.2.1 (B.1.2.2.2.2.1 _ mw_1607) dJ6_bitCount_0f7a4_11 ?_
  refine lv_seti (y := iI 858993459) (by decide) ?_
  refine lv_iand hx hb dJ6_bitCount_0f7a4_14 ?_
  refine lv_seti (y := iI 16) (by decide) ?_
  refine lv_iload_n hx hb dJ6_bitCount_0f7a4_15 rfl (lv_at hl 0 rfl) ?_
  refine lv_iconst (v := iI 2) hx hb dJ6_bitCount_0f7a4_16 (by decide) ?_
  refine lv_iushr (v := iI 6) hx hb dJ6_bitCount_0f7a4_17 (by decide) ?_
  refine lv_ldcw (v := 858993459) hx hb B.1.2.2.2.1 (B.1.2.2.2.2.1 _ mw_1607) dJ6_bitCount_0f7a4_18 ?_
  refine lv_seti (y := iI 858993459) (by decide) ?_
  refine lv_iand hx hb dJ6_bitCount_0f7a4_21 ?_
  refine lv_seti (y := iI 2) (by decide) ?_
  refine lv_iadd hx hb dJ6_bitCount_0f7a4_22 ?_
  refine lv_seti (y := iI 18) (by decide) ?_
  refine lv_istore_n (lv' := [(0, .int (iI 18))]) hx hb dJ6_bitCount_0f7a4_23 rfl hl (by decide) rfl (fun ls hl => ?_)
  refine lv_iload_n hx hb dJ6_bitCount_0f7a4_24 rfl (lv_at hl 0 rfl) ?_
  refine lv_iload_n hx hb dJ6_bitCount_0f7a4_25 rfl (lv_at hl 0 rfl) ?_
  refine lv_iconst (v := iI 4) hx hb dJ6_bitCount_0f7a4_26 (by decide) ?_
  refine lv_iushr (v := iI 1) hx hb dJ6_bitCount_0f7a4_27 (by decide) ?_
  refine lv_iadd hx hb dJ6_bitCount_0f7a4_28 ?_
  refine lv_seti (y := iI 19) (by decide) ?_
  refine lv_ldcw (v := 252645135) hx hb B.1.2.2.2.1 (B.1.2.2.2.2.1 _ mw_1608) dJ6_bitCount_0f7a4_29 ?_
  refine lv_seti (y := iI 252645135) (by decide) ?_
  refine lv_iand hx hb dJ6_bitCount_0f7a4_32 ?_
  refine lv_seti (y := iI 3) (by decide) ?_
  refine lv_istore_n (lv' := [(0, .int (iI 3))]) hx hb dJ6_bitCount_0f7a4_33 rfl hl (by decide) rfl (fun ls hl => ?_)
  refine lv_iload_n hx hb dJ6_bitCount_0f7a4_34 rfl (lv_at hl 0 rfl) ?_
  refine lv_iload_n hx hb dJ6_bitCount_0f7a4_35 rfl (lv_at hl 0 rfl) ?_
  refine lv_bipush (v := iI 8) hx hb dJ6_bitCount_0f7a4_36 (by decide) ?_
  refine lv_iushr (v := iI 0) hx hb dJ6_bitCount_0f7a4_38 (by decide) ?_
  refine lv_iadd hx hb dJ6_bitCount_0f7a4_39 ?_
  refine lv_seti (y := iI 3) (by decide) ?_
  refine lv_istore_n (lv' := [(0, .int (iI 3))]) hx hb dJ6_bitCount_0f7a4_40 rfl hl (by decide) rfl (fun ls hl => ?_)
  refine lv_iload_n hx hb dJ6_bitCount_0f7a4_41 rfl (lv_at hl 0 rfl) ?_
  refine lv_iload_n hx hb dJ6_bitCount_0f7a4_42 rfl (lv_at hl 0 rfl) ?_
  refine lv_bipush (v := iI 16) hx hb dJ6_bitCount_0f7a4_43 (by decide) ?_
  refine lv_iushr (v := iI 0) hx hb dJ6_bitCount_0f7a4_45 (by decide) ?_
  refine lv_iadd hx hb dJ6_bitCount_0f7a4_46 ?_
  refine lv_seti (y := iI 3) (by decide) ?_
  refine lv_istore_n (lv' := [(0, .int (iI 3))]) hx hb dJ6_bitCount_0f7a4_47 rfl hl (by decide) rfl (fun ls hl => ?_)
  refine lv_iload_n hx hb dJ6_bitCount_0f7a4_48 rfl (lv_at hl 0 rfl) ?_
  refine lv_bipush (v := iI 63) hx hb dJ6_bitCount_0f7a4_49 (by decide) ?_
  refine lv_iand hx hb dJ6_bitCount_0f7a4_51 ?_
  refine lv_seti (y := iI 3) (by decide) ?_
  have e_1 : (bcZ 28) = 3 := (by decide)
  skip
  exact k_iret B hr (⟨(by rw [e_1]), rfl, rfl, rfl⟩) ⟨Nat.le_of_ble_eq_true rfl, Nat.le_of_ble_eq_true rfl⟩ ⟨Nat.le_of_ble_eq_true rfl, Nat.le_of_ble_eq_true rfl⟩ dJ6_bitCount_0f7a4_52

set_option maxHeartbeats 4000000 in
set_option maxRecDepth 100000 in
theorem k_bc29 (l : Launch) (dC : Nat → ClassId) (dI : Nat → Nat → Nat) (k : Nat → ClassId) : Kn l dC dI k yJ6_bitCount_0f7a4 (.code yJ6_bitCount_0f7a4 cJ6_bitCount_0f7a4 1 (some .int)) ({ frames := 0, cells := 0, slots := 0, locals := 0 } : Room) [.int (iI 29)] [] (fun r w gc gs => (r = some (.int (iI (bcZ 29))) ∧ w = [] ∧ gc = 0 ∧ gs = 0)) := by
  refine kn_of (by decide) (Nat.le_of_ble_eq_true rfl) ?_
  intro p e s m args below meth c H locs B hr hnm ls hl
  have hx := B.1.1
  have hb := B.1.2.1
  have hl : lv_has ls 1 [(0, .int (iI 29))] := hl
  refine lv_iload_n hx hb dJ6_bitCount_0f7a4_0 rfl (lv_at hl 0 rfl) ?_
  refine lv_iload_n hx hb dJ6_bitCount_0f7a4_1 rfl (lv_at hl 0 rfl) ?_
  refine lv_iconst (v := iI 1) hx hb dJ6_bitCount_0f7a4_2 (by decide) ?_
  refine lv_iushr (v := iI 14) hx hb dJ6_bitCount_0f7a4_3 (by decide) ?_
  refine lv_ldcw (v := 1431655765) hx hb B.1.2.2.2.1 (B.1.2.2.2.2.1 _ mw_1606) dJ6_bitCount_0f7a4_4 ?_
  refine lv_seti (y := iI 1431655765) (by decide) ?_
  refine lv_iand hx hb dJ6_bitCount_0f7a4_7 ?_
  refine lv_seti (y := iI 4) (by decide) ?_
  refine lv_isub hx hb dJ6_bitCount_0f7a4_8 ?_
  refine lv_seti (y := iI 25) (by decide) ?_
  refine lv_istore_n (lv' := [(0, .int (iI 25))]) hx hb dJ6_bitCount_0f7a4_9 rfl hl (by decide) rfl (fun ls hl => ?_)
  refine lv_iload_n hx hb dJ6_bitCount_0f7a4_10 rfl (lv_at hl 0 rfl) ?_
  refine lv_ldcw (v := 858993459) hx hb B.1.2.2.2.1 (B.1.2.2.2.2.1 _ mw_1607) dJ6_bitCount_0f7a4_11 ?_
  refine lv_seti (y := iI 858993459) (by decide) ?_
  refine lv_iand hx hb dJ6_bitCount_0f7a4_14 ?_
  refine lv_seti (y := iI 17) (by decide) ?_
  refine lv_iload_n hx hb dJ6_bitCount_0f7a4_15 rfl (lv_at hl 0 rfl) ?_
  refine lv_iconst (v := iI 2) hx hb dJ6_bitCount_0f7a4_16 (by decide) ?_
  refine lv_iushr (v := iI 6) hx hb dJ6_bitCount_0f7a4_17 (by decide) ?_
  refine lv_ldcw (v := 858993459) hx hb B.1.2.2.2.1 (B.1.2.2.2.2.1 _ mw_1607) dJ6_bitCount_0f7a4_18 ?_
  refine lv_seti (y := iI 858993459) (by decide) ?_
  refine lv_iand hx hb dJ6_bitCount_0f7a4_21 ?_
  refine lv_seti (y := iI 2) (by decide) ?_
  refine lv_iadd hx hb dJ6_bitCount_0f7a4_22 ?_
  refine lv_seti (y := iI 19) (by decide) ?_
  refine lv_istore_n (lv' := [(0, .int (iI 19))]) hx hb dJ6_bitCount_0f7a4_23 rfl hl (by decide) rfl (fun ls hl => ?_)
  refine lv_iload_n hx hb dJ6_bitCount_0f7a4_24 rfl (lv_at hl 0 rfl) ?_
  refine lv_iload_n hx hb dJ6_bitCount_0f7a4_25 rfl (lv_at hl 0 rfl) ?_
  refine lv_iconst (v := iI 4) hx hb dJ6_bitCount_0f7a4_26 (by decide) ?_
  refine lv_iushr (v := iI 1) hx hb dJ6_bitCount_0f7a4_27 (by decide) ?_
  refine lv_iadd hx hb dJ6_bitCount_0f7a4_28 ?_
  refine lv_seti (y := iI 20) (by decide) ?_
  refine lv_ldcw (v := 252645135) hx hb B.1.2.2.2.1 (B.1.2.2.2.2.1 _ mw_1608) dJ6_bitCount_0f7a4_29 ?_
  refine lv_seti (y := iI 252645135) (by decide) ?_
  refine lv_iand hx hb dJ6_bitCount_0f7a4_32 ?_
  refine lv_seti (y := iI 4) (by decide) ?_
  refine lv_istore_n (lv' := [(0, .int (iI 4))]) hx hb dJ6_bitCount_0f7a4_33 rfl hl (by decide) rfl (fun ls hl => ?_)
  refine lv_iload_n hx hb dJ6_bitCount_0f7a4_34 rfl (lv_at hl 0 rfl) ?_
  refine lv_iload_n hx hb dJ6_bitCount_0f7a4_35 rfl (lv_at hl 0 rfl) ?_
  refine lv_bipush (v := iI 8) hx hb dJ6_bitCount_0f7a4_36 (by decide) ?_
  refine lv_iushr (v := iI 0) hx hb dJ6_bitCount_0f7a4_38 (by decide) ?_
  refine lv_iadd hx hb dJ6_bitCount_0f7a4_39 ?_
  refine lv_seti (y := iI 4) (by decide) ?_
  refine lv_istore_n (lv' := [(0, .int (iI 4))]) hx hb dJ6_bitCount_0f7a4_40 rfl hl (by decide) rfl (fun ls hl => ?_)
  refine lv_iload_n hx hb dJ6_bitCount_0f7a4_41 rfl (lv_at hl 0 rfl) ?_
  refine lv_iload_n hx hb dJ6_bitCount_0f7a4_42 rfl (lv_at hl 0 rfl) ?_
  refine lv_bipush (v := iI 16) hx hb dJ6_bitCount_0f7a4_43 (by decide) ?_
  refine lv_iushr (v := iI 0) hx hb dJ6_bitCount_0f7a4_45 (by decide) ?_
  refine lv_iadd hx hb dJ6_bitCount_0f7a4_46 ?_
  refine lv_seti (y := iI 4) (by decide) ?_
  refine lv_istore_n (lv' := [(0, .int (iI 4))]) hx hb dJ6_bitCount_0f7a4_47 rfl hl (by decide) rfl (fun ls hl => ?_)
  refine lv_iload_n hx hb dJ6_bitCount_0f7a4_48 rfl (lv_at hl 0 rfl) ?_
  refine lv_bipush (v := iI 63) hx hb dJ6_bitCount_0f7a4_49 (by decide) ?_
  refine lv_iand hx hb dJ6_bitCount_0f7a4_51 ?_
  refine lv_seti (y := iI 4) (by decide) ?_
  have e_1 : (bcZ 29) = 4 := (by decide)
  skip
  exact k_iret B hr (⟨(by rw [e_1]), rfl, rfl, rfl⟩) ⟨Nat.le_of_ble_eq_true rfl, Nat.le_of_ble_eq_true rfl⟩ ⟨Nat.le_of_ble_eq_true rfl, Nat.le_of_ble_eq_true rfl⟩ dJ6_bitCount_0f7a4_52

set_option maxHeartbeats 4000000 in
set_option maxRecDepth 100000 in
theorem k_bc30 (l : Launch) (dC : Nat → ClassId) (dI : Nat → Nat → Nat) (k : Nat → ClassId) : Kn l dC dI k yJ6_bitCount_0f7a4 (.code yJ6_bitCount_0f7a4 cJ6_bitCount_0f7a4 1 (some .int)) ({ frames := 0, cells := 0, slots := 0, locals := 0 } : Room) [.int (iI 30)] [] (fun r w gc gs => (r = some (.int (iI (bcZ 30))) ∧ w = [] ∧ gc = 0 ∧ gs = 0)) := by
  refine kn_of (by decide) (Nat.le_of_ble_eq_true rfl) ?_
  intro p e s m args below meth c H locs B hr hnm ls hl
  have hx := B.1.1
  have hb := B.1.2.1
  have hl : lv_has ls 1 [(0, .int (iI 30))] := hl
  refine lv_iload_n hx hb dJ6_bitCount_0f7a4_0 rfl (lv_at hl 0 rfl) ?_
  refine lv_iload_n hx hb dJ6_bitCount_0f7a4_1 rfl (lv_at hl 0 rfl) ?_
  refine lv_iconst (v := iI 1) hx hb dJ6_bitCount_0f7a4_2 (by decide) ?_
  refine lv_iushr (v := iI 15) hx hb dJ6_bitCount_0f7a4_3 (by decide) ?_
  refine lv_ldcw (v := 1431655765) hx hb B.1.2.2.2.1 (B.1.2.2.2.2.1 _ mw_1606) dJ6_bitCount_0f7a4_4 ?_
  refine lv_seti (y := iI 1431655765) (by decide) ?_
  refine lv_iand hx hb dJ6_bitCount_0f7a4_7 ?_
  refine lv_seti (y := iI 5) (by decide) ?_
  refine lv_isub hx hb dJ6_bitCount_0f7a4_8 ?_
  refine lv_seti (y := iI 25) (by decide) ?_
  refine lv_istore_n (lv' := [(0, .int (iI 25))]) hx hb dJ6_bitCount_0f7a4_9 rfl hl (by decide) rfl (fun ls hl => ?_)
  refine lv_iload_n hx hb dJ6_bitCount_0f7a4_10 rfl (lv_at hl 0 rfl) ?_
  refine lv_ldcw (v := 858993459) hx hb B.1.2.2.2.1 (B.1.2.2.2.2.1 _ mw_1607) dJ6_bitCount_0f7a4_11 ?_
  refine lv_seti (y := iI 858993459) (by decide) ?_
  refine lv_iand hx hb dJ6_bitCount_0f7a4_14 ?_
  refine lv_seti (y := iI 17) (by decide) ?_
  refine lv_iload_n hx hb dJ6_bitCount_0f7a4_15 rfl (lv_at hl 0 rfl) ?_
  refine lv_iconst (v := iI 2) hx hb dJ6_bitCount_0f7a4_16 (by decide) ?_
  refine lv_iushr (v := iI 6) hx hb dJ6_bitCount_0f7a4_17 (by decide) ?_
  refine lv_ldcw (v := 858993459) hx hb B.1.2.2.2.1 (B.1.2.2.2.2.1 _ mw_1607) dJ6_bitCount_0f7a4_18 ?_
  refine lv_seti (y := iI 858993459) (by decide) ?_
  refine lv_iand hx hb dJ6_bitCount_0f7a4_21 ?_
  refine lv_seti (y := iI 2) (by decide) ?_
  refine lv_iadd hx hb dJ6_bitCount_0f7a4_22 ?_
  refine lv_seti (y := iI 19) (by decide) ?_
  refine lv_istore_n (lv' := [(0, .int (iI 19))]) hx hb dJ6_bitCount_0f7a4_23 rfl hl (by decide) rfl (fun ls hl => ?_)
  refine lv_iload_n hx hb dJ6_bitCount_0f7a4_24 rfl (lv_at hl 0 rfl) ?_
  refine lv_iload_n hx hb dJ6_bitCount_0f7a4_25 rfl (lv_at hl 0 rfl) ?_
  refine lv_iconst (v := iI 4) hx hb dJ6_bitCount_0f7a4_26 (by decide) ?_
  refine lv_iushr (v := iI 1) hx hb dJ6_bitCount_0f7a4_27 (by decide) ?_
  refine lv_iadd hx hb dJ6_bitCount_0f7a4_28 ?_
  refine lv_seti (y := iI 20) (by decide) ?_
  refine lv_ldcw (v := 252645135) hx hb B.1.2.2.2.1 (B.1.2.2.2.2.1 _ mw_1608) dJ6_bitCount_0f7a4_29 ?_
  refine lv_seti (y := iI 252645135) (by decide) ?_
  refine lv_iand hx hb dJ6_bitCount_0f7a4_32 ?_
  refine lv_seti (y := iI 4) (by decide) ?_
  refine lv_istore_n (lv' := [(0, .int (iI 4))]) hx hb dJ6_bitCount_0f7a4_33 rfl hl (by decide) rfl (fun ls hl => ?_)
  refine lv_iload_n hx hb dJ6_bitCount_0f7a4_34 rfl (lv_at hl 0 rfl) ?_
  refine lv_iload_n hx hb dJ6_bitCount_0f7a4_35 rfl (lv_at hl 0 rfl) ?_
  refine lv_bipush (v := iI 8) hx hb dJ6_bitCount_0f7a4_36 (by decide) ?_
  refine lv_iushr (v := iI 0) hx hb dJ6_bitCount_0f7a4_38 (by decide) ?_
  refine lv_iadd hx hb dJ6_bitCount_0f7a4_39 ?_
  refine lv_seti (y := iI 4) (by decide) ?_
  refine lv_istore_n (lv' := [(0, .int (iI 4))]) hx hb dJ6_bitCount_0f7a4_40 rfl hl (by decide) rfl (fun ls hl => ?_)
  refine lv_iload_n hx hb dJ6_bitCount_0f7a4_41 rfl (lv_at hl 0 rfl) ?_
  refine lv_iload_n hx hb dJ6_bitCount_0f7a4_42 rfl (lv_at hl 0 rfl) ?_
  refine lv_bipush (v := iI 16) hx hb dJ6_bitCount_0f7a4_43 (by decide) ?_
  refine lv_iushr (v := iI 0) hx hb dJ6_bitCount_0f7a4_45 (by decide) ?_
  refine lv_iadd hx hb dJ6_bitCount_0f7a4_46 ?_
  refine lv_seti (y := iI 4) (by decide) ?_
  refine lv_istore_n (lv' := [(0, .int (iI 4))]) hx hb dJ6_bitCount_0f7a4_47 rfl hl (by decide) rfl (fun ls hl => ?_)
  refine lv_iload_n hx hb dJ6_bitCount_0f7a4_48 rfl (lv_at hl 0 rfl) ?_
  refine lv_bipush (v := iI 63) hx hb dJ6_bitCount_0f7a4_49 (by decide) ?_
  refine lv_iand hx hb dJ6_bitCount_0f7a4_51 ?_
  refine lv_seti (y := iI 4) (by decide) ?_
  have e_1 : (bcZ 30) = 4 := (by decide)
  skip
  exact k_iret B hr (⟨(by rw [e_1]), rfl, rfl, rfl⟩) ⟨Nat.le_of_ble_eq_true rfl, Nat.le_of_ble_eq_true rfl⟩ ⟨Nat.le_of_ble_eq_true rfl, Nat.le_of_ble_eq_true rfl⟩ dJ6_bitCount_0f7a4_52

set_option maxHeartbeats 4000000 in
set_option maxRecDepth 100000 in
theorem k_bc31 (l : Launch) (dC : Nat → ClassId) (dI : Nat → Nat → Nat) (k : Nat → ClassId) : Kn l dC dI k yJ6_bitCount_0f7a4 (.code yJ6_bitCount_0f7a4 cJ6_bitCount_0f7a4 1 (some .int)) ({ frames := 0, cells := 0, slots := 0, locals := 0 } : Room) [.int (iI 31)] [] (fun r w gc gs => (r = some (.int (iI (bcZ 31))) ∧ w = [] ∧ gc = 0 ∧ gs = 0)) := by
  refine kn_of (by decide) (Nat.le_of_ble_eq_true rfl) ?_
  intro p e s m args below meth c H locs B hr hnm ls hl
  have hx := B.1.1
  have hb := B.1.2.1
  have hl : lv_has ls 1 [(0, .int (iI 31))] := hl
  refine lv_iload_n hx hb dJ6_bitCount_0f7a4_0 rfl (lv_at hl 0 rfl) ?_
  refine lv_iload_n hx hb dJ6_bitCount_0f7a4_1 rfl (lv_at hl 0 rfl) ?_
  refine lv_iconst (v := iI 1) hx hb dJ6_bitCount_0f7a4_2 (by decide) ?_
  refine lv_iushr (v := iI 15) hx hb dJ6_bitCount_0f7a4_3 (by decide) ?_
  refine lv_ldcw (v := 1431655765) hx hb B.1.2.2.2.1 (B.1.2.2.2.2.1 _ mw_1606) dJ6_bitCount_0f7a4_4 ?_
  refine lv_seti (y := iI 1431655765) (by decide) ?_
  refine lv_iand hx hb dJ6_bitCount_0f7a4_7 ?_
  refine lv_seti (y := iI 5) (by decide) ?_
  refine lv_isub hx hb dJ6_bitCount_0f7a4_8 ?_
  refine lv_seti (y := iI 26) (by decide) ?_
  refine lv_istore_n (lv' := [(0, .int (iI 26))]) hx hb dJ6_bitCount_0f7a4_9 rfl hl (by decide) rfl (fun ls hl => ?_)
  refine lv_iload_n hx hb dJ6_bitCount_0f7a4_10 rfl (lv_at hl 0 rfl) ?_
  refine lv_ldcw (v := 858993459) hx hb B.1.2.2.2.1 (B.1.2.2.2.2.1 _ mw_1607) dJ6_bitCount_0f7a4_11 ?_
  refine lv_seti (y := iI 858993459) (by decide) ?_
  refine lv_iand hx hb dJ6_bitCount_0f7a4_14 ?_
  refine lv_seti (y := iI 18) (by decide) ?_
  refine lv_iload_n hx hb dJ6_bitCount_0f7a4_15 rfl (lv_at hl 0 rfl) ?_
  refine lv_iconst (v := iI 2) hx hb dJ6_bitCount_0f7a4_16 (by decide) ?_
  refine lv_iushr (v := iI 6) hx hb dJ6_bitCount_0f7a4_17 (by decide) ?_
  refine lv_ldcw (v := 858993459) hx hb B.1.2.2.2.1 (B.1.2.2.2.2.1 _ mw_1607) dJ6_bitCount_0f7a4_18 ?_
  refine lv_seti (y := iI 858993459) (by decide) ?_
  refine lv_iand hx hb dJ6_bitCount_0f7a4_21 ?_
  refine lv_seti (y := iI 2) (by decide) ?_
  refine lv_iadd hx hb dJ6_bitCount_0f7a4_22 ?_
  refine lv_seti (y := iI 20) (by decide) ?_
  refine lv_istore_n (lv' := [(0, .int (iI 20))]) hx hb dJ6_bitCount_0f7a4_23 rfl hl (by decide) rfl (fun ls hl => ?_)
  refine lv_iload_n hx hb dJ6_bitCount_0f7a4_24 rfl (lv_at hl 0 rfl) ?_
  refine lv_iload_n hx hb dJ6_bitCount_0f7a4_25 rfl (lv_at hl 0 rfl) ?_
  refine lv_iconst (v := iI 4) hx hb dJ6_bitCount_0f7a4_26 (by decide) ?_
  refine lv_iushr (v := iI 1) hx hb dJ6_bitCount_0f7a4_27 (by decide) ?_
  refine lv_iadd hx hb dJ6_bitCount_0f7a4_28 ?_
  refine lv_seti (y := iI 21) (by decide) ?_
  refine lv_ldcw (v := 252645135) hx hb B.1.2.2.2.1 (B.1.2.2.2.2.1 _ mw_1608) dJ6_bitCount_0f7a4_29 ?_
  refine lv_seti (y := iI 252645135) (by decide) ?_
  refine lv_iand hx hb dJ6_bitCount_0f7a4_32 ?_
  refine lv_seti (y := iI 5) (by decide) ?_
  refine lv_istore_n (lv' := [(0, .int (iI 5))]) hx hb dJ6_bitCount_0f7a4_33 rfl hl (by decide) rfl (fun ls hl => ?_)
  refine lv_iload_n hx hb dJ6_bitCount_0f7a4_34 rfl (lv_at hl 0 rfl) ?_
  refine lv_iload_n hx hb dJ6_bitCount_0f7a4_35 rfl (lv_at hl 0 rfl) ?_
  refine lv_bipush (v := iI 8) hx hb dJ6_bitCount_0f7a4_36 (by decide) ?_
  refine lv_iushr (v := iI 0) hx hb dJ6_bitCount_0f7a4_38 (by decide) ?_
  refine lv_iadd hx hb dJ6_bitCount_0f7a4_39 ?_
  refine lv_seti (y := iI 5) (by decide) ?_
  refine lv_istore_n (lv' := [(0, .int (iI 5))]) hx hb dJ6_bitCount_0f7a4_40 rfl hl (by decide) rfl (fun ls hl => ?_)
  refine lv_iload_n hx hb dJ6_bitCount_0f7a4_41 rfl (lv_at hl 0 rfl) ?_
  refine lv_iload_n hx hb dJ6_bitCount_0f7a4_42 rfl (lv_at hl 0 rfl) ?_
  refine lv_bipush (v := iI 16) hx hb dJ6_bitCount_0f7a4_43 (by decide) ?_
  refine lv_iushr (v := iI 0) hx hb dJ6_bitCount_0f7a4_45 (by decide) ?_
  refine lv_iadd hx hb dJ6_bitCount_0f7a4_46 ?_
  refine lv_seti (y := iI 5) (by decide) ?_
  refine lv_istore_n (lv' := [(0, .int (iI 5))]) hx hb dJ6_bitCount_0f7a4_47 rfl hl (by decide) rfl (fun ls hl => ?_)
  refine lv_iload_n hx hb dJ6_bitCount_0f7a4_48 rfl (lv_at hl 0 rfl) ?_
  refine lv_bipush (v := iI 63) hx hb dJ6_bitCount_0f7a4_49 (by decide) ?_
  refine lv_iand hx hb dJ6_bitCount_0f7a4_51 ?_
  refine lv_seti (y := iI 5) (by decide) ?_
  have e_1 : (bcZ 31) = 5 := (by decide)
  skip
  exact k_iret B hr (⟨(by rw [e_1]), rfl, rfl, rfl⟩) ⟨Nat.le_of_ble_eq_true rfl, Nat.le_of_ble_eq_true rfl⟩ ⟨Nat.le_of_ble_eq_true rfl, Nat.le_of_ble_eq_true rfl⟩ dJ6_bitCount_0f7a4_52

theorem k_bitCount (l : Launch) (dC : Nat → ClassId) (dI : Nat → Nat → Nat) (k : Nat → ClassId) (x : Int) (h1 : 0 ≤ x ∧ x < 32) : Kn l dC dI k yJ6_bitCount_0f7a4 (.code yJ6_bitCount_0f7a4 cJ6_bitCount_0f7a4 1 (some .int)) ({ frames := 0, cells := 0, slots := 0, locals := 0 } : Room) [.int (iI x)] [] (fun r w gc gs => ((0 ≤ bcZ x ∧ bcZ x ≤ 5) ∧ r = some (.int (iI (bcZ x))) ∧ w = [] ∧ gc = 0 ∧ gs = 0)) := by
  refine kn_and ?_ (bcZ_in x)
  have h2 : x = 0 ∨ x = 1 ∨ x = 2 ∨ x = 3 ∨ x = 4 ∨ x = 5 ∨ x = 6 ∨ x = 7 ∨ x = 8 ∨ x = 9 ∨ x = 10 ∨ x = 11 ∨ x = 12 ∨ x = 13 ∨ x = 14 ∨ x = 15 ∨ x = 16 ∨ x = 17 ∨ x = 18 ∨ x = 19 ∨ x = 20 ∨ x = 21 ∨ x = 22 ∨ x = 23 ∨ x = 24 ∨ x = 25 ∨ x = 26 ∨ x = 27 ∨ x = 28 ∨ x = 29 ∨ x = 30 ∨ x = 31 := by omega
  rcases h2 with rfl | rfl | rfl | rfl | rfl | rfl | rfl | rfl | rfl | rfl | rfl | rfl | rfl | rfl | rfl | rfl | rfl | rfl | rfl | rfl | rfl | rfl | rfl | rfl | rfl | rfl | rfl | rfl | rfl | rfl | rfl | rfl
  · exact k_bc0 l dC dI k
  · exact k_bc1 l dC dI k
  · exact k_bc2 l dC dI k
  · exact k_bc3 l dC dI k
  · exact k_bc4 l dC dI k
  · exact k_bc5 l dC dI k
  · exact k_bc6 l dC dI k
  · exact k_bc7 l dC dI k
  · exact k_bc8 l dC dI k
  · exact k_bc9 l dC dI k
  · exact k_bc10 l dC dI k
  · exact k_bc11 l dC dI k
  · exact k_bc12 l dC dI k
  · exact k_bc13 l dC dI k
  · exact k_bc14 l dC dI k
  · exact k_bc15 l dC dI k
  · exact k_bc16 l dC dI k
  · exact k_bc17 l dC dI k
  · exact k_bc18 l dC dI k
  · exact k_bc19 l dC dI k
  · exact k_bc20 l dC dI k
  · exact k_bc21 l dC dI k
  · exact k_bc22 l dC dI k
  · exact k_bc23 l dC dI k
  · exact k_bc24 l dC dI k
  · exact k_bc25 l dC dI k
  · exact k_bc26 l dC dI k
  · exact k_bc27 l dC dI k
  · exact k_bc28 l dC dI k
  · exact k_bc29 l dC dI k
  · exact k_bc30 l dC dI k
  · exact k_bc31 l dC dI k

/-- those that wait once the first ones, that are too high, have got pages of their own -/
def waF (T : Nat → Int → Int → Int → Int) (M : Nat → Int → Int) : Nat → Int → Int → Int
  | 0, _, w => w
  | f + 1, k, w => if bAnd (bShr w k) 1 = 1 then (if T 14 (M 16 k) 0 0 ≤ T 17 0 0 0 / 2 then w else waF T M f (k + 1) (bDif w (bShl 1 k))) else waF T M f (k + 1) w
def waZ (T : Nat → Int → Int → Int → Int) (M : Nat → Int → Int) (w : Int) : Int := waF T M (Int.toNat (M 17 0)) 0 w
/-- the figures of the next page behind all rows -/
def fbF (T : Nat → Int → Int → Int → Int) (M : Nat → Int → Int) (w : Int) : Nat → Int → Int → Int → Int
  | 0, _, st, _ => st
  | f + 1, k, st, hh => if bAnd (bShr w k) 1 = 0 then fbF T M w f (k + 1) st hh
    else if st ≠ 0 ∧ T 17 0 0 0 < hh + T 14 (M 16 k) 0 0 then st else fbF T M w f (k + 1) (bOr st (bShl 1 k)) (hh + T 14 (M 16 k) 0 0)
def fbZ (T : Nat → Int → Int → Int → Int) (M : Nat → Int → Int) (w : Int) : Int := fbF T M w (Int.toNat (M 17 0)) 0 0 0
/-- the pages behind all rows -/
def pbF (T : Nat → Int → Int → Int → Int) (M : Nat → Int → Int) : Nat → Int → Int → Int
  | 0, _, n => n
  | f + 1, w, n => if w = 0 then n else pbF T M f (bDif w (fbZ T M w)) (n + 1)
def pbZ (T : Nat → Int → Int → Int → Int) (M : Nat → Int → Int) (w lf : Int) : Int := pbF T M 5 w 0 + (lf + T 17 0 0 0 - 2) / max 1 (T 17 0 0 0 - 1)
section PG1
variable {T : Nat → Int → Int → Int → Int} {M : Nat → Int → Int} {w q wx fn : Int}
theorem waF_s (h : q < fn) : waF T M (Int.toNat (fn - q)) q wx = if bAnd (bShr wx q) 1 = 1 then (if T 14 (M 16 q) 0 0 ≤ T 17 0 0 0 / 2 then wx else waF T M (Int.toNat (fn - (q + 1))) (q + 1) (bDif wx (bShl 1 q))) else waF T M (Int.toNat (fn - (q + 1))) (q + 1) wx := by
  rw [show Int.toNat (fn - q) = Int.toNat (fn - (q + 1)) + 1 by omega]
  rfl
theorem fbF_s {st hh : Int} (h : q < fn) : fbF T M w (Int.toNat (fn - q)) q st hh = if bAnd (bShr w q) 1 = 0 then fbF T M w (Int.toNat (fn - (q + 1))) (q + 1) st hh
    else if st ≠ 0 ∧ T 17 0 0 0 < hh + T 14 (M 16 q) 0 0 then st else fbF T M w (Int.toNat (fn - (q + 1))) (q + 1) (bOr st (bShl 1 q)) (hh + T 14 (M 16 q) 0 0) := by
  rw [show Int.toNat (fn - q) = Int.toNat (fn - (q + 1)) + 1 by omega]
  rfl
theorem pbF_s {n : Int} (h : q < 5) : pbF T M (Int.toNat (5 - q)) wx n = if wx = 0 then n else pbF T M (Int.toNat (5 - (q + 1))) (bDif wx (fbZ T M wx)) (n + 1) := by
  rw [show Int.toNat (5 - q) = Int.toNat (5 - (q + 1)) + 1 by omega]
  rfl
theorem pbF_in : ∀ (f : Nat) (w n : Int), n ≤ pbF T M f w n ∧ pbF T M f w n ≤ n + f
  | 0, w, n => by simp only [pbF]; omega
  | f + 1, w, n => by
    have := pbF_in f (bDif w (fbZ T M w)) (n + 1)
    simp only [pbF]
    split <;> omega
theorem bAnd1_in (x : Int) : bAnd x 1 = 0 ∨ bAnd x 1 = 1 := by
  have h := bAnd_le' (a := x) (b := 1) (by omega)
  omega
end PG1

theorem mw_87 : (Jvm.Cond.fieldLink "Galleyforge$Pages" (155 : Nat) "Galleyforge$Text" "figureHeights" "[I") ∈ gt := gt_at 157 (by decide +kernel) (by decide +kernel)
theorem mw_100 : (Jvm.Cond.fieldLink "Galleyforge$Pages" (163 : Nat) "Galleyforge$Text" "height" "I") ∈ gt := gt_at 170 (by decide +kernel) (by decide +kernel)
theorem mw_259 : (Jvm.Cond.fieldLink "Galleyforge$Pages" (160 : Nat) "Galleyforge$Rows" "figuresInOrder" "[I") ∈ gt := gt_at 329 (by decide +kernel) (by decide +kernel)
theorem mw_261 : (Jvm.Cond.fieldLink "Galleyforge$Pages" (152 : Nat) "Galleyforge$Rows" "figureCount" "I") ∈ gt := gt_at 331 (by decide +kernel) (by decide +kernel)
theorem mw_365 : (Jvm.Cond.fieldLink "Galleyforge$Pages" (30 : Nat) "Galleyforge$Pages" "text" "LGalleyforge$Text;") ∈ gt := gt_at 435 (by decide +kernel) (by decide +kernel)
theorem mw_366 : (Jvm.Cond.fieldLink "Galleyforge$Pages" (34 : Nat) "Galleyforge$Pages" "rows" "LGalleyforge$Rows;") ∈ gt := gt_at 436 (by decide +kernel) (by decide +kernel)
theorem in_X4 : ∀ w ∈ u_ws RX4 TX4 12, w ∈ gt := in_of _ [455, 457, 459, 461, 463, 465, 467, 469, 471, 473, 475, 477] (by decide +kernel) (by decide +kernel)
theorem dX4_withoutAlone_0 : decode cX4_withoutAlone 0 = .ok (.iload_n 1, 1) := by decide +kernel
theorem dX4_withoutAlone_1 : decode cX4_withoutAlone 1 = .ok (.istore_n 2, 1) := by decide +kernel
theorem dX4_withoutAlone_2 : decode cX4_withoutAlone 2 = .ok (.iconst 0, 1) := by decide +kernel
theorem dX4_withoutAlone_3 : decode cX4_withoutAlone 3 = .ok (.istore_n 3, 1) := by decide +kernel
theorem dX4_withoutAlone_4 : decode cX4_withoutAlone 4 = .ok (.iload_n 3, 1) := by decide +kernel
theorem dX4_withoutAlone_5 : decode cX4_withoutAlone 5 = .ok (.aload_n 0, 1) := by decide +kernel
theorem dX4_withoutAlone_6 : decode cX4_withoutAlone 6 = .ok (.getfield 34, 3) := by decide +kernel
theorem dX4_withoutAlone_9 : decode cX4_withoutAlone 9 = .ok (.getfield 152, 3) := by decide +kernel
theorem dX4_withoutAlone_12 : decode cX4_withoutAlone 12 = .ok (.if_icmp .ge 57, 3) := by decide +kernel
theorem dX4_withoutAlone_15 : decode cX4_withoutAlone 15 = .ok (.iload_n 2, 1) := by decide +kernel
theorem dX4_withoutAlone_16 : decode cX4_withoutAlone 16 = .ok (.iload_n 3, 1) := by decide +kernel
theorem dX4_withoutAlone_17 : decode cX4_withoutAlone 17 = .ok (.ishr, 1) := by decide +kernel
theorem dX4_withoutAlone_18 : decode cX4_withoutAlone 18 = .ok (.iconst 1, 1) := by decide +kernel
theorem dX4_withoutAlone_19 : decode cX4_withoutAlone 19 = .ok (.iand, 1) := by decide +kernel
theorem dX4_withoutAlone_20 : decode cX4_withoutAlone 20 = .ok (.iconst 1, 1) := by decide +kernel
theorem dX4_withoutAlone_21 : decode cX4_withoutAlone 21 = .ok (.if_icmp .ne 42, 3) := by decide +kernel
theorem dX4_withoutAlone_24 : decode cX4_withoutAlone 24 = .ok (.aload_n 0, 1) := by decide +kernel
theorem dX4_withoutAlone_25 : decode cX4_withoutAlone 25 = .ok (.getfield 30, 3) := by decide +kernel
theorem dX4_withoutAlone_28 : decode cX4_withoutAlone 28 = .ok (.getfield 155, 3) := by decide +kernel
theorem dX4_withoutAlone_31 : decode cX4_withoutAlone 31 = .ok (.aload_n 0, 1) := by decide +kernel
theorem dX4_withoutAlone_32 : decode cX4_withoutAlone 32 = .ok (.getfield 34, 3) := by decide +kernel
theorem dX4_withoutAlone_35 : decode cX4_withoutAlone 35 = .ok (.getfield 160, 3) := by decide +kernel
theorem dX4_withoutAlone_38 : decode cX4_withoutAlone 38 = .ok (.iload_n 3, 1) := by decide +kernel
theorem dX4_withoutAlone_39 : decode cX4_withoutAlone 39 = .ok (.iaload, 1) := by decide +kernel
theorem dX4_withoutAlone_40 : decode cX4_withoutAlone 40 = .ok (.iaload, 1) := by decide +kernel
theorem dX4_withoutAlone_41 : decode cX4_withoutAlone 41 = .ok (.aload_n 0, 1) := by decide +kernel
theorem dX4_withoutAlone_42 : decode cX4_withoutAlone 42 = .ok (.getfield 30, 3) := by decide +kernel
theorem dX4_withoutAlone_45 : decode cX4_withoutAlone 45 = .ok (.getfield 163, 3) := by decide +kernel
theorem dX4_withoutAlone_48 : decode cX4_withoutAlone 48 = .ok (.iconst 2, 1) := by decide +kernel
theorem dX4_withoutAlone_49 : decode cX4_withoutAlone 49 = .ok (.idiv, 1) := by decide +kernel
theorem dX4_withoutAlone_50 : decode cX4_withoutAlone 50 = .ok (.if_icmp .gt 5, 3) := by decide +kernel
theorem dX4_withoutAlone_53 : decode cX4_withoutAlone 53 = .ok (.iload_n 2, 1) := by decide +kernel
theorem dX4_withoutAlone_54 : decode cX4_withoutAlone 54 = .ok (.ireturn, 1) := by decide +kernel
theorem dX4_withoutAlone_55 : decode cX4_withoutAlone 55 = .ok (.iload_n 2, 1) := by decide +kernel
theorem dX4_withoutAlone_56 : decode cX4_withoutAlone 56 = .ok (.iconst 1, 1) := by decide +kernel
theorem dX4_withoutAlone_57 : decode cX4_withoutAlone 57 = .ok (.iload_n 3, 1) := by decide +kernel
theorem dX4_withoutAlone_58 : decode cX4_withoutAlone 58 = .ok (.ishl, 1) := by decide +kernel
theorem dX4_withoutAlone_59 : decode cX4_withoutAlone 59 = .ok (.iconst (-1), 1) := by decide +kernel
theorem dX4_withoutAlone_60 : decode cX4_withoutAlone 60 = .ok (.ixor, 1) := by decide +kernel
theorem dX4_withoutAlone_61 : decode cX4_withoutAlone 61 = .ok (.iand, 1) := by decide +kernel
theorem dX4_withoutAlone_62 : decode cX4_withoutAlone 62 = .ok (.istore_n 2, 1) := by decide +kernel
theorem dX4_withoutAlone_63 : decode cX4_withoutAlone 63 = .ok (.iinc 3 1, 3) := by decide +kernel
theorem dX4_withoutAlone_66 : decode cX4_withoutAlone 66 = .ok (.goto (-62), 3) := by decide +kernel
theorem dX4_withoutAlone_69 : decode cX4_withoutAlone 69 = .ok (.iload_n 2, 1) := by decide +kernel
theorem dX4_withoutAlone_70 : decode cX4_withoutAlone 70 = .ok (.ireturn, 1) := by decide +kernel
set_option maxHeartbeats 4000000 in
set_option maxRecDepth 100000 in
theorem k_withoutAlone (l : Launch) (dC : Nat → ClassId) (dI : Nat → Nat → Nat) (k : Nat → ClassId) (pp : Nat) (pg : Nat) (so : Nat) (p1 : Nat) (p2 : Nat) (p3 : Nat) (p4 : Nat) (p5 : Nat) (p6 : Nat) (nP : Int) (cP : Int) (T : Nat → Int → Int → Int → Int) (A : Nat → Int → Int → Nat) (X : Nat → Int → Int → Int) (tl : va_W) (M : Nat → Int → Int) (V : Nat → Int → Int) (Aw : Nat → Nat) (wz : Int) (hT : TI dI k T A X tl) (hK : TK T) (hR : RI k (T 0 0 0 0) M V Aw tl) (hM : MK M) (hMT : ∀ j, 0 ≤ j → j < M 0 0 → M 2 j < T 0 0 0 0) (h1 : 0 ≤ wz ∧ wz < 32) : Kn l dC dI k yX4_withoutAlone (.code yX4_withoutAlone cX4_withoutAlone 4 (some .int)) ({ frames := 0, cells := 0, slots := 0, locals := 0 } : Room) [.ref pp, .int (iI wz)] ([(pp, .inr (4, [.ref (A 50 0 0), .ref (Aw 20), .ref pg, .ref so, .int (iI nP), .int (iI cP), .ref p1, .ref p2, .ref p3, .ref p4, .ref p5, .ref p6]))] ++ tl) (fun r w gc gs => ((0 ≤ (waZ T M wz) ∧ (waZ T M wz) ≤ wz) ∧ r = some (.int (iI (waZ T M wz))) ∧ w = ([(pp, .inr (4, [.ref (A 50 0 0), .ref (Aw 20), .ref pg, .ref so, .int (iI nP), .int (iI cP), .ref p1, .ref p2, .ref p3, .ref p4, .ref p5, .ref p6]))] ++ tl) ∧ gc = 0 ∧ gs = 0)) := by
  refine kn_of (by decide) (Nat.le_of_ble_eq_true rfl) ?_
  intro p e s m args below meth c H locs B hr hnm ls hl
  have hx := B.1.1
  have hb := B.1.2.1
  have hl : lv_has ls 4 [(0, .ref pp), (1, .int (iI wz))] := hl
  have hn0 := MK_cnt hM
  have hf0 := MK_17 hM
  refine lv_iload_n hx hb dX4_withoutAlone_0 rfl (lv_at hl 1 rfl) ?_
  refine lv_istore_n (lv' := [(2, .int (iI wz)), (0, .ref pp), (1, .int (iI wz))]) hx hb dX4_withoutAlone_1 rfl hl (by decide) rfl (fun ls hl => ?_)
  refine lv_iconst (v := iI 0) hx hb dX4_withoutAlone_2 (by decide) ?_
  refine lv_istore_n (lv' := [(3, .int (iI 0)), (2, .int (iI wz)), (0, .ref pp), (1, .int (iI wz))]) hx hb dX4_withoutAlone_3 rfl hl (by decide) rfl (fun ls hl => ?_)
  refine k_loop (σ := Int × Int) B (fun g9 : Int × Int => (0 ≤ g9.2 ∧ g9.2 ≤ M 17 0 ∧ 0 ≤ g9.1 ∧ g9.1 ≤ wz) ∧ (waF T M (Int.toNat (M 17 0 - g9.2)) g9.2 g9.1 = waF T M (Int.toNat (M 17 0)) 0 wz)) (fun g9 : Int × Int => (M 17 0 - g9.2).toNat) (fun g9 : Int × Int => [(3, .int (iI g9.2)), (2, .int (iI g9.1)), (0, .ref pp), (1, .int (iI wz))]) (fun g9 : Int × Int => ([(pp, .inr (4, [.ref (A 50 0 0), .ref (Aw 20), .ref pg, .ref so, .int (iI nP), .int (iI cP), .ref p1, .ref p2, .ref p3, .ref p4, .ref p5, .ref p6]))] ++ tl)) ?_ (wz, 0) ⟨(show 0 ≤ 0 ∧ 0 ≤ M 17 0 ∧ 0 ≤ wz ∧ wz ≤ wz from (by omega)), (show waF T M (Int.toNat (M 17 0 - 0)) 0 wz = waF T M (Int.toNat (M 17 0)) 0 wz from (by rw [show M 17 0 - 0 = M 17 0 by omega]))⟩ ls H locs (lv_sub hl [0, 1, 2, 3] rfl) (bd_to rfl B)
  clear hl B
  rintro ⟨wx, q⟩ ⟨hk, hq⟩ ih_1 ls H locs hl B
  have hk : 0 ≤ q ∧ q ≤ M 17 0 ∧ 0 ≤ wx ∧ wx ≤ wz := hk
  have hq : waF T M (Int.toNat (M 17 0 - q)) q wx = waF T M (Int.toNat (M 17 0)) 0 wz := hq
  have hl : lv_has ls 4 [(3, .int (iI q)), (2, .int (iI wx)), (0, .ref pp), (1, .int (iI wz))] := hl
  have B := bd_to (ws' := ([(pp, .inr (4, [.ref (A 50 0 0), .ref (Aw 20), .ref pg, .ref so, .int (iI nP), .int (iI cP), .ref p1, .ref p2, .ref p3, .ref p4, .ref p5, .ref p6]))] ++ tl)) rfl B
  refine lv_iload_n hx hb dX4_withoutAlone_4 rfl (lv_at hl 0 rfl) ?_
  refine lv_aload_n hx hb dX4_withoutAlone_5 rfl (lv_at hl 2 rfl) ?_
  refine x_get (ci := 4) (C := RX4) (T := TX4) (N := 12) (v := .ref (Aw 20)) B 0 rfl rfl in_X4 1 (by decide) mw_366 (fun _ h9 => h9) rfl dX4_withoutAlone_6 ?_
  obtain ⟨k_2, hk_2⟩ := pk_at (hs := [(pp, .inr (4, [.ref (A 50 0 0), .ref (Aw 20), .ref pg, .ref so, .int (iI nP), .int (iI cP), .ref p1, .ref p2, .ref p3, .ref p4, .ref p5, .ref p6]))]) (RI_o hR)
  refine x_get (ci := 6) (C := RX6) (T := TX6) (N := 18) (v := .int (iI (M 17 0))) B k_2 hk_2 rfl in_X6 17 (by decide) mw_261 (fun _ h9 => h9) rfl dX4_withoutAlone_9 ?_
  refine lv_icmp_ge (tgt := 69) hx hb dX4_withoutAlone_12 (by decide) (fun c_3 => ?_) (fun c_3 => ?_)
  · have zc_3 : (M 17 0) ≤ q := jle (a := (M 17 0)) (b := q) (by omega) (by omega) c_3
    refine lv_iload_n hx hb dX4_withoutAlone_69 rfl (lv_at hl 1 rfl) ?_
    have e_4 : (waZ T M wz) = wx := (by unfold waZ; rw [← hq]; first | (rw [show M 17 0 - q = 0 by omega]; done) | (rw [show Int.toNat (M 17 0 - q) = 0 by omega]; rfl) | (rw [waF_s (by omega), if_pos (by omega), if_pos (by omega)]))
    skip
    exact k_iret B hr (⟨(by have e9 : (waZ T M wz) = wx := (by unfold waZ; rw [← hq]; first | (rw [show M 17 0 - q = 0 by omega]; done) | (rw [show Int.toNat (M 17 0 - q) = 0 by omega]; rfl) | (rw [waF_s (by omega), if_pos (by omega), if_pos (by omega)])); omega), (by rw [e_4]), rfl, rfl, rfl⟩) ⟨Nat.le_of_ble_eq_true rfl, Nat.le_of_ble_eq_true rfl⟩ ⟨Nat.le_of_ble_eq_true rfl, Nat.le_of_ble_eq_true rfl⟩ dX4_withoutAlone_70
  · have zc_3 : q < (M 17 0) := jnle (a := (M 17 0)) (b := q) (by omega) (by omega) c_3
    refine lv_iload_n hx hb dX4_withoutAlone_15 rfl (lv_at hl 1 rfl) ?_
    refine lv_iload_n hx hb dX4_withoutAlone_16 rfl (lv_at hl 0 rfl) ?_
    refine y_shr hx hb (a := wx) (b := q) (by omega) (by omega) dX4_withoutAlone_17 ?_
    have z_5 : 0 ≤ (bShr wx q) ∧ (bShr wx q) ≤ wx := bShr_le (by omega)
    refine lv_iconst (v := iI 1) hx hb dX4_withoutAlone_18 (by decide) ?_
    refine y_and hx hb (a := (bShr wx q)) (b := 1) (by omega) (by omega) dX4_withoutAlone_19 ?_
    have z_6 : 0 ≤ (bAnd (bShr wx q) 1) ∧ (bAnd (bShr wx q) 1) ≤ (bShr wx q) := bAnd_le (by omega)
    have z_7 : 0 ≤ (bAnd (bShr wx q) 1) ∧ (bAnd (bShr wx q) 1) ≤ 1 := bAnd_le' (by omega)
    refine lv_iconst (v := iI 1) hx hb dX4_withoutAlone_20 (by decide) ?_
    refine lv_icmp_ne (tgt := 63) hx hb dX4_withoutAlone_21 (by decide) (fun c_8 => ?_) (fun c_8 => ?_)
    · have zc_8 : (bAnd (bShr wx q) 1) ≠ 1 := jne (a := (bAnd (bShr wx q) 1)) (b := 1) (by omega) (by omega) c_8
      refine lv_iinc (v := iI (q + 1)) (lv' := [(3, .int (iI (q + 1))), (2, .int (iI wx)), (0, .ref pp), (1, .int (iI wz))]) hx hb dX4_withoutAlone_63 hl (k := 0) rfl (iI_add _ _) (by decide) rfl (fun ls hl => ?_)
      refine lv_goto (tgt := 4) hx hb dX4_withoutAlone_66 (by decide) ?_
      exact ih_1 (wx, (q + 1)) ⟨(show 0 ≤ (q + 1) ∧ (q + 1) ≤ M 17 0 ∧ 0 ≤ wx ∧ wx ≤ wz from (by omega)), (show waF T M (Int.toNat (M 17 0 - (q + 1))) (q + 1) wx = waF T M (Int.toNat (M 17 0)) 0 wz from (by rw [← hq, waF_s (q := q) (by omega), if_neg (by omega)]))⟩ (by first | omega | (dsimp only; omega)) _ _ _ (lv_sub hl [0, 1, 2, 3] rfl) (bd_to rfl B)
    · have zc_8 : (bAnd (bShr wx q) 1) = 1 := jeq (a := (bAnd (bShr wx q) 1)) (b := 1) (by omega) (by omega) c_8
      refine lv_aload_n hx hb dX4_withoutAlone_24 rfl (lv_at hl 2 rfl) ?_
      refine x_get (ci := 4) (C := RX4) (T := TX4) (N := 12) (v := .ref (A 50 0 0)) B 0 rfl rfl in_X4 0 (by decide) mw_365 (fun _ h9 => h9) rfl dX4_withoutAlone_25 ?_
      obtain ⟨k_9, hk_9⟩ := pk_at (hs := [(pp, .inr (4, [.ref (A 50 0 0), .ref (Aw 20), .ref pg, .ref so, .int (iI nP), .int (iI cP), .ref p1, .ref p2, .ref p3, .ref p4, .ref p5, .ref p6]))]) hT.1.1
      refine x_get (ci := 9) (C := RX9) (T := TX9) (N := 8) (v := .ref (A 54 0 0)) B k_9 hk_9 rfl in_X9 3 (by decide) mw_87 (fun _ h9 => h9) rfl dX4_withoutAlone_28 ?_
      refine lv_aload_n hx hb dX4_withoutAlone_31 rfl (lv_at hl 2 rfl) ?_
      refine x_get (ci := 4) (C := RX4) (T := TX4) (N := 12) (v := .ref (Aw 20)) B 0 rfl rfl in_X4 1 (by decide) mw_366 (fun _ h9 => h9) rfl dX4_withoutAlone_32 ?_
      obtain ⟨k_10, hk_10⟩ := pk_at (hs := [(pp, .inr (4, [.ref (A 50 0 0), .ref (Aw 20), .ref pg, .ref so, .int (iI nP), .int (iI cP), .ref p1, .ref p2, .ref p3, .ref p4, .ref p5, .ref p6]))]) (RI_o hR)
      refine x_get (ci := 6) (C := RX6) (T := TX6) (N := 18) (v := .ref (Aw 16)) B k_10 hk_10 rfl in_X6 16 (by decide) mw_259 (fun _ h9 => h9) rfl dX4_withoutAlone_35 ?_
      refine lv_iload_n hx hb dX4_withoutAlone_38 rfl (lv_at hl 0 rfl) ?_
      obtain ⟨k_11, hk_11⟩ := pk_at (hs := [(pp, .inr (4, [.ref (A 50 0 0), .ref (Aw 20), .ref pg, .ref so, .int (iI nP), .int (iI cP), .ref p1, .ref p2, .ref p3, .ref p4, .ref p5, .ref p6]))]) (RI_16 hR)
      refine x_iald' (f := (V 16)) (z := q) B k_11 hk_11 (by omega) dX4_withoutAlone_39 ?_
      refine lv_seti (y := iI (M 16 q)) (congrArg iI (show (V 16) q = M 16 q from RA_16 (RI_a hR) _ (by omega) (by omega))) ?_
      have z_12 : 0 ≤ M 16 q ∧ M 16 q ≤ 4 := MK_16 hM _
      obtain ⟨k_13, hk_13⟩ := pk_at (hs := [(pp, .inr (4, [.ref (A 50 0 0), .ref (Aw 20), .ref pg, .ref so, .int (iI nP), .int (iI cP), .ref p1, .ref p2, .ref p3, .ref p4, .ref p5, .ref p6]))]) hT.1.2.2.1
      refine x_iald' (f := (fun j9 : Int => T 14 j9 0 0)) (z := (M 16 q)) B k_13 hk_13 (by omega) dX4_withoutAlone_40 ?_
      have z_14 : 0 ≤ (T 14 (M 16 q) 0 0) ∧ (T 14 (M 16 q) 0 0) ≤ 40 := (fun j => TK_fh hK j) (M 16 q)
      refine lv_aload_n hx hb dX4_withoutAlone_41 rfl (lv_at hl 2 rfl) ?_
      refine x_get (ci := 4) (C := RX4) (T := TX4) (N := 12) (v := .ref (A 50 0 0)) B 0 rfl rfl in_X4 0 (by decide) mw_365 (fun _ h9 => h9) rfl dX4_withoutAlone_42 ?_
      obtain ⟨k_15, hk_15⟩ := pk_at (hs := [(pp, .inr (4, [.ref (A 50 0 0), .ref (Aw 20), .ref pg, .ref so, .int (iI nP), .int (iI cP), .ref p1, .ref p2, .ref p3, .ref p4, .ref p5, .ref p6]))]) hT.1.1
      refine x_get (ci := 9) (C := RX9) (T := TX9) (N := 8) (v := .int (iI (T 17 0 0 0))) B k_15 hk_15 rfl in_X9 7 (by decide) mw_100 (fun _ h9 => h9) rfl dX4_withoutAlone_45 ?_
      have z_16 : 6 ≤ T 17 0 0 0 ∧ T 17 0 0 0 ≤ 40 := TK_hei hK
      refine lv_iconst (v := iI 2) hx hb dX4_withoutAlone_48 (by decide) ?_
      refine y_div hx hb (a := (T 17 0 0 0)) (b := 2) (by omega) (by omega) dX4_withoutAlone_49 ?_
      refine lv_icmp_gt (tgt := 55) hx hb dX4_withoutAlone_50 (by decide) (fun c_17 => ?_) (fun c_17 => ?_)
      · have zc_17 : ((T 17 0 0 0) / 2) < (T 14 (M 16 q) 0 0) := jlt (a := ((T 17 0 0 0) / 2)) (b := (T 14 (M 16 q) 0 0)) (by omega) (by omega) c_17
        refine lv_iload_n hx hb dX4_withoutAlone_55 rfl (lv_at hl 1 rfl) ?_
        refine lv_iconst (v := iI 1) hx hb dX4_withoutAlone_56 (by decide) ?_
        refine lv_iload_n hx hb dX4_withoutAlone_57 rfl (lv_at hl 0 rfl) ?_
        have z_18 : 0 < (bShl 1 q) ∧ (bShl 1 q) < 32 := bShl_k5 (by omega)
        refine y_shl hx hb (a := 1) (b := q) (by omega) (by omega) (by omega) dX4_withoutAlone_58 ?_
        refine lv_iconst (v := iI (-1)) hx hb dX4_withoutAlone_59 (by decide) ?_
        refine y_not hx hb dX4_withoutAlone_60 ?_
        refine y_dif hx hb (a := wx) (b := (bShl 1 q)) (by omega) (by omega) dX4_withoutAlone_61 ?_
        have z_19 : 0 ≤ (bDif wx (bShl 1 q)) ∧ (bDif wx (bShl 1 q)) ≤ wx := bDif_le (by omega)
        refine lv_istore_n (lv' := [(2, .int (iI (bDif wx (bShl 1 q)))), (3, .int (iI q)), (0, .ref pp), (1, .int (iI wz))]) hx hb dX4_withoutAlone_62 rfl hl (by decide) rfl (fun ls hl => ?_)
        refine lv_iinc (v := iI (q + 1)) (lv' := [(3, .int (iI (q + 1))), (2, .int (iI (bDif wx (bShl 1 q)))), (0, .ref pp), (1, .int (iI wz))]) hx hb dX4_withoutAlone_63 hl (k := 1) rfl (iI_add _ _) (by decide) rfl (fun ls hl => ?_)
        refine lv_goto (tgt := 4) hx hb dX4_withoutAlone_66 (by decide) ?_
        exact ih_1 ((bDif wx (bShl 1 q)), (q + 1)) ⟨(show 0 ≤ (q + 1) ∧ (q + 1) ≤ M 17 0 ∧ 0 ≤ (bDif wx (bShl 1 q)) ∧ (bDif wx (bShl 1 q)) ≤ wz from (by omega)), (show waF T M (Int.toNat (M 17 0 - (q + 1))) (q + 1) (bDif wx (bShl 1 q)) = waF T M (Int.toNat (M 17 0)) 0 wz from (by rw [← hq, waF_s (q := q) (by omega), if_pos (by omega), if_neg (by omega)]))⟩ (by first | omega | (dsimp only; omega)) _ _ _ (lv_sub hl [0, 1, 2, 3] rfl) (bd_to rfl B)
      · have zc_17 : (T 14 (M 16 q) 0 0) ≤ ((T 17 0 0 0) / 2) := jnlt (a := ((T 17 0 0 0) / 2)) (b := (T 14 (M 16 q) 0 0)) (by omega) (by omega) c_17
        refine lv_iload_n hx hb dX4_withoutAlone_53 rfl (lv_at hl 1 rfl) ?_
        have e_20 : (waZ T M wz) = wx := (by unfold waZ; rw [← hq]; first | (rw [show M 17 0 - q = 0 by omega]; done) | (rw [show Int.toNat (M 17 0 - q) = 0 by omega]; rfl) | (rw [waF_s (by omega), if_pos (by omega), if_pos (by omega)]))
        skip
        exact k_iret B hr (⟨(by have e9 : (waZ T M wz) = wx := (by unfold waZ; rw [← hq]; first | (rw [show M 17 0 - q = 0 by omega]; done) | (rw [show Int.toNat (M 17 0 - q) = 0 by omega]; rfl) | (rw [waF_s (by omega), if_pos (by omega), if_pos (by omega)])); omega), (by rw [e_20]), rfl, rfl, rfl⟩) ⟨Nat.le_of_ble_eq_true rfl, Nat.le_of_ble_eq_true rfl⟩ ⟨Nat.le_of_ble_eq_true rfl, Nat.le_of_ble_eq_true rfl⟩ dX4_withoutAlone_54

theorem dX4_figuresBehind_0 : decode cX4_figuresBehind 0 = .ok (.iconst 0, 1) := by decide +kernel
theorem dX4_figuresBehind_1 : decode cX4_figuresBehind 1 = .ok (.istore_n 2, 1) := by decide +kernel
theorem dX4_figuresBehind_2 : decode cX4_figuresBehind 2 = .ok (.iconst 0, 1) := by decide +kernel
theorem dX4_figuresBehind_3 : decode cX4_figuresBehind 3 = .ok (.istore_n 3, 1) := by decide +kernel
theorem dX4_figuresBehind_4 : decode cX4_figuresBehind 4 = .ok (.iconst 0, 1) := by decide +kernel
theorem dX4_figuresBehind_5 : decode cX4_figuresBehind 5 = .ok (.istore 4, 2) := by decide +kernel
theorem dX4_figuresBehind_7 : decode cX4_figuresBehind 7 = .ok (.iload 4, 2) := by decide +kernel
theorem dX4_figuresBehind_9 : decode cX4_figuresBehind 9 = .ok (.aload_n 0, 1) := by decide +kernel
theorem dX4_figuresBehind_10 : decode cX4_figuresBehind 10 = .ok (.getfield 34, 3) := by decide +kernel
theorem dX4_figuresBehind_13 : decode cX4_figuresBehind 13 = .ok (.getfield 152, 3) := by decide +kernel
theorem dX4_figuresBehind_16 : decode cX4_figuresBehind 16 = .ok (.if_icmp .ge 66, 3) := by decide +kernel
theorem dX4_figuresBehind_19 : decode cX4_figuresBehind 19 = .ok (.iload_n 1, 1) := by decide +kernel
theorem dX4_figuresBehind_20 : decode cX4_figuresBehind 20 = .ok (.iload 4, 2) := by decide +kernel
theorem dX4_figuresBehind_22 : decode cX4_figuresBehind 22 = .ok (.ishr, 1) := by decide +kernel
theorem dX4_figuresBehind_23 : decode cX4_figuresBehind 23 = .ok (.iconst 1, 1) := by decide +kernel
theorem dX4_figuresBehind_24 : decode cX4_figuresBehind 24 = .ok (.iand, 1) := by decide +kernel
theorem dX4_figuresBehind_25 : decode cX4_figuresBehind 25 = .ok (.ifCond .ne 6, 3) := by decide +kernel
theorem dX4_figuresBehind_28 : decode cX4_figuresBehind 28 = .ok (.goto 48, 3) := by decide +kernel
theorem dX4_figuresBehind_31 : decode cX4_figuresBehind 31 = .ok (.iload_n 3, 1) := by decide +kernel
theorem dX4_figuresBehind_32 : decode cX4_figuresBehind 32 = .ok (.aload_n 0, 1) := by decide +kernel
theorem dX4_figuresBehind_33 : decode cX4_figuresBehind 33 = .ok (.getfield 30, 3) := by decide +kernel
theorem dX4_figuresBehind_36 : decode cX4_figuresBehind 36 = .ok (.getfield 155, 3) := by decide +kernel
theorem dX4_figuresBehind_39 : decode cX4_figuresBehind 39 = .ok (.aload_n 0, 1) := by decide +kernel
theorem dX4_figuresBehind_40 : decode cX4_figuresBehind 40 = .ok (.getfield 34, 3) := by decide +kernel
theorem dX4_figuresBehind_43 : decode cX4_figuresBehind 43 = .ok (.getfield 160, 3) := by decide +kernel
theorem dX4_figuresBehind_46 : decode cX4_figuresBehind 46 = .ok (.iload 4, 2) := by decide +kernel
theorem dX4_figuresBehind_48 : decode cX4_figuresBehind 48 = .ok (.iaload, 1) := by decide +kernel
theorem dX4_figuresBehind_49 : decode cX4_figuresBehind 49 = .ok (.iaload, 1) := by decide +kernel
theorem dX4_figuresBehind_50 : decode cX4_figuresBehind 50 = .ok (.iadd, 1) := by decide +kernel
theorem dX4_figuresBehind_51 : decode cX4_figuresBehind 51 = .ok (.istore_n 3, 1) := by decide +kernel
theorem dX4_figuresBehind_52 : decode cX4_figuresBehind 52 = .ok (.iload_n 2, 1) := by decide +kernel
theorem dX4_figuresBehind_53 : decode cX4_figuresBehind 53 = .ok (.ifCond .eq 16, 3) := by decide +kernel
theorem dX4_figuresBehind_56 : decode cX4_figuresBehind 56 = .ok (.iload_n 3, 1) := by decide +kernel
theorem dX4_figuresBehind_57 : decode cX4_figuresBehind 57 = .ok (.aload_n 0, 1) := by decide +kernel
theorem dX4_figuresBehind_58 : decode cX4_figuresBehind 58 = .ok (.getfield 30, 3) := by decide +kernel
theorem dX4_figuresBehind_61 : decode cX4_figuresBehind 61 = .ok (.getfield 163, 3) := by decide +kernel
theorem dX4_figuresBehind_64 : decode cX4_figuresBehind 64 = .ok (.if_icmp .le 5, 3) := by decide +kernel
theorem dX4_figuresBehind_67 : decode cX4_figuresBehind 67 = .ok (.iload_n 2, 1) := by decide +kernel
theorem dX4_figuresBehind_68 : decode cX4_figuresBehind 68 = .ok (.ireturn, 1) := by decide +kernel
theorem dX4_figuresBehind_69 : decode cX4_figuresBehind 69 = .ok (.iload_n 2, 1) := by decide +kernel
theorem dX4_figuresBehind_70 : decode cX4_figuresBehind 70 = .ok (.iconst 1, 1) := by decide +kernel
theorem dX4_figuresBehind_71 : decode cX4_figuresBehind 71 = .ok (.iload 4, 2) := by decide +kernel
theorem dX4_figuresBehind_73 : decode cX4_figuresBehind 73 = .ok (.ishl, 1) := by decide +kernel
theorem dX4_figuresBehind_74 : decode cX4_figuresBehind 74 = .ok (.ior, 1) := by decide +kernel
theorem dX4_figuresBehind_75 : decode cX4_figuresBehind 75 = .ok (.istore_n 2, 1) := by decide +kernel
theorem dX4_figuresBehind_76 : decode cX4_figuresBehind 76 = .ok (.iinc 4 1, 3) := by decide +kernel
theorem dX4_figuresBehind_79 : decode cX4_figuresBehind 79 = .ok (.goto (-72), 3) := by decide +kernel
theorem dX4_figuresBehind_82 : decode cX4_figuresBehind 82 = .ok (.iload_n 2, 1) := by decide +kernel
theorem dX4_figuresBehind_83 : decode cX4_figuresBehind 83 = .ok (.ireturn, 1) := by decide +kernel
set_option maxHeartbeats 4000000 in
set_option maxRecDepth 100000 in
theorem k_figuresBehind (l : Launch) (dC : Nat → ClassId) (dI : Nat → Nat → Nat) (k : Nat → ClassId) (pp : Nat) (pg : Nat) (so : Nat) (p1 : Nat) (p2 : Nat) (p3 : Nat) (p4 : Nat) (p5 : Nat) (p6 : Nat) (nP : Int) (cP : Int) (T : Nat → Int → Int → Int → Int) (A : Nat → Int → Int → Nat) (X : Nat → Int → Int → Int) (tl : va_W) (M : Nat → Int → Int) (V : Nat → Int → Int) (Aw : Nat → Nat) (wz : Int) (hT : TI dI k T A X tl) (hK : TK T) (hR : RI k (T 0 0 0 0) M V Aw tl) (hM : MK M) (hMT : ∀ j, 0 ≤ j → j < M 0 0 → M 2 j < T 0 0 0 0) (h1 : 0 ≤ wz ∧ wz < 32) : Kn l dC dI k yX4_figuresBehind (.code yX4_figuresBehind cX4_figuresBehind 5 (some .int)) ({ frames := 0, cells := 0, slots := 0, locals := 0 } : Room) [.ref pp, .int (iI wz)] ([(pp, .inr (4, [.ref (A 50 0 0), .ref (Aw 20), .ref pg, .ref so, .int (iI nP), .int (iI cP), .ref p1, .ref p2, .ref p3, .ref p4, .ref p5, .ref p6]))] ++ tl) (fun r w gc gs => ((0 ≤ (fbZ T M wz) ∧ (fbZ T M wz) < 32) ∧ r = some (.int (iI (fbZ T M wz))) ∧ w = ([(pp, .inr (4, [.ref (A 50 0 0), .ref (Aw 20), .ref pg, .ref so, .int (iI nP), .int (iI cP), .ref p1, .ref p2, .ref p3, .ref p4, .ref p5, .ref p6]))] ++ tl) ∧ gc = 0 ∧ gs = 0)) := by
  refine kn_of (by decide) (Nat.le_of_ble_eq_true rfl) ?_
  intro p e s m args below meth c H locs B hr hnm ls hl
  have hx := B.1.1
  have hb := B.1.2.1
  have hl : lv_has ls 5 [(0, .ref pp), (1, .int (iI wz))] := hl
  have hn0 := MK_cnt hM
  have hf0 := MK_17 hM
  refine lv_iconst (v := iI 0) hx hb dX4_figuresBehind_0 (by decide) ?_
  refine lv_istore_n (lv' := [(2, .int (iI 0)), (0, .ref pp), (1, .int (iI wz))]) hx hb dX4_figuresBehind_1 rfl hl (by decide) rfl (fun ls hl => ?_)
  refine lv_iconst (v := iI 0) hx hb dX4_figuresBehind_2 (by decide) ?_
  refine lv_istore_n (lv' := [(3, .int (iI 0)), (2, .int (iI 0)), (0, .ref pp), (1, .int (iI wz))]) hx hb dX4_figuresBehind_3 rfl hl (by decide) rfl (fun ls hl => ?_)
  refine lv_iconst (v := iI 0) hx hb dX4_figuresBehind_4 (by decide) ?_
  refine lv_istore (lv' := [(4, .int (iI 0)), (3, .int (iI 0)), (2, .int (iI 0)), (0, .ref pp), (1, .int (iI wz))]) hx hb dX4_figuresBehind_5 hl (by decide) rfl (fun ls hl => ?_)
  refine k_loop (σ := Int × Int × Int) B (fun g9 : Int × Int × Int => (0 ≤ g9.2.2 ∧ g9.2.2 ≤ M 17 0 ∧ 0 ≤ g9.1 ∧ g9.1 < 32 ∧ 0 ≤ g9.2.1 ∧ g9.2.1 ≤ 40 * g9.2.2) ∧ (fbF T M wz (Int.toNat (M 17 0 - g9.2.2)) g9.2.2 g9.1 g9.2.1 = fbF T M wz (Int.toNat (M 17 0)) 0 0 0)) (fun g9 : Int × Int × Int => (M 17 0 - g9.2.2).toNat) (fun g9 : Int × Int × Int => [(4, .int (iI g9.2.2)), (3, .int (iI g9.2.1)), (2, .int (iI g9.1)), (0, .ref pp), (1, .int (iI wz))]) (fun g9 : Int × Int × Int => ([(pp, .inr (4, [.ref (A 50 0 0), .ref (Aw 20), .ref pg, .ref so, .int (iI nP), .int (iI cP), .ref p1, .ref p2, .ref p3, .ref p4, .ref p5, .ref p6]))] ++ tl)) ?_ (0, 0, 0) ⟨(show 0 ≤ 0 ∧ 0 ≤ M 17 0 ∧ 0 ≤ 0 ∧ 0 < 32 ∧ 0 ≤ 0 ∧ 0 ≤ 40 * 0 from (by omega)), (show fbF T M wz (Int.toNat (M 17 0 - 0)) 0 0 0 = fbF T M wz (Int.toNat (M 17 0)) 0 0 0 from (by rw [show M 17 0 - 0 = M 17 0 by omega]))⟩ ls H locs (lv_sub hl [0, 1, 2, 3, 4] rfl) (bd_to rfl B)
  clear hl B
  rintro ⟨sx, hh, q⟩ ⟨hk, hq⟩ ih_1 ls H locs hl B
  have hk : 0 ≤ q ∧ q ≤ M 17 0 ∧ 0 ≤ sx ∧ sx < 32 ∧ 0 ≤ hh ∧ hh ≤ 40 * q := hk
  have hq : fbF T M wz (Int.toNat (M 17 0 - q)) q sx hh = fbF T M wz (Int.toNat (M 17 0)) 0 0 0 := hq
  have hl : lv_has ls 5 [(4, .int (iI q)), (3, .int (iI hh)), (2, .int (iI sx)), (0, .ref pp), (1, .int (iI wz))] := hl
  have B := bd_to (ws' := ([(pp, .inr (4, [.ref (A 50 0 0), .ref (Aw 20), .ref pg, .ref so, .int (iI nP), .int (iI cP), .ref p1, .ref p2, .ref p3, .ref p4, .ref p5, .ref p6]))] ++ tl)) rfl B
  refine lv_iload hx hb dX4_figuresBehind_7 (lv_at hl 0 rfl) ?_
  refine lv_aload_n hx hb dX4_figuresBehind_9 rfl (lv_at hl 3 rfl) ?_
  refine x_get (ci := 4) (C := RX4) (T := TX4) (N := 12) (v := .ref (Aw 20)) B 0 rfl rfl in_X4 1 (by decide) mw_366 (fun _ h9 => h9) rfl dX4_figuresBehind_10 ?_
  obtain ⟨k_2, hk_2⟩ := pk_at (hs := [(pp, .inr (4, [.ref (A 50 0 0), .ref (Aw 20), .ref pg, .ref so, .int (iI nP), .int (iI cP), .ref p1, .ref p2, .ref p3, .ref p4, .ref p5, .ref p6]))]) (RI_o hR)
  refine x_get (ci := 6) (C := RX6) (T := TX6) (N := 18) (v := .int (iI (M 17 0))) B k_2 hk_2 rfl in_X6 17 (by decide) mw_261 (fun _ h9 => h9) rfl dX4_figuresBehind_13 ?_
  refine lv_icmp_ge (tgt := 82) hx hb dX4_figuresBehind_16 (by decide) (fun c_3 => ?_) (fun c_3 => ?_)
  · have zc_3 : (M 17 0) ≤ q := jle (a := (M 17 0)) (b := q) (by omega) (by omega) c_3
    refine lv_iload_n hx hb dX4_figuresBehind_82 rfl (lv_at hl 2 rfl) ?_
    have e_4 : (fbZ T M wz) = sx := (by unfold fbZ; rw [← hq]; first | (rw [show Int.toNat (M 17 0 - q) = 0 by omega]; rfl) | (rw [fbF_s (by omega), if_neg (by omega), if_pos (by omega)]))
    skip
    exact k_iret B hr (⟨(by have e9 : (fbZ T M wz) = sx := (by unfold fbZ; rw [← hq]; first | (rw [show Int.toNat (M 17 0 - q) = 0 by omega]; rfl) | (rw [fbF_s (by omega), if_neg (by omega), if_pos (by omega)])); omega), (by rw [e_4]), rfl, rfl, rfl⟩) ⟨Nat.le_of_ble_eq_true rfl, Nat.le_of_ble_eq_true rfl⟩ ⟨Nat.le_of_ble_eq_true rfl, Nat.le_of_ble_eq_true rfl⟩ dX4_figuresBehind_83
  · have zc_3 : q < (M 17 0) := jnle (a := (M 17 0)) (b := q) (by omega) (by omega) c_3
    refine lv_iload_n hx hb dX4_figuresBehind_19 rfl (lv_at hl 4 rfl) ?_
    refine lv_iload hx hb dX4_figuresBehind_20 (lv_at hl 0 rfl) ?_
    refine y_shr hx hb (a := wz) (b := q) (by omega) (by omega) dX4_figuresBehind_22 ?_
    have z_5 : 0 ≤ (bShr wz q) ∧ (bShr wz q) ≤ wz := bShr_le (by omega)
    refine lv_iconst (v := iI 1) hx hb dX4_figuresBehind_23 (by decide) ?_
    refine y_and hx hb (a := (bShr wz q)) (b := 1) (by omega) (by omega) dX4_figuresBehind_24 ?_
    have z_6 : 0 ≤ (bAnd (bShr wz q) 1) ∧ (bAnd (bShr wz q) 1) ≤ (bShr wz q) := bAnd_le (by omega)
    have z_7 : 0 ≤ (bAnd (bShr wz q) 1) ∧ (bAnd (bShr wz q) 1) ≤ 1 := bAnd_le' (by omega)
    refine lv_if_ne (tgt := 31) hx hb dX4_figuresBehind_25 (by decide) (fun c_8 => ?_) (fun c_8 => ?_)
    · have zc_8 : (bAnd (bShr wz q) 1) ≠ 0 := jne (a := (bAnd (bShr wz q) 1)) (b := 0) (by omega) (by omega) c_8
      refine lv_iload_n hx hb dX4_figuresBehind_31 rfl (lv_at hl 1 rfl) ?_
      refine lv_aload_n hx hb dX4_figuresBehind_32 rfl (lv_at hl 3 rfl) ?_
      refine x_get (ci := 4) (C := RX4) (T := TX4) (N := 12) (v := .ref (A 50 0 0)) B 0 rfl rfl in_X4 0 (by decide) mw_365 (fun _ h9 => h9) rfl dX4_figuresBehind_33 ?_
      obtain ⟨k_9, hk_9⟩ := pk_at (hs := [(pp, .inr (4, [.ref (A 50 0 0), .ref (Aw 20), .ref pg, .ref so, .int (iI nP), .int (iI cP), .ref p1, .ref p2, .ref p3, .ref p4, .ref p5, .ref p6]))]) hT.1.1
      refine x_get (ci := 9) (C := RX9) (T := TX9) (N := 8) (v := .ref (A 54 0 0)) B k_9 hk_9 rfl in_X9 3 (by decide) mw_87 (fun _ h9 => h9) rfl dX4_figuresBehind_36 ?_
      refine lv_aload_n hx hb dX4_figuresBehind_39 rfl (lv_at hl 3 rfl) ?_
      refine x_get (ci := 4) (C := RX4) (T := TX4) (N := 12) (v := .ref (Aw 20)) B 0 rfl rfl in_X4 1 (by decide) mw_366 (fun _ h9 => h9) rfl dX4_figuresBehind_40 ?_
      obtain ⟨k_10, hk_10⟩ := pk_at (hs := [(pp, .inr (4, [.ref (A 50 0 0), .ref (Aw 20), .ref pg, .ref so, .int (iI nP), .int (iI cP), .ref p1, .ref p2, .ref p3, .ref p4, .ref p5, .ref p6]))]) (RI_o hR)
      refine x_get (ci := 6) (C := RX6) (T := TX6) (N := 18) (v := .ref (Aw 16)) B k_10 hk_10 rfl in_X6 16 (by decide) mw_259 (fun _ h9 => h9) rfl dX4_figuresBehind_43 ?_
      refine lv_iload hx hb dX4_figuresBehind_46 (lv_at hl 0 rfl) ?_
      obtain ⟨k_11, hk_11⟩ := pk_at (hs := [(pp, .inr (4, [.ref (A 50 0 0), .ref (Aw 20), .ref pg, .ref so, .int (iI nP), .int (iI cP), .ref p1, .ref p2, .ref p3, .ref p4, .ref p5, .ref p6]))]) (RI_16 hR)
      refine x_iald' (f := (V 16)) (z := q) B k_11 hk_11 (by omega) dX4_figuresBehind_48 ?_
      refine lv_seti (y := iI (M 16 q)) (congrArg iI (show (V 16) q = M 16 q from RA_16 (RI_a hR) _ (by omega) (by omega))) ?_
      have z_12 : 0 ≤ M 16 q ∧ M 16 q ≤ 4 := MK_16 hM _
      obtain ⟨k_13, hk_13⟩ := pk_at (hs := [(pp, .inr (4, [.ref (A 50 0 0), .ref (Aw 20), .ref pg, .ref so, .int (iI nP), .int (iI cP), .ref p1, .ref p2, .ref p3, .ref p4, .ref p5, .ref p6]))]) hT.1.2.2.1
      refine x_iald' (f := (fun j9 : Int => T 14 j9 0 0)) (z := (M 16 q)) B k_13 hk_13 (by omega) dX4_figuresBehind_49 ?_
      have z_14 : 0 ≤ (T 14 (M 16 q) 0 0) ∧ (T 14 (M 16 q) 0 0) ≤ 40 := (fun j => TK_fh hK j) (M 16 q)
      refine y_add hx hb dX4_figuresBehind_50 ?_
      refine lv_istore_n (lv' := [(3, .int (iI (hh + (T 14 (M 16 q) 0 0)))), (4, .int (iI q)), (2, .int (iI sx)), (0, .ref pp), (1, .int (iI wz))]) hx hb dX4_figuresBehind_51 rfl hl (by decide) rfl (fun ls hl => ?_)
      refine lv_iload_n hx hb dX4_figuresBehind_52 rfl (lv_at hl 2 rfl) ?_
      refine lv_if_eq (tgt := 69) hx hb dX4_figuresBehind_53 (by decide) (fun c_15 => ?_) (fun c_15 => ?_)
      · have zc_15 : sx = 0 := jeq (a := sx) (b := 0) (by omega) (by omega) c_15
        refine lv_iload_n hx hb dX4_figuresBehind_69 rfl (lv_at hl 2 rfl) ?_
        refine lv_iconst (v := iI 1) hx hb dX4_figuresBehind_70 (by decide) ?_
        refine lv_iload hx hb dX4_figuresBehind_71 (lv_at hl 1 rfl) ?_
        have z_16 : 0 < (bShl 1 q) ∧ (bShl 1 q) < 32 := bShl_k5 (by omega)
        refine y_shl hx hb (a := 1) (b := q) (by omega) (by omega) (by omega) dX4_figuresBehind_73 ?_
        refine y_or hx hb (a := sx) (b := (bShl 1 q)) (by omega) (by omega) dX4_figuresBehind_74 ?_
        have z_17 : 0 ≤ (bOr sx (bShl 1 q)) ∧ (bOr sx (bShl 1 q)) < 32 := bOr_lt 5 (by omega) (by omega)
        refine lv_istore_n (lv' := [(2, .int (iI (bOr sx (bShl 1 q)))), (3, .int (iI (hh + (T 14 (M 16 q) 0 0)))), (4, .int (iI q)), (0, .ref pp), (1, .int (iI wz))]) hx hb dX4_figuresBehind_75 rfl hl (by decide) rfl (fun ls hl => ?_)
        refine lv_iinc (v := iI (q + 1)) (lv' := [(4, .int (iI (q + 1))), (2, .int (iI (bOr sx (bShl 1 q)))), (3, .int (iI (hh + (T 14 (M 16 q) 0 0)))), (0, .ref pp), (1, .int (iI wz))]) hx hb dX4_figuresBehind_76 hl (k := 2) rfl (iI_add _ _) (by decide) rfl (fun ls hl => ?_)
        refine lv_goto (tgt := 7) hx hb dX4_figuresBehind_79 (by decide) ?_
        exact ih_1 ((bOr sx (bShl 1 q)), (hh + (T 14 (M 16 q) 0 0)), (q + 1)) ⟨(show 0 ≤ (q + 1) ∧ (q + 1) ≤ M 17 0 ∧ 0 ≤ (bOr sx (bShl 1 q)) ∧ (bOr sx (bShl 1 q)) < 32 ∧ 0 ≤ (hh + (T 14 (M 16 q) 0 0)) ∧ (hh + (T 14 (M 16 q) 0 0)) ≤ 40 * (q + 1) from (by omega)), (show fbF T M wz (Int.toNat (M 17 0 - (q + 1))) (q + 1) (bOr sx (bShl 1 q)) (hh + (T 14 (M 16 q) 0 0)) = fbF T M wz (Int.toNat (M 17 0)) 0 0 0 from (by rw [← hq, fbF_s (q := q) (by omega), if_neg (by omega), if_neg (by omega)]))⟩ (by first | omega | (dsimp only; omega)) _ _ _ (lv_sub hl [0, 2, 1, 3, 4] rfl) (bd_to rfl B)
      · have zc_15 : sx ≠ 0 := jne (a := sx) (b := 0) (by omega) (by omega) c_15
        refine lv_iload_n hx hb dX4_figuresBehind_56 rfl (lv_at hl 0 rfl) ?_
        refine lv_aload_n hx hb dX4_figuresBehind_57 rfl (lv_at hl 3 rfl) ?_
        refine x_get (ci := 4) (C := RX4) (T := TX4) (N := 12) (v := .ref (A 50 0 0)) B 0 rfl rfl in_X4 0 (by decide) mw_365 (fun _ h9 => h9) rfl dX4_figuresBehind_58 ?_
        obtain ⟨k_18, hk_18⟩ := pk_at (hs := [(pp, .inr (4, [.ref (A 50 0 0), .ref (Aw 20), .ref pg, .ref so, .int (iI nP), .int (iI cP), .ref p1, .ref p2, .ref p3, .ref p4, .ref p5, .ref p6]))]) hT.1.1
        refine x_get (ci := 9) (C := RX9) (T := TX9) (N := 8) (v := .int (iI (T 17 0 0 0))) B k_18 hk_18 rfl in_X9 7 (by decide) mw_100 (fun _ h9 => h9) rfl dX4_figuresBehind_61 ?_
        have z_19 : 6 ≤ T 17 0 0 0 ∧ T 17 0 0 0 ≤ 40 := TK_hei hK
        refine lv_icmp_le (tgt := 69) hx hb dX4_figuresBehind_64 (by decide) (fun c_20 => ?_) (fun c_20 => ?_)
        · have zc_20 : (hh + (T 14 (M 16 q) 0 0)) ≤ (T 17 0 0 0) := jle (a := (hh + (T 14 (M 16 q) 0 0))) (b := (T 17 0 0 0)) (by omega) (by omega) c_20
          refine lv_iload_n hx hb dX4_figuresBehind_69 rfl (lv_at hl 2 rfl) ?_
          refine lv_iconst (v := iI 1) hx hb dX4_figuresBehind_70 (by decide) ?_
          refine lv_iload hx hb dX4_figuresBehind_71 (lv_at hl 1 rfl) ?_
          have z_21 : 0 < (bShl 1 q) ∧ (bShl 1 q) < 32 := bShl_k5 (by omega)
          refine y_shl hx hb (a := 1) (b := q) (by omega) (by omega) (by omega) dX4_figuresBehind_73 ?_
          refine y_or hx hb (a := sx) (b := (bShl 1 q)) (by omega) (by omega) dX4_figuresBehind_74 ?_
          have z_22 : 0 ≤ (bOr sx (bShl 1 q)) ∧ (bOr sx (bShl 1 q)) < 32 := bOr_lt 5 (by omega) (by omega)
          refine lv_istore_n (lv' := [(2, .int (iI (bOr sx (bShl 1 q)))), (3, .int (iI (hh + (T 14 (M 16 q) 0 0)))), (4, .int (iI q)), (0, .ref pp), (1, .int (iI wz))]) hx hb dX4_figuresBehind_75 rfl hl (by decide) rfl (fun ls hl => ?_)
          refine lv_iinc (v := iI (q + 1)) (lv' := [(4, .int (iI (q + 1))), (2, .int (iI (bOr sx (bShl 1 q)))), (3, .int (iI (hh + (T 14 (M 16 q) 0 0)))), (0, .ref pp), (1, .int (iI wz))]) hx hb dX4_figuresBehind_76 hl (k := 2) rfl (iI_add _ _) (by decide) rfl (fun ls hl => ?_)
          refine lv_goto (tgt := 7) hx hb dX4_figuresBehind_79 (by decide) ?_
          exact ih_1 ((bOr sx (bShl 1 q)), (hh + (T 14 (M 16 q) 0 0)), (q + 1)) ⟨(show 0 ≤ (q + 1) ∧ (q + 1) ≤ M 17 0 ∧ 0 ≤ (bOr sx (bShl 1 q)) ∧ (bOr sx (bShl 1 q)) < 32 ∧ 0 ≤ (hh + (T 14 (M 16 q) 0 0)) ∧ (hh + (T 14 (M 16 q) 0 0)) ≤ 40 * (q + 1) from (by omega)), (show fbF T M wz (Int.toNat (M 17 0 - (q + 1))) (q + 1) (bOr sx (bShl 1 q)) (hh + (T 14 (M 16 q) 0 0)) = fbF T M wz (Int.toNat (M 17 0)) 0 0 0 from (by rw [← hq, fbF_s (q := q) (by omega), if_neg (by omega), if_neg (by omega)]))⟩ (by first | omega | (dsimp only; omega)) _ _ _ (lv_sub hl [0, 2, 1, 3, 4] rfl) (bd_to rfl B)
        · have zc_20 : (T 17 0 0 0) < (hh + (T 14 (M 16 q) 0 0)) := jnle (a := (hh + (T 14 (M 16 q) 0 0))) (b := (T 17 0 0 0)) (by omega) (by omega) c_20
          refine lv_iload_n hx hb dX4_figuresBehind_67 rfl (lv_at hl 2 rfl) ?_
          have e_23 : (fbZ T M wz) = sx := (by unfold fbZ; rw [← hq]; first | (rw [show Int.toNat (M 17 0 - q) = 0 by omega]; rfl) | (rw [fbF_s (by omega), if_neg (by omega), if_pos (by omega)]))
          skip
          exact k_iret B hr (⟨(by have e9 : (fbZ T M wz) = sx := (by unfold fbZ; rw [← hq]; first | (rw [show Int.toNat (M 17 0 - q) = 0 by omega]; rfl) | (rw [fbF_s (by omega), if_neg (by omega), if_pos (by omega)])); omega), (by rw [e_23]), rfl, rfl, rfl⟩) ⟨Nat.le_of_ble_eq_true rfl, Nat.le_of_ble_eq_true rfl⟩ ⟨Nat.le_of_ble_eq_true rfl, Nat.le_of_ble_eq_true rfl⟩ dX4_figuresBehind_68
    · have zc_8 : (bAnd (bShr wz q) 1) = 0 := jeq (a := (bAnd (bShr wz q) 1)) (b := 0) (by omega) (by omega) c_8
      refine lv_goto (tgt := 76) hx hb dX4_figuresBehind_28 (by decide) ?_
      refine lv_iinc (v := iI (q + 1)) (lv' := [(4, .int (iI (q + 1))), (3, .int (iI hh)), (2, .int (iI sx)), (0, .ref pp), (1, .int (iI wz))]) hx hb dX4_figuresBehind_76 hl (k := 0) rfl (iI_add _ _) (by decide) rfl (fun ls hl => ?_)
      refine lv_goto (tgt := 7) hx hb dX4_figuresBehind_79 (by decide) ?_
      exact ih_1 (sx, hh, (q + 1)) ⟨(show 0 ≤ (q + 1) ∧ (q + 1) ≤ M 17 0 ∧ 0 ≤ sx ∧ sx < 32 ∧ 0 ≤ hh ∧ hh ≤ 40 * (q + 1) from (by omega)), (show fbF T M wz (Int.toNat (M 17 0 - (q + 1))) (q + 1) sx hh = fbF T M wz (Int.toNat (M 17 0)) 0 0 0 from (by rw [← hq, fbF_s (q := q) (by omega), if_pos (by omega)]))⟩ (by first | omega | (dsimp only; omega)) _ _ _ (lv_sub hl [0, 1, 2, 3, 4] rfl) (bd_to rfl B)

theorem mw_10 : (Jvm.Cond.initialized "Galleyforge$Pages") ∈ gt := gt_at 80 (by decide +kernel) (by decide +kernel)
theorem mw_1613 : (Jvm.Cond.methodLink "Galleyforge$Pages" (166 : Nat) ({ cls := "Galleyforge$Pages", name := "figuresBehind", desc := "(I)I" } : Jvm.MethodName)) ∈ gt := gt_at 1683 (by decide +kernel) (by decide +kernel)
theorem mw_1615 : (Jvm.Cond.instanceMethod ({ cls := "Galleyforge$Pages", name := "figuresBehind", desc := "(I)I" } : Jvm.MethodName)) ∈ gt := gt_at 1685 (by decide +kernel) (by decide +kernel)
theorem mw_1616 : (Jvm.Cond.code ({ cls := "Galleyforge$Pages", name := "figuresBehind", desc := "(I)I" } : Jvm.MethodName) prog_6_method_9_code (5 : Nat) (Option.some Jvm.ClassFile.FieldType.int)) ∈ gt := gt_at 1686 (by decide +kernel) (by decide +kernel)
theorem mw_1617 : (Jvm.Cond.methodLink "Galleyforge$Pages" (169 : Nat) ({ cls := "java/lang/Math", name := "max", desc := "(II)I" } : Jvm.MethodName)) ∈ gt := gt_at 1687 (by decide +kernel) (by decide +kernel)
theorem ms_52 : Cond.selects "Galleyforge$Pages" (⟨"Galleyforge$Pages", "figuresBehind", "(I)I"⟩ : MethodName) (⟨"Galleyforge$Pages", "figuresBehind", "(I)I"⟩ : MethodName) ∈ gt := gt_at 52 (by decide +kernel) (by decide +kernel)
theorem mV_X4_figuresBehind : mV yX4_figuresBehind cX4_figuresBehind 5 (some .int) 1 := ⟨⟨mw_1616, mw_10, by decide, by decide, by decide +kernel⟩, mw_1615, ms_52⟩
theorem dX4_pagesBehind_0 : decode cX4_pagesBehind 0 = .ok (.iload_n 1, 1) := by decide +kernel
theorem dX4_pagesBehind_1 : decode cX4_pagesBehind 1 = .ok (.istore_n 3, 1) := by decide +kernel
theorem dX4_pagesBehind_2 : decode cX4_pagesBehind 2 = .ok (.iconst 0, 1) := by decide +kernel
theorem dX4_pagesBehind_3 : decode cX4_pagesBehind 3 = .ok (.istore 4, 2) := by decide +kernel
theorem dX4_pagesBehind_5 : decode cX4_pagesBehind 5 = .ok (.iconst 0, 1) := by decide +kernel
theorem dX4_pagesBehind_6 : decode cX4_pagesBehind 6 = .ok (.istore 5, 2) := by decide +kernel
theorem dX4_pagesBehind_8 : decode cX4_pagesBehind 8 = .ok (.iload 5, 2) := by decide +kernel
theorem dX4_pagesBehind_10 : decode cX4_pagesBehind 10 = .ok (.iconst 5, 1) := by decide +kernel
theorem dX4_pagesBehind_11 : decode cX4_pagesBehind 11 = .ok (.if_icmp .ge 26, 3) := by decide +kernel
theorem dX4_pagesBehind_14 : decode cX4_pagesBehind 14 = .ok (.iload_n 3, 1) := by decide +kernel
theorem dX4_pagesBehind_15 : decode cX4_pagesBehind 15 = .ok (.ifCond .eq 22, 3) := by decide +kernel
theorem dX4_pagesBehind_18 : decode cX4_pagesBehind 18 = .ok (.iload_n 3, 1) := by decide +kernel
theorem dX4_pagesBehind_19 : decode cX4_pagesBehind 19 = .ok (.aload_n 0, 1) := by decide +kernel
theorem dX4_pagesBehind_20 : decode cX4_pagesBehind 20 = .ok (.iload_n 3, 1) := by decide +kernel
theorem dX4_pagesBehind_21 : decode cX4_pagesBehind 21 = .ok (.invokevirtual 166, 3) := by decide +kernel
theorem dX4_pagesBehind_24 : decode cX4_pagesBehind 24 = .ok (.iconst (-1), 1) := by decide +kernel
theorem dX4_pagesBehind_25 : decode cX4_pagesBehind 25 = .ok (.ixor, 1) := by decide +kernel
theorem dX4_pagesBehind_26 : decode cX4_pagesBehind 26 = .ok (.iand, 1) := by decide +kernel
theorem dX4_pagesBehind_27 : decode cX4_pagesBehind 27 = .ok (.istore_n 3, 1) := by decide +kernel
theorem dX4_pagesBehind_28 : decode cX4_pagesBehind 28 = .ok (.iinc 4 1, 3) := by decide +kernel
theorem dX4_pagesBehind_31 : decode cX4_pagesBehind 31 = .ok (.iinc 5 1, 3) := by decide +kernel
theorem dX4_pagesBehind_34 : decode cX4_pagesBehind 34 = .ok (.goto (-26), 3) := by decide +kernel
theorem dX4_pagesBehind_37 : decode cX4_pagesBehind 37 = .ok (.iload 4, 2) := by decide +kernel
theorem dX4_pagesBehind_39 : decode cX4_pagesBehind 39 = .ok (.iload_n 2, 1) := by decide +kernel
theorem dX4_pagesBehind_40 : decode cX4_pagesBehind 40 = .ok (.aload_n 0, 1) := by decide +kernel
theorem dX4_pagesBehind_41 : decode cX4_pagesBehind 41 = .ok (.getfield 30, 3) := by decide +kernel
theorem dX4_pagesBehind_44 : decode cX4_pagesBehind 44 = .ok (.getfield 163, 3) := by decide +kernel
theorem dX4_pagesBehind_47 : decode cX4_pagesBehind 47 = .ok (.iadd, 1) := by decide +kernel
theorem dX4_pagesBehind_48 : decode cX4_pagesBehind 48 = .ok (.iconst 2, 1) := by decide +kernel
theorem dX4_pagesBehind_49 : decode cX4_pagesBehind 49 = .ok (.isub, 1) := by decide +kernel
theorem dX4_pagesBehind_50 : decode cX4_pagesBehind 50 = .ok (.iconst 1, 1) := by decide +kernel
theorem dX4_pagesBehind_51 : decode cX4_pagesBehind 51 = .ok (.aload_n 0, 1) := by decide +kernel
theorem dX4_pagesBehind_52 : decode cX4_pagesBehind 52 = .ok (.getfield 30, 3) := by decide +kernel
theorem dX4_pagesBehind_55 : decode cX4_pagesBehind 55 = .ok (.getfield 163, 3) := by decide +kernel
theorem dX4_pagesBehind_58 : decode cX4_pagesBehind 58 = .ok (.iconst 1, 1) := by decide +kernel
theorem dX4_pagesBehind_59 : decode cX4_pagesBehind 59 = .ok (.isub, 1) := by decide +kernel
theorem dX4_pagesBehind_60 : decode cX4_pagesBehind 60 = .ok (.invokestatic 169, 3) := by decide +kernel
theorem dX4_pagesBehind_63 : decode cX4_pagesBehind 63 = .ok (.idiv, 1) := by decide +kernel
theorem dX4_pagesBehind_64 : decode cX4_pagesBehind 64 = .ok (.iadd, 1) := by decide +kernel
theorem dX4_pagesBehind_65 : decode cX4_pagesBehind 65 = .ok (.ireturn, 1) := by decide +kernel
set_option maxHeartbeats 4000000 in
set_option maxRecDepth 100000 in
theorem k_pagesBehind (l : Launch) (dC : Nat → ClassId) (dI : Nat → Nat → Nat) (k : Nat → ClassId) (pp : Nat) (pg : Nat) (so : Nat) (p1 : Nat) (p2 : Nat) (p3 : Nat) (p4 : Nat) (p5 : Nat) (p6 : Nat) (nP : Int) (cP : Int) (T : Nat → Int → Int → Int → Int) (A : Nat → Int → Int → Nat) (X : Nat → Int → Int → Int) (tl : va_W) (M : Nat → Int → Int) (V : Nat → Int → Int) (Aw : Nat → Nat) (wz : Int) (lz : Int) (hT : TI dI k T A X tl) (hK : TK T) (hR : RI k (T 0 0 0 0) M V Aw tl) (hM : MK M) (hMT : ∀ j, 0 ≤ j → j < M 0 0 → M 2 j < T 0 0 0 0) (h1 : 0 ≤ wz ∧ wz < 32 ∧ 0 ≤ lz ∧ lz ≤ 768000) : Kn l dC dI k yX4_pagesBehind (.code yX4_pagesBehind cX4_pagesBehind 6 (some .int)) ({ frames := 1, cells := 0, slots := 0, locals := 24 } : Room) [.ref pp, .int (iI wz), .int (iI lz)] ([(pp, .inr (4, [.ref (A 50 0 0), .ref (Aw 20), .ref pg, .ref so, .int (iI nP), .int (iI cP), .ref p1, .ref p2, .ref p3, .ref p4, .ref p5, .ref p6]))] ++ tl) (fun r w gc gs => ((0 ≤ (pbZ T M wz lz) ∧ (pbZ T M wz lz) ≤ 799000) ∧ r = some (.int (iI (pbZ T M wz lz))) ∧ w = ([(pp, .inr (4, [.ref (A 50 0 0), .ref (Aw 20), .ref pg, .ref so, .int (iI nP), .int (iI cP), .ref p1, .ref p2, .ref p3, .ref p4, .ref p5, .ref p6]))] ++ tl) ∧ gc = 0 ∧ gs = 0)) := by
  refine kn_of (by decide) (Nat.le_of_ble_eq_true rfl) ?_
  intro p e s m args below meth c H locs B hr hnm ls hl
  have hx := B.1.1
  have hb := B.1.2.1
  have hl : lv_has ls 6 [(0, .ref pp), (1, .int (iI wz)), (2, .int (iI lz))] := hl
  have hn0 := MK_cnt hM
  have hf0 := MK_17 hM
  refine lv_iload_n hx hb dX4_pagesBehind_0 rfl (lv_at hl 1 rfl) ?_
  refine lv_istore_n (lv' := [(3, .int (iI wz)), (0, .ref pp), (1, .int (iI wz)), (2, .int (iI lz))]) hx hb dX4_pagesBehind_1 rfl hl (by decide) rfl (fun ls hl => ?_)
  refine lv_iconst (v := iI 0) hx hb dX4_pagesBehind_2 (by decide) ?_
  refine lv_istore (lv' := [(4, .int (iI 0)), (3, .int (iI wz)), (0, .ref pp), (1, .int (iI wz)), (2, .int (iI lz))]) hx hb dX4_pagesBehind_3 hl (by decide) rfl (fun ls hl => ?_)
  refine lv_iconst (v := iI 0) hx hb dX4_pagesBehind_5 (by decide) ?_
  refine lv_istore (lv' := [(5, .int (iI 0)), (4, .int (iI 0)), (3, .int (iI wz)), (0, .ref pp), (1, .int (iI wz)), (2, .int (iI lz))]) hx hb dX4_pagesBehind_6 hl (by decide) rfl (fun ls hl => ?_)
  refine k_loop (σ := Int × Int × Int) B (fun g9 : Int × Int × Int => (0 ≤ g9.2.2 ∧ g9.2.2 ≤ 5 ∧ 0 ≤ g9.1 ∧ g9.1 < 32 ∧ 0 ≤ g9.2.1 ∧ g9.2.1 ≤ g9.2.2) ∧ (pbF T M (Int.toNat (5 - g9.2.2)) g9.1 g9.2.1 = pbF T M 5 wz 0)) (fun g9 : Int × Int × Int => (5 - g9.2.2).toNat) (fun g9 : Int × Int × Int => [(5, .int (iI g9.2.2)), (4, .int (iI g9.2.1)), (3, .int (iI g9.1)), (0, .ref pp), (1, .int (iI wz)), (2, .int (iI lz))]) (fun g9 : Int × Int × Int => ([(pp, .inr (4, [.ref (A 50 0 0), .ref (Aw 20), .ref pg, .ref so, .int (iI nP), .int (iI cP), .ref p1, .ref p2, .ref p3, .ref p4, .ref p5, .ref p6]))] ++ tl)) ?_ (wz, 0, 0) ⟨(show 0 ≤ 0 ∧ 0 ≤ 5 ∧ 0 ≤ wz ∧ wz < 32 ∧ 0 ≤ 0 ∧ 0 ≤ 0 from (by omega)), (show pbF T M (Int.toNat (5 - 0)) wz 0 = pbF T M 5 wz 0 from rfl)⟩ ls H locs (lv_sub hl [0, 1, 2, 3, 4, 5] rfl) (bd_to rfl B)
  clear hl B
  rintro ⟨wx, nx, q⟩ ⟨hk, hq⟩ ih_1 ls H locs hl B
  have hk : 0 ≤ q ∧ q ≤ 5 ∧ 0 ≤ wx ∧ wx < 32 ∧ 0 ≤ nx ∧ nx ≤ q := hk
  have hq : pbF T M (Int.toNat (5 - q)) wx nx = pbF T M 5 wz 0 := hq
  have hl : lv_has ls 6 [(5, .int (iI q)), (4, .int (iI nx)), (3, .int (iI wx)), (0, .ref pp), (1, .int (iI wz)), (2, .int (iI lz))] := hl
  have B := bd_to (ws' := ([(pp, .inr (4, [.ref (A 50 0 0), .ref (Aw 20), .ref pg, .ref so, .int (iI nP), .int (iI cP), .ref p1, .ref p2, .ref p3, .ref p4, .ref p5, .ref p6]))] ++ tl)) rfl B
  refine lv_iload hx hb dX4_pagesBehind_8 (lv_at hl 0 rfl) ?_
  refine lv_iconst (v := iI 5) hx hb dX4_pagesBehind_10 (by decide) ?_
  refine lv_icmp_ge (tgt := 37) hx hb dX4_pagesBehind_11 (by decide) (fun c_2 => ?_) (fun c_2 => ?_)
  · have zc_2 : 5 ≤ q := jle (a := 5) (b := q) (by omega) (by omega) c_2
    refine lv_iload hx hb dX4_pagesBehind_37 (lv_at hl 1 rfl) ?_
    refine lv_iload_n hx hb dX4_pagesBehind_39 rfl (lv_at hl 5 rfl) ?_
    refine lv_aload_n hx hb dX4_pagesBehind_40 rfl (lv_at hl 3 rfl) ?_
    refine x_get (ci := 4) (C := RX4) (T := TX4) (N := 12) (v := .ref (A 50 0 0)) B 0 rfl rfl in_X4 0 (by decide) mw_365 (fun _ h9 => h9) rfl dX4_pagesBehind_41 ?_
    obtain ⟨k_3, hk_3⟩ := pk_at (hs := [(pp, .inr (4, [.ref (A 50 0 0), .ref (Aw 20), .ref pg, .ref so, .int (iI nP), .int (iI cP), .ref p1, .ref p2, .ref p3, .ref p4, .ref p5, .ref p6]))]) hT.1.1
    refine x_get (ci := 9) (C := RX9) (T := TX9) (N := 8) (v := .int (iI (T 17 0 0 0))) B k_3 hk_3 rfl in_X9 7 (by decide) mw_100 (fun _ h9 => h9) rfl dX4_pagesBehind_44 ?_
    have z_4 : 6 ≤ T 17 0 0 0 ∧ T 17 0 0 0 ≤ 40 := TK_hei hK
    refine y_add hx hb dX4_pagesBehind_47 ?_
    refine lv_iconst (v := iI 2) hx hb dX4_pagesBehind_48 (by decide) ?_
    refine y_sub hx hb dX4_pagesBehind_49 ?_
    refine lv_iconst (v := iI 1) hx hb dX4_pagesBehind_50 (by decide) ?_
    refine lv_aload_n hx hb dX4_pagesBehind_51 rfl (lv_at hl 3 rfl) ?_
    refine x_get (ci := 4) (C := RX4) (T := TX4) (N := 12) (v := .ref (A 50 0 0)) B 0 rfl rfl in_X4 0 (by decide) mw_365 (fun _ h9 => h9) rfl dX4_pagesBehind_52 ?_
    obtain ⟨k_5, hk_5⟩ := pk_at (hs := [(pp, .inr (4, [.ref (A 50 0 0), .ref (Aw 20), .ref pg, .ref so, .int (iI nP), .int (iI cP), .ref p1, .ref p2, .ref p3, .ref p4, .ref p5, .ref p6]))]) hT.1.1
    refine x_get (ci := 9) (C := RX9) (T := TX9) (N := 8) (v := .int (iI (T 17 0 0 0))) B k_5 hk_5 rfl in_X9 7 (by decide) mw_100 (fun _ h9 => h9) rfl dX4_pagesBehind_55 ?_
    have z_6 : 6 ≤ T 17 0 0 0 ∧ T 17 0 0 0 ≤ 40 := TK_hei hK
    refine lv_iconst (v := iI 1) hx hb dX4_pagesBehind_58 (by decide) ?_
    refine y_sub hx hb dX4_pagesBehind_59 ?_
    refine y_max (a := 1) (b := ((T 17 0 0 0) - 1)) B hl mw_1617 mw_700 mw_26 mw_701 (Nat.le_of_ble_eq_true rfl) (Nat.le_of_ble_eq_true rfl) (Nat.le_of_ble_eq_true rfl) (Nat.le_of_ble_eq_true rfl) (by omega) (by omega) dX4_pagesBehind_60 ?_
    refine y_div hx hb (a := ((lz + (T 17 0 0 0)) - 2)) (b := (max 1 ((T 17 0 0 0) - 1))) (by omega) (by omega) dX4_pagesBehind_63 ?_
    have z_7 : 0 ≤ (((lz + (T 17 0 0 0)) - 2) / (max 1 ((T 17 0 0 0) - 1))) ∧ (((lz + (T 17 0 0 0)) - 2) / (max 1 ((T 17 0 0 0) - 1))) ≤ ((lz + (T 17 0 0 0)) - 2) := div_in (by omega) (by omega)
    refine y_add hx hb dX4_pagesBehind_64 ?_
    have e_8 : (pbZ T M wz lz) = (nx + (((lz + (T 17 0 0 0)) - 2) / (max 1 ((T 17 0 0 0) - 1)))) := (by have e9 : pbF T M 5 wz 0 = nx := (by rw [← hq]; first | (rw [show Int.toNat (5 - q) = 0 by omega]; rfl) | (rw [pbF_s (by omega), if_pos (by omega)])); unfold pbZ; rw [e9])
    skip
    exact k_iret B hr (⟨(by have q9 := pbF_in (T := T) (M := M) 5 wz 0; unfold pbZ; omega), (by rw [e_8]), rfl, rfl, rfl⟩) ⟨Nat.le_of_ble_eq_true rfl, Nat.le_of_ble_eq_true rfl⟩ ⟨Nat.le_of_ble_eq_true rfl, Nat.le_of_ble_eq_true rfl⟩ dX4_pagesBehind_65
  · have zc_2 : q < 5 := jnle (a := 5) (b := q) (by omega) (by omega) c_2
    refine lv_iload_n hx hb dX4_pagesBehind_14 rfl (lv_at hl 2 rfl) ?_
    refine lv_if_eq (tgt := 37) hx hb dX4_pagesBehind_15 (by decide) (fun c_9 => ?_) (fun c_9 => ?_)
    · have zc_9 : wx = 0 := jeq (a := wx) (b := 0) (by omega) (by omega) c_9
      refine lv_iload hx hb dX4_pagesBehind_37 (lv_at hl 1 rfl) ?_
      refine lv_iload_n hx hb dX4_pagesBehind_39 rfl (lv_at hl 5 rfl) ?_
      refine lv_aload_n hx hb dX4_pagesBehind_40 rfl (lv_at hl 3 rfl) ?_
      refine x_get (ci := 4) (C := RX4) (T := TX4) (N := 12) (v := .ref (A 50 0 0)) B 0 rfl rfl in_X4 0 (by decide) mw_365 (fun _ h9 => h9) rfl dX4_pagesBehind_41 ?_
      obtain ⟨k_10, hk_10⟩ := pk_at (hs := [(pp, .inr (4, [.ref (A 50 0 0), .ref (Aw 20), .ref pg, .ref so, .int (iI nP), .int (iI cP), .ref p1, .ref p2, .ref p3, .ref p4, .ref p5, .ref p6]))]) hT.1.1
      refine x_get (ci := 9) (C := RX9) (T := TX9) (N := 8) (v := .int (iI (T 17 0 0 0))) B k_10 hk_10 rfl in_X9 7 (by decide) mw_100 (fun _ h9 => h9) rfl dX4_pagesBehind_44 ?_
      have z_11 : 6 ≤ T 17 0 0 0 ∧ T 17 0 0 0 ≤ 40 := TK_hei hK
      refine y_add hx hb dX4_pagesBehind_47 ?_
      refine lv_iconst (v := iI 2) hx hb dX4_pagesBehind_48 (by decide) ?_
      refine y_sub hx hb dX4_pagesBehind_49 ?_
      refine lv_iconst (v := iI 1) hx hb dX4_pagesBehind_50 (by decide) ?_
      refine lv_aload_n hx hb dX4_pagesBehind_51 rfl (lv_at hl 3 rfl) ?_
      refine x_get (ci := 4) (C := RX4) (T := TX4) (N := 12) (v := .ref (A 50 0 0)) B 0 rfl rfl in_X4 0 (by decide) mw_365 (fun _ h9 => h9) rfl dX4_pagesBehind_52 ?_
      obtain ⟨k_12, hk_12⟩ := pk_at (hs := [(pp, .inr (4, [.ref (A 50 0 0), .ref (Aw 20), .ref pg, .ref so, .int (iI nP), .int (iI cP), .ref p1, .ref p2, .ref p3, .ref p4, .ref p5, .ref p6]))]) hT.1.1
      refine x_get (ci := 9) (C := RX9) (T := TX9) (N := 8) (v := .int (iI (T 17 0 0 0))) B k_12 hk_12 rfl in_X9 7 (by decide) mw_100 (fun _ h9 => h9) rfl dX4_pagesBehind_55 ?_
      have z_13 : 6 ≤ T 17 0 0 0 ∧ T 17 0 0 0 ≤ 40 := TK_hei hK
      refine lv_iconst (v := iI 1) hx hb dX4_pagesBehind_58 (by decide) ?_
      refine y_sub hx hb dX4_pagesBehind_59 ?_
      refine y_max (a := 1) (b := ((T 17 0 0 0) - 1)) B hl mw_1617 mw_700 mw_26 mw_701 (Nat.le_of_ble_eq_true rfl) (Nat.le_of_ble_eq_true rfl) (Nat.le_of_ble_eq_true rfl) (Nat.le_of_ble_eq_true rfl) (by omega) (by omega) dX4_pagesBehind_60 ?_
      refine y_div hx hb (a := ((lz + (T 17 0 0 0)) - 2)) (b := (max 1 ((T 17 0 0 0) - 1))) (by omega) (by omega) dX4_pagesBehind_63 ?_
      have z_14 : 0 ≤ (((lz + (T 17 0 0 0)) - 2) / (max 1 ((T 17 0 0 0) - 1))) ∧ (((lz + (T 17 0 0 0)) - 2) / (max 1 ((T 17 0 0 0) - 1))) ≤ ((lz + (T 17 0 0 0)) - 2) := div_in (by omega) (by omega)
      refine y_add hx hb dX4_pagesBehind_64 ?_
      have e_15 : (pbZ T M wz lz) = (nx + (((lz + (T 17 0 0 0)) - 2) / (max 1 ((T 17 0 0 0) - 1)))) := (by have e9 : pbF T M 5 wz 0 = nx := (by rw [← hq]; first | (rw [show Int.toNat (5 - q) = 0 by omega]; rfl) | (rw [pbF_s (by omega), if_pos (by omega)])); unfold pbZ; rw [e9])
      skip
      exact k_iret B hr (⟨(by have q9 := pbF_in (T := T) (M := M) 5 wz 0; unfold pbZ; omega), (by rw [e_15]), rfl, rfl, rfl⟩) ⟨Nat.le_of_ble_eq_true rfl, Nat.le_of_ble_eq_true rfl⟩ ⟨Nat.le_of_ble_eq_true rfl, Nat.le_of_ble_eq_true rfl⟩ dX4_pagesBehind_65
    · have zc_9 : wx ≠ 0 := jne (a := wx) (b := 0) (by omega) (by omega) c_9
      refine lv_iload_n hx hb dX4_pagesBehind_18 rfl (lv_at hl 2 rfl) ?_
      refine lv_aload_n hx hb dX4_pagesBehind_19 rfl (lv_at hl 3 rfl) ?_
      refine lv_iload_n hx hb dX4_pagesBehind_20 rfl (lv_at hl 2 rfl) ?_
      have B := bd_swap (a := [(pp, .inr (4, [.ref (A 50 0 0), .ref (Aw 20), .ref pg, .ref so, .int (iI nP), .int (iI cP), .ref p1, .ref p2, .ref p3, .ref p4, .ref p5, .ref p6]))]) (b := []) (d := tl) (bd_to rfl B)
      refine k_V (rest := [.int (iI wx)]) (wc := ([(pp, .inr (4, [.ref (A 50 0 0), .ref (Aw 20), .ref pg, .ref so, .int (iI nP), .int (iI cP), .ref p1, .ref p2, .ref p3, .ref p4, .ref p5, .ref p6]))] ++ tl)) (wr := []) (k_figuresBehind l dC dI k pp pg so p1 p2 p3 p4 p5 p6 nP cP T A X tl M V Aw wx hT hK hR hM hMT (by omega)) B mV_X4_figuresBehind mw_1613 hl (q0 := 0) rfl rfl rfl ⟨Nat.le_of_ble_eq_true rfl, Nat.le_of_ble_eq_true rfl⟩ (Nat.le_of_ble_eq_true rfl) rfl dX4_pagesBehind_21 ⟨Nat.le_of_ble_eq_true rfl, Nat.le_of_ble_eq_true rfl⟩ (fun r w gc gs H locs hp B => ?_)
      obtain ⟨z_16, rfl, hw9, rfl, rfl⟩ := hp
      rw [hw9] at B; clear hw9
      have B := bd_to (ws' := ([(pp, .inr (4, [.ref (A 50 0 0), .ref (Aw 20), .ref pg, .ref so, .int (iI nP), .int (iI cP), .ref p1, .ref p2, .ref p3, .ref p4, .ref p5, .ref p6]))] ++ tl)) rfl B
      refine lv_iconst (v := iI (-1)) hx hb dX4_pagesBehind_24 (by decide) ?_
      refine y_not hx hb dX4_pagesBehind_25 ?_
      refine y_dif hx hb (a := wx) (b := (fbZ T M wx)) (by omega) (by omega) dX4_pagesBehind_26 ?_
      have z_17 : 0 ≤ (bDif wx (fbZ T M wx)) ∧ (bDif wx (fbZ T M wx)) ≤ wx := bDif_le (by omega)
      refine lv_istore_n (lv' := [(3, .int (iI (bDif wx (fbZ T M wx)))), (5, .int (iI q)), (4, .int (iI nx)), (0, .ref pp), (1, .int (iI wz)), (2, .int (iI lz))]) hx hb dX4_pagesBehind_27 rfl hl (by decide) rfl (fun ls hl => ?_)
      refine lv_iinc (v := iI (nx + 1)) (lv' := [(4, .int (iI (nx + 1))), (3, .int (iI (bDif wx (fbZ T M wx)))), (5, .int (iI q)), (0, .ref pp), (1, .int (iI wz)), (2, .int (iI lz))]) hx hb dX4_pagesBehind_28 hl (k := 2) rfl (iI_add _ _) (by decide) rfl (fun ls hl => ?_)
      refine lv_iinc (v := iI (q + 1)) (lv' := [(5, .int (iI (q + 1))), (4, .int (iI (nx + 1))), (3, .int (iI (bDif wx (fbZ T M wx)))), (0, .ref pp), (1, .int (iI wz)), (2, .int (iI lz))]) hx hb dX4_pagesBehind_31 hl (k := 2) rfl (iI_add _ _) (by decide) rfl (fun ls hl => ?_)
      refine lv_goto (tgt := 8) hx hb dX4_pagesBehind_34 (by decide) ?_
      exact ih_1 ((bDif wx (fbZ T M wx)), (nx + 1), (q + 1)) ⟨(show 0 ≤ (q + 1) ∧ (q + 1) ≤ 5 ∧ 0 ≤ (bDif wx (fbZ T M wx)) ∧ (bDif wx (fbZ T M wx)) < 32 ∧ 0 ≤ (nx + 1) ∧ (nx + 1) ≤ (q + 1) from (by omega)), (show pbF T M (Int.toNat (5 - (q + 1))) (bDif wx (fbZ T M wx)) (nx + 1) = pbF T M 5 wz 0 from (by rw [← hq, pbF_s (q := q) (by omega), if_neg (by omega)]))⟩ (by first | omega | (dsimp only; omega)) _ _ _ (lv_sub hl [0, 1, 2, 3, 4, 5] rfl) (bd_to rfl B)

/-- a page that begins with a row, figures that wait, lines left; with n rows: its height, notes, last note; whether a row more can be put; whether it may end; what comes of it then -/
def lqZ (M : Nat → Int → Int) (ro : Int) : Nat → Int
  | 0 => 0
  | n + 1 => if 0 < M 5 (ro + (n : Int)) then M 5 (ro + (n : Int)) else lqZ M ro n
def pgH (T : Nat → Int → Int → Int → Int) (M : Nat → Int → Int) (ro wt n : Int) : Int := (tpZ T M wt).2.2 + smZ (M 1) ro (Int.toNat n)
def pgS (M : Nat → Int → Int) (ro n : Int) : Int := smZ (M 4) ro (Int.toNat n)
def pgQ (M : Nat → Int → Int) (ro n : Int) : Int := lqZ M ro (Int.toNat n)
abbrev pgG (M : Nat → Int → Int) (ro n : Int) : Prop := ¬ (M 0 0 ≤ ro + n ∨ (0 < n ∧ M 6 ((ro + n) - 1) = 1))
abbrev pgE (T : Nat → Int → Int → Int → Int) (M : Nat → Int → Int) (ro wt lf n : Int) : Prop := n = 1 ∨ (0 < pgS M ro n ∧ lf + pgS M ro n - pgQ M ro n + 2 ≤ T 17 0 0 0 - pgH T M ro wt n) ∨ (pgS M ro n ≤ 0 ∧ 0 < lf ∧ 2 ≤ T 17 0 0 0 - pgH T M ro wt n) ∨ (pgS M ro n ≤ 0 ∧ lf ≤ 0 ∧ 0 ≤ T 17 0 0 0 - pgH T M ro wt n)
abbrev pgN (T : Nat → Int → Int → Int → Int) (M : Nat → Int → Int) (ro wt lf n : Int) : Int := clN T (pgH T M ro wt n) lf (pgS M ro n)
abbrev pgY (T : Nat → Int → Int → Int → Int) (M : Nat → Int → Int) (ro wt lf n : Int) : Int := (lf + pgS M ro n) - clN T (pgH T M ro wt n) lf (pgS M ro n)
abbrev pgK (T : Nat → Int → Int → Int → Int) (M : Nat → Int → Int) (ro wt lf n : Int) : Int × Int × Int × Int := btZ T M ro n (bDif wt (tpZ T M wt).2.1) (clU T (pgH T M ro wt n) lf (pgS M ro n))
abbrev pgX (T : Nat → Int → Int → Int → Int) (M : Nat → Int → Int) (ro wt lf n : Int) : Int := (pgK T M ro wt lf n).2.2.1
abbrev pgC (T : Nat → Int → Int → Int → Int) (M : Nat → Int → Int) (ro wt lf n : Int) : Int := csZ T M ((ro + n) - 1) (pgK T M ro wt lf n).2.2.2 (pgY T M ro wt lf n)
section PG2
variable {T : Nat → Int → Int → Int → Int} {M : Nat → Int → Int} {ro wt lf n : Int}
theorem pgH_0 : (tpZ T M wt).2.2 = pgH T M ro wt 0 := by
  show _ = (tpZ T M wt).2.2 + 0
  omega
theorem pgS_0 : (0 : Int) = pgS M ro 0 := rfl
theorem pgQ_0 : (0 : Int) = pgQ M ro 0 := rfl
theorem pgH_t (h : 0 ≤ n) : pgH T M ro wt n + M 1 (ro + n) = pgH T M ro wt (n + 1) := by
  have := smZ_s (f := M 1) (c := ro) (q := n) h
  unfold pgH
  omega
theorem pgS_t (h : 0 ≤ n) : pgS M ro n + M 4 (ro + n) = pgS M ro (n + 1) := by
  have := smZ_s (f := M 4) (c := ro) (q := n) h
  unfold pgS
  omega
theorem pgQ_t (h : 0 ≤ n) : (if 0 < M 5 (ro + n) then M 5 (ro + n) else pgQ M ro n) = pgQ M ro (n + 1) := by
  unfold pgQ
  rw [show Int.toNat (n + 1) = Int.toNat n + 1 by omega]
  simp only [lqZ]
  rw [show ((Int.toNat n : Nat) : Int) = n by omega]
theorem smZ_bd {f : Int → Int} {c hi : Int} (h : ∀ i, 0 ≤ f i ∧ f i ≤ hi) : ∀ n : Nat, 0 ≤ smZ f c n ∧ smZ f c n ≤ hi * n
  | 0 => by simp only [smZ]; omega
  | n + 1 => by
    have := smZ_bd (c := c) h n
    have := h (c + (n : Int))
    have e : hi * ((n + 1 : Nat) : Int) = hi * n + hi := by rw [Int.natCast_add, Int.mul_add]; simp
    simp only [smZ]
    omega
theorem tpS_in (hK : TK T) : ∀ k : Nat, (0 ≤ (tpS T M wt k).2.1) ∧ (0 ≤ (tpS T M wt k).2.2 ∧ (tpS T M wt k).2.2 ≤ 40 * k)
  | 0 => by simp only [tpS]; omega
  | k + 1 => by
    have ih := tpS_in hK k
    have h := TK_fh hK (M 16 (k : Int))
    simp only [tpS]
    split
    · omega
    · split
      · refine ⟨?_, by simp only; omega⟩
        simp only [bOr]; omega
      · simp only; omega
theorem pgH_in (hK : TK T) (hM : MK M) (h : 0 ≤ n ∧ n ≤ 768) : 0 ≤ pgH T M ro wt n ∧ pgH T M ro wt n ≤ 200 + 200 * n := by
  have h1 := tpS_in (M := M) (wt := wt) hK (Int.toNat (M 17 0))
  have h2 := MK_17 hM
  have h3 := smZ_bd (c := ro) (MK_1 hM) (Int.toNat n)
  unfold pgH
  show 0 ≤ (tpS T M wt (Int.toNat (M 17 0))).2.2 + _ ∧ (tpS T M wt (Int.toNat (M 17 0))).2.2 + _ ≤ _
  omega
theorem pgS_in (hM : MK M) (h : 0 ≤ n ∧ n ≤ 768) : 0 ≤ pgS M ro n ∧ pgS M ro n ≤ 1000 * n := by
  have h3 := smZ_bd (c := ro) (MK_4 hM) (Int.toNat n)
  unfold pgS
  omega
theorem pgQ_in (hM : MK M) : 0 ≤ pgQ M ro n ∧ pgQ M ro n ≤ 5 := by
  unfold pgQ
  induction Int.toNat n with
  | zero => simp only [lqZ]; omega
  | succ k ih =>
    have := MK_5 hM (ro + (k : Int))
    simp only [lqZ]
    split <;> omega
end PG2

end
