section
/-- what comes of a round's digits: given those of the pages, those it was made with, the rounds so far -/
def cdZ (D : Int → Int) (gv dg nR : Int) : Int × Int × Int × Int := if gv = dg then (1, 0, 0, dg) else if rwZ D gv nR = -1 then (0, 1, 0, gv) else (0, 1, 1, mdF D (rwZ D gv nR) (Int.toNat (min nR 730 - rwZ D gv nR)))

theorem mw_1667 : (Jvm.Cond.methodLink "Galleyforge$Layout" (107 : Nat) ({ cls := "Galleyforge$Layout", name := "roundWith", desc := "(I)I" } : Jvm.MethodName)) ∈ gt := gt_at 1737 (by decide +kernel) (by decide +kernel)
theorem mw_1669 : (Jvm.Cond.instanceMethod ({ cls := "Galleyforge$Layout", name := "roundWith", desc := "(I)I" } : Jvm.MethodName)) ∈ gt := gt_at 1739 (by decide +kernel) (by decide +kernel)
theorem mw_1670 : (Jvm.Cond.code ({ cls := "Galleyforge$Layout", name := "roundWith", desc := "(I)I" } : Jvm.MethodName) prog_3_method_8_code (3 : Nat) (Option.some Jvm.ClassFile.FieldType.int)) ∈ gt := gt_at 1740 (by decide +kernel) (by decide +kernel)
theorem mw_1671 : (Jvm.Cond.methodLink "Galleyforge$Layout" (111 : Nat) ({ cls := "Galleyforge$Layout", name := "mostDigitsFrom", desc := "(I)I" } : Jvm.MethodName)) ∈ gt := gt_at 1741 (by decide +kernel) (by decide +kernel)
theorem mw_1673 : (Jvm.Cond.instanceMethod ({ cls := "Galleyforge$Layout", name := "mostDigitsFrom", desc := "(I)I" } : Jvm.MethodName)) ∈ gt := gt_at 1743 (by decide +kernel) (by decide +kernel)
theorem mw_1674 : (Jvm.Cond.code ({ cls := "Galleyforge$Layout", name := "mostDigitsFrom", desc := "(I)I" } : Jvm.MethodName) prog_3_method_9_code (6 : Nat) (Option.some Jvm.ClassFile.FieldType.int)) ∈ gt := gt_at 1744 (by decide +kernel) (by decide +kernel)
theorem ms_64 : Cond.selects "Galleyforge$Layout" (⟨"Galleyforge$Layout", "mostDigitsFrom", "(I)I"⟩ : MethodName) (⟨"Galleyforge$Layout", "mostDigitsFrom", "(I)I"⟩ : MethodName) ∈ gt := gt_at 64 (by decide +kernel) (by decide +kernel)
theorem mV_X1_mostDigitsFrom : mV yX1_mostDigitsFrom cX1_mostDigitsFrom 6 (some .int) 1 := ⟨⟨mw_1674, mw_8, by decide, by decide, by decide +kernel⟩, mw_1673, ms_64⟩
theorem ms_63 : Cond.selects "Galleyforge$Layout" (⟨"Galleyforge$Layout", "roundWith", "(I)I"⟩ : MethodName) (⟨"Galleyforge$Layout", "roundWith", "(I)I"⟩ : MethodName) ∈ gt := gt_at 63 (by decide +kernel) (by decide +kernel)
theorem mV_X1_roundWith : mV yX1_roundWith cX1_roundWith 3 (some .int) 1 := ⟨⟨mw_1670, mw_8, by decide, by decide, by decide +kernel⟩, mw_1669, ms_63⟩
theorem dX1_compareDigits_0 : decode cX1_compareDigits 0 = .ok (.aload_n 0, 1) := by decide +kernel
theorem dX1_compareDigits_1 : decode cX1_compareDigits 1 = .ok (.iload_n 1, 1) := by decide +kernel
theorem dX1_compareDigits_2 : decode cX1_compareDigits 2 = .ok (.aload_n 0, 1) := by decide +kernel
theorem dX1_compareDigits_3 : decode cX1_compareDigits 3 = .ok (.getfield 36, 3) := by decide +kernel
theorem dX1_compareDigits_6 : decode cX1_compareDigits 6 = .ok (.if_icmp .ne 7, 3) := by decide +kernel
theorem dX1_compareDigits_9 : decode cX1_compareDigits 9 = .ok (.iconst 1, 1) := by decide +kernel
theorem dX1_compareDigits_10 : decode cX1_compareDigits 10 = .ok (.goto 4, 3) := by decide +kernel
theorem dX1_compareDigits_13 : decode cX1_compareDigits 13 = .ok (.iconst 0, 1) := by decide +kernel
theorem dX1_compareDigits_14 : decode cX1_compareDigits 14 = .ok (.putfield 73, 3) := by decide +kernel
theorem dX1_compareDigits_17 : decode cX1_compareDigits 17 = .ok (.aload_n 0, 1) := by decide +kernel
theorem dX1_compareDigits_18 : decode cX1_compareDigits 18 = .ok (.aload_n 0, 1) := by decide +kernel
theorem dX1_compareDigits_19 : decode cX1_compareDigits 19 = .ok (.getfield 73, 3) := by decide +kernel
theorem dX1_compareDigits_22 : decode cX1_compareDigits 22 = .ok (.ifCond .ne 7, 3) := by decide +kernel
theorem dX1_compareDigits_25 : decode cX1_compareDigits 25 = .ok (.iconst 1, 1) := by decide +kernel
theorem dX1_compareDigits_26 : decode cX1_compareDigits 26 = .ok (.goto 4, 3) := by decide +kernel
theorem dX1_compareDigits_29 : decode cX1_compareDigits 29 = .ok (.iconst 0, 1) := by decide +kernel
theorem dX1_compareDigits_30 : decode cX1_compareDigits 30 = .ok (.putfield 9, 3) := by decide +kernel
theorem dX1_compareDigits_33 : decode cX1_compareDigits 33 = .ok (.aload_n 0, 1) := by decide +kernel
theorem dX1_compareDigits_34 : decode cX1_compareDigits 34 = .ok (.getfield 9, 3) := by decide +kernel
theorem dX1_compareDigits_37 : decode cX1_compareDigits 37 = .ok (.ifCond .eq 43, 3) := by decide +kernel
theorem dX1_compareDigits_40 : decode cX1_compareDigits 40 = .ok (.aload_n 0, 1) := by decide +kernel
theorem dX1_compareDigits_41 : decode cX1_compareDigits 41 = .ok (.iload_n 1, 1) := by decide +kernel
theorem dX1_compareDigits_42 : decode cX1_compareDigits 42 = .ok (.invokevirtual 107, 3) := by decide +kernel
theorem dX1_compareDigits_45 : decode cX1_compareDigits 45 = .ok (.istore_n 2, 1) := by decide +kernel
theorem dX1_compareDigits_46 : decode cX1_compareDigits 46 = .ok (.aload_n 0, 1) := by decide +kernel
theorem dX1_compareDigits_47 : decode cX1_compareDigits 47 = .ok (.iload_n 2, 1) := by decide +kernel
theorem dX1_compareDigits_48 : decode cX1_compareDigits 48 = .ok (.iconst (-1), 1) := by decide +kernel
theorem dX1_compareDigits_49 : decode cX1_compareDigits 49 = .ok (.if_icmp .eq 7, 3) := by decide +kernel
theorem dX1_compareDigits_52 : decode cX1_compareDigits 52 = .ok (.iconst 1, 1) := by decide +kernel
theorem dX1_compareDigits_53 : decode cX1_compareDigits 53 = .ok (.goto 4, 3) := by decide +kernel
theorem dX1_compareDigits_56 : decode cX1_compareDigits 56 = .ok (.iconst 0, 1) := by decide +kernel
theorem dX1_compareDigits_57 : decode cX1_compareDigits 57 = .ok (.putfield 70, 3) := by decide +kernel
theorem dX1_compareDigits_60 : decode cX1_compareDigits 60 = .ok (.aload_n 0, 1) := by decide +kernel
theorem dX1_compareDigits_61 : decode cX1_compareDigits 61 = .ok (.aload_n 0, 1) := by decide +kernel
theorem dX1_compareDigits_62 : decode cX1_compareDigits 62 = .ok (.getfield 70, 3) := by decide +kernel
theorem dX1_compareDigits_65 : decode cX1_compareDigits 65 = .ok (.ifCond .eq 11, 3) := by decide +kernel
theorem dX1_compareDigits_68 : decode cX1_compareDigits 68 = .ok (.aload_n 0, 1) := by decide +kernel
theorem dX1_compareDigits_69 : decode cX1_compareDigits 69 = .ok (.iload_n 2, 1) := by decide +kernel
theorem dX1_compareDigits_70 : decode cX1_compareDigits 70 = .ok (.invokevirtual 111, 3) := by decide +kernel
theorem dX1_compareDigits_73 : decode cX1_compareDigits 73 = .ok (.goto 4, 3) := by decide +kernel
theorem dX1_compareDigits_76 : decode cX1_compareDigits 76 = .ok (.iload_n 1, 1) := by decide +kernel
theorem dX1_compareDigits_77 : decode cX1_compareDigits 77 = .ok (.putfield 36, 3) := by decide +kernel
theorem dX1_compareDigits_80 : decode cX1_compareDigits 80 = .ok (.return_, 1) := by decide +kernel
set_option maxHeartbeats 4000000 in
set_option maxRecDepth 100000 in
theorem k_compareDigits (l : Launch) (dC : Nat → ClassId) (dI : Nat → Nat → Nat) (k : Nat → ClassId) (ly : Nat) (ln : Nat) (rw : Nat) (pp : Nat) (l1 : Nat) (l2 : Nat) (l3 : Nat) (l4 : Nat) (l5 : Nat) (l6 : Nat) (l7 : Nat) (v : Int) (gO : Int) (iL : Int) (nR : Int) (sT : Int) (dg : Int) (m1 : Int → Int) (m2 : Int → Int) (m3 : Int → Int) (m4 : Int → Int) (m5 : Int → Int) (m6 : Int → Int) (m7 : Int → Int) (A : Nat → Int → Int → Nat) (D7 : Int → Int) (gv : Int) (hD : ∀ j, 0 ≤ j → j < nR → j < 730 → m7 j = D7 j ∧ 0 ≤ D7 j ∧ D7 j < 4096) (hnr : 0 ≤ nR ∧ nR ≤ 100000) (h1 : 0 ≤ gv ∧ gv < 4096 ∧ 0 ≤ dg ∧ dg < 4096) (h2 : nR ≤ 730) : Kn l dC dI k yX1_compareDigits (.code yX1_compareDigits cX1_compareDigits 3 none) ({ frames := 1, cells := 0, slots := 0, locals := 25 } : Room) [.ref ly, .int (iI gv)] [(ly, .inr (1, [.ref (A 50 0 0), .int (iI v), .ref ln, .ref rw, .ref pp, .int (iI gO), .int (iI 0), .ref l1, .ref l2, .ref l3, .ref l4, .ref l5, .ref l6, .int (iI nR), .int (iI sT), .int (iI dg), .ref l7])), (l7, .inl (k 0, 730, .inl (fun i9 : Nat => iI (m7 i9))))] (fun r w gc gs => ((0 ≤ (cdZ D7 gv dg nR).2.2.2 ∧ (cdZ D7 gv dg nR).2.2.2 < 4096) ∧ r = none ∧ w = [(ly, .inr (1, [.ref (A 50 0 0), .int (iI v), .ref ln, .ref rw, .ref pp, .int (iI ((cdZ D7 gv dg nR).2.1)), .int (iI ((cdZ D7 gv dg nR).2.2.1)), .ref l1, .ref l2, .ref l3, .ref l4, .ref l5, .ref l6, .int (iI nR), .int (iI ((cdZ D7 gv dg nR).1)), .int (iI ((cdZ D7 gv dg nR).2.2.2)), .ref l7])), (l7, .inl (k 0, 730, .inl (fun i9 : Nat => iI (m7 i9))))] ∧ gc = 0 ∧ gs = 0)) := by
  refine kn_of (by decide) (Nat.le_of_ble_eq_true rfl) ?_
  intro p e s m args below meth c H locs B hr hnm ls hl
  have hx := B.1.1
  have hb := B.1.2.1
  have hl : lv_has ls 3 [(0, .ref ly), (1, .int (iI gv))] := hl
  refine lv_aload_n hx hb dX1_compareDigits_0 rfl (lv_at hl 0 rfl) ?_
  refine lv_iload_n hx hb dX1_compareDigits_1 rfl (lv_at hl 1 rfl) ?_
  refine lv_aload_n hx hb dX1_compareDigits_2 rfl (lv_at hl 0 rfl) ?_
  refine x_get (ci := 1) (C := RX1) (T := TX1) (N := 17) (v := .int (iI dg)) B 0 rfl rfl in_X1 15 (by decide) mw_434 (fun _ h9 => h9) rfl dX1_compareDigits_3 ?_
  refine lv_icmp_ne (tgt := 13) hx hb dX1_compareDigits_6 (by decide) (fun c_1 => ?_) (fun c_1 => ?_)
  · have zc_1 : gv ≠ dg := jne (a := gv) (b := dg) (by omega) (by omega) c_1
    refine lv_iconst (v := iI 0) hx hb dX1_compareDigits_13 (by decide) ?_
    refine x_put (ci := 1) (C := RX1) (T := TX1) (N := 17) (ty := .boolean) (v := .int (iI 0)) B tyX1_ok nmX1 0 rfl rfl in_X1 14 (by decide) mw_432 (fun _ h9 => h9) rfl (by decide +kernel) (nar_b (by omega)) (fit_b (by omega)) (Nat.le_of_ble_eq_true rfl) dX1_compareDigits_14 (fun H locs B => ?_)
    have B := bd_to (ws' := [(ly, .inr (1, [.ref (A 50 0 0), .int (iI v), .ref ln, .ref rw, .ref pp, .int (iI gO), .int (iI 0), .ref l1, .ref l2, .ref l3, .ref l4, .ref l5, .ref l6, .int (iI nR), .int (iI 0), .int (iI dg), .ref l7])), (l7, .inl (k 0, 730, .inl (fun i9 : Nat => iI (m7 i9))))]) rfl B
    refine lv_aload_n hx hb dX1_compareDigits_17 rfl (lv_at hl 0 rfl) ?_
    refine lv_aload_n hx hb dX1_compareDigits_18 rfl (lv_at hl 0 rfl) ?_
    refine x_get (ci := 1) (C := RX1) (T := TX1) (N := 17) (v := .int (iI 0)) B 0 rfl rfl in_X1 14 (by decide) mw_432 (fun _ h9 => h9) rfl dX1_compareDigits_19 ?_
    refine lv_if_ne (tgt := 29) hx hb dX1_compareDigits_22 (by decide) (fun c9 => absurd c9 (by decide)) (fun _ => ?_)
    refine lv_iconst (v := iI 1) hx hb dX1_compareDigits_25 (by decide) ?_
    refine lv_goto (tgt := 30) hx hb dX1_compareDigits_26 (by decide) ?_
    refine x_put (ci := 1) (C := RX1) (T := TX1) (N := 17) (ty := .boolean) (v := .int (iI 1)) B tyX1_ok nmX1 0 rfl rfl in_X1 5 (by decide) mw_417 (fun _ h9 => h9) rfl (by decide +kernel) (nar_b (by omega)) (fit_b (by omega)) (Nat.le_of_ble_eq_true rfl) dX1_compareDigits_30 (fun H locs B => ?_)
    have B := bd_to (ws' := [(ly, .inr (1, [.ref (A 50 0 0), .int (iI v), .ref ln, .ref rw, .ref pp, .int (iI 1), .int (iI 0), .ref l1, .ref l2, .ref l3, .ref l4, .ref l5, .ref l6, .int (iI nR), .int (iI 0), .int (iI dg), .ref l7])), (l7, .inl (k 0, 730, .inl (fun i9 : Nat => iI (m7 i9))))]) rfl B
    refine lv_aload_n hx hb dX1_compareDigits_33 rfl (lv_at hl 0 rfl) ?_
    refine x_get (ci := 1) (C := RX1) (T := TX1) (N := 17) (v := .int (iI 1)) B 0 rfl rfl in_X1 5 (by decide) mw_417 (fun _ h9 => h9) rfl dX1_compareDigits_34 ?_
    refine lv_if_eq (tgt := 80) hx hb dX1_compareDigits_37 (by decide) (fun c9 => absurd c9 (by decide)) (fun _ => ?_)
    refine lv_aload_n hx hb dX1_compareDigits_40 rfl (lv_at hl 0 rfl) ?_
    refine lv_iload_n hx hb dX1_compareDigits_41 rfl (lv_at hl 1 rfl) ?_
    have B := bd_to (ws' := [(ly, .inr (1, [.ref (A 50 0 0), .int (iI v), .ref ln, .ref rw, .ref pp, .int (iI 1), .int (iI 0), .ref l1, .ref l2, .ref l3, .ref l4, .ref l5, .ref l6, .int (iI nR), .int (iI 0), .int (iI dg), .ref l7])), (l7, .inl (k 0, 730, .inl (fun i9 : Nat => iI (m7 i9))))] ++ []) rfl B
    refine k_V (rest := []) (wc := [(ly, .inr (1, [.ref (A 50 0 0), .int (iI v), .ref ln, .ref rw, .ref pp, .int (iI 1), .int (iI 0), .ref l1, .ref l2, .ref l3, .ref l4, .ref l5, .ref l6, .int (iI nR), .int (iI 0), .int (iI dg), .ref l7])), (l7, .inl (k 0, 730, .inl (fun i9 : Nat => iI (m7 i9))))]) (wr := []) (k_roundWith l dC dI k ly ln rw pp l1 l2 l3 l4 l5 l6 l7 v 1 0 nR 0 dg m1 m2 m3 m4 m5 m6 m7 A D7 gv hD hnr (by omega)) B mV_X1_roundWith mw_1667 hl (q0 := 0) rfl rfl rfl ⟨Nat.le_of_ble_eq_true rfl, Nat.le_of_ble_eq_true rfl⟩ (Nat.le_of_ble_eq_true rfl) rfl dX1_compareDigits_42 ⟨Nat.le_of_ble_eq_true rfl, Nat.le_of_ble_eq_true rfl⟩ (fun r w gc gs H locs hp B => ?_)
    obtain ⟨z_2, rfl, hw9, rfl, rfl⟩ := hp
    rw [hw9] at B; clear hw9
    have B := bd_to (ws' := [(ly, .inr (1, [.ref (A 50 0 0), .int (iI v), .ref ln, .ref rw, .ref pp, .int (iI 1), .int (iI 0), .ref l1, .ref l2, .ref l3, .ref l4, .ref l5, .ref l6, .int (iI nR), .int (iI 0), .int (iI dg), .ref l7])), (l7, .inl (k 0, 730, .inl (fun i9 : Nat => iI (m7 i9))))]) rfl B
    refine lv_istore_n (lv' := [(2, .int (iI (rwZ D7 gv nR))), (0, .ref ly), (1, .int (iI gv))]) hx hb dX1_compareDigits_45 rfl hl (by decide) rfl (fun ls hl => ?_)
    refine lv_aload_n hx hb dX1_compareDigits_46 rfl (lv_at hl 1 rfl) ?_
    refine lv_iload_n hx hb dX1_compareDigits_47 rfl (lv_at hl 0 rfl) ?_
    refine lv_iconst (v := iI (-1)) hx hb dX1_compareDigits_48 (by decide) ?_
    refine lv_icmp_eq (tgt := 56) hx hb dX1_compareDigits_49 (by decide) (fun c_3 => ?_) (fun c_3 => ?_)
    · have zc_3 : (rwZ D7 gv nR) = (-1) := jeq (a := (rwZ D7 gv nR)) (b := (-1)) (by omega) (by omega) c_3
      refine lv_iconst (v := iI 0) hx hb dX1_compareDigits_56 (by decide) ?_
      refine x_put (ci := 1) (C := RX1) (T := TX1) (N := 17) (ty := .boolean) (v := .int (iI 0)) B tyX1_ok nmX1 0 rfl rfl in_X1 6 (by decide) mw_419 (fun _ h9 => h9) rfl (by decide +kernel) (nar_b (by omega)) (fit_b (by omega)) (Nat.le_of_ble_eq_true rfl) dX1_compareDigits_57 (fun H locs B => ?_)
      have B := bd_to (ws' := [(ly, .inr (1, [.ref (A 50 0 0), .int (iI v), .ref ln, .ref rw, .ref pp, .int (iI 1), .int (iI 0), .ref l1, .ref l2, .ref l3, .ref l4, .ref l5, .ref l6, .int (iI nR), .int (iI 0), .int (iI dg), .ref l7])), (l7, .inl (k 0, 730, .inl (fun i9 : Nat => iI (m7 i9))))]) rfl B
      refine lv_aload_n hx hb dX1_compareDigits_60 rfl (lv_at hl 1 rfl) ?_
      refine lv_aload_n hx hb dX1_compareDigits_61 rfl (lv_at hl 1 rfl) ?_
      refine x_get (ci := 1) (C := RX1) (T := TX1) (N := 17) (v := .int (iI 0)) B 0 rfl rfl in_X1 6 (by decide) mw_419 (fun _ h9 => h9) rfl dX1_compareDigits_62 ?_
      refine lv_if_eq (tgt := 76) hx hb dX1_compareDigits_65 (by decide) (fun _ => ?_) (fun c9 => absurd (by decide) c9)
      refine lv_iload_n hx hb dX1_compareDigits_76 rfl (lv_at hl 2 rfl) ?_
      refine x_put (ci := 1) (C := RX1) (T := TX1) (N := 17) (ty := .int) (v := .int (iI gv)) B tyX1_ok nmX1 0 rfl rfl in_X1 15 (by decide) mw_434 (fun _ h9 => h9) rfl (by decide +kernel) rfl rfl (Nat.le_of_ble_eq_true rfl) dX1_compareDigits_77 (fun H locs B => ?_)
      have B := bd_to (ws' := [(ly, .inr (1, [.ref (A 50 0 0), .int (iI v), .ref ln, .ref rw, .ref pp, .int (iI 1), .int (iI 0), .ref l1, .ref l2, .ref l3, .ref l4, .ref l5, .ref l6, .int (iI nR), .int (iI 0), .int (iI gv), .ref l7])), (l7, .inl (k 0, 730, .inl (fun i9 : Nat => iI (m7 i9))))]) rfl B
      have e_4 : ((cdZ D7 gv dg nR).2.1) = 1 := (by unfold cdZ; first | (rw [if_pos (by omega)]; done) | (rw [if_neg (by omega), if_pos (by omega)]; done) | (rw [if_neg (by omega), if_neg (by omega)]; done))
      have e_5 : ((cdZ D7 gv dg nR).2.2.1) = 0 := (by unfold cdZ; first | (rw [if_pos (by omega)]; done) | (rw [if_neg (by omega), if_pos (by omega)]; done) | (rw [if_neg (by omega), if_neg (by omega)]; done))
      have e_6 : ((cdZ D7 gv dg nR).1) = 0 := (by unfold cdZ; first | (rw [if_pos (by omega)]; done) | (rw [if_neg (by omega), if_pos (by omega)]; done) | (rw [if_neg (by omega), if_neg (by omega)]; done))
      have e_7 : ((cdZ D7 gv dg nR).2.2.2) = gv := (by unfold cdZ; first | (rw [if_pos (by omega)]; done) | (rw [if_neg (by omega), if_pos (by omega)]; done) | (rw [if_neg (by omega), if_neg (by omega)]; done))
      have B := bd_to (ws' := [(ly, .inr (1, [.ref (A 50 0 0), .int (iI v), .ref ln, .ref rw, .ref pp, .int (iI ((cdZ D7 gv dg nR).2.1)), .int (iI ((cdZ D7 gv dg nR).2.2.1)), .ref l1, .ref l2, .ref l3, .ref l4, .ref l5, .ref l6, .int (iI nR), .int (iI ((cdZ D7 gv dg nR).1)), .int (iI ((cdZ D7 gv dg nR).2.2.2)), .ref l7])), (l7, .inl (k 0, 730, .inl (fun i9 : Nat => iI (m7 i9))))]) (by first | rfl | (rw [e_4, e_5, e_6, e_7]) | (rw [e_7, e_6, e_5, e_4])) B
      exact k_vret B hr (⟨(by unfold cdZ; first | (rw [if_pos (by omega)]; dsimp only; omega) | (rw [if_neg (by omega), if_pos (by omega)]; dsimp only; omega) | (rw [if_neg (by omega), if_neg (by omega)]; dsimp only; omega)), rfl, rfl, rfl, rfl⟩) ⟨Nat.le_of_ble_eq_true rfl, Nat.le_of_ble_eq_true rfl⟩ ⟨Nat.le_of_ble_eq_true rfl, Nat.le_of_ble_eq_true rfl⟩ dX1_compareDigits_80
    · have zc_3 : (rwZ D7 gv nR) ≠ (-1) := jne (a := (rwZ D7 gv nR)) (b := (-1)) (by omega) (by omega) c_3
      refine lv_iconst (v := iI 1) hx hb dX1_compareDigits_52 (by decide) ?_
      refine lv_goto (tgt := 57) hx hb dX1_compareDigits_53 (by decide) ?_
      refine x_put (ci := 1) (C := RX1) (T := TX1) (N := 17) (ty := .boolean) (v := .int (iI 1)) B tyX1_ok nmX1 0 rfl rfl in_X1 6 (by decide) mw_419 (fun _ h9 => h9) rfl (by decide +kernel) (nar_b (by omega)) (fit_b (by omega)) (Nat.le_of_ble_eq_true rfl) dX1_compareDigits_57 (fun H locs B => ?_)
      have B := bd_to (ws' := [(ly, .inr (1, [.ref (A 50 0 0), .int (iI v), .ref ln, .ref rw, .ref pp, .int (iI 1), .int (iI 1), .ref l1, .ref l2, .ref l3, .ref l4, .ref l5, .ref l6, .int (iI nR), .int (iI 0), .int (iI dg), .ref l7])), (l7, .inl (k 0, 730, .inl (fun i9 : Nat => iI (m7 i9))))]) rfl B
      refine lv_aload_n hx hb dX1_compareDigits_60 rfl (lv_at hl 1 rfl) ?_
      refine lv_aload_n hx hb dX1_compareDigits_61 rfl (lv_at hl 1 rfl) ?_
      refine x_get (ci := 1) (C := RX1) (T := TX1) (N := 17) (v := .int (iI 1)) B 0 rfl rfl in_X1 6 (by decide) mw_419 (fun _ h9 => h9) rfl dX1_compareDigits_62 ?_
      refine lv_if_eq (tgt := 76) hx hb dX1_compareDigits_65 (by decide) (fun c9 => absurd c9 (by decide)) (fun _ => ?_)
      refine lv_aload_n hx hb dX1_compareDigits_68 rfl (lv_at hl 1 rfl) ?_
      refine lv_iload_n hx hb dX1_compareDigits_69 rfl (lv_at hl 0 rfl) ?_
      have B := bd_to (ws' := [(ly, .inr (1, [.ref (A 50 0 0), .int (iI v), .ref ln, .ref rw, .ref pp, .int (iI 1), .int (iI 1), .ref l1, .ref l2, .ref l3, .ref l4, .ref l5, .ref l6, .int (iI nR), .int (iI 0), .int (iI dg), .ref l7])), (l7, .inl (k 0, 730, .inl (fun i9 : Nat => iI (m7 i9))))] ++ []) rfl B
      refine k_V (rest := [.ref ly]) (wc := [(ly, .inr (1, [.ref (A 50 0 0), .int (iI v), .ref ln, .ref rw, .ref pp, .int (iI 1), .int (iI 1), .ref l1, .ref l2, .ref l3, .ref l4, .ref l5, .ref l6, .int (iI nR), .int (iI 0), .int (iI dg), .ref l7])), (l7, .inl (k 0, 730, .inl (fun i9 : Nat => iI (m7 i9))))]) (wr := []) (k_mostDigits l dC dI k ly ln rw pp l1 l2 l3 l4 l5 l6 l7 v 1 1 nR 0 dg m1 m2 m3 m4 m5 m6 m7 A D7 (rwZ D7 gv nR) hD hnr (by omega)) B mV_X1_mostDigitsFrom mw_1671 hl (q0 := 0) rfl rfl rfl ⟨Nat.le_of_ble_eq_true rfl, Nat.le_of_ble_eq_true rfl⟩ (Nat.le_of_ble_eq_true rfl) rfl dX1_compareDigits_70 ⟨Nat.le_of_ble_eq_true rfl, Nat.le_of_ble_eq_true rfl⟩ (fun r w gc gs H locs hp B => ?_)
      obtain ⟨z_8, rfl, hw9, rfl, rfl⟩ := hp
      rw [hw9] at B; clear hw9
      have B := bd_to (ws' := [(ly, .inr (1, [.ref (A 50 0 0), .int (iI v), .ref ln, .ref rw, .ref pp, .int (iI 1), .int (iI 1), .ref l1, .ref l2, .ref l3, .ref l4, .ref l5, .ref l6, .int (iI nR), .int (iI 0), .int (iI dg), .ref l7])), (l7, .inl (k 0, 730, .inl (fun i9 : Nat => iI (m7 i9))))]) rfl B
      refine lv_goto (tgt := 77) hx hb dX1_compareDigits_73 (by decide) ?_
      refine x_put (ci := 1) (C := RX1) (T := TX1) (N := 17) (ty := .int) (v := .int (iI (mdF D7 (rwZ D7 gv nR) (Int.toNat (min nR 730 - (rwZ D7 gv nR)))))) B tyX1_ok nmX1 0 rfl rfl in_X1 15 (by decide) mw_434 (fun _ h9 => h9) rfl (by decide +kernel) rfl rfl (Nat.le_of_ble_eq_true rfl) dX1_compareDigits_77 (fun H locs B => ?_)
      have B := bd_to (ws' := [(ly, .inr (1, [.ref (A 50 0 0), .int (iI v), .ref ln, .ref rw, .ref pp, .int (iI 1), .int (iI 1), .ref l1, .ref l2, .ref l3, .ref l4, .ref l5, .ref l6, .int (iI nR), .int (iI 0), .int (iI (mdF D7 (rwZ D7 gv nR) (Int.toNat (min nR 730 - (rwZ D7 gv nR))))), .ref l7])), (l7, .inl (k 0, 730, .inl (fun i9 : Nat => iI (m7 i9))))]) rfl B
      have e_9 : ((cdZ D7 gv dg nR).2.1) = 1 := (by unfold cdZ; first | (rw [if_pos (by omega)]; done) | (rw [if_neg (by omega), if_pos (by omega)]; done) | (rw [if_neg (by omega), if_neg (by omega)]; done))
      have e_10 : ((cdZ D7 gv dg nR).2.2.1) = 1 := (by unfold cdZ; first | (rw [if_pos (by omega)]; done) | (rw [if_neg (by omega), if_pos (by omega)]; done) | (rw [if_neg (by omega), if_neg (by omega)]; done))
      have e_11 : ((cdZ D7 gv dg nR).1) = 0 := (by unfold cdZ; first | (rw [if_pos (by omega)]; done) | (rw [if_neg (by omega), if_pos (by omega)]; done) | (rw [if_neg (by omega), if_neg (by omega)]; done))
      have e_12 : ((cdZ D7 gv dg nR).2.2.2) = (mdF D7 (rwZ D7 gv nR) (Int.toNat (min nR 730 - (rwZ D7 gv nR)))) := (by unfold cdZ; first | (rw [if_pos (by omega)]; done) | (rw [if_neg (by omega), if_pos (by omega)]; done) | (rw [if_neg (by omega), if_neg (by omega)]; done))
      have B := bd_to (ws' := [(ly, .inr (1, [.ref (A 50 0 0), .int (iI v), .ref ln, .ref rw, .ref pp, .int (iI ((cdZ D7 gv dg nR).2.1)), .int (iI ((cdZ D7 gv dg nR).2.2.1)), .ref l1, .ref l2, .ref l3, .ref l4, .ref l5, .ref l6, .int (iI nR), .int (iI ((cdZ D7 gv dg nR).1)), .int (iI ((cdZ D7 gv dg nR).2.2.2)), .ref l7])), (l7, .inl (k 0, 730, .inl (fun i9 : Nat => iI (m7 i9))))]) (by first | rfl | (rw [e_9, e_10, e_11, e_12]) | (rw [e_12, e_11, e_10, e_9])) B
      exact k_vret B hr (⟨(by unfold cdZ; first | (rw [if_pos (by omega)]; dsimp only; omega) | (rw [if_neg (by omega), if_pos (by omega)]; dsimp only; omega) | (rw [if_neg (by omega), if_neg (by omega)]; dsimp only; omega)), rfl, rfl, rfl, rfl⟩) ⟨Nat.le_of_ble_eq_true rfl, Nat.le_of_ble_eq_true rfl⟩ ⟨Nat.le_of_ble_eq_true rfl, Nat.le_of_ble_eq_true rfl⟩ dX1_compareDigits_80
  · have zc_1 : gv = dg := jeq (a := gv) (b := dg) (by omega) (by omega) c_1
    refine lv_iconst (v := iI 1) hx hb dX1_compareDigits_9 (by decide) ?_
    refine lv_goto (tgt := 14) hx hb dX1_compareDigits_10 (by decide) ?_
    refine x_put (ci := 1) (C := RX1) (T := TX1) (N := 17) (ty := .boolean) (v := .int (iI 1)) B tyX1_ok nmX1 0 rfl rfl in_X1 14 (by decide) mw_432 (fun _ h9 => h9) rfl (by decide +kernel) (nar_b (by omega)) (fit_b (by omega)) (Nat.le_of_ble_eq_true rfl) dX1_compareDigits_14 (fun H locs B => ?_)
    have B := bd_to (ws' := [(ly, .inr (1, [.ref (A 50 0 0), .int (iI v), .ref ln, .ref rw, .ref pp, .int (iI gO), .int (iI 0), .ref l1, .ref l2, .ref l3, .ref l4, .ref l5, .ref l6, .int (iI nR), .int (iI 1), .int (iI dg), .ref l7])), (l7, .inl (k 0, 730, .inl (fun i9 : Nat => iI (m7 i9))))]) rfl B
    refine lv_aload_n hx hb dX1_compareDigits_17 rfl (lv_at hl 0 rfl) ?_
    refine lv_aload_n hx hb dX1_compareDigits_18 rfl (lv_at hl 0 rfl) ?_
    refine x_get (ci := 1) (C := RX1) (T := TX1) (N := 17) (v := .int (iI 1)) B 0 rfl rfl in_X1 14 (by decide) mw_432 (fun _ h9 => h9) rfl dX1_compareDigits_19 ?_
    refine lv_if_ne (tgt := 29) hx hb dX1_compareDigits_22 (by decide) (fun _ => ?_) (fun c9 => absurd c9 (by decide))
    refine lv_iconst (v := iI 0) hx hb dX1_compareDigits_29 (by decide) ?_
    refine x_put (ci := 1) (C := RX1) (T := TX1) (N := 17) (ty := .boolean) (v := .int (iI 0)) B tyX1_ok nmX1 0 rfl rfl in_X1 5 (by decide) mw_417 (fun _ h9 => h9) rfl (by decide +kernel) (nar_b (by omega)) (fit_b (by omega)) (Nat.le_of_ble_eq_true rfl) dX1_compareDigits_30 (fun H locs B => ?_)
    have B := bd_to (ws' := [(ly, .inr (1, [.ref (A 50 0 0), .int (iI v), .ref ln, .ref rw, .ref pp, .int (iI 0), .int (iI 0), .ref l1, .ref l2, .ref l3, .ref l4, .ref l5, .ref l6, .int (iI nR), .int (iI 1), .int (iI dg), .ref l7])), (l7, .inl (k 0, 730, .inl (fun i9 : Nat => iI (m7 i9))))]) rfl B
    refine lv_aload_n hx hb dX1_compareDigits_33 rfl (lv_at hl 0 rfl) ?_
    refine x_get (ci := 1) (C := RX1) (T := TX1) (N := 17) (v := .int (iI 0)) B 0 rfl rfl in_X1 5 (by decide) mw_417 (fun _ h9 => h9) rfl dX1_compareDigits_34 ?_
    refine lv_if_eq (tgt := 80) hx hb dX1_compareDigits_37 (by decide) (fun _ => ?_) (fun c9 => absurd (by decide) c9)
    have e_13 : ((cdZ D7 gv dg nR).2.1) = 0 := (by unfold cdZ; first | (rw [if_pos (by omega)]; done) | (rw [if_neg (by omega), if_pos (by omega)]; done) | (rw [if_neg (by omega), if_neg (by omega)]; done))
    have e_14 : ((cdZ D7 gv dg nR).2.2.1) = 0 := (by unfold cdZ; first | (rw [if_pos (by omega)]; done) | (rw [if_neg (by omega), if_pos (by omega)]; done) | (rw [if_neg (by omega), if_neg (by omega)]; done))
    have e_15 : ((cdZ D7 gv dg nR).1) = 1 := (by unfold cdZ; first | (rw [if_pos (by omega)]; done) | (rw [if_neg (by omega), if_pos (by omega)]; done) | (rw [if_neg (by omega), if_neg (by omega)]; done))
    have e_16 : ((cdZ D7 gv dg nR).2.2.2) = dg := (by unfold cdZ; first | (rw [if_pos (by omega)]; done) | (rw [if_neg (by omega), if_pos (by omega)]; done) | (rw [if_neg (by omega), if_neg (by omega)]; done))
    have B := bd_to (ws' := [(ly, .inr (1, [.ref (A 50 0 0), .int (iI v), .ref ln, .ref rw, .ref pp, .int (iI ((cdZ D7 gv dg nR).2.1)), .int (iI ((cdZ D7 gv dg nR).2.2.1)), .ref l1, .ref l2, .ref l3, .ref l4, .ref l5, .ref l6, .int (iI nR), .int (iI ((cdZ D7 gv dg nR).1)), .int (iI ((cdZ D7 gv dg nR).2.2.2)), .ref l7])), (l7, .inl (k 0, 730, .inl (fun i9 : Nat => iI (m7 i9))))]) (by first | rfl | (rw [e_13, e_14, e_15, e_16]) | (rw [e_16, e_15, e_14, e_13])) B
    exact k_vret B hr (⟨(by unfold cdZ; first | (rw [if_pos (by omega)]; dsimp only; omega) | (rw [if_neg (by omega), if_pos (by omega)]; dsimp only; omega) | (rw [if_neg (by omega), if_neg (by omega)]; dsimp only; omega)), rfl, rfl, rfl, rfl⟩) ⟨Nat.le_of_ble_eq_true rfl, Nat.le_of_ble_eq_true rfl⟩ ⟨Nat.le_of_ble_eq_true rfl, Nat.le_of_ble_eq_true rfl⟩ dX1_compareDigits_80

end
