section
theorem mw_81 : (Jvm.Cond.fieldLink "Galleyforge" (81 : Nat) "Galleyforge$Text" "patterns" "Ljava/util/ArrayList;") ∈ gt := gt_at 151 (by decide +kernel) (by decide +kernel)
theorem mw_642 : (Jvm.Cond.classLink "Galleyforge" (93 : Nat) "Galleyforge$Pattern") ∈ gt := gt_at 712 (by decide +kernel) (by decide +kernel)
theorem mw_643 : (Jvm.Cond.instantiable "Galleyforge$Pattern" (3 : Nat)) ∈ gt := gt_at 713 (by decide +kernel) (by decide +kernel)
theorem mw_660 : (Jvm.Cond.methodLink "Galleyforge" (99 : Nat) ({ cls := "Galleyforge$Pattern", name := "<init>", desc := "([III)V" } : Jvm.MethodName)) ∈ gt := gt_at 730 (by decide +kernel) (by decide +kernel)
theorem mw_661 : (Jvm.Cond.instanceMethod ({ cls := "Galleyforge$Pattern", name := "<init>", desc := "([III)V" } : Jvm.MethodName)) ∈ gt := gt_at 731 (by decide +kernel) (by decide +kernel)
theorem mw_662 : (Jvm.Cond.code ({ cls := "Galleyforge$Pattern", name := "<init>", desc := "([III)V" } : Jvm.MethodName) prog_7_method_1_code (4 : Nat) (Option.none : Option Jvm.ClassFile.FieldType)) ∈ gt := gt_at 732 (by decide +kernel) (by decide +kernel)
theorem mw_676 : (Jvm.Cond.methodLink "Galleyforge" (102 : Nat) ({ cls := "Galleyforge$Text", name := "addPattern", desc := "(LGalleyforge$Pattern;)V" } : Jvm.MethodName)) ∈ gt := gt_at 746 (by decide +kernel) (by decide +kernel)
theorem mw_677 : (Jvm.Cond.instanceMethod ({ cls := "Galleyforge$Text", name := "addPattern", desc := "(LGalleyforge$Pattern;)V" } : Jvm.MethodName)) ∈ gt := gt_at 747 (by decide +kernel) (by decide +kernel)
theorem mw_678 : (Jvm.Cond.selects "Galleyforge$Text" ({ cls := "Galleyforge$Text", name := "addPattern", desc := "(LGalleyforge$Pattern;)V" } : Jvm.MethodName) ({ cls := "Galleyforge$Text", name := "addPattern", desc := "(LGalleyforge$Pattern;)V" } : Jvm.MethodName)) ∈ gt := gt_at 748 (by decide +kernel) (by decide +kernel)
theorem mw_679 : (Jvm.Cond.code ({ cls := "Galleyforge$Text", name := "addPattern", desc := "(LGalleyforge$Pattern;)V" } : Jvm.MethodName) prog_11_method_2_code (6 : Nat) (Option.none : Option Jvm.ClassFile.FieldType)) ∈ gt := gt_at 749 (by decide +kernel) (by decide +kernel)
theorem mI_X5_init : mI yX5_init cX5_init 4 3 := ⟨⟨mw_662, mw_34, by decide, by decide, by decide +kernel⟩, mw_661, rfl⟩
theorem mV_X9_addPattern : mV yX9_addPattern cX9_addPattern 6 none 1 := ⟨⟨mw_679, mw_2, by decide, by decide, by decide +kernel⟩, mw_677, mw_678⟩
theorem dX11_pattern_0 : decode cX11_pattern 0 = .ok (.iload_n 1, 1) := by decide +kernel
theorem dX11_pattern_1 : decode cX11_pattern 1 = .ok (.ifCond .lt 21, 3) := by decide +kernel
theorem dX11_pattern_4 : decode cX11_pattern 4 = .ok (.iload_n 1, 1) := by decide +kernel
theorem dX11_pattern_5 : decode cX11_pattern 5 = .ok (.aload_n 0, 1) := by decide +kernel
theorem dX11_pattern_6 : decode cX11_pattern 6 = .ok (.getfield 54, 3) := by decide +kernel
theorem dX11_pattern_9 : decode cX11_pattern 9 = .ok (.if_icmp .gt 13, 3) := by decide +kernel
theorem dX11_pattern_12 : decode cX11_pattern 12 = .ok (.iload_n 2, 1) := by decide +kernel
theorem dX11_pattern_13 : decode cX11_pattern 13 = .ok (.iconst 1, 1) := by decide +kernel
theorem dX11_pattern_14 : decode cX11_pattern 14 = .ok (.if_icmp .lt 8, 3) := by decide +kernel
theorem dX11_pattern_17 : decode cX11_pattern 17 = .ok (.iload_n 2, 1) := by decide +kernel
theorem dX11_pattern_18 : decode cX11_pattern 18 = .ok (.iconst 5, 1) := by decide +kernel
theorem dX11_pattern_19 : decode cX11_pattern 19 = .ok (.if_icmp .le 13, 3) := by decide +kernel
theorem dX11_pattern_22 : decode cX11_pattern 22 = .ok (.new 72, 3) := by decide +kernel
theorem dX11_pattern_25 : decode cX11_pattern 25 = .ok (.dup, 1) := by decide +kernel
theorem dX11_pattern_26 : decode cX11_pattern 26 = .ok (.ldc 77, 2) := by decide +kernel
theorem dX11_pattern_28 : decode cX11_pattern 28 = .ok (.invokespecial 76, 3) := by decide +kernel
theorem dX11_pattern_31 : decode cX11_pattern 31 = .ok (.athrow, 1) := by decide +kernel
theorem dX11_pattern_32 : decode cX11_pattern 32 = .ok (.aload_n 0, 1) := by decide +kernel
theorem dX11_pattern_33 : decode cX11_pattern 33 = .ok (.getfield 54, 3) := by decide +kernel
theorem dX11_pattern_36 : decode cX11_pattern 36 = .ok (.ifCond .eq 11, 3) := by decide +kernel
theorem dX11_pattern_39 : decode cX11_pattern 39 = .ok (.aload_n 0, 1) := by decide +kernel
theorem dX11_pattern_40 : decode cX11_pattern 40 = .ok (.getfield 54, 3) := by decide +kernel
theorem dX11_pattern_43 : decode cX11_pattern 43 = .ok (.iconst 3, 1) := by decide +kernel
theorem dX11_pattern_44 : decode cX11_pattern 44 = .ok (.if_icmp .le 13, 3) := by decide +kernel
theorem dX11_pattern_47 : decode cX11_pattern 47 = .ok (.new 58, 3) := by decide +kernel
theorem dX11_pattern_50 : decode cX11_pattern 50 = .ok (.dup, 1) := by decide +kernel
theorem dX11_pattern_51 : decode cX11_pattern 51 = .ok (.ldc 79, 2) := by decide +kernel
theorem dX11_pattern_53 : decode cX11_pattern 53 = .ok (.invokespecial 62, 3) := by decide +kernel
theorem dX11_pattern_56 : decode cX11_pattern 56 = .ok (.athrow, 1) := by decide +kernel
theorem dX11_pattern_57 : decode cX11_pattern 57 = .ok (.aload_n 0, 1) := by decide +kernel
theorem dX11_pattern_58 : decode cX11_pattern 58 = .ok (.getfield 12, 3) := by decide +kernel
theorem dX11_pattern_61 : decode cX11_pattern 61 = .ok (.getfield 81, 3) := by decide +kernel
theorem dX11_pattern_64 : decode cX11_pattern 64 = .ok (.invokevirtual 85, 3) := by decide +kernel
theorem dX11_pattern_67 : decode cX11_pattern 67 = .ok (.bipush 8, 2) := by decide +kernel
theorem dX11_pattern_69 : decode cX11_pattern 69 = .ok (.if_icmp .lt 13, 3) := by decide +kernel
theorem dX11_pattern_72 : decode cX11_pattern 72 = .ok (.new 58, 3) := by decide +kernel
theorem dX11_pattern_75 : decode cX11_pattern 75 = .ok (.dup, 1) := by decide +kernel
theorem dX11_pattern_76 : decode cX11_pattern 76 = .ok (.ldc 91, 2) := by decide +kernel
theorem dX11_pattern_78 : decode cX11_pattern 78 = .ok (.invokespecial 62, 3) := by decide +kernel
theorem dX11_pattern_81 : decode cX11_pattern 81 = .ok (.athrow, 1) := by decide +kernel
theorem dX11_pattern_82 : decode cX11_pattern 82 = .ok (.aload_n 0, 1) := by decide +kernel
theorem dX11_pattern_83 : decode cX11_pattern 83 = .ok (.getfield 12, 3) := by decide +kernel
theorem dX11_pattern_86 : decode cX11_pattern 86 = .ok (.new 93, 3) := by decide +kernel
theorem dX11_pattern_89 : decode cX11_pattern 89 = .ok (.dup, 1) := by decide +kernel
theorem dX11_pattern_90 : decode cX11_pattern 90 = .ok (.aload_n 0, 1) := by decide +kernel
theorem dX11_pattern_91 : decode cX11_pattern 91 = .ok (.getfield 31, 3) := by decide +kernel
theorem dX11_pattern_94 : decode cX11_pattern 94 = .ok (.aload_n 0, 1) := by decide +kernel
theorem dX11_pattern_95 : decode cX11_pattern 95 = .ok (.getfield 54, 3) := by decide +kernel
theorem dX11_pattern_98 : decode cX11_pattern 98 = .ok (.invokestatic 95, 3) := by decide +kernel
theorem dX11_pattern_101 : decode cX11_pattern 101 = .ok (.iload_n 1, 1) := by decide +kernel
theorem dX11_pattern_102 : decode cX11_pattern 102 = .ok (.iload_n 2, 1) := by decide +kernel
theorem dX11_pattern_103 : decode cX11_pattern 103 = .ok (.invokespecial 99, 3) := by decide +kernel
theorem dX11_pattern_106 : decode cX11_pattern 106 = .ok (.invokevirtual 102, 3) := by decide +kernel
theorem dX11_pattern_109 : decode cX11_pattern 109 = .ok (.aload_n 0, 1) := by decide +kernel
theorem dX11_pattern_110 : decode cX11_pattern 110 = .ok (.iconst 0, 1) := by decide +kernel
theorem dX11_pattern_111 : decode cX11_pattern 111 = .ok (.putfield 54, 3) := by decide +kernel
theorem dX11_pattern_114 : decode cX11_pattern 114 = .ok (.aload_n 0, 1) := by decide +kernel
theorem dX11_pattern_115 : decode cX11_pattern 115 = .ok (.invokevirtual 106, 3) := by decide +kernel
theorem dX11_pattern_118 : decode cX11_pattern 118 = .ok (.aload_n 0, 1) := by decide +kernel
theorem dX11_pattern_119 : decode cX11_pattern 119 = .ok (.getfield 12, 3) := by decide +kernel
theorem dX11_pattern_122 : decode cX11_pattern 122 = .ok (.getfield 81, 3) := by decide +kernel
theorem dX11_pattern_125 : decode cX11_pattern 125 = .ok (.invokevirtual 85, 3) := by decide +kernel
theorem dX11_pattern_128 : decode cX11_pattern 128 = .ok (.ireturn, 1) := by decide +kernel
set_option maxHeartbeats 4000000 in
set_option maxRecDepth 100000 in
theorem k_pattern (l : Launch) (dC : Nat → ClassId) (dI : Nat → Nat → Nat) (k : Nat → ClassId) (hl0 : l.stackTraces = false) (T : Nat → Int → Int → Int → Int) (A : Nat → Int → Int → Nat) (X : Nat → Int → Int → Int) (tl : va_W) (G : Nat → Int → Nat) (Mc : Nat → Int → Int) (Y : Nat → Int → Nat) (O : Nat → Nat) (L : Int → Nat → Int → Int) (C : Nat → Int → Int) (K : Nat → Int → Int) (cp : Nat) (gp : Int) (lv_ : Int) (hPR : PR dI k T A X G Mc Y O L C K cp tl) (hK : TK T) (hKK : KK T K) (hrgp : -2147483648 ≤ gp ∧ gp < 2147483648) (hrlv_ : -2147483648 ≤ lv_ ∧ lv_ < 2147483648) : Kx l dC dI k yX11_pattern (.code yX11_pattern cX11_pattern 3 (some .int)) ({ frames := 14, cells := 3, slots := 50, locals := 446 } : Room) [.ref (Y 0 0), .int (iI gp), .int (iI lv_)] ([] ++ tl) (fun r w gc gs => (∃ (L2 : Int → Nat → Int → Int) (p9 : Nat) (le_ : Nat) (e2 : Nat) (c2 : Nat) (gq : Nat) (tl2 : va_W), (PR dI k (gpT (apT T (Int.toNat (K 0 0)) (spF K) gp lv_) (T 0 0 0 0) 0) (apA A (T 18 0 0 0) p9 le_ e2) X (upG G 2 0 c2) (upM Mc 2 0 (Mc 2 0 + 1)) Y O L2 C (KKn 0 (K 1) (K 2)) cp tl2) ∧ (∀ u, 0 ≤ u → u ≤ 1 → LF (L2 u)) ∧ (((0 ≤ gp ∧ gp ≤ K 0 0) ∧ 1 ≤ lv_ ∧ lv_ ≤ 5) ∧ ((0 < K 0 0 ∧ K 0 0 ≤ 3) ∧ T 18 0 0 0 < 8)) ∧ (gq ≤ 50) ∧ r = some (.int (iI (T 18 0 0 0 + 1))) ∧ w = ([] ++ tl2) ∧ gc = 3 ∧ gs = (gq + 0))) (fun E w gc gs => ((¬ ((0 ≤ gp ∧ gp ≤ K 0 0) ∧ 1 ≤ lv_ ∧ lv_ ≤ 5)) ∧ E = "java/lang/IllegalArgumentException" ∧ w = ([] ++ tl) ∧ gc = 1 ∧ gs = 6) ∨ ((((0 ≤ gp ∧ gp ≤ K 0 0) ∧ 1 ≤ lv_ ∧ lv_ ≤ 5) ∧ ¬ ((0 < K 0 0 ∧ K 0 0 ≤ 3) ∧ T 18 0 0 0 < 8)) ∧ E = "java/lang/IllegalStateException" ∧ w = ([] ++ tl) ∧ gc = 1 ∧ gs = 6)) := by
  refine kx_of (by decide) (Nat.le_of_ble_eq_true rfl) ?_
  intro p e s m args below meth c H locs B hr hex ls hl
  have hx := B.1.1
  have hb := B.1.2.1
  have hl : lv_has ls 3 [(0, .ref (Y 0 0)), (1, .int (iI gp)), (2, .int (iI lv_))] := hl
  have hT := PR_TI hPR
  have hnb0 := TK_nb hK
  have hcp0 : 512 ≤ cp ∧ cp ≤ 131072 := by have q9 := hPR.2.2.2; unfold cpOk at q9; omega
  have hk0 := KK_0 hKK
  refine lv_iload_n hx hb dX11_pattern_0 rfl (lv_at hl 1 rfl) ?_
  refine lv_if_lt (tgt := 22) hx hb dX11_pattern_1 (by decide) (fun c_1 => ?_) (fun c_1 => ?_)
  · have zc_1 : gp < 0 := jlt (a := gp) (b := 0) (by omega) (by omega) c_1
    exact k_thrG (tx := "gap or level out of range") xE_iae (Or.inl (⟨(by omega), rfl, rfl, rfl, rfl⟩)) ⟨(by first | omega | (dsimp only; omega)), (by first | omega | (dsimp only; omega))⟩ hl0 B hex hl (by decide +kernel) dX11_pattern_22 dX11_pattern_25 dX11_pattern_26 dX11_pattern_28 dX11_pattern_31 ⟨(by first | exact Nat.le_of_ble_eq_true rfl | omega | (dsimp only; omega)), (by first | exact Nat.le_of_ble_eq_true rfl | omega | (dsimp only; omega)), (by first | omega | (dsimp only; omega)), (by first | omega | (dsimp only; omega))⟩ ⟨(by first | omega | (dsimp only; omega)), (by first | omega | (dsimp only; omega))⟩
  · have zc_1 : 0 ≤ gp := jnlt (a := gp) (b := 0) (by omega) (by omega) c_1
    refine lv_iload_n hx hb dX11_pattern_4 rfl (lv_at hl 1 rfl) ?_
    refine lv_aload_n hx hb dX11_pattern_5 rfl (lv_at hl 0 rfl) ?_
    obtain ⟨k_2, hk_2⟩ := pk_at (hs := []) (show (((Y 0 0), .inr (11, [.ref (A 50 0 0), .ref (Y 1 0), .ref (Y 2 0), .int (iI (K 0 0)), .ref (Y 3 0)])) : Nat × va_E) ∈ tl from PR_m hPR 0 0 rfl rfl)
    refine x_get (ci := 11) (C := RX11) (T := TX11) (N := 5) (v := .int (iI (K 0 0))) B k_2 hk_2 rfl in_X11 3 (by decide) mw_477 (fun _ h9 => h9) rfl dX11_pattern_6 ?_
    have z_3 : 0 ≤ K 0 0 ∧ K 0 0 ≤ 6 := KK_0 hKK
    refine lv_icmp_gt (tgt := 22) hx hb dX11_pattern_9 (by decide) (fun c_4 => ?_) (fun c_4 => ?_)
    · have zc_4 : (K 0 0) < gp := jlt (a := (K 0 0)) (b := gp) (by omega) (by omega) c_4
      exact k_thrG (tx := "gap or level out of range") xE_iae (Or.inl (⟨(by omega), rfl, rfl, rfl, rfl⟩)) ⟨(by first | omega | (dsimp only; omega)), (by first | omega | (dsimp only; omega))⟩ hl0 B hex hl (by decide +kernel) dX11_pattern_22 dX11_pattern_25 dX11_pattern_26 dX11_pattern_28 dX11_pattern_31 ⟨(by first | exact Nat.le_of_ble_eq_true rfl | omega | (dsimp only; omega)), (by first | exact Nat.le_of_ble_eq_true rfl | omega | (dsimp only; omega)), (by first | omega | (dsimp only; omega)), (by first | omega | (dsimp only; omega))⟩ ⟨(by first | omega | (dsimp only; omega)), (by first | omega | (dsimp only; omega))⟩
    · have zc_4 : gp ≤ (K 0 0) := jnlt (a := (K 0 0)) (b := gp) (by omega) (by omega) c_4
      refine lv_iload_n hx hb dX11_pattern_12 rfl (lv_at hl 2 rfl) ?_
      refine lv_iconst (v := iI 1) hx hb dX11_pattern_13 (by decide) ?_
      refine lv_icmp_lt (tgt := 22) hx hb dX11_pattern_14 (by decide) (fun c_5 => ?_) (fun c_5 => ?_)
      · have zc_5 : lv_ < 1 := jlt (a := lv_) (b := 1) (by omega) (by omega) c_5
        exact k_thrG (tx := "gap or level out of range") xE_iae (Or.inl (⟨(by omega), rfl, rfl, rfl, rfl⟩)) ⟨(by first | omega | (dsimp only; omega)), (by first | omega | (dsimp only; omega))⟩ hl0 B hex hl (by decide +kernel) dX11_pattern_22 dX11_pattern_25 dX11_pattern_26 dX11_pattern_28 dX11_pattern_31 ⟨(by first | exact Nat.le_of_ble_eq_true rfl | omega | (dsimp only; omega)), (by first | exact Nat.le_of_ble_eq_true rfl | omega | (dsimp only; omega)), (by first | omega | (dsimp only; omega)), (by first | omega | (dsimp only; omega))⟩ ⟨(by first | omega | (dsimp only; omega)), (by first | omega | (dsimp only; omega))⟩
      · have zc_5 : 1 ≤ lv_ := jnlt (a := lv_) (b := 1) (by omega) (by omega) c_5
        refine lv_iload_n hx hb dX11_pattern_17 rfl (lv_at hl 2 rfl) ?_
        refine lv_iconst (v := iI 5) hx hb dX11_pattern_18 (by decide) ?_
        refine lv_icmp_le (tgt := 32) hx hb dX11_pattern_19 (by decide) (fun c_6 => ?_) (fun c_6 => ?_)
        · have zc_6 : lv_ ≤ 5 := jle (a := lv_) (b := 5) (by omega) (by omega) c_6
          refine lv_aload_n hx hb dX11_pattern_32 rfl (lv_at hl 0 rfl) ?_
          obtain ⟨k_7, hk_7⟩ := pk_at (hs := []) (show (((Y 0 0), .inr (11, [.ref (A 50 0 0), .ref (Y 1 0), .ref (Y 2 0), .int (iI (K 0 0)), .ref (Y 3 0)])) : Nat × va_E) ∈ tl from PR_m hPR 0 0 rfl rfl)
          refine x_get (ci := 11) (C := RX11) (T := TX11) (N := 5) (v := .int (iI (K 0 0))) B k_7 hk_7 rfl in_X11 3 (by decide) mw_477 (fun _ h9 => h9) rfl dX11_pattern_33 ?_
          have z_8 : 0 ≤ K 0 0 ∧ K 0 0 ≤ 6 := KK_0 hKK
          refine lv_if_eq (tgt := 47) hx hb dX11_pattern_36 (by decide) (fun c_9 => ?_) (fun c_9 => ?_)
          · have zc_9 : (K 0 0) = 0 := jeq (a := (K 0 0)) (b := 0) (by omega) (by omega) c_9
            exact k_thrG (tx := "no text for a pattern") xE_ise (Or.inr (⟨(by omega), rfl, rfl, rfl, rfl⟩)) ⟨(by first | omega | (dsimp only; omega)), (by first | omega | (dsimp only; omega))⟩ hl0 B hex hl (by decide +kernel) dX11_pattern_47 dX11_pattern_50 dX11_pattern_51 dX11_pattern_53 dX11_pattern_56 ⟨(by first | exact Nat.le_of_ble_eq_true rfl | omega | (dsimp only; omega)), (by first | exact Nat.le_of_ble_eq_true rfl | omega | (dsimp only; omega)), (by first | omega | (dsimp only; omega)), (by first | omega | (dsimp only; omega))⟩ ⟨(by first | omega | (dsimp only; omega)), (by first | omega | (dsimp only; omega))⟩
          · have zc_9 : (K 0 0) ≠ 0 := jne (a := (K 0 0)) (b := 0) (by omega) (by omega) c_9
            refine lv_aload_n hx hb dX11_pattern_39 rfl (lv_at hl 0 rfl) ?_
            obtain ⟨k_10, hk_10⟩ := pk_at (hs := []) (show (((Y 0 0), .inr (11, [.ref (A 50 0 0), .ref (Y 1 0), .ref (Y 2 0), .int (iI (K 0 0)), .ref (Y 3 0)])) : Nat × va_E) ∈ tl from PR_m hPR 0 0 rfl rfl)
            refine x_get (ci := 11) (C := RX11) (T := TX11) (N := 5) (v := .int (iI (K 0 0))) B k_10 hk_10 rfl in_X11 3 (by decide) mw_477 (fun _ h9 => h9) rfl dX11_pattern_40 ?_
            have z_11 : 0 ≤ K 0 0 ∧ K 0 0 ≤ 6 := KK_0 hKK
            refine lv_iconst (v := iI 3) hx hb dX11_pattern_43 (by decide) ?_
            refine lv_icmp_le (tgt := 57) hx hb dX11_pattern_44 (by decide) (fun c_12 => ?_) (fun c_12 => ?_)
            · have zc_12 : (K 0 0) ≤ 3 := jle (a := (K 0 0)) (b := 3) (by omega) (by omega) c_12
              refine lv_aload_n hx hb dX11_pattern_57 rfl (lv_at hl 0 rfl) ?_
              obtain ⟨k_13, hk_13⟩ := pk_at (hs := []) (show (((Y 0 0), .inr (11, [.ref (A 50 0 0), .ref (Y 1 0), .ref (Y 2 0), .int (iI (K 0 0)), .ref (Y 3 0)])) : Nat × va_E) ∈ tl from PR_m hPR 0 0 rfl rfl)
              refine x_get (ci := 11) (C := RX11) (T := TX11) (N := 5) (v := .ref (A 50 0 0)) B k_13 hk_13 rfl in_X11 0 (by decide) mw_474 (fun _ h9 => h9) rfl dX11_pattern_58 ?_
              obtain ⟨k_14, hk_14⟩ := pk_at (hs := []) hT.1.1
              refine x_get (ci := 9) (C := RX9) (T := TX9) (N := 8) (v := .ref (A 52 0 0)) B k_14 hk_14 rfl in_X9 1 (by decide) mw_81 (fun _ h9 => h9) rfl dX11_pattern_61 ?_
              have B := bd_swap (a := []) (b := []) (d := tl) (bd_to rfl B)
              obtain ⟨k_15, fk_15, hk_15⟩ := LI_at (hs := []) hT.2.2.1
              refine k_V (rest := []) (wc := ([] ++ tl)) (wr := []) (k_sizeP l dC dI k T A X tl hT hK) B mV_Jx4a65c_size_8abf5 mw_637 hl (q0 := k_15) (ci := 12) hk_15 rfl rfl ⟨Nat.le_of_ble_eq_true rfl, Nat.le_of_ble_eq_true rfl⟩ (Nat.le_of_ble_eq_true rfl) rfl dX11_pattern_64 ⟨by dsimp only; omega, by dsimp only; omega⟩ (fun r w gc gs H locs hp B => ?_)
              obtain ⟨z_16, rfl, hw9, rfl, rfl⟩ := hp
              rw [hw9] at B; clear hw9
              have B := bd_to (ws' := ([] ++ tl)) rfl B
              refine lv_bipush (v := iI 8) hx hb dX11_pattern_67 (by decide) ?_
              refine lv_icmp_lt (tgt := 82) hx hb dX11_pattern_69 (by decide) (fun c_17 => ?_) (fun c_17 => ?_)
              · have zc_17 : (T 18 0 0 0) < 8 := jlt (a := (T 18 0 0 0)) (b := 8) (by omega) (by omega) c_17
                refine lv_aload_n hx hb dX11_pattern_82 rfl (lv_at hl 0 rfl) ?_
                obtain ⟨k_18, hk_18⟩ := pk_at (hs := []) (show (((Y 0 0), .inr (11, [.ref (A 50 0 0), .ref (Y 1 0), .ref (Y 2 0), .int (iI (K 0 0)), .ref (Y 3 0)])) : Nat × va_E) ∈ tl from PR_m hPR 0 0 rfl rfl)
                refine x_get (ci := 11) (C := RX11) (T := TX11) (N := 5) (v := .ref (A 50 0 0)) B k_18 hk_18 rfl in_X11 0 (by decide) mw_474 (fun _ h9 => h9) rfl dX11_pattern_83 ?_
                refine x_new (ci := 5) (fs := [.null, .int 0, .int 0]) (C := RX5) (T := TX5) (N := 3) B tyX5_ok in_X5 mw_642 mw_643 mw_34 rfl (by decide +kernel) (by first | omega | (dsimp only; omega)) (by first | omega | (dsimp only; omega)) dX11_pattern_86 (fun q_19 H B => ?_)
                have B := bd_swap (a := []) (b := tl) (d := [(q_19, .inr (5, [.null, .int (iI 0), .int (iI 0)]))]) B
                have B := bd_to (ws' := ([(q_19, .inr (5, [.null, .int (iI 0), .int (iI 0)]))] ++ tl)) rfl B
                refine lv_dup hx hb dX11_pattern_89 rfl ?_
                obtain ⟨tr_20, htr_20, btr_20⟩ := PR_gout hPR
                have B := bd_perm (List.Perm.append_left [(q_19, .inr (5, [.null, .int (iI 0), .int (iI 0)]))] htr_20) B
                have B := bd_to (ws' := ([(q_19, .inr (5, [.null, .int (iI 0), .int (iI 0)])), ((Y 0 0), .inr (11, [.ref (A 50 0 0), .ref (Y 1 0), .ref (Y 2 0), .int (iI (K 0 0)), .ref (Y 3 0)])), ((Y 1 0), .inl (k 3, 2, .inr (.inr (.inr (.inr (fun i9 : Nat => (fun j9 : Int => some (Y 4 j9)) i9)))))), ((Y 2 0), .inl (k 0, 6, .inl (fun i9 : Nat => iI ((K 1) i9)))), ((Y 3 0), .inl (k 0, 5, .inl (fun i9 : Nat => iI ((K 2) i9))))] ++ tr_20)) rfl B
                refine lv_aload_n hx hb dX11_pattern_90 rfl (lv_at hl 0 rfl) ?_
                refine x_get (ci := 11) (C := RX11) (T := TX11) (N := 5) (v := .ref (Y 2 0)) B 1 rfl rfl in_X11 2 (by decide) mw_476 (fun _ h9 => h9) rfl dX11_pattern_91 ?_
                refine lv_aload_n hx hb dX11_pattern_94 rfl (lv_at hl 0 rfl) ?_
                refine x_get (ci := 11) (C := RX11) (T := TX11) (N := 5) (v := .int (iI (K 0 0))) B 1 rfl rfl in_X11 3 (by decide) mw_477 (fun _ h9 => h9) rfl dX11_pattern_95 ?_
                refine lv_seti (y := iI (((Int.toNat (K 0 0)) : Nat) : Int)) (congrArg iI (show (K 0 0) = (((Int.toNat (K 0 0)) : Nat) : Int) by omega)) ?_
                have B := bd_pick (hs := [(q_19, .inr (5, [.null, .int (iI 0), .int (iI 0)])), ((Y 0 0), .inr (11, [.ref (A 50 0 0), .ref (Y 1 0), .ref (Y 2 0), .int (iI (K 0 0)), .ref (Y 3 0)])), ((Y 1 0), .inl (k 3, 2, .inr (.inr (.inr (.inr (fun i9 : Nat => (fun j9 : Int => some (Y 4 j9)) i9)))))), ((Y 2 0), .inl (k 0, 6, .inl (fun i9 : Nat => iI ((K 1) i9)))), ((Y 3 0), .inl (k 0, 5, .inl (fun i9 : Nat => iI ((K 2) i9))))]) (ws' := [((Y 2 0), .inl (k 0, 6, .inl (fun i9 : Nat => iI ((K 1) i9)))), (q_19, .inr (5, [.null, .int (iI 0), .int (iI 0)])), ((Y 0 0), .inr (11, [.ref (A 50 0 0), .ref (Y 1 0), .ref (Y 2 0), .int (iI (K 0 0)), .ref (Y 3 0)])), ((Y 1 0), .inl (k 3, 2, .inr (.inr (.inr (.inr (fun i9 : Nat => (fun j9 : Int => some (Y 4 j9)) i9)))))), ((Y 3 0), .inl (k 0, 5, .inl (fun i9 : Nat => iI ((K 2) i9))))]) (tl := tr_20) [3, 0, 1, 2, 4] (by decide) rfl B
                have B := bd_to (ws' := [((Y 2 0), .inl (k 0, 6, .inl (fun i9 : Nat => iI ((K 1) i9))))] ++ ([(q_19, .inr (5, [.null, .int (iI 0), .int (iI 0)])), ((Y 0 0), .inr (11, [.ref (A 50 0 0), .ref (Y 1 0), .ref (Y 2 0), .int (iI (K 0 0)), .ref (Y 3 0)])), ((Y 1 0), .inl (k 3, 2, .inr (.inr (.inr (.inr (fun i9 : Nat => (fun j9 : Int => some (Y 4 j9)) i9)))))), ((Y 3 0), .inl (k 0, 5, .inl (fun i9 : Nat => iI ((K 2) i9))))] ++ tr_20)) rfl B
                refine k_S (rest := [.ref q_19, .ref q_19, .ref (A 50 0 0)]) (wc := [((Y 2 0), .inl (k 0, 6, .inl (fun i9 : Nat => iI ((K 1) i9))))]) (wr := ([(q_19, .inr (5, [.null, .int (iI 0), .int (iI 0)])), ((Y 0 0), .inr (11, [.ref (A 50 0 0), .ref (Y 1 0), .ref (Y 2 0), .int (iI (K 0 0)), .ref (Y 3 0)])), ((Y 1 0), .inl (k 3, 2, .inr (.inr (.inr (.inr (fun i9 : Nat => (fun j9 : Int => some (Y 4 j9)) i9)))))), ((Y 3 0), .inl (k 0, 5, .inl (fun i9 : Nat => iI ((K 2) i9))))] ++ tr_20)) (k_copyI l dC dI k (Y 2 0) 6 (Int.toNat (K 0 0)) (K 1) (by omega)) B mS_J7_copyOf_59c91 mw_644 hl ⟨Nat.le_of_ble_eq_true rfl, Nat.le_of_ble_eq_true rfl⟩ (Nat.le_of_ble_eq_true rfl) rfl dX11_pattern_98 ⟨by dsimp only; omega, by dsimp only; omega⟩ (fun r w gc gs H locs hp B => ?_)
                obtain ⟨cq_21, rfl, hw9, rfl, rfl⟩ := hp
                rw [hw9] at B; clear hw9
                have B := bd_swap (a := [(q_19, .inr (5, [.null, .int (iI 0), .int (iI 0)])), ((Y 0 0), .inr (11, [.ref (A 50 0 0), .ref (Y 1 0), .ref (Y 2 0), .int (iI (K 0 0)), .ref (Y 3 0)])), ((Y 1 0), .inl (k 3, 2, .inr (.inr (.inr (.inr (fun i9 : Nat => (fun j9 : Int => some (Y 4 j9)) i9)))))), ((Y 3 0), .inl (k 0, 5, .inl (fun i9 : Nat => iI ((K 2) i9))))]) (b := tr_20) (d := [((Y 2 0), .inl (k 0, 6, .inl (fun i9 : Nat => iI ((K 1) i9)))), (cq_21, .inl (k 0, (Int.toNat (K 0 0)), .inl (fun i9 : Nat => iI ((cpz (K 1) (fun _ : Int => (0 : Int)) 0 0 (min (6 : Int) ((Int.toNat (K 0 0)) : Int))) i9))))]) B
                have B := bd_to (ws' := ([(q_19, .inr (5, [.null, .int (iI 0), .int (iI 0)])), ((Y 0 0), .inr (11, [.ref (A 50 0 0), .ref (Y 1 0), .ref (Y 2 0), .int (iI (K 0 0)), .ref (Y 3 0)])), ((Y 1 0), .inl (k 3, 2, .inr (.inr (.inr (.inr (fun i9 : Nat => (fun j9 : Int => some (Y 4 j9)) i9)))))), ((Y 3 0), .inl (k 0, 5, .inl (fun i9 : Nat => iI ((K 2) i9)))), ((Y 2 0), .inl (k 0, 6, .inl (fun i9 : Nat => iI ((K 1) i9)))), (cq_21, .inl (k 0, (Int.toNat (K 0 0)), .inl (fun i9 : Nat => iI ((cpz (K 1) (fun _ : Int => (0 : Int)) 0 0 (min (6 : Int) ((Int.toNat (K 0 0)) : Int))) i9))))] ++ tr_20)) rfl B
                have B := bd_to (ws' := ([(q_19, .inr (5, [.null, .int (iI 0), .int (iI 0)])), ((Y 0 0), .inr (11, [.ref (A 50 0 0), .ref (Y 1 0), .ref (Y 2 0), .int (iI (K 0 0)), .ref (Y 3 0)])), ((Y 1 0), .inl (k 3, 2, .inr (.inr (.inr (.inr (fun i9 : Nat => (fun j9 : Int => some (Y 4 j9)) i9)))))), ((Y 3 0), .inl (k 0, 5, .inl (fun i9 : Nat => iI ((K 2) i9)))), ((Y 2 0), .inl (k 0, 6, .inl (fun i9 : Nat => iI ((K 1) i9)))), (cq_21, .inl (k 0, (Int.toNat (K 0 0)), .inl (fun i9 : Nat => iI ((spF K) i9))))] ++ tr_20)) (congrArg (fun h9 : Int → Int => (([(q_19, .inr (5, [.null, .int (iI 0), .int (iI 0)])), ((Y 0 0), .inr (11, [.ref (A 50 0 0), .ref (Y 1 0), .ref (Y 2 0), .int (iI (K 0 0)), .ref (Y 3 0)])), ((Y 1 0), .inl (k 3, 2, .inr (.inr (.inr (.inr (fun i9 : Nat => (fun j9 : Int => some (Y 4 j9)) i9)))))), ((Y 3 0), .inl (k 0, 5, .inl (fun i9 : Nat => iI ((K 2) i9)))), ((Y 2 0), .inl (k 0, 6, .inl (fun i9 : Nat => iI ((K 1) i9)))), (cq_21, .inl (k 0, (Int.toNat (K 0 0)), .inl (fun i9 : Nat => iI (h9 i9))))] ++ tr_20) : va_W)) (show (cpz (K 1) (fun _ : Int => (0 : Int)) 0 0 (min (6 : Int) ((Int.toNat (K 0 0)) : Int))) = (spF K) from by unfold spF; rw [show ((((Int.toNat (K 0 0)) : Nat)) : Int) = K 0 0 by omega])) B
                refine lv_iload_n hx hb dX11_pattern_101 rfl (lv_at hl 1 rfl) ?_
                refine lv_iload_n hx hb dX11_pattern_102 rfl (lv_at hl 2 rfl) ?_
                have B := bd_to (ws' := [(q_19, .inr (5, [.null, .int (iI 0), .int (iI 0)]))] ++ ([((Y 0 0), .inr (11, [.ref (A 50 0 0), .ref (Y 1 0), .ref (Y 2 0), .int (iI (K 0 0)), .ref (Y 3 0)])), ((Y 1 0), .inl (k 3, 2, .inr (.inr (.inr (.inr (fun i9 : Nat => (fun j9 : Int => some (Y 4 j9)) i9)))))), ((Y 3 0), .inl (k 0, 5, .inl (fun i9 : Nat => iI ((K 2) i9)))), ((Y 2 0), .inl (k 0, 6, .inl (fun i9 : Nat => iI ((K 1) i9)))), (cq_21, .inl (k 0, (Int.toNat (K 0 0)), .inl (fun i9 : Nat => iI ((spF K) i9))))] ++ tr_20)) rfl B
                refine k_I (rest := [.ref q_19, .ref (A 50 0 0)]) (wc := [(q_19, .inr (5, [.null, .int (iI 0), .int (iI 0)]))]) (wr := ([((Y 0 0), .inr (11, [.ref (A 50 0 0), .ref (Y 1 0), .ref (Y 2 0), .int (iI (K 0 0)), .ref (Y 3 0)])), ((Y 1 0), .inl (k 3, 2, .inr (.inr (.inr (.inr (fun i9 : Nat => (fun j9 : Int => some (Y 4 j9)) i9)))))), ((Y 3 0), .inl (k 0, 5, .inl (fun i9 : Nat => iI ((K 2) i9)))), ((Y 2 0), .inl (k 0, 6, .inl (fun i9 : Nat => iI ((K 1) i9)))), (cq_21, .inl (k 0, (Int.toNat (K 0 0)), .inl (fun i9 : Nat => iI ((spF K) i9))))] ++ tr_20)) (k_patInit l dC dI k q_19 cq_21 gp lv_) B mI_X5_init mw_660 hl ⟨Nat.le_of_ble_eq_true rfl, Nat.le_of_ble_eq_true rfl⟩ (Nat.le_of_ble_eq_true rfl) rfl dX11_pattern_103 ⟨by dsimp only; omega, by dsimp only; omega⟩ (fun r w gc gs H locs hp B => ?_)
                obtain ⟨rfl, hw9, rfl, rfl⟩ := hp
                rw [hw9] at B; clear hw9
                have B := bd_swap (a := [((Y 0 0), .inr (11, [.ref (A 50 0 0), .ref (Y 1 0), .ref (Y 2 0), .int (iI (K 0 0)), .ref (Y 3 0)])), ((Y 1 0), .inl (k 3, 2, .inr (.inr (.inr (.inr (fun i9 : Nat => (fun j9 : Int => some (Y 4 j9)) i9)))))), ((Y 3 0), .inl (k 0, 5, .inl (fun i9 : Nat => iI ((K 2) i9)))), ((Y 2 0), .inl (k 0, 6, .inl (fun i9 : Nat => iI ((K 1) i9)))), (cq_21, .inl (k 0, (Int.toNat (K 0 0)), .inl (fun i9 : Nat => iI ((spF K) i9))))]) (b := tr_20) (d := [(q_19, .inr (5, [.ref cq_21, .int (iI gp), .int (iI lv_)]))]) B
                have B := bd_to (ws' := ([((Y 0 0), .inr (11, [.ref (A 50 0 0), .ref (Y 1 0), .ref (Y 2 0), .int (iI (K 0 0)), .ref (Y 3 0)])), ((Y 1 0), .inl (k 3, 2, .inr (.inr (.inr (.inr (fun i9 : Nat => (fun j9 : Int => some (Y 4 j9)) i9)))))), ((Y 3 0), .inl (k 0, 5, .inl (fun i9 : Nat => iI ((K 2) i9)))), ((Y 2 0), .inl (k 0, 6, .inl (fun i9 : Nat => iI ((K 1) i9)))), (cq_21, .inl (k 0, (Int.toNat (K 0 0)), .inl (fun i9 : Nat => iI ((spF K) i9)))), (q_19, .inr (5, [.ref cq_21, .int (iI gp), .int (iI lv_)]))] ++ tr_20)) rfl B
                have B := bd_pick (hs := [((Y 0 0), .inr (11, [.ref (A 50 0 0), .ref (Y 1 0), .ref (Y 2 0), .int (iI (K 0 0)), .ref (Y 3 0)])), ((Y 1 0), .inl (k 3, 2, .inr (.inr (.inr (.inr (fun i9 : Nat => (fun j9 : Int => some (Y 4 j9)) i9)))))), ((Y 3 0), .inl (k 0, 5, .inl (fun i9 : Nat => iI ((K 2) i9)))), ((Y 2 0), .inl (k 0, 6, .inl (fun i9 : Nat => iI ((K 1) i9)))), (cq_21, .inl (k 0, (Int.toNat (K 0 0)), .inl (fun i9 : Nat => iI ((spF K) i9)))), (q_19, .inr (5, [.ref cq_21, .int (iI gp), .int (iI lv_)]))]) (ws' := [(cq_21, .inl (k 0, (Int.toNat (K 0 0)), .inl (fun i9 : Nat => iI ((spF K) i9)))), (q_19, .inr (5, [.ref cq_21, .int (iI gp), .int (iI lv_)])), ((Y 0 0), .inr (11, [.ref (A 50 0 0), .ref (Y 1 0), .ref (Y 2 0), .int (iI (K 0 0)), .ref (Y 3 0)])), ((Y 1 0), .inl (k 3, 2, .inr (.inr (.inr (.inr (fun i9 : Nat => (fun j9 : Int => some (Y 4 j9)) i9)))))), ((Y 2 0), .inl (k 0, 6, .inl (fun i9 : Nat => iI ((K 1) i9)))), ((Y 3 0), .inl (k 0, 5, .inl (fun i9 : Nat => iI ((K 2) i9))))]) (tl := tr_20) [4, 5, 0, 1, 3, 2] (by decide) rfl B
                have B := bd_to (ws' := ([(cq_21, .inl (k 0, (Int.toNat (K 0 0)), .inl (fun i9 : Nat => iI ((spF K) i9)))), (q_19, .inr (5, [.ref cq_21, .int (iI gp), .int (iI lv_)]))] ++ (gCl k A Y K ++ tr_20))) rfl B
                have hPR : PR dI k T A X G Mc Y O L C K cp (gCl k A Y K ++ tr_20) := btr_20 K
                have hT := PR_TI hPR
                have B := bd_pick (hs := [(cq_21, .inl (k 0, (Int.toNat (K 0 0)), .inl (fun i9 : Nat => iI ((spF K) i9)))), (q_19, .inr (5, [.ref cq_21, .int (iI gp), .int (iI lv_)]))]) (ws' := [(q_19, .inr (5, [.ref cq_21, .int (iI gp), .int (iI lv_)])), (cq_21, .inl (k 0, (Int.toNat (K 0 0)), .inl (fun i9 : Nat => iI ((spF K) i9))))]) (tl := (gCl k A Y K ++ tr_20)) [1, 0] (by decide) rfl B
                have B := bd_swap (a := [(q_19, .inr (5, [.ref cq_21, .int (iI gp), .int (iI lv_)])), (cq_21, .inl (k 0, (Int.toNat (K 0 0)), .inl (fun i9 : Nat => iI ((spF K) i9))))]) (b := []) (d := (gCl k A Y K ++ tr_20)) (bd_to rfl B)
                obtain ⟨k_22, hk_22⟩ := pk_at (hs := [(q_19, .inr (5, [.ref cq_21, .int (iI gp), .int (iI lv_)])), (cq_21, .inl (k 0, (Int.toNat (K 0 0)), .inl (fun i9 : Nat => iI ((spF K) i9))))]) (show (((A 50 0 0), .inr (9, [.ref (A 51 0 0), .ref (A 52 0 0), .ref (A 53 0 0), .ref (A 54 0 0), .int (iI (T 12 0 0 0)), .ref (A 55 0 0), .int (iI (T 16 0 0 0)), .int (iI (T 17 0 0 0))])) : Nat × va_E) ∈ (gCl k A Y K ++ tr_20) from hT.1.1)
                refine k_V (rest := []) (wc := ([(q_19, .inr (5, [.ref cq_21, .int (iI gp), .int (iI lv_)])), (cq_21, .inl (k 0, (Int.toNat (K 0 0)), .inl (fun i9 : Nat => iI ((spF K) i9))))] ++ (gCl k A Y K ++ tr_20))) (wr := []) (k_addPattern l dC dI k T A X (gCl k A Y K ++ tr_20) G Mc Y O L C K cp gp lv_ q_19 cq_21 (Int.toNat (K 0 0)) (spF K) hPR hK (by omega) ⟨by omega, spF_in hKK, by omega, by omega⟩) B mV_X9_addPattern mw_676 hl (q0 := k_22) (ci := 9) hk_22 rfl rfl ⟨Nat.le_of_ble_eq_true rfl, Nat.le_of_ble_eq_true rfl⟩ (Nat.le_of_ble_eq_true rfl) rfl dX11_pattern_106 ⟨by dsimp only; omega, by dsimp only; omega⟩ (fun r w gc gs H locs hp B => ?_)
                obtain ⟨e2_23, c2_24, tl2_25, z_26, rfl, hw9, rfl, rfl⟩ := hp
                rw [hw9] at B; clear hw9
                have B := bd_to (ws' := ([] ++ tl2_25)) rfl B
                have hPR : PR dI k (gpT (apT T (Int.toNat (K 0 0)) (spF K) gp lv_) (T 0 0 0 0) 0) (apA A (T 18 0 0 0) q_19 cq_21 e2_23) X (upG G 2 0 c2_24) (upM Mc 2 0 (Mc 2 0 + 1)) Y O L C K cp tl2_25 := z_26
                have hT : TI dI k (gpT (apT T (Int.toNat (K 0 0)) (spF K) gp lv_) (T 0 0 0 0) 0) (apA A (T 18 0 0 0) q_19 cq_21 e2_23) X tl2_25 := PR_TI hPR
                refine lv_aload_n hx hb dX11_pattern_109 rfl (lv_at hl 0 rfl) ?_
                refine lv_iconst (v := iI 0) hx hb dX11_pattern_110 (by decide) ?_
                obtain ⟨tr_27, htr_27, btr_27⟩ := PR_gout hPR
                have B := bd_perm (List.Perm.append_left [] htr_27) B
                have B := bd_to (ws' := ([((Y 0 0), .inr (11, [.ref (A 50 0 0), .ref (Y 1 0), .ref (Y 2 0), .int (iI (K 0 0)), .ref (Y 3 0)])), ((Y 1 0), .inl (k 3, 2, .inr (.inr (.inr (.inr (fun i9 : Nat => (fun j9 : Int => some (Y 4 j9)) i9)))))), ((Y 2 0), .inl (k 0, 6, .inl (fun i9 : Nat => iI ((K 1) i9)))), ((Y 3 0), .inl (k 0, 5, .inl (fun i9 : Nat => iI ((K 2) i9))))] ++ tr_27)) rfl B
                refine x_put (ci := 11) (C := RX11) (T := TX11) (N := 5) (ty := .int) (v := .int (iI 0)) B tyX11_ok nmX11 0 rfl rfl in_X11 3 (by decide) mw_477 (fun _ h9 => h9) rfl (by decide +kernel) rfl rfl (Nat.le_of_ble_eq_true rfl) dX11_pattern_111 (fun H locs B => ?_)
                have B := bd_to (ws' := ([((Y 0 0), .inr (11, [.ref (A 50 0 0), .ref (Y 1 0), .ref (Y 2 0), .int (iI 0), .ref (Y 3 0)])), ((Y 1 0), .inl (k 3, 2, .inr (.inr (.inr (.inr (fun i9 : Nat => (fun j9 : Int => some (Y 4 j9)) i9)))))), ((Y 2 0), .inl (k 0, 6, .inl (fun i9 : Nat => iI ((K 1) i9)))), ((Y 3 0), .inl (k 0, 5, .inl (fun i9 : Nat => iI ((K 2) i9))))] ++ tr_27)) rfl B
                refine lv_aload_n hx hb dX11_pattern_114 rfl (lv_at hl 0 rfl) ?_
                have B := bd_to (ws' := ([] ++ (gCl k (apA A (T 18 0 0 0) q_19 cq_21 e2_23) Y (KKn 0 (K 1) (K 2)) ++ tr_27))) rfl B
                have hPR : PR dI k (gpT (apT T (Int.toNat (K 0 0)) (spF K) gp lv_) (T 0 0 0 0) 0) (apA A (T 18 0 0 0) q_19 cq_21 e2_23) X (upG G 2 0 c2_24) (upM Mc 2 0 (Mc 2 0 + 1)) Y O L C (KKn 0 (K 1) (K 2)) cp (gCl k (apA A (T 18 0 0 0) q_19 cq_21 e2_23) Y (KKn 0 (K 1) (K 2)) ++ tr_27) := btr_27 (KKn 0 (K 1) (K 2))
                have hT := PR_TI hPR
                have B := bd_swap (a := []) (b := []) (d := (gCl k (apA A (T 18 0 0 0) q_19 cq_21 e2_23) Y (KKn 0 (K 1) (K 2)) ++ tr_27)) (bd_to rfl B)
                obtain ⟨k_28, hk_28⟩ := pk_at (hs := []) (show (((Y 0 0), .inr (11, [.ref (A 50 0 0), .ref (Y 1 0), .ref (Y 2 0), .int (iI ((KKn 0 (K 1) (K 2)) 0 0)), .ref (Y 3 0)])) : Nat × va_E) ∈ (gCl k (apA A (T 18 0 0 0) q_19 cq_21 e2_23) Y (KKn 0 (K 1) (K 2)) ++ tr_27) from (PR_m hPR 0 0 rfl rfl))
                refine k_V (rest := []) (wc := ([] ++ (gCl k (apA A (T 18 0 0 0) q_19 cq_21 e2_23) Y (KKn 0 (K 1) (K 2)) ++ tr_27))) (wr := []) (k_forgetAll l dC dI k (gpT (apT T (Int.toNat (K 0 0)) (spF K) gp lv_) (T 0 0 0 0) 0) (apA A (T 18 0 0 0) q_19 cq_21 e2_23) X (gCl k (apA A (T 18 0 0 0) q_19 cq_21 e2_23) Y (KKn 0 (K 1) (K 2)) ++ tr_27) (upG G 2 0 c2_24) (upM Mc 2 0 (Mc 2 0 + 1)) Y O L C (KKn 0 (K 1) (K 2)) cp hPR (TK_gpT (TK_apT hK ⟨by omega, spF_in hKK, by omega, by omega⟩ (by omega)))) B mV_X11_forgetLayouts mw_769 hl (q0 := k_28) (ci := 11) hk_28 rfl rfl ⟨Nat.le_of_ble_eq_true rfl, Nat.le_of_ble_eq_true rfl⟩ (Nat.le_of_ble_eq_true rfl) rfl dX11_pattern_115 ⟨by dsimp only; omega, by dsimp only; omega⟩ (fun r w gc gs H locs hp B => ?_)
                obtain ⟨L2_29, tl2_30, z_31, z_32, rfl, hw9, rfl, rfl⟩ := hp
                rw [hw9] at B; clear hw9
                have B := bd_to (ws' := ([] ++ tl2_30)) rfl B
                have hPR : PR dI k (gpT (apT T (Int.toNat (K 0 0)) (spF K) gp lv_) (T 0 0 0 0) 0) (apA A (T 18 0 0 0) q_19 cq_21 e2_23) X (upG G 2 0 c2_24) (upM Mc 2 0 (Mc 2 0 + 1)) Y O L2_29 C (KKn 0 (K 1) (K 2)) cp tl2_30 := z_31
                have hT : TI dI k (gpT (apT T (Int.toNat (K 0 0)) (spF K) gp lv_) (T 0 0 0 0) 0) (apA A (T 18 0 0 0) q_19 cq_21 e2_23) X tl2_30 := PR_TI hPR
                refine lv_aload_n hx hb dX11_pattern_118 rfl (lv_at hl 0 rfl) ?_
                obtain ⟨k_33, hk_33⟩ := pk_at (hs := []) (show (((Y 0 0), .inr (11, [.ref (A 50 0 0), .ref (Y 1 0), .ref (Y 2 0), .int (iI ((KKn 0 (K 1) (K 2)) 0 0)), .ref (Y 3 0)])) : Nat × va_E) ∈ tl2_30 from (PR_m hPR 0 0 rfl rfl))
                refine x_get (ci := 11) (C := RX11) (T := TX11) (N := 5) (v := .ref (A 50 0 0)) B k_33 hk_33 rfl in_X11 0 (by decide) mw_474 (fun _ h9 => h9) rfl dX11_pattern_119 ?_
                obtain ⟨k_34, hk_34⟩ := pk_at (hs := []) (show (((A 50 0 0), .inr (9, [.ref ((apA A (T 18 0 0 0) q_19 cq_21 e2_23) 51 0 0), .ref ((apA A (T 18 0 0 0) q_19 cq_21 e2_23) 52 0 0), .ref ((apA A (T 18 0 0 0) q_19 cq_21 e2_23) 53 0 0), .ref ((apA A (T 18 0 0 0) q_19 cq_21 e2_23) 54 0 0), .int (iI ((gpT (apT T (Int.toNat (K 0 0)) (spF K) gp lv_) (T 0 0 0 0) 0) 12 0 0 0)), .ref ((apA A (T 18 0 0 0) q_19 cq_21 e2_23) 55 0 0), .int (iI ((gpT (apT T (Int.toNat (K 0 0)) (spF K) gp lv_) (T 0 0 0 0) 0) 16 0 0 0)), .int (iI ((gpT (apT T (Int.toNat (K 0 0)) (spF K) gp lv_) (T 0 0 0 0) 0) 17 0 0 0))])) : Nat × va_E) ∈ tl2_30 from hT.1.1)
                refine x_get (ci := 9) (C := RX9) (T := TX9) (N := 8) (v := .ref ((apA A (T 18 0 0 0) q_19 cq_21 e2_23) 52 0 0)) B k_34 hk_34 rfl in_X9 1 (by decide) mw_81 (fun _ h9 => h9) rfl dX11_pattern_122 ?_
                have B := bd_swap (a := []) (b := []) (d := tl2_30) (bd_to rfl B)
                obtain ⟨k_35, fk_35, hk_35⟩ := LI_at (hs := []) hT.2.2.1
                refine k_V (rest := []) (wc := ([] ++ tl2_30)) (wr := []) (k_sizeP l dC dI k (gpT (apT T (Int.toNat (K 0 0)) (spF K) gp lv_) (T 0 0 0 0) 0) (apA A (T 18 0 0 0) q_19 cq_21 e2_23) X tl2_30 hT (TK_gpT (TK_apT hK ⟨by omega, spF_in hKK, by omega, by omega⟩ (by omega)))) B mV_Jx4a65c_size_8abf5 mw_637 hl (q0 := k_35) (ci := 12) hk_35 rfl rfl ⟨Nat.le_of_ble_eq_true rfl, Nat.le_of_ble_eq_true rfl⟩ (Nat.le_of_ble_eq_true rfl) rfl dX11_pattern_125 ⟨by dsimp only; omega, by dsimp only; omega⟩ (fun r w gc gs H locs hp B => ?_)
                obtain ⟨z_36, rfl, hw9, rfl, rfl⟩ := hp
                rw [hw9] at B; clear hw9
                have B := bd_to (ws' := ([] ++ tl2_30)) rfl B
                have e_37 : (T 18 0 0 0 + 1) = ((gpT (apT T (Int.toNat (K 0 0)) (spF K) gp lv_) (T 0 0 0 0) 0) 18 0 0 0) := rfl
                skip
                exact vx_ret (k_iret B hr (⟨L2_29, q_19, cq_21, e2_23, c2_24, (((((3 + (Int.toNat (K 0 0))) + 0) + 40) + 0) + 0), tl2_30, hPR, z_32, (by omega), (by omega), (by rw [e_37]), rfl, rfl, rfl⟩) ⟨(by first | omega | (dsimp only; omega)), (by first | omega | (dsimp only; omega))⟩ ⟨(by first | omega | (dsimp only; omega)), (by first | omega | (dsimp only; omega))⟩ dX11_pattern_128)
              · have zc_17 : 8 ≤ (T 18 0 0 0) := jnlt (a := (T 18 0 0 0)) (b := 8) (by omega) (by omega) c_17
                exact k_thrG (tx := "eight patterns are there") xE_ise (Or.inr (⟨(by omega), rfl, rfl, rfl, rfl⟩)) ⟨(by first | omega | (dsimp only; omega)), (by first | omega | (dsimp only; omega))⟩ hl0 B hex hl (by decide +kernel) dX11_pattern_72 dX11_pattern_75 dX11_pattern_76 dX11_pattern_78 dX11_pattern_81 ⟨(by first | exact Nat.le_of_ble_eq_true rfl | omega | (dsimp only; omega)), (by first | exact Nat.le_of_ble_eq_true rfl | omega | (dsimp only; omega)), (by first | omega | (dsimp only; omega)), (by first | omega | (dsimp only; omega))⟩ ⟨(by first | omega | (dsimp only; omega)), (by first | omega | (dsimp only; omega))⟩
            · have zc_12 : 3 < (K 0 0) := jnle (a := (K 0 0)) (b := 3) (by omega) (by omega) c_12
              exact k_thrG (tx := "no text for a pattern") xE_ise (Or.inr (⟨(by omega), rfl, rfl, rfl, rfl⟩)) ⟨(by first | omega | (dsimp only; omega)), (by first | omega | (dsimp only; omega))⟩ hl0 B hex hl (by decide +kernel) dX11_pattern_47 dX11_pattern_50 dX11_pattern_51 dX11_pattern_53 dX11_pattern_56 ⟨(by first | exact Nat.le_of_ble_eq_true rfl | omega | (dsimp only; omega)), (by first | exact Nat.le_of_ble_eq_true rfl | omega | (dsimp only; omega)), (by first | omega | (dsimp only; omega)), (by first | omega | (dsimp only; omega))⟩ ⟨(by first | omega | (dsimp only; omega)), (by first | omega | (dsimp only; omega))⟩
        · have zc_6 : 5 < lv_ := jnle (a := lv_) (b := 5) (by omega) (by omega) c_6
          exact k_thrG (tx := "gap or level out of range") xE_iae (Or.inl (⟨(by omega), rfl, rfl, rfl, rfl⟩)) ⟨(by first | omega | (dsimp only; omega)), (by first | omega | (dsimp only; omega))⟩ hl0 B hex hl (by decide +kernel) dX11_pattern_22 dX11_pattern_25 dX11_pattern_26 dX11_pattern_28 dX11_pattern_31 ⟨(by first | exact Nat.le_of_ble_eq_true rfl | omega | (dsimp only; omega)), (by first | exact Nat.le_of_ble_eq_true rfl | omega | (dsimp only; omega)), (by first | omega | (dsimp only; omega)), (by first | omega | (dsimp only; omega))⟩ ⟨(by first | omega | (dsimp only; omega)), (by first | omega | (dsimp only; omega))⟩

end
