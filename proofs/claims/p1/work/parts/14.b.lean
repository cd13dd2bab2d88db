section
theorem mw_85 : (Jvm.Cond.fieldLink "Galleyforge" (210 : Nat) "Galleyforge$Text" "figureKinds" "[I") ∈ gt := gt_at 220 (by decide +kernel) (by decide +kernel)
theorem mw_89 : (Jvm.Cond.fieldLink "Galleyforge" (213 : Nat) "Galleyforge$Text" "figureHeights" "[I") ∈ gt := gt_at 224 (by decide +kernel) (by decide +kernel)
theorem mw_768 : (Jvm.Cond.methodLink "Galleyforge" (106 : Nat) ({ cls := "Galleyforge", name := "forgetLayouts", desc := "()V" } : Jvm.MethodName)) ∈ gt := gt_at 903 (by decide +kernel) (by decide +kernel)
theorem mw_770 : (Jvm.Cond.instanceMethod ({ cls := "Galleyforge", name := "forgetLayouts", desc := "()V" } : Jvm.MethodName)) ∈ gt := gt_at 905 (by decide +kernel) (by decide +kernel)
theorem mw_771 : (Jvm.Cond.code ({ cls := "Galleyforge", name := "forgetLayouts", desc := "()V" } : Jvm.MethodName) prog_1_method_54_code (2 : Nat) (Option.none : Option Jvm.ClassFile.FieldType)) ∈ gt := gt_at 906 (by decide +kernel) (by decide +kernel)
theorem ms_6 : Cond.selects "Galleyforge" (⟨"Galleyforge", "forgetLayouts", "()V"⟩ : MethodName) (⟨"Galleyforge", "forgetLayouts", "()V"⟩ : MethodName) ∈ gt := gt_at 6 (by decide +kernel) (by decide +kernel)
theorem mV_X11_forgetLayouts : mV yX11_forgetLayouts cX11_forgetLayouts 2 none 0 := ⟨⟨mw_771, mw_1, by decide, by decide, by decide +kernel⟩, mw_770, ms_6⟩
theorem dX11_figure_0 : decode cX11_figure 0 = .ok (.iload_n 1, 1) := by decide +kernel
theorem dX11_figure_1 : decode cX11_figure 1 = .ok (.ifCond .lt 19, 3) := by decide +kernel
theorem dX11_figure_4 : decode cX11_figure 4 = .ok (.iload_n 1, 1) := by decide +kernel
theorem dX11_figure_5 : decode cX11_figure 5 = .ok (.iconst 2, 1) := by decide +kernel
theorem dX11_figure_6 : decode cX11_figure 6 = .ok (.if_icmp .ge 14, 3) := by decide +kernel
theorem dX11_figure_9 : decode cX11_figure 9 = .ok (.iload_n 2, 1) := by decide +kernel
theorem dX11_figure_10 : decode cX11_figure 10 = .ok (.iconst 1, 1) := by decide +kernel
theorem dX11_figure_11 : decode cX11_figure 11 = .ok (.if_icmp .lt 9, 3) := by decide +kernel
theorem dX11_figure_14 : decode cX11_figure 14 = .ok (.iload_n 2, 1) := by decide +kernel
theorem dX11_figure_15 : decode cX11_figure 15 = .ok (.bipush 40, 2) := by decide +kernel
theorem dX11_figure_17 : decode cX11_figure 17 = .ok (.if_icmp .le 13, 3) := by decide +kernel
theorem dX11_figure_20 : decode cX11_figure 20 = .ok (.new 72, 3) := by decide +kernel
theorem dX11_figure_23 : decode cX11_figure 23 = .ok (.dup, 1) := by decide +kernel
theorem dX11_figure_24 : decode cX11_figure 24 = .ok (.ldc 203, 2) := by decide +kernel
theorem dX11_figure_26 : decode cX11_figure 26 = .ok (.invokespecial 76, 3) := by decide +kernel
theorem dX11_figure_29 : decode cX11_figure 29 = .ok (.athrow, 1) := by decide +kernel
theorem dX11_figure_30 : decode cX11_figure 30 = .ok (.aload_n 0, 1) := by decide +kernel
theorem dX11_figure_31 : decode cX11_figure 31 = .ok (.getfield 12, 3) := by decide +kernel
theorem dX11_figure_34 : decode cX11_figure 34 = .ok (.getfield 205, 3) := by decide +kernel
theorem dX11_figure_37 : decode cX11_figure 37 = .ok (.iconst 5, 1) := by decide +kernel
theorem dX11_figure_38 : decode cX11_figure 38 = .ok (.if_icmp .lt 13, 3) := by decide +kernel
theorem dX11_figure_51 : decode cX11_figure 51 = .ok (.aload_n 0, 1) := by decide +kernel
theorem dX11_figure_52 : decode cX11_figure 52 = .ok (.getfield 12, 3) := by decide +kernel
theorem dX11_figure_55 : decode cX11_figure 55 = .ok (.getfield 205, 3) := by decide +kernel
theorem dX11_figure_58 : decode cX11_figure 58 = .ok (.istore_n 3, 1) := by decide +kernel
theorem dX11_figure_59 : decode cX11_figure 59 = .ok (.aload_n 0, 1) := by decide +kernel
theorem dX11_figure_60 : decode cX11_figure 60 = .ok (.getfield 12, 3) := by decide +kernel
theorem dX11_figure_63 : decode cX11_figure 63 = .ok (.getfield 210, 3) := by decide +kernel
theorem dX11_figure_66 : decode cX11_figure 66 = .ok (.iload_n 3, 1) := by decide +kernel
theorem dX11_figure_67 : decode cX11_figure 67 = .ok (.iload_n 1, 1) := by decide +kernel
theorem dX11_figure_68 : decode cX11_figure 68 = .ok (.iastore, 1) := by decide +kernel
theorem dX11_figure_69 : decode cX11_figure 69 = .ok (.aload_n 0, 1) := by decide +kernel
theorem dX11_figure_70 : decode cX11_figure 70 = .ok (.getfield 12, 3) := by decide +kernel
theorem dX11_figure_73 : decode cX11_figure 73 = .ok (.getfield 213, 3) := by decide +kernel
theorem dX11_figure_76 : decode cX11_figure 76 = .ok (.iload_n 3, 1) := by decide +kernel
theorem dX11_figure_77 : decode cX11_figure 77 = .ok (.iload_n 2, 1) := by decide +kernel
theorem dX11_figure_78 : decode cX11_figure 78 = .ok (.iastore, 1) := by decide +kernel
theorem dX11_figure_79 : decode cX11_figure 79 = .ok (.aload_n 0, 1) := by decide +kernel
theorem dX11_figure_80 : decode cX11_figure 80 = .ok (.getfield 12, 3) := by decide +kernel
theorem dX11_figure_83 : decode cX11_figure 83 = .ok (.dup, 1) := by decide +kernel
theorem dX11_figure_84 : decode cX11_figure 84 = .ok (.getfield 205, 3) := by decide +kernel
theorem dX11_figure_87 : decode cX11_figure 87 = .ok (.iconst 1, 1) := by decide +kernel
theorem dX11_figure_88 : decode cX11_figure 88 = .ok (.iadd, 1) := by decide +kernel
theorem dX11_figure_89 : decode cX11_figure 89 = .ok (.putfield 205, 3) := by decide +kernel
theorem dX11_figure_92 : decode cX11_figure 92 = .ok (.aload_n 0, 1) := by decide +kernel
theorem dX11_figure_93 : decode cX11_figure 93 = .ok (.invokevirtual 106, 3) := by decide +kernel
theorem dX11_figure_96 : decode cX11_figure 96 = .ok (.iload_n 3, 1) := by decide +kernel
theorem dX11_figure_97 : decode cX11_figure 97 = .ok (.ireturn, 1) := by decide +kernel
set_option maxHeartbeats 4000000 in
set_option maxRecDepth 100000 in
theorem c_figure (l : Launch) (dC : Nat → ClassId) (dI : Nat → Nat → Nat) (k : Nat → ClassId) (hl0 : l.stackTraces = false) (gx : Nat) (T : Nat) (LA : Nat) (sp : Nat) (dr : Nat) (bl : Nat) (pt : Nat) (fk : Nat) (fh : Nat) (ky : Nat) (L0 : Nat) (L1 : Nat) (LN : Nat) (lc0 : Nat) (le0 : Nat) (ll0 : Nat) (ld0 : Nat) (wl0 : Nat) (op0 : Nat) (dg0 : Nat) (lc1 : Nat) (le1 : Nat) (ll1 : Nat) (ld1 : Nat) (wl1 : Nat) (op1 : Nat) (dg1 : Nat) (R0 : Nat) (P0 : Nat) (R1 : Nat) (P1 : Nat) (x1 : Int32) (x2 : Int32) : Xt l dC dI k yX11_figure (.code yX11_figure cX11_figure 4 (some .int)) ({ frames := 6, cells := 1, slots := 6, locals := 82 } : Room) [.ref gx, .int x1, .int x2] [(gx, .inr (9, [.ref T, .ref LA, .ref sp, .int 0, .ref dr])), (T, .inr (8, [.ref bl, .ref pt, .ref fk, .ref fh, .int 0, .ref ky, .int 60, .int 12])), (fk, .inl (k 0, 5, .inl (fun _ => 0))), (fh, .inl (k 0, 5, .inl (fun _ => 0))), (LA, .inl (k 3, 2, .inr (.inr (.inr (.inr (va_up (va_up (fun _ => none) 0 (some L0)) 1 (some L1))))))), (L0, .inr (1, [.ref T, .int 0, .ref LN, .ref R0, .ref P0, .int 1, .int 0, .ref lc0, .ref le0, .ref ll0, .ref ld0, .ref wl0, .ref op0, .int 0, .int 0, .int 1365, .ref dg0])), (L1, .inr (1, [.ref T, .int 1, .ref LN, .ref R1, .ref P1, .int 1, .int 0, .ref lc1, .ref le1, .ref ll1, .ref ld1, .ref wl1, .ref op1, .int 0, .int 0, .int 1365, .ref dg1]))] (fun r w => (((0 ≤ x1.toInt ∧ x1.toInt ≤ 1) ∧ (1 ≤ x2.toInt ∧ x2.toInt ≤ 40)) ∧ r = some (.int 0) ∧ w = [])) (fun E => (¬ ((0 ≤ x1.toInt ∧ x1.toInt ≤ 1) ∧ (1 ≤ x2.toInt ∧ x2.toInt ≤ 40)) ∧ E = "java/lang/IllegalArgumentException")) := by
  refine xt_of (by decide) (Nat.le_of_ble_eq_true rfl) ?_
  intro p e s m args below meth c H locs B hr hex ls hl
  have hx := B.1.1
  have hb := B.1.2.1
  have hl : lv_has ls 4 [(0, .ref gx), (1, .int x1), (2, .int x2)] := hl
  refine lv_iload_n hx hb dX11_figure_0 rfl (lv_at hl 1 rfl) ?_
  refine lv_if_lt (tgt := 20) hx hb dX11_figure_1 (by decide) (fun c_1 => ?_) (fun c_1 => ?_)
  · have zc_1 : x1.toInt < 0 := zlt c_1
    exact x_thr (tx := "kind or height out of range") xE_iae (⟨by omega, rfl⟩) hl0 B hex hl (by decide +kernel) dX11_figure_20 dX11_figure_23 dX11_figure_24 dX11_figure_26 dX11_figure_29 ⟨Nat.le_of_ble_eq_true rfl, Nat.le_of_ble_eq_true rfl, Nat.le_of_ble_eq_true rfl, Nat.le_of_ble_eq_true rfl⟩ ⟨Nat.le_of_ble_eq_true rfl, Nat.le_of_ble_eq_true rfl⟩
  · have zc_1 : 0 ≤ x1.toInt := znlt c_1
    refine lv_iload_n hx hb dX11_figure_4 rfl (lv_at hl 1 rfl) ?_
    refine lv_iconst (v := 2) hx hb dX11_figure_5 (by decide) ?_
    refine lv_icmp_ge (tgt := 20) hx hb dX11_figure_6 (by decide) (fun c_2 => ?_) (fun c_2 => ?_)
    · have zc_2 : 2 ≤ x1.toInt := zge c_2
      exact x_thr (tx := "kind or height out of range") xE_iae (⟨by omega, rfl⟩) hl0 B hex hl (by decide +kernel) dX11_figure_20 dX11_figure_23 dX11_figure_24 dX11_figure_26 dX11_figure_29 ⟨Nat.le_of_ble_eq_true rfl, Nat.le_of_ble_eq_true rfl, Nat.le_of_ble_eq_true rfl, Nat.le_of_ble_eq_true rfl⟩ ⟨Nat.le_of_ble_eq_true rfl, Nat.le_of_ble_eq_true rfl⟩
    · have zc_2 : x1.toInt < 2 := znge c_2
      refine lv_iload_n hx hb dX11_figure_9 rfl (lv_at hl 2 rfl) ?_
      refine lv_iconst (v := 1) hx hb dX11_figure_10 (by decide) ?_
      refine lv_icmp_lt (tgt := 20) hx hb dX11_figure_11 (by decide) (fun c_3 => ?_) (fun c_3 => ?_)
      · have zc_3 : x2.toInt < 1 := zlt c_3
        exact x_thr (tx := "kind or height out of range") xE_iae (⟨by omega, rfl⟩) hl0 B hex hl (by decide +kernel) dX11_figure_20 dX11_figure_23 dX11_figure_24 dX11_figure_26 dX11_figure_29 ⟨Nat.le_of_ble_eq_true rfl, Nat.le_of_ble_eq_true rfl, Nat.le_of_ble_eq_true rfl, Nat.le_of_ble_eq_true rfl⟩ ⟨Nat.le_of_ble_eq_true rfl, Nat.le_of_ble_eq_true rfl⟩
      · have zc_3 : 1 ≤ x2.toInt := znlt c_3
        refine lv_iload_n hx hb dX11_figure_14 rfl (lv_at hl 2 rfl) ?_
        refine lv_bipush (v := 40) hx hb dX11_figure_15 (by decide) ?_
        refine lv_icmp_le (tgt := 30) hx hb dX11_figure_17 (by decide) (fun c_4 => ?_) (fun c_4 => ?_)
        · have zc_4 : x2.toInt ≤ 40 := zle c_4
          refine lv_aload_n hx hb dX11_figure_30 rfl (lv_at hl 0 rfl) ?_
          refine x_get (ci := 9) (C := RX11) (T := TX11) (N := 5) (v := .ref T) B 0 rfl rfl in_X11 0 (by decide) mw_475 (fun _ h9 => h9) rfl dX11_figure_31 ?_
          refine x_get (ci := 8) (C := RX9) (T := TX9) (N := 8) (v := .int 0) B 1 rfl rfl in_X9 4 (by decide) mw_91 (fun _ h9 => h9) rfl dX11_figure_34 ?_
          refine lv_iconst (v := 5) hx hb dX11_figure_37 (by decide) ?_
          refine lv_icmp_lt (tgt := 51) hx hb dX11_figure_38 (by decide) (fun _ => ?_) (fun c9 => absurd (by decide) c9)
          refine lv_aload_n hx hb dX11_figure_51 rfl (lv_at hl 0 rfl) ?_
          refine x_get (ci := 9) (C := RX11) (T := TX11) (N := 5) (v := .ref T) B 0 rfl rfl in_X11 0 (by decide) mw_475 (fun _ h9 => h9) rfl dX11_figure_52 ?_
          refine x_get (ci := 8) (C := RX9) (T := TX9) (N := 8) (v := .int 0) B 1 rfl rfl in_X9 4 (by decide) mw_91 (fun _ h9 => h9) rfl dX11_figure_55 ?_
          refine lv_istore_n (lv' := [(3, .int 0), (0, .ref gx), (1, .int x1), (2, .int x2)]) hx hb dX11_figure_58 rfl hl (by decide) rfl (fun ls hl => ?_)
          refine lv_aload_n hx hb dX11_figure_59 rfl (lv_at hl 1 rfl) ?_
          refine x_get (ci := 9) (C := RX11) (T := TX11) (N := 5) (v := .ref T) B 0 rfl rfl in_X11 0 (by decide) mw_475 (fun _ h9 => h9) rfl dX11_figure_60 ?_
          refine x_get (ci := 8) (C := RX9) (T := TX9) (N := 8) (v := .ref fk) B 1 rfl rfl in_X9 2 (by decide) mw_85 (fun _ h9 => h9) rfl dX11_figure_63 ?_
          refine lv_iload_n hx hb dX11_figure_66 rfl (lv_at hl 0 rfl) ?_
          refine lv_iload_n hx hb dX11_figure_67 rfl (lv_at hl 2 rfl) ?_
          refine x_iast B 2 rfl (vpc (by decide)) dX11_figure_68 (j := 0) (by decide) (fun H locs B => ?_)
          have B := bd_to (ws' := [(gx, .inr (9, [.ref T, .ref LA, .ref sp, .int 0, .ref dr])), (T, .inr (8, [.ref bl, .ref pt, .ref fk, .ref fh, .int 0, .ref ky, .int 60, .int 12])), (fk, .inl (k 0, 5, .inl (upd (fun _ => 0) 0 x1))), (fh, .inl (k 0, 5, .inl (fun _ => 0))), (LA, .inl (k 3, 2, .inr (.inr (.inr (.inr (va_up (va_up (fun _ => none) 0 (some L0)) 1 (some L1))))))), (L0, .inr (1, [.ref T, .int 0, .ref LN, .ref R0, .ref P0, .int 1, .int 0, .ref lc0, .ref le0, .ref ll0, .ref ld0, .ref wl0, .ref op0, .int 0, .int 0, .int 1365, .ref dg0])), (L1, .inr (1, [.ref T, .int 1, .ref LN, .ref R1, .ref P1, .int 1, .int 0, .ref lc1, .ref le1, .ref ll1, .ref ld1, .ref wl1, .ref op1, .int 0, .int 0, .int 1365, .ref dg1]))]) rfl B
          refine lv_aload_n hx hb dX11_figure_69 rfl (lv_at hl 1 rfl) ?_
          refine x_get (ci := 9) (C := RX11) (T := TX11) (N := 5) (v := .ref T) B 0 rfl rfl in_X11 0 (by decide) mw_475 (fun _ h9 => h9) rfl dX11_figure_70 ?_
          refine x_get (ci := 8) (C := RX9) (T := TX9) (N := 8) (v := .ref fh) B 1 rfl rfl in_X9 3 (by decide) mw_89 (fun _ h9 => h9) rfl dX11_figure_73 ?_
          refine lv_iload_n hx hb dX11_figure_76 rfl (lv_at hl 0 rfl) ?_
          refine lv_iload_n hx hb dX11_figure_77 rfl (lv_at hl 3 rfl) ?_
          refine x_iast B 3 rfl (vpc (by decide)) dX11_figure_78 (j := 0) (by decide) (fun H locs B => ?_)
          have B := bd_to (ws' := [(gx, .inr (9, [.ref T, .ref LA, .ref sp, .int 0, .ref dr])), (T, .inr (8, [.ref bl, .ref pt, .ref fk, .ref fh, .int 0, .ref ky, .int 60, .int 12])), (fk, .inl (k 0, 5, .inl (upd (fun _ => 0) 0 x1))), (fh, .inl (k 0, 5, .inl (upd (fun _ => 0) 0 x2))), (LA, .inl (k 3, 2, .inr (.inr (.inr (.inr (va_up (va_up (fun _ => none) 0 (some L0)) 1 (some L1))))))), (L0, .inr (1, [.ref T, .int 0, .ref LN, .ref R0, .ref P0, .int 1, .int 0, .ref lc0, .ref le0, .ref ll0, .ref ld0, .ref wl0, .ref op0, .int 0, .int 0, .int 1365, .ref dg0])), (L1, .inr (1, [.ref T, .int 1, .ref LN, .ref R1, .ref P1, .int 1, .int 0, .ref lc1, .ref le1, .ref ll1, .ref ld1, .ref wl1, .ref op1, .int 0, .int 0, .int 1365, .ref dg1]))]) rfl B
          refine lv_aload_n hx hb dX11_figure_79 rfl (lv_at hl 1 rfl) ?_
          refine x_get (ci := 9) (C := RX11) (T := TX11) (N := 5) (v := .ref T) B 0 rfl rfl in_X11 0 (by decide) mw_475 (fun _ h9 => h9) rfl dX11_figure_80 ?_
          refine lv_dup hx hb dX11_figure_83 rfl ?_
          refine x_get (ci := 8) (C := RX9) (T := TX9) (N := 8) (v := .int 0) B 1 rfl rfl in_X9 4 (by decide) mw_91 (fun _ h9 => h9) rfl dX11_figure_84 ?_
          refine lv_iconst (v := 1) hx hb dX11_figure_87 (by decide) ?_
          refine lv_iadd hx hb dX11_figure_88 ?_
          refine lv_seti (y := 1) (by decide) ?_
          refine x_put (ci := 8) (C := RX9) (T := TX9) (N := 8) (ty := .int) (v := .int 1) B tyX9_ok nmX9 1 rfl rfl in_X9 4 (by decide) mw_91 (fun _ h9 => h9) rfl (by decide +kernel) rfl rfl (Nat.le_of_ble_eq_true rfl) dX11_figure_89 (fun H locs B => ?_)
          have B := bd_to (ws' := [(gx, .inr (9, [.ref T, .ref LA, .ref sp, .int 0, .ref dr])), (T, .inr (8, [.ref bl, .ref pt, .ref fk, .ref fh, .int 1, .ref ky, .int 60, .int 12])), (fk, .inl (k 0, 5, .inl (upd (fun _ => 0) 0 x1))), (fh, .inl (k 0, 5, .inl (upd (fun _ => 0) 0 x2))), (LA, .inl (k 3, 2, .inr (.inr (.inr (.inr (va_up (va_up (fun _ => none) 0 (some L0)) 1 (some L1))))))), (L0, .inr (1, [.ref T, .int 0, .ref LN, .ref R0, .ref P0, .int 1, .int 0, .ref lc0, .ref le0, .ref ll0, .ref ld0, .ref wl0, .ref op0, .int 0, .int 0, .int 1365, .ref dg0])), (L1, .inr (1, [.ref T, .int 1, .ref LN, .ref R1, .ref P1, .int 1, .int 0, .ref lc1, .ref le1, .ref ll1, .ref ld1, .ref wl1, .ref op1, .int 0, .int 0, .int 1365, .ref dg1]))]) rfl B
          refine lv_aload_n hx hb dX11_figure_92 rfl (lv_at hl 1 rfl) ?_
          refine x_callV (rest := []) (wr := [(T, .inr (8, [.ref bl, .ref pt, .ref fk, .ref fh, .int 1, .ref ky, .int 60, .int 12])), (fk, .inl (k 0, 5, .inl (upd (fun _ => 0) 0 x1))), (fh, .inl (k 0, 5, .inl (upd (fun _ => 0) 0 x2)))]) (c_forgetLayouts l dC dI k gx T LA sp dr L0 L1 LN lc0 le0 ll0 ld0 wl0 op0 dg0 lc1 le1 ll1 ld1 wl1 op1 dg1 R0 P0 R1 P1) B mV_X11_forgetLayouts mw_768 hl [0, 4, 5, 6] [1, 2, 3] rfl rfl ⟨by decide, by decide⟩ (by decide) (q0 := 0) rfl rfl rfl ⟨Nat.le_of_ble_eq_true rfl, Nat.le_of_ble_eq_true rfl⟩ (Nat.le_of_ble_eq_true rfl) rfl dX11_figure_93 ⟨Nat.le_of_ble_eq_true rfl, Nat.le_of_ble_eq_true rfl⟩ (fun r w H locs hp B => ?_)
          obtain ⟨rfl, rfl⟩ := hp
          have B := bd_to (ws' := [(T, .inr (8, [.ref bl, .ref pt, .ref fk, .ref fh, .int 1, .ref ky, .int 60, .int 12])), (fk, .inl (k 0, 5, .inl (upd (fun _ => 0) 0 x1))), (fh, .inl (k 0, 5, .inl (upd (fun _ => 0) 0 x2))), (gx, .inr (9, [.ref T, .ref LA, .ref sp, .int 0, .ref dr]))]) rfl B
          refine lv_iload_n hx hb dX11_figure_96 rfl (lv_at hl 0 rfl) ?_
          have B := bd_sub (ws' := []) [] (by decide) rfl B
          exact vx_ret (x_iret B hr (⟨by omega, rfl, rfl⟩) (Nat.le_of_ble_eq_true rfl) (Nat.le_of_ble_eq_true rfl) dX11_figure_97)
        · have zc_4 : 40 < x2.toInt := znle c_4
          exact x_thr (tx := "kind or height out of range") xE_iae (⟨by omega, rfl⟩) hl0 B hex hl (by decide +kernel) dX11_figure_20 dX11_figure_23 dX11_figure_24 dX11_figure_26 dX11_figure_29 ⟨Nat.le_of_ble_eq_true rfl, Nat.le_of_ble_eq_true rfl, Nat.le_of_ble_eq_true rfl, Nat.le_of_ble_eq_true rfl⟩ ⟨Nat.le_of_ble_eq_true rfl, Nat.le_of_ble_eq_true rfl⟩

theorem mw_98 : (Jvm.Cond.fieldLink "Galleyforge" (218 : Nat) "Galleyforge$Text" "width" "I") ∈ gt := gt_at 233 (by decide +kernel) (by decide +kernel)
theorem mw_102 : (Jvm.Cond.fieldLink "Galleyforge" (221 : Nat) "Galleyforge$Text" "height" "I") ∈ gt := gt_at 237 (by decide +kernel) (by decide +kernel)
theorem dX11_paper_0 : decode cX11_paper 0 = .ok (.iload_n 1, 1) := by decide +kernel
theorem dX11_paper_1 : decode cX11_paper 1 = .ok (.bipush 30, 2) := by decide +kernel
theorem dX11_paper_3 : decode cX11_paper 3 = .ok (.if_icmp .lt 21, 3) := by decide +kernel
theorem dX11_paper_6 : decode cX11_paper 6 = .ok (.iload_n 1, 1) := by decide +kernel
theorem dX11_paper_7 : decode cX11_paper 7 = .ok (.bipush 120, 2) := by decide +kernel
theorem dX11_paper_9 : decode cX11_paper 9 = .ok (.if_icmp .gt 15, 3) := by decide +kernel
theorem dX11_paper_12 : decode cX11_paper 12 = .ok (.iload_n 2, 1) := by decide +kernel
theorem dX11_paper_13 : decode cX11_paper 13 = .ok (.bipush 6, 2) := by decide +kernel
theorem dX11_paper_15 : decode cX11_paper 15 = .ok (.if_icmp .lt 9, 3) := by decide +kernel
theorem dX11_paper_18 : decode cX11_paper 18 = .ok (.iload_n 2, 1) := by decide +kernel
theorem dX11_paper_19 : decode cX11_paper 19 = .ok (.bipush 40, 2) := by decide +kernel
theorem dX11_paper_21 : decode cX11_paper 21 = .ok (.if_icmp .le 13, 3) := by decide +kernel
theorem dX11_paper_24 : decode cX11_paper 24 = .ok (.new 72, 3) := by decide +kernel
theorem dX11_paper_27 : decode cX11_paper 27 = .ok (.dup, 1) := by decide +kernel
theorem dX11_paper_28 : decode cX11_paper 28 = .ok (.ldc 216, 2) := by decide +kernel
theorem dX11_paper_30 : decode cX11_paper 30 = .ok (.invokespecial 76, 3) := by decide +kernel
theorem dX11_paper_33 : decode cX11_paper 33 = .ok (.athrow, 1) := by decide +kernel
theorem dX11_paper_34 : decode cX11_paper 34 = .ok (.aload_n 0, 1) := by decide +kernel
theorem dX11_paper_35 : decode cX11_paper 35 = .ok (.getfield 12, 3) := by decide +kernel
theorem dX11_paper_38 : decode cX11_paper 38 = .ok (.getfield 218, 3) := by decide +kernel
theorem dX11_paper_41 : decode cX11_paper 41 = .ok (.istore_n 3, 1) := by decide +kernel
theorem dX11_paper_42 : decode cX11_paper 42 = .ok (.aload_n 0, 1) := by decide +kernel
theorem dX11_paper_43 : decode cX11_paper 43 = .ok (.getfield 12, 3) := by decide +kernel
theorem dX11_paper_46 : decode cX11_paper 46 = .ok (.iload_n 1, 1) := by decide +kernel
theorem dX11_paper_47 : decode cX11_paper 47 = .ok (.putfield 218, 3) := by decide +kernel
theorem dX11_paper_50 : decode cX11_paper 50 = .ok (.aload_n 0, 1) := by decide +kernel
theorem dX11_paper_51 : decode cX11_paper 51 = .ok (.getfield 12, 3) := by decide +kernel
theorem dX11_paper_54 : decode cX11_paper 54 = .ok (.iload_n 2, 1) := by decide +kernel
theorem dX11_paper_55 : decode cX11_paper 55 = .ok (.putfield 221, 3) := by decide +kernel
theorem dX11_paper_58 : decode cX11_paper 58 = .ok (.aload_n 0, 1) := by decide +kernel
theorem dX11_paper_59 : decode cX11_paper 59 = .ok (.invokevirtual 106, 3) := by decide +kernel
theorem dX11_paper_62 : decode cX11_paper 62 = .ok (.iload_n 3, 1) := by decide +kernel
theorem dX11_paper_63 : decode cX11_paper 63 = .ok (.ireturn, 1) := by decide +kernel
set_option maxHeartbeats 4000000 in
set_option maxRecDepth 100000 in
theorem c_paper (l : Launch) (dC : Nat → ClassId) (dI : Nat → Nat → Nat) (k : Nat → ClassId) (hl0 : l.stackTraces = false) (gx : Nat) (T : Nat) (LA : Nat) (sp : Nat) (dr : Nat) (bl : Nat) (pt : Nat) (fk : Nat) (fh : Nat) (ky : Nat) (L0 : Nat) (L1 : Nat) (LN : Nat) (lc0 : Nat) (le0 : Nat) (ll0 : Nat) (ld0 : Nat) (wl0 : Nat) (op0 : Nat) (dg0 : Nat) (lc1 : Nat) (le1 : Nat) (ll1 : Nat) (ld1 : Nat) (wl1 : Nat) (op1 : Nat) (dg1 : Nat) (R0 : Nat) (P0 : Nat) (R1 : Nat) (P1 : Nat) (x1 : Int32) (x2 : Int32) : Xt l dC dI k yX11_paper (.code yX11_paper cX11_paper 4 (some .int)) ({ frames := 6, cells := 1, slots := 6, locals := 82 } : Room) [.ref gx, .int x1, .int x2] [(gx, .inr (9, [.ref T, .ref LA, .ref sp, .int 0, .ref dr])), (T, .inr (8, [.ref bl, .ref pt, .ref fk, .ref fh, .int 0, .ref ky, .int 60, .int 12])), (LA, .inl (k 3, 2, .inr (.inr (.inr (.inr (va_up (va_up (fun _ => none) 0 (some L0)) 1 (some L1))))))), (L0, .inr (1, [.ref T, .int 0, .ref LN, .ref R0, .ref P0, .int 1, .int 0, .ref lc0, .ref le0, .ref ll0, .ref ld0, .ref wl0, .ref op0, .int 0, .int 0, .int 1365, .ref dg0])), (L1, .inr (1, [.ref T, .int 1, .ref LN, .ref R1, .ref P1, .int 1, .int 0, .ref lc1, .ref le1, .ref ll1, .ref ld1, .ref wl1, .ref op1, .int 0, .int 0, .int 1365, .ref dg1]))] (fun r w => (((30 ≤ x1.toInt ∧ x1.toInt ≤ 120) ∧ (6 ≤ x2.toInt ∧ x2.toInt ≤ 40)) ∧ r = some (.int 60) ∧ w = [])) (fun E => (¬ ((30 ≤ x1.toInt ∧ x1.toInt ≤ 120) ∧ (6 ≤ x2.toInt ∧ x2.toInt ≤ 40)) ∧ E = "java/lang/IllegalArgumentException")) := by
  refine xt_of (by decide) (Nat.le_of_ble_eq_true rfl) ?_
  intro p e s m args below meth c H locs B hr hex ls hl
  have hx := B.1.1
  have hb := B.1.2.1
  have hl : lv_has ls 4 [(0, .ref gx), (1, .int x1), (2, .int x2)] := hl
  refine lv_iload_n hx hb dX11_paper_0 rfl (lv_at hl 1 rfl) ?_
  refine lv_bipush (v := 30) hx hb dX11_paper_1 (by decide) ?_
  refine lv_icmp_lt (tgt := 24) hx hb dX11_paper_3 (by decide) (fun c_1 => ?_) (fun c_1 => ?_)
  · have zc_1 : x1.toInt < 30 := zlt c_1
    exact x_thr (tx := "width or height out of range") xE_iae (⟨by omega, rfl⟩) hl0 B hex hl (by decide +kernel) dX11_paper_24 dX11_paper_27 dX11_paper_28 dX11_paper_30 dX11_paper_33 ⟨Nat.le_of_ble_eq_true rfl, Nat.le_of_ble_eq_true rfl, Nat.le_of_ble_eq_true rfl, Nat.le_of_ble_eq_true rfl⟩ ⟨Nat.le_of_ble_eq_true rfl, Nat.le_of_ble_eq_true rfl⟩
  · have zc_1 : 30 ≤ x1.toInt := znlt c_1
    refine lv_iload_n hx hb dX11_paper_6 rfl (lv_at hl 1 rfl) ?_
    refine lv_bipush (v := 120) hx hb dX11_paper_7 (by decide) ?_
    refine lv_icmp_gt (tgt := 24) hx hb dX11_paper_9 (by decide) (fun c_2 => ?_) (fun c_2 => ?_)
    · have zc_2 : 120 < x1.toInt := zgt c_2
      exact x_thr (tx := "width or height out of range") xE_iae (⟨by omega, rfl⟩) hl0 B hex hl (by decide +kernel) dX11_paper_24 dX11_paper_27 dX11_paper_28 dX11_paper_30 dX11_paper_33 ⟨Nat.le_of_ble_eq_true rfl, Nat.le_of_ble_eq_true rfl, Nat.le_of_ble_eq_true rfl, Nat.le_of_ble_eq_true rfl⟩ ⟨Nat.le_of_ble_eq_true rfl, Nat.le_of_ble_eq_true rfl⟩
    · have zc_2 : x1.toInt ≤ 120 := zngt c_2
      refine lv_iload_n hx hb dX11_paper_12 rfl (lv_at hl 2 rfl) ?_
      refine lv_bipush (v := 6) hx hb dX11_paper_13 (by decide) ?_
      refine lv_icmp_lt (tgt := 24) hx hb dX11_paper_15 (by decide) (fun c_3 => ?_) (fun c_3 => ?_)
      · have zc_3 : x2.toInt < 6 := zlt c_3
        exact x_thr (tx := "width or height out of range") xE_iae (⟨by omega, rfl⟩) hl0 B hex hl (by decide +kernel) dX11_paper_24 dX11_paper_27 dX11_paper_28 dX11_paper_30 dX11_paper_33 ⟨Nat.le_of_ble_eq_true rfl, Nat.le_of_ble_eq_true rfl, Nat.le_of_ble_eq_true rfl, Nat.le_of_ble_eq_true rfl⟩ ⟨Nat.le_of_ble_eq_true rfl, Nat.le_of_ble_eq_true rfl⟩
      · have zc_3 : 6 ≤ x2.toInt := znlt c_3
        refine lv_iload_n hx hb dX11_paper_18 rfl (lv_at hl 2 rfl) ?_
        refine lv_bipush (v := 40) hx hb dX11_paper_19 (by decide) ?_
        refine lv_icmp_le (tgt := 34) hx hb dX11_paper_21 (by decide) (fun c_4 => ?_) (fun c_4 => ?_)
        · have zc_4 : x2.toInt ≤ 40 := zle c_4
          refine lv_aload_n hx hb dX11_paper_34 rfl (lv_at hl 0 rfl) ?_
          refine x_get (ci := 9) (C := RX11) (T := TX11) (N := 5) (v := .ref T) B 0 rfl rfl in_X11 0 (by decide) mw_475 (fun _ h9 => h9) rfl dX11_paper_35 ?_
          refine x_get (ci := 8) (C := RX9) (T := TX9) (N := 8) (v := .int 60) B 1 rfl rfl in_X9 6 (by decide) mw_98 (fun _ h9 => h9) rfl dX11_paper_38 ?_
          refine lv_istore_n (lv' := [(3, .int 60), (0, .ref gx), (1, .int x1), (2, .int x2)]) hx hb dX11_paper_41 rfl hl (by decide) rfl (fun ls hl => ?_)
          refine lv_aload_n hx hb dX11_paper_42 rfl (lv_at hl 1 rfl) ?_
          refine x_get (ci := 9) (C := RX11) (T := TX11) (N := 5) (v := .ref T) B 0 rfl rfl in_X11 0 (by decide) mw_475 (fun _ h9 => h9) rfl dX11_paper_43 ?_
          refine lv_iload_n hx hb dX11_paper_46 rfl (lv_at hl 2 rfl) ?_
          refine x_put (ci := 8) (C := RX9) (T := TX9) (N := 8) (ty := .int) (v := .int x1) B tyX9_ok nmX9 1 rfl rfl in_X9 6 (by decide) mw_98 (fun _ h9 => h9) rfl (by decide +kernel) rfl rfl (Nat.le_of_ble_eq_true rfl) dX11_paper_47 (fun H locs B => ?_)
          have B := bd_to (ws' := [(gx, .inr (9, [.ref T, .ref LA, .ref sp, .int 0, .ref dr])), (T, .inr (8, [.ref bl, .ref pt, .ref fk, .ref fh, .int 0, .ref ky, .int x1, .int 12])), (LA, .inl (k 3, 2, .inr (.inr (.inr (.inr (va_up (va_up (fun _ => none) 0 (some L0)) 1 (some L1))))))), (L0, .inr (1, [.ref T, .int 0, .ref LN, .ref R0, .ref P0, .int 1, .int 0, .ref lc0, .ref le0, .ref ll0, .ref ld0, .ref wl0, .ref op0, .int 0, .int 0, .int 1365, .ref dg0])), (L1, .inr (1, [.ref T, .int 1, .ref LN, .ref R1, .ref P1, .int 1, .int 0, .ref lc1, .ref le1, .ref ll1, .ref ld1, .ref wl1, .ref op1, .int 0, .int 0, .int 1365, .ref dg1]))]) rfl B
          refine lv_aload_n hx hb dX11_paper_50 rfl (lv_at hl 1 rfl) ?_
          refine x_get (ci := 9) (C := RX11) (T := TX11) (N := 5) (v := .ref T) B 0 rfl rfl in_X11 0 (by decide) mw_475 (fun _ h9 => h9) rfl dX11_paper_51 ?_
          refine lv_iload_n hx hb dX11_paper_54 rfl (lv_at hl 3 rfl) ?_
          refine x_put (ci := 8) (C := RX9) (T := TX9) (N := 8) (ty := .int) (v := .int x2) B tyX9_ok nmX9 1 rfl rfl in_X9 7 (by decide) mw_102 (fun _ h9 => h9) rfl (by decide +kernel) rfl rfl (Nat.le_of_ble_eq_true rfl) dX11_paper_55 (fun H locs B => ?_)
          have B := bd_to (ws' := [(gx, .inr (9, [.ref T, .ref LA, .ref sp, .int 0, .ref dr])), (T, .inr (8, [.ref bl, .ref pt, .ref fk, .ref fh, .int 0, .ref ky, .int x1, .int x2])), (LA, .inl (k 3, 2, .inr (.inr (.inr (.inr (va_up (va_up (fun _ => none) 0 (some L0)) 1 (some L1))))))), (L0, .inr (1, [.ref T, .int 0, .ref LN, .ref R0, .ref P0, .int 1, .int 0, .ref lc0, .ref le0, .ref ll0, .ref ld0, .ref wl0, .ref op0, .int 0, .int 0, .int 1365, .ref dg0])), (L1, .inr (1, [.ref T, .int 1, .ref LN, .ref R1, .ref P1, .int 1, .int 0, .ref lc1, .ref le1, .ref ll1, .ref ld1, .ref wl1, .ref op1, .int 0, .int 0, .int 1365, .ref dg1]))]) rfl B
          refine lv_aload_n hx hb dX11_paper_58 rfl (lv_at hl 1 rfl) ?_
          refine x_callV (rest := []) (wr := [(T, .inr (8, [.ref bl, .ref pt, .ref fk, .ref fh, .int 0, .ref ky, .int x1, .int x2]))]) (c_forgetLayouts l dC dI k gx T LA sp dr L0 L1 LN lc0 le0 ll0 ld0 wl0 op0 dg0 lc1 le1 ll1 ld1 wl1 op1 dg1 R0 P0 R1 P1) B mV_X11_forgetLayouts mw_768 hl [0, 2, 3, 4] [1] rfl rfl ⟨by decide, by decide⟩ (by decide) (q0 := 0) rfl rfl rfl ⟨Nat.le_of_ble_eq_true rfl, Nat.le_of_ble_eq_true rfl⟩ (Nat.le_of_ble_eq_true rfl) rfl dX11_paper_59 ⟨Nat.le_of_ble_eq_true rfl, Nat.le_of_ble_eq_true rfl⟩ (fun r w H locs hp B => ?_)
          obtain ⟨rfl, rfl⟩ := hp
          have B := bd_to (ws' := [(T, .inr (8, [.ref bl, .ref pt, .ref fk, .ref fh, .int 0, .ref ky, .int x1, .int x2])), (gx, .inr (9, [.ref T, .ref LA, .ref sp, .int 0, .ref dr]))]) rfl B
          refine lv_iload_n hx hb dX11_paper_62 rfl (lv_at hl 0 rfl) ?_
          have B := bd_sub (ws' := []) [] (by decide) rfl B
          exact vx_ret (x_iret B hr (⟨by omega, rfl, rfl⟩) (Nat.le_of_ble_eq_true rfl) (Nat.le_of_ble_eq_true rfl) dX11_paper_63)
        · have zc_4 : 40 < x2.toInt := znle c_4
          exact x_thr (tx := "width or height out of range") xE_iae (⟨by omega, rfl⟩) hl0 B hex hl (by decide +kernel) dX11_paper_24 dX11_paper_27 dX11_paper_28 dX11_paper_30 dX11_paper_33 ⟨Nat.le_of_ble_eq_true rfl, Nat.le_of_ble_eq_true rfl, Nat.le_of_ble_eq_true rfl, Nat.le_of_ble_eq_true rfl⟩ ⟨Nat.le_of_ble_eq_true rfl, Nat.le_of_ble_eq_true rfl⟩

theorem mw_93 : (Jvm.Cond.fieldLink "Galleyforge" (229 : Nat) "Galleyforge$Text" "keys" "[I") ∈ gt := gt_at 228 (by decide +kernel) (by decide +kernel)
theorem dX11_key_0 : decode cX11_key 0 = .ok (.iload_n 1, 1) := by decide +kernel
theorem dX11_key_1 : decode cX11_key 1 = .ok (.invokestatic 224, 3) := by decide +kernel
theorem dX11_key_4 : decode cX11_key 4 = .ok (.iload_n 2, 1) := by decide +kernel
theorem dX11_key_5 : decode cX11_key 5 = .ok (.ifCond .lt 10, 3) := by decide +kernel
theorem dX11_key_8 : decode cX11_key 8 = .ok (.iload_n 2, 1) := by decide +kernel
theorem dX11_key_9 : decode cX11_key 9 = .ok (.sipush 999, 3) := by decide +kernel
theorem dX11_key_12 : decode cX11_key 12 = .ok (.if_icmp .le 13, 3) := by decide +kernel
theorem dX11_key_15 : decode cX11_key 15 = .ok (.new 72, 3) := by decide +kernel
theorem dX11_key_18 : decode cX11_key 18 = .ok (.dup, 1) := by decide +kernel
theorem dX11_key_19 : decode cX11_key 19 = .ok (.ldc 227, 2) := by decide +kernel
theorem dX11_key_21 : decode cX11_key 21 = .ok (.invokespecial 76, 3) := by decide +kernel
theorem dX11_key_24 : decode cX11_key 24 = .ok (.athrow, 1) := by decide +kernel
theorem dX11_key_25 : decode cX11_key 25 = .ok (.aload_n 0, 1) := by decide +kernel
theorem dX11_key_26 : decode cX11_key 26 = .ok (.getfield 12, 3) := by decide +kernel
theorem dX11_key_29 : decode cX11_key 29 = .ok (.getfield 229, 3) := by decide +kernel
theorem dX11_key_32 : decode cX11_key 32 = .ok (.iload_n 1, 1) := by decide +kernel
theorem dX11_key_33 : decode cX11_key 33 = .ok (.iaload, 1) := by decide +kernel
theorem dX11_key_34 : decode cX11_key 34 = .ok (.istore_n 3, 1) := by decide +kernel
theorem dX11_key_35 : decode cX11_key 35 = .ok (.aload_n 0, 1) := by decide +kernel
theorem dX11_key_36 : decode cX11_key 36 = .ok (.getfield 12, 3) := by decide +kernel
theorem dX11_key_39 : decode cX11_key 39 = .ok (.getfield 229, 3) := by decide +kernel
theorem dX11_key_42 : decode cX11_key 42 = .ok (.iload_n 1, 1) := by decide +kernel
theorem dX11_key_43 : decode cX11_key 43 = .ok (.iload_n 2, 1) := by decide +kernel
theorem dX11_key_44 : decode cX11_key 44 = .ok (.iastore, 1) := by decide +kernel
theorem dX11_key_45 : decode cX11_key 45 = .ok (.iload_n 3, 1) := by decide +kernel
theorem dX11_key_46 : decode cX11_key 46 = .ok (.ireturn, 1) := by decide +kernel
set_option maxHeartbeats 4000000 in
set_option maxRecDepth 100000 in
theorem c_key (l : Launch) (dC : Nat → ClassId) (dI : Nat → Nat → Nat) (k : Nat → ClassId) (hl0 : l.stackTraces = false) (gx : Nat) (T : Nat) (LA : Nat) (sp : Nat) (dr : Nat) (bl : Nat) (pt : Nat) (fk : Nat) (fh : Nat) (ky : Nat) (x1 : Int32) (x2 : Int32) : Xt l dC dI k yX11_key (.code yX11_key cX11_key 4 (some .int)) ({ frames := 7, cells := 2, slots := 12, locals := 102 } : Room) [.ref gx, .int x1, .int x2] [(gx, .inr (9, [.ref T, .ref LA, .ref sp, .int 0, .ref dr])), (T, .inr (8, [.ref bl, .ref pt, .ref fk, .ref fh, .int 0, .ref ky, .int 60, .int 12])), (ky, .inl (k 0, 8, .inl (fun _ => 0)))] (fun r w => ((0 ≤ x1.toInt ∧ x1.toInt ≤ 7) ∧ (0 ≤ x2.toInt ∧ x2.toInt ≤ 999) ∧ r = some (.int 0) ∧ w = [])) (fun E => (¬ (0 ≤ x1.toInt ∧ x1.toInt ≤ 7) ∧ E = "java/lang/IndexOutOfBoundsException") ∨ ((0 ≤ x1.toInt ∧ x1.toInt ≤ 7) ∧ ¬ (0 ≤ x2.toInt ∧ x2.toInt ≤ 999) ∧ E = "java/lang/IllegalArgumentException")) := by
  refine xt_of (by decide) (Nat.le_of_ble_eq_true rfl) ?_
  intro p e s m args below meth c H locs B hr hex ls hl
  have hx := B.1.1
  have hb := B.1.2.1
  have hl : lv_has ls 4 [(0, .ref gx), (1, .int x1), (2, .int x2)] := hl
  refine lv_iload_n hx hb dX11_key_0 rfl (lv_at hl 1 rfl) ?_
  refine x_callSx (rest := []) (wr := [(gx, .inr (9, [.ref T, .ref LA, .ref sp, .int 0, .ref dr])), (T, .inr (8, [.ref bl, .ref pt, .ref fk, .ref fh, .int 0, .ref ky, .int 60, .int 12])), (ky, .inl (k 0, 8, .inl (fun _ => 0)))]) (c_checkTerm l dC dI k hl0 x1) B mS_X11_checkTerm mw_1260 hl [] [0, 1, 2] rfl rfl ⟨by decide, by decide⟩ (by decide) ⟨Nat.le_of_ble_eq_true rfl, Nat.le_of_ble_eq_true rfl⟩ (Nat.le_of_ble_eq_true rfl) rfl dX11_key_1 ⟨Nat.le_of_ble_eq_true rfl, Nat.le_of_ble_eq_true rfl⟩ (fun E ce q9 H locs hp B h1 h2 h3 => ?_) (fun r w H locs hp B => ?_)
  · rcases hp with ⟨z0_0, rfl⟩
    exact x_out hex (Or.inl (⟨by omega, rfl⟩)) B h1 h2 h3 (Nat.le_of_ble_eq_true rfl) (Nat.le_of_ble_eq_true rfl)
  · skip
    obtain ⟨z_2, rfl, rfl⟩ := hp
    have B := bd_to (ws' := [(gx, .inr (9, [.ref T, .ref LA, .ref sp, .int 0, .ref dr])), (T, .inr (8, [.ref bl, .ref pt, .ref fk, .ref fh, .int 0, .ref ky, .int 60, .int 12])), (ky, .inl (k 0, 8, .inl (fun _ => 0)))]) rfl B
    refine lv_iload_n hx hb dX11_key_4 rfl (lv_at hl 2 rfl) ?_
    refine lv_if_lt (tgt := 15) hx hb dX11_key_5 (by decide) (fun c_3 => ?_) (fun c_3 => ?_)
    · have zc_3 : x2.toInt < 0 := zlt c_3
      exact x_thr (tx := "key out of range") xE_iae (Or.inr (⟨by omega, by omega, rfl⟩)) hl0 B hex hl (by decide +kernel) dX11_key_15 dX11_key_18 dX11_key_19 dX11_key_21 dX11_key_24 ⟨Nat.le_of_ble_eq_true rfl, Nat.le_of_ble_eq_true rfl, Nat.le_of_ble_eq_true rfl, Nat.le_of_ble_eq_true rfl⟩ ⟨Nat.le_of_ble_eq_true rfl, Nat.le_of_ble_eq_true rfl⟩
    · have zc_3 : 0 ≤ x2.toInt := znlt c_3
      refine lv_iload_n hx hb dX11_key_8 rfl (lv_at hl 2 rfl) ?_
      refine lv_sipush (v := 999) hx hb dX11_key_9 (by decide) ?_
      refine lv_icmp_le (tgt := 25) hx hb dX11_key_12 (by decide) (fun c_4 => ?_) (fun c_4 => ?_)
      · have zc_4 : x2.toInt ≤ 999 := zle c_4
        refine lv_aload_n hx hb dX11_key_25 rfl (lv_at hl 0 rfl) ?_
        refine x_get (ci := 9) (C := RX11) (T := TX11) (N := 5) (v := .ref T) B 0 rfl rfl in_X11 0 (by decide) mw_475 (fun _ h9 => h9) rfl dX11_key_26 ?_
        refine x_get (ci := 8) (C := RX9) (T := TX9) (N := 8) (v := .ref ky) B 1 rfl rfl in_X9 5 (by decide) mw_93 (fun _ h9 => h9) rfl dX11_key_29 ?_
        refine lv_iload_n hx hb dX11_key_32 rfl (lv_at hl 1 rfl) ?_
        refine x_iald (v := 0) B 2 rfl (zin (by omega) (by omega)) dX11_key_33 rfl ?_
        refine lv_istore_n (lv' := [(3, .int 0), (0, .ref gx), (1, .int x1), (2, .int x2)]) hx hb dX11_key_34 rfl hl (by decide) rfl (fun ls hl => ?_)
        refine lv_aload_n hx hb dX11_key_35 rfl (lv_at hl 1 rfl) ?_
        refine x_get (ci := 9) (C := RX11) (T := TX11) (N := 5) (v := .ref T) B 0 rfl rfl in_X11 0 (by decide) mw_475 (fun _ h9 => h9) rfl dX11_key_36 ?_
        refine x_get (ci := 8) (C := RX9) (T := TX9) (N := 8) (v := .ref ky) B 1 rfl rfl in_X9 5 (by decide) mw_93 (fun _ h9 => h9) rfl dX11_key_39 ?_
        refine lv_iload_n hx hb dX11_key_42 rfl (lv_at hl 2 rfl) ?_
        refine lv_iload_n hx hb dX11_key_43 rfl (lv_at hl 3 rfl) ?_
        refine x_iast B 2 rfl (zin (by omega) (by omega)) dX11_key_44 (j := (x1.toNatClampNeg)) rfl (fun H locs B => ?_)
        have B := bd_to (ws' := [(gx, .inr (9, [.ref T, .ref LA, .ref sp, .int 0, .ref dr])), (T, .inr (8, [.ref bl, .ref pt, .ref fk, .ref fh, .int 0, .ref ky, .int 60, .int 12])), (ky, .inl (k 0, 8, .inl (upd (fun _ => 0) (x1.toNatClampNeg) x2)))]) rfl B
        refine lv_iload_n hx hb dX11_key_45 rfl (lv_at hl 0 rfl) ?_
        have B := bd_sub (ws' := []) [] (by decide) rfl B
        exact vx_ret (x_iret B hr (⟨by omega, by omega, rfl, rfl⟩) (Nat.le_of_ble_eq_true rfl) (Nat.le_of_ble_eq_true rfl) dX11_key_46)
      · have zc_4 : 999 < x2.toInt := znle c_4
        exact x_thr (tx := "key out of range") xE_iae (Or.inr (⟨by omega, by omega, rfl⟩)) hl0 B hex hl (by decide +kernel) dX11_key_15 dX11_key_18 dX11_key_19 dX11_key_21 dX11_key_24 ⟨Nat.le_of_ble_eq_true rfl, Nat.le_of_ble_eq_true rfl, Nat.le_of_ble_eq_true rfl, Nat.le_of_ble_eq_true rfl⟩ ⟨Nat.le_of_ble_eq_true rfl, Nat.le_of_ble_eq_true rfl⟩

theorem mw_1141 : (Jvm.Cond.methodLink "Galleyforge$Table" (3 : Nat) ({ cls := "java/lang/Object", name := "<init>", desc := "()V" } : Jvm.MethodName)) ∈ gt := gt_at 1276 (by decide +kernel) (by decide +kernel)
theorem mw_1142 : (Jvm.Cond.fieldLink "Galleyforge$Table" (9 : Nat) "Galleyforge$Table" "spans" "[I") ∈ gt := gt_at 1277 (by decide +kernel) (by decide +kernel)
theorem mw_1143 : (Jvm.Cond.fieldLink "Galleyforge$Table" (15 : Nat) "Galleyforge$Table" "leasts" "[I") ∈ gt := gt_at 1278 (by decide +kernel) (by decide +kernel)
theorem mw_1144 : (Jvm.Cond.fieldLink "Galleyforge$Table" (18 : Nat) "Galleyforge$Table" "bests" "[I") ∈ gt := gt_at 1279 (by decide +kernel) (by decide +kernel)
theorem mw_1145 : (Jvm.Cond.fieldLink "Galleyforge$Table" (21 : Nat) "Galleyforge$Table" "leastWidths" "[I") ∈ gt := gt_at 1280 (by decide +kernel) (by decide +kernel)
theorem mw_1146 : (Jvm.Cond.fieldLink "Galleyforge$Table" (24 : Nat) "Galleyforge$Table" "bestWidths" "[I") ∈ gt := gt_at 1281 (by decide +kernel) (by decide +kernel)
theorem mw_1147 : (Jvm.Cond.fieldLink "Galleyforge$Table" (27 : Nat) "Galleyforge$Table" "wishes" "[I") ∈ gt := gt_at 1282 (by decide +kernel) (by decide +kernel)
theorem mw_1148 : (Jvm.Cond.fieldLink "Galleyforge$Table" (30 : Nat) "Galleyforge$Table" "widths" "[I") ∈ gt := gt_at 1283 (by decide +kernel) (by decide +kernel)
theorem in_X8 : ∀ w ∈ u_ws RX8 TX8 7, w ∈ gt := in_of _ [1285, 1287, 1289, 1291, 1293, 1295, 1297] (by decide +kernel) (by decide +kernel)
theorem dX8_init_0 : decode cX8_init 0 = .ok (.aload_n 0, 1) := by decide +kernel
theorem dX8_init_1 : decode cX8_init 1 = .ok (.invokespecial 3, 3) := by decide +kernel
theorem dX8_init_4 : decode cX8_init 4 = .ok (.aload_n 0, 1) := by decide +kernel
theorem dX8_init_5 : decode cX8_init 5 = .ok (.bipush 12, 2) := by decide +kernel
theorem dX8_init_7 : decode cX8_init 7 = .ok (.newarray .int, 2) := by decide +kernel
theorem dX8_init_9 : decode cX8_init 9 = .ok (.putfield 9, 3) := by decide +kernel
theorem dX8_init_12 : decode cX8_init 12 = .ok (.aload_n 0, 1) := by decide +kernel
theorem dX8_init_13 : decode cX8_init 13 = .ok (.bipush 12, 2) := by decide +kernel
theorem dX8_init_15 : decode cX8_init 15 = .ok (.newarray .int, 2) := by decide +kernel
theorem dX8_init_17 : decode cX8_init 17 = .ok (.putfield 15, 3) := by decide +kernel
theorem dX8_init_20 : decode cX8_init 20 = .ok (.aload_n 0, 1) := by decide +kernel
theorem dX8_init_21 : decode cX8_init 21 = .ok (.bipush 12, 2) := by decide +kernel
theorem dX8_init_23 : decode cX8_init 23 = .ok (.newarray .int, 2) := by decide +kernel
theorem dX8_init_25 : decode cX8_init 25 = .ok (.putfield 18, 3) := by decide +kernel
theorem dX8_init_28 : decode cX8_init 28 = .ok (.aload_n 0, 1) := by decide +kernel
theorem dX8_init_29 : decode cX8_init 29 = .ok (.iconst 3, 1) := by decide +kernel
theorem dX8_init_30 : decode cX8_init 30 = .ok (.newarray .int, 2) := by decide +kernel
theorem dX8_init_32 : decode cX8_init 32 = .ok (.putfield 21, 3) := by decide +kernel
theorem dX8_init_35 : decode cX8_init 35 = .ok (.aload_n 0, 1) := by decide +kernel
theorem dX8_init_36 : decode cX8_init 36 = .ok (.iconst 3, 1) := by decide +kernel
theorem dX8_init_37 : decode cX8_init 37 = .ok (.newarray .int, 2) := by decide +kernel
theorem dX8_init_39 : decode cX8_init 39 = .ok (.putfield 24, 3) := by decide +kernel
theorem dX8_init_42 : decode cX8_init 42 = .ok (.aload_n 0, 1) := by decide +kernel
theorem dX8_init_43 : decode cX8_init 43 = .ok (.iconst 3, 1) := by decide +kernel
theorem dX8_init_44 : decode cX8_init 44 = .ok (.newarray .int, 2) := by decide +kernel
theorem dX8_init_46 : decode cX8_init 46 = .ok (.putfield 27, 3) := by decide +kernel
theorem dX8_init_49 : decode cX8_init 49 = .ok (.aload_n 0, 1) := by decide +kernel
theorem dX8_init_50 : decode cX8_init 50 = .ok (.iconst 3, 1) := by decide +kernel
theorem dX8_init_51 : decode cX8_init 51 = .ok (.newarray .int, 2) := by decide +kernel
theorem dX8_init_53 : decode cX8_init 53 = .ok (.putfield 30, 3) := by decide +kernel
theorem dX8_init_56 : decode cX8_init 56 = .ok (.return_, 1) := by decide +kernel
set_option maxHeartbeats 4000000 in
set_option maxRecDepth 100000 in
theorem c_Table_init (l : Launch) (dC : Nat → ClassId) (dI : Nat → Nat → Nat) (k : Nat → ClassId) (a : Nat) : Ct l dC dI k yX8_init (.code yX8_init cX8_init 1 none) ({ frames := 1, cells := 7, slots := 48, locals := 12 } : Room) [.ref a] [(a, .inr (7, [.null, .null, .null, .null, .null, .null, .null]))] (fun r w => (r = none ∧ w = [])) := by
  refine ct_of (by decide) (Nat.le_of_ble_eq_true rfl) ?_
  intro p e s m args below meth c H locs B hr hnm ls hl
  have hx := B.1.1
  have hb := B.1.2.1
  have hl : lv_has ls 1 [(0, .ref a)] := hl
  refine lv_aload_n hx hb dX8_init_0 rfl (lv_at hl 0 rfl) ?_
  refine x_obj B mw_1141 mw_42 mw_obj hl dX8_init_1 (Nat.le_of_ble_eq_true rfl) (Nat.le_of_ble_eq_true rfl) ?_
  refine lv_aload_n hx hb dX8_init_4 rfl (lv_at hl 0 rfl) ?_
  refine lv_bipush (v := 12) hx hb dX8_init_5 (by decide) ?_
  refine x_newa (atype := .int) (ty := .int) (N' := 12) (a0 := (12, .inl (fun _ => 0))) B mw_120 rfl 0 rfl pr_int (fun _ => rfl) (by decide) (by decide) (Nat.le_of_ble_eq_true rfl) (Nat.le_of_ble_eq_true rfl) (Nat.le_of_ble_eq_true rfl) dX8_init_7 (fun q_1 H B => ?_)
  have B := bd_to (ws' := [(a, .inr (7, [.null, .null, .null, .null, .null, .null, .null])), (q_1, .inl (k 0, 12, .inl (fun _ => 0)))]) rfl B
  refine x_putF (ci := 7) (C := RX8) (T := TX8) (N := 7) (ty := .array .int) (v := .ref q_1) B tyX8_ok nmX8 0 rfl rfl in_X8 0 (by decide) mw_1142 (fun _ h9 => h9) rfl hnm rfl (by decide +kernel) rfl rfl (Nat.le_of_ble_eq_true rfl) dX8_init_9 (fun H locs B => ?_)
  have B := bd_to (ws' := [(a, .inr (7, [.ref q_1, .null, .null, .null, .null, .null, .null])), (q_1, .inl (k 0, 12, .inl (fun _ => 0)))]) rfl B
  refine lv_aload_n hx hb dX8_init_12 rfl (lv_at hl 0 rfl) ?_
  refine lv_bipush (v := 12) hx hb dX8_init_13 (by decide) ?_
  refine x_newa (atype := .int) (ty := .int) (N' := 12) (a0 := (12, .inl (fun _ => 0))) B mw_120 rfl 0 rfl pr_int (fun _ => rfl) (by decide) (by decide) (Nat.le_of_ble_eq_true rfl) (Nat.le_of_ble_eq_true rfl) (Nat.le_of_ble_eq_true rfl) dX8_init_15 (fun q_2 H B => ?_)
  have B := bd_to (ws' := [(a, .inr (7, [.ref q_1, .null, .null, .null, .null, .null, .null])), (q_1, .inl (k 0, 12, .inl (fun _ => 0))), (q_2, .inl (k 0, 12, .inl (fun _ => 0)))]) rfl B
  refine x_putF (ci := 7) (C := RX8) (T := TX8) (N := 7) (ty := .array .int) (v := .ref q_2) B tyX8_ok nmX8 0 rfl rfl in_X8 1 (by decide) mw_1143 (fun _ h9 => h9) rfl hnm rfl (by decide +kernel) rfl rfl (Nat.le_of_ble_eq_true rfl) dX8_init_17 (fun H locs B => ?_)
  have B := bd_to (ws' := [(a, .inr (7, [.ref q_1, .ref q_2, .null, .null, .null, .null, .null])), (q_1, .inl (k 0, 12, .inl (fun _ => 0))), (q_2, .inl (k 0, 12, .inl (fun _ => 0)))]) rfl B
  refine lv_aload_n hx hb dX8_init_20 rfl (lv_at hl 0 rfl) ?_
  refine lv_bipush (v := 12) hx hb dX8_init_21 (by decide) ?_
  refine x_newa (atype := .int) (ty := .int) (N' := 12) (a0 := (12, .inl (fun _ => 0))) B mw_120 rfl 0 rfl pr_int (fun _ => rfl) (by decide) (by decide) (Nat.le_of_ble_eq_true rfl) (Nat.le_of_ble_eq_true rfl) (Nat.le_of_ble_eq_true rfl) dX8_init_23 (fun q_3 H B => ?_)
  have B := bd_to (ws' := [(a, .inr (7, [.ref q_1, .ref q_2, .null, .null, .null, .null, .null])), (q_1, .inl (k 0, 12, .inl (fun _ => 0))), (q_2, .inl (k 0, 12, .inl (fun _ => 0))), (q_3, .inl (k 0, 12, .inl (fun _ => 0)))]) rfl B
  refine x_putF (ci := 7) (C := RX8) (T := TX8) (N := 7) (ty := .array .int) (v := .ref q_3) B tyX8_ok nmX8 0 rfl rfl in_X8 2 (by decide) mw_1144 (fun _ h9 => h9) rfl hnm rfl (by decide +kernel) rfl rfl (Nat.le_of_ble_eq_true rfl) dX8_init_25 (fun H locs B => ?_)
  have B := bd_to (ws' := [(a, .inr (7, [.ref q_1, .ref q_2, .ref q_3, .null, .null, .null, .null])), (q_1, .inl (k 0, 12, .inl (fun _ => 0))), (q_2, .inl (k 0, 12, .inl (fun _ => 0))), (q_3, .inl (k 0, 12, .inl (fun _ => 0)))]) rfl B
  refine lv_aload_n hx hb dX8_init_28 rfl (lv_at hl 0 rfl) ?_
  refine lv_iconst (v := 3) hx hb dX8_init_29 (by decide) ?_
  refine x_newa (atype := .int) (ty := .int) (N' := 3) (a0 := (3, .inl (fun _ => 0))) B mw_120 rfl 0 rfl pr_int (fun _ => rfl) (by decide) (by decide) (Nat.le_of_ble_eq_true rfl) (Nat.le_of_ble_eq_true rfl) (Nat.le_of_ble_eq_true rfl) dX8_init_30 (fun q_4 H B => ?_)
  have B := bd_to (ws' := [(a, .inr (7, [.ref q_1, .ref q_2, .ref q_3, .null, .null, .null, .null])), (q_1, .inl (k 0, 12, .inl (fun _ => 0))), (q_2, .inl (k 0, 12, .inl (fun _ => 0))), (q_3, .inl (k 0, 12, .inl (fun _ => 0))), (q_4, .inl (k 0, 3, .inl (fun _ => 0)))]) rfl B
  refine x_putF (ci := 7) (C := RX8) (T := TX8) (N := 7) (ty := .array .int) (v := .ref q_4) B tyX8_ok nmX8 0 rfl rfl in_X8 3 (by decide) mw_1145 (fun _ h9 => h9) rfl hnm rfl (by decide +kernel) rfl rfl (Nat.le_of_ble_eq_true rfl) dX8_init_32 (fun H locs B => ?_)
  have B := bd_to (ws' := [(a, .inr (7, [.ref q_1, .ref q_2, .ref q_3, .ref q_4, .null, .null, .null])), (q_1, .inl (k 0, 12, .inl (fun _ => 0))), (q_2, .inl (k 0, 12, .inl (fun _ => 0))), (q_3, .inl (k 0, 12, .inl (fun _ => 0))), (q_4, .inl (k 0, 3, .inl (fun _ => 0)))]) rfl B
  refine lv_aload_n hx hb dX8_init_35 rfl (lv_at hl 0 rfl) ?_
  refine lv_iconst (v := 3) hx hb dX8_init_36 (by decide) ?_
  refine x_newa (atype := .int) (ty := .int) (N' := 3) (a0 := (3, .inl (fun _ => 0))) B mw_120 rfl 0 rfl pr_int (fun _ => rfl) (by decide) (by decide) (Nat.le_of_ble_eq_true rfl) (Nat.le_of_ble_eq_true rfl) (Nat.le_of_ble_eq_true rfl) dX8_init_37 (fun q_5 H B => ?_)
  have B := bd_to (ws' := [(a, .inr (7, [.ref q_1, .ref q_2, .ref q_3, .ref q_4, .null, .null, .null])), (q_1, .inl (k 0, 12, .inl (fun _ => 0))), (q_2, .inl (k 0, 12, .inl (fun _ => 0))), (q_3, .inl (k 0, 12, .inl (fun _ => 0))), (q_4, .inl (k 0, 3, .inl (fun _ => 0))), (q_5, .inl (k 0, 3, .inl (fun _ => 0)))]) rfl B
  refine x_putF (ci := 7) (C := RX8) (T := TX8) (N := 7) (ty := .array .int) (v := .ref q_5) B tyX8_ok nmX8 0 rfl rfl in_X8 4 (by decide) mw_1146 (fun _ h9 => h9) rfl hnm rfl (by decide +kernel) rfl rfl (Nat.le_of_ble_eq_true rfl) dX8_init_39 (fun H locs B => ?_)
  have B := bd_to (ws' := [(a, .inr (7, [.ref q_1, .ref q_2, .ref q_3, .ref q_4, .ref q_5, .null, .null])), (q_1, .inl (k 0, 12, .inl (fun _ => 0))), (q_2, .inl (k 0, 12, .inl (fun _ => 0))), (q_3, .inl (k 0, 12, .inl (fun _ => 0))), (q_4, .inl (k 0, 3, .inl (fun _ => 0))), (q_5, .inl (k 0, 3, .inl (fun _ => 0)))]) rfl B
  refine lv_aload_n hx hb dX8_init_42 rfl (lv_at hl 0 rfl) ?_
  refine lv_iconst (v := 3) hx hb dX8_init_43 (by decide) ?_
  refine x_newa (atype := .int) (ty := .int) (N' := 3) (a0 := (3, .inl (fun _ => 0))) B mw_120 rfl 0 rfl pr_int (fun _ => rfl) (by decide) (by decide) (Nat.le_of_ble_eq_true rfl) (Nat.le_of_ble_eq_true rfl) (Nat.le_of_ble_eq_true rfl) dX8_init_44 (fun q_6 H B => ?_)
  have B := bd_to (ws' := [(a, .inr (7, [.ref q_1, .ref q_2, .ref q_3, .ref q_4, .ref q_5, .null, .null])), (q_1, .inl (k 0, 12, .inl (fun _ => 0))), (q_2, .inl (k 0, 12, .inl (fun _ => 0))), (q_3, .inl (k 0, 12, .inl (fun _ => 0))), (q_4, .inl (k 0, 3, .inl (fun _ => 0))), (q_5, .inl (k 0, 3, .inl (fun _ => 0))), (q_6, .inl (k 0, 3, .inl (fun _ => 0)))]) rfl B
  refine x_putF (ci := 7) (C := RX8) (T := TX8) (N := 7) (ty := .array .int) (v := .ref q_6) B tyX8_ok nmX8 0 rfl rfl in_X8 5 (by decide) mw_1147 (fun _ h9 => h9) rfl hnm rfl (by decide +kernel) rfl rfl (Nat.le_of_ble_eq_true rfl) dX8_init_46 (fun H locs B => ?_)
  have B := bd_to (ws' := [(a, .inr (7, [.ref q_1, .ref q_2, .ref q_3, .ref q_4, .ref q_5, .ref q_6, .null])), (q_1, .inl (k 0, 12, .inl (fun _ => 0))), (q_2, .inl (k 0, 12, .inl (fun _ => 0))), (q_3, .inl (k 0, 12, .inl (fun _ => 0))), (q_4, .inl (k 0, 3, .inl (fun _ => 0))), (q_5, .inl (k 0, 3, .inl (fun _ => 0))), (q_6, .inl (k 0, 3, .inl (fun _ => 0)))]) rfl B
  refine lv_aload_n hx hb dX8_init_49 rfl (lv_at hl 0 rfl) ?_
  refine lv_iconst (v := 3) hx hb dX8_init_50 (by decide) ?_
  refine x_newa (atype := .int) (ty := .int) (N' := 3) (a0 := (3, .inl (fun _ => 0))) B mw_120 rfl 0 rfl pr_int (fun _ => rfl) (by decide) (by decide) (Nat.le_of_ble_eq_true rfl) (Nat.le_of_ble_eq_true rfl) (Nat.le_of_ble_eq_true rfl) dX8_init_51 (fun q_7 H B => ?_)
  have B := bd_to (ws' := [(a, .inr (7, [.ref q_1, .ref q_2, .ref q_3, .ref q_4, .ref q_5, .ref q_6, .null])), (q_1, .inl (k 0, 12, .inl (fun _ => 0))), (q_2, .inl (k 0, 12, .inl (fun _ => 0))), (q_3, .inl (k 0, 12, .inl (fun _ => 0))), (q_4, .inl (k 0, 3, .inl (fun _ => 0))), (q_5, .inl (k 0, 3, .inl (fun _ => 0))), (q_6, .inl (k 0, 3, .inl (fun _ => 0))), (q_7, .inl (k 0, 3, .inl (fun _ => 0)))]) rfl B
  refine x_putF (ci := 7) (C := RX8) (T := TX8) (N := 7) (ty := .array .int) (v := .ref q_7) B tyX8_ok nmX8 0 rfl rfl in_X8 6 (by decide) mw_1148 (fun _ h9 => h9) rfl hnm rfl (by decide +kernel) rfl rfl (Nat.le_of_ble_eq_true rfl) dX8_init_53 (fun H locs B => ?_)
  have B := bd_to (ws' := [(a, .inr (7, [.ref q_1, .ref q_2, .ref q_3, .ref q_4, .ref q_5, .ref q_6, .ref q_7])), (q_1, .inl (k 0, 12, .inl (fun _ => 0))), (q_2, .inl (k 0, 12, .inl (fun _ => 0))), (q_3, .inl (k 0, 12, .inl (fun _ => 0))), (q_4, .inl (k 0, 3, .inl (fun _ => 0))), (q_5, .inl (k 0, 3, .inl (fun _ => 0))), (q_6, .inl (k 0, 3, .inl (fun _ => 0))), (q_7, .inl (k 0, 3, .inl (fun _ => 0)))]) rfl B
  have B := bd_sub (ws' := []) [] (by decide) rfl B
  exact x_vret B hr (⟨rfl, rfl⟩) (Nat.le_of_ble_eq_true rfl) (Nat.le_of_ble_eq_true rfl) dX8_init_56

theorem mw_35 : (Jvm.Cond.initialized "Galleyforge$Table") ∈ gt := gt_at 170 (by decide +kernel) (by decide +kernel)
theorem mw_1133 : (Jvm.Cond.methodLink "Galleyforge$Block" (3 : Nat) ({ cls := "java/lang/Object", name := "<init>", desc := "()V" } : Jvm.MethodName)) ∈ gt := gt_at 1268 (by decide +kernel) (by decide +kernel)
theorem mw_1134 : (Jvm.Cond.classLink "Galleyforge$Block" (15 : Nat) "java/util/ArrayList") ∈ gt := gt_at 1269 (by decide +kernel) (by decide +kernel)
theorem mw_1135 : (Jvm.Cond.methodLink "Galleyforge$Block" (17 : Nat) ({ cls := "java/util/ArrayList", name := "<init>", desc := "()V" } : Jvm.MethodName)) ∈ gt := gt_at 1270 (by decide +kernel) (by decide +kernel)
theorem mw_1136 : (Jvm.Cond.classLink "Galleyforge$Block" (26 : Nat) "Galleyforge$Table") ∈ gt := gt_at 1271 (by decide +kernel) (by decide +kernel)
theorem mw_1137 : (Jvm.Cond.instantiable "Galleyforge$Table" (7 : Nat)) ∈ gt := gt_at 1272 (by decide +kernel) (by decide +kernel)
theorem mw_1139 : (Jvm.Cond.instanceMethod ({ cls := "Galleyforge$Table", name := "<init>", desc := "()V" } : Jvm.MethodName)) ∈ gt := gt_at 1274 (by decide +kernel) (by decide +kernel)
theorem mw_1140 : (Jvm.Cond.code ({ cls := "Galleyforge$Table", name := "<init>", desc := "()V" } : Jvm.MethodName) prog_10_method_1_code (1 : Nat) (Option.none : Option Jvm.ClassFile.FieldType)) ∈ gt := gt_at 1275 (by decide +kernel) (by decide +kernel)
theorem mw_1165 : (Jvm.Cond.fieldLink "Galleyforge$Block" (22 : Nat) "Galleyforge$Block" "kind" "I") ∈ gt := gt_at 1300 (by decide +kernel) (by decide +kernel)
theorem mw_1172 : (Jvm.Cond.fieldLink "Galleyforge$Block" (9 : Nat) "Galleyforge$Block" "styles" "[I") ∈ gt := gt_at 1307 (by decide +kernel) (by decide +kernel)
theorem mw_1178 : (Jvm.Cond.fieldLink "Galleyforge$Block" (18 : Nat) "Galleyforge$Block" "words" "Ljava/util/ArrayList;") ∈ gt := gt_at 1313 (by decide +kernel) (by decide +kernel)
theorem mw_1184 : (Jvm.Cond.fieldLink "Galleyforge$Block" (29 : Nat) "Galleyforge$Block" "table" "LGalleyforge$Table;") ∈ gt := gt_at 1319 (by decide +kernel) (by decide +kernel)
theorem mI_X8_init : mI yX8_init cX8_init 1 0 := ⟨⟨mw_1140, mw_35, by decide, by decide, by decide +kernel⟩, mw_1139, rfl⟩
theorem in_X0 : ∀ w ∈ u_ws RX0 TX0 4, w ∈ gt := in_of _ [1322, 1324, 1326, 1328] (by decide +kernel) (by decide +kernel)
theorem dX0_init_0 : decode cX0_init 0 = .ok (.aload_n 0, 1) := by decide +kernel
theorem dX0_init_1 : decode cX0_init 1 = .ok (.invokespecial 3, 3) := by decide +kernel
theorem dX0_init_4 : decode cX0_init 4 = .ok (.aload_n 0, 1) := by decide +kernel
theorem dX0_init_5 : decode cX0_init 5 = .ok (.bipush 7, 2) := by decide +kernel
theorem dX0_init_7 : decode cX0_init 7 = .ok (.newarray .int, 2) := by decide +kernel
theorem dX0_init_9 : decode cX0_init 9 = .ok (.dup, 1) := by decide +kernel
theorem dX0_init_10 : decode cX0_init 10 = .ok (.iconst 0, 1) := by decide +kernel
theorem dX0_init_11 : decode cX0_init 11 = .ok (.iconst 0, 1) := by decide +kernel
theorem dX0_init_12 : decode cX0_init 12 = .ok (.iastore, 1) := by decide +kernel
theorem dX0_init_13 : decode cX0_init 13 = .ok (.dup, 1) := by decide +kernel
theorem dX0_init_14 : decode cX0_init 14 = .ok (.iconst 1, 1) := by decide +kernel
theorem dX0_init_15 : decode cX0_init 15 = .ok (.iconst 0, 1) := by decide +kernel
theorem dX0_init_16 : decode cX0_init 16 = .ok (.iastore, 1) := by decide +kernel
theorem dX0_init_17 : decode cX0_init 17 = .ok (.dup, 1) := by decide +kernel
theorem dX0_init_18 : decode cX0_init 18 = .ok (.iconst 2, 1) := by decide +kernel
theorem dX0_init_19 : decode cX0_init 19 = .ok (.iconst 0, 1) := by decide +kernel
theorem dX0_init_20 : decode cX0_init 20 = .ok (.iastore, 1) := by decide +kernel
theorem dX0_init_21 : decode cX0_init 21 = .ok (.dup, 1) := by decide +kernel
theorem dX0_init_22 : decode cX0_init 22 = .ok (.iconst 3, 1) := by decide +kernel
theorem dX0_init_23 : decode cX0_init 23 = .ok (.iconst 1, 1) := by decide +kernel
theorem dX0_init_24 : decode cX0_init 24 = .ok (.iastore, 1) := by decide +kernel
theorem dX0_init_25 : decode cX0_init 25 = .ok (.dup, 1) := by decide +kernel
theorem dX0_init_26 : decode cX0_init 26 = .ok (.iconst 4, 1) := by decide +kernel
theorem dX0_init_27 : decode cX0_init 27 = .ok (.iconst 0, 1) := by decide +kernel
theorem dX0_init_28 : decode cX0_init 28 = .ok (.iastore, 1) := by decide +kernel
theorem dX0_init_29 : decode cX0_init 29 = .ok (.dup, 1) := by decide +kernel
theorem dX0_init_30 : decode cX0_init 30 = .ok (.iconst 5, 1) := by decide +kernel
theorem dX0_init_31 : decode cX0_init 31 = .ok (.iconst 0, 1) := by decide +kernel
theorem dX0_init_32 : decode cX0_init 32 = .ok (.iastore, 1) := by decide +kernel
theorem dX0_init_33 : decode cX0_init 33 = .ok (.dup, 1) := by decide +kernel
theorem dX0_init_34 : decode cX0_init 34 = .ok (.bipush 6, 2) := by decide +kernel
theorem dX0_init_36 : decode cX0_init 36 = .ok (.iconst (-1), 1) := by decide +kernel
theorem dX0_init_37 : decode cX0_init 37 = .ok (.iastore, 1) := by decide +kernel
theorem dX0_init_38 : decode cX0_init 38 = .ok (.putfield 9, 3) := by decide +kernel
theorem dX0_init_41 : decode cX0_init 41 = .ok (.aload_n 0, 1) := by decide +kernel
theorem dX0_init_42 : decode cX0_init 42 = .ok (.new 15, 3) := by decide +kernel
theorem dX0_init_45 : decode cX0_init 45 = .ok (.dup, 1) := by decide +kernel
theorem dX0_init_46 : decode cX0_init 46 = .ok (.invokespecial 17, 3) := by decide +kernel
theorem dX0_init_49 : decode cX0_init 49 = .ok (.putfield 18, 3) := by decide +kernel
theorem dX0_init_52 : decode cX0_init 52 = .ok (.aload_n 0, 1) := by decide +kernel
theorem dX0_init_53 : decode cX0_init 53 = .ok (.iload_n 1, 1) := by decide +kernel
theorem dX0_init_54 : decode cX0_init 54 = .ok (.putfield 22, 3) := by decide +kernel
theorem dX0_init_57 : decode cX0_init 57 = .ok (.aload_n 0, 1) := by decide +kernel
theorem dX0_init_58 : decode cX0_init 58 = .ok (.iload_n 1, 1) := by decide +kernel
theorem dX0_init_59 : decode cX0_init 59 = .ok (.iconst 3, 1) := by decide +kernel
theorem dX0_init_60 : decode cX0_init 60 = .ok (.if_icmp .ne 13, 3) := by decide +kernel
theorem dX0_init_63 : decode cX0_init 63 = .ok (.new 26, 3) := by decide +kernel
theorem dX0_init_66 : decode cX0_init 66 = .ok (.dup, 1) := by decide +kernel
theorem dX0_init_67 : decode cX0_init 67 = .ok (.invokespecial 28, 3) := by decide +kernel
theorem dX0_init_70 : decode cX0_init 70 = .ok (.goto 4, 3) := by decide +kernel
theorem dX0_init_73 : decode cX0_init 73 = .ok (.aconst_null, 1) := by decide +kernel
theorem dX0_init_74 : decode cX0_init 74 = .ok (.putfield 29, 3) := by decide +kernel
theorem dX0_init_77 : decode cX0_init 77 = .ok (.return_, 1) := by decide +kernel
set_option maxHeartbeats 4000000 in
set_option maxRecDepth 100000 in
theorem c_Block_init (l : Launch) (dC : Nat → ClassId) (dI : Nat → Nat → Nat) (k : Nat → ClassId) (a : Nat) (x1 : Int32) : Ct l dC dI k yX0_init (.code yX0_init cX0_init 2 none) ({ frames := 4, cells := 10, slots := 65, locals := 72 } : Room) [.ref a, .int x1] [(a, .inr (0, [.int 0, .null, .null, .null]))] (fun r w => (∃ (vs : List Value), r = none ∧ w = [(a, .inr (0, vs))])) := by
  refine ct_of (by decide) (Nat.le_of_ble_eq_true rfl) ?_
  intro p e s m args below meth c H locs B hr hnm ls hl
  have hx := B.1.1
  have hb := B.1.2.1
  have hl : lv_has ls 2 [(0, .ref a), (1, .int x1)] := hl
  refine lv_aload_n hx hb dX0_init_0 rfl (lv_at hl 0 rfl) ?_
  refine x_obj B mw_1133 mw_42 mw_obj hl dX0_init_1 (Nat.le_of_ble_eq_true rfl) (Nat.le_of_ble_eq_true rfl) ?_
  refine lv_aload_n hx hb dX0_init_4 rfl (lv_at hl 0 rfl) ?_
  refine lv_bipush (v := 7) hx hb dX0_init_5 (by decide) ?_
  refine x_newa (atype := .int) (ty := .int) (N' := 7) (a0 := (7, .inl (fun _ => 0))) B mw_120 rfl 0 rfl pr_int (fun _ => rfl) (by decide) (by decide) (Nat.le_of_ble_eq_true rfl) (Nat.le_of_ble_eq_true rfl) (Nat.le_of_ble_eq_true rfl) dX0_init_7 (fun q_1 H B => ?_)
  have B := bd_to (ws' := [(a, .inr (0, [.int 0, .null, .null, .null])), (q_1, .inl (k 0, 7, .inl (fun _ => 0)))]) rfl B
  refine lv_dup hx hb dX0_init_9 rfl ?_
  refine lv_iconst (v := 0) hx hb dX0_init_10 (by decide) ?_
  refine lv_iconst (v := 0) hx hb dX0_init_11 (by decide) ?_
  refine x_iast B 1 rfl (vpc (by decide)) dX0_init_12 (j := 0) (by decide) (fun H locs B => ?_)
  have B := bd_to (ws' := [(a, .inr (0, [.int 0, .null, .null, .null])), (q_1, .inl (k 0, 7, .inl (upd (fun _ => 0) 0 0)))]) rfl B
  refine lv_dup hx hb dX0_init_13 rfl ?_
  refine lv_iconst (v := 1) hx hb dX0_init_14 (by decide) ?_
  refine lv_iconst (v := 0) hx hb dX0_init_15 (by decide) ?_
  refine x_iast B 1 rfl (vpc (by decide)) dX0_init_16 (j := 1) (by decide) (fun H locs B => ?_)
  have B := bd_to (ws' := [(a, .inr (0, [.int 0, .null, .null, .null])), (q_1, .inl (k 0, 7, .inl (upd (upd (fun _ => 0) 0 0) 1 0)))]) rfl B
  refine lv_dup hx hb dX0_init_17 rfl ?_
  refine lv_iconst (v := 2) hx hb dX0_init_18 (by decide) ?_
  refine lv_iconst (v := 0) hx hb dX0_init_19 (by decide) ?_
  refine x_iast B 1 rfl (vpc (by decide)) dX0_init_20 (j := 2) (by decide) (fun H locs B => ?_)
  have B := bd_to (ws' := [(a, .inr (0, [.int 0, .null, .null, .null])), (q_1, .inl (k 0, 7, .inl (upd (upd (upd (fun _ => 0) 0 0) 1 0) 2 0)))]) rfl B
  refine lv_dup hx hb dX0_init_21 rfl ?_
  refine lv_iconst (v := 3) hx hb dX0_init_22 (by decide) ?_
  refine lv_iconst (v := 1) hx hb dX0_init_23 (by decide) ?_
  refine x_iast B 1 rfl (vpc (by decide)) dX0_init_24 (j := 3) (by decide) (fun H locs B => ?_)
  have B := bd_to (ws' := [(a, .inr (0, [.int 0, .null, .null, .null])), (q_1, .inl (k 0, 7, .inl (upd (upd (upd (upd (fun _ => 0) 0 0) 1 0) 2 0) 3 1)))]) rfl B
  refine lv_dup hx hb dX0_init_25 rfl ?_
  refine lv_iconst (v := 4) hx hb dX0_init_26 (by decide) ?_
  refine lv_iconst (v := 0) hx hb dX0_init_27 (by decide) ?_
  refine x_iast B 1 rfl (vpc (by decide)) dX0_init_28 (j := 4) (by decide) (fun H locs B => ?_)
  have B := bd_to (ws' := [(a, .inr (0, [.int 0, .null, .null, .null])), (q_1, .inl (k 0, 7, .inl (upd (upd (upd (upd (upd (fun _ => 0) 0 0) 1 0) 2 0) 3 1) 4 0)))]) rfl B
  refine lv_dup hx hb dX0_init_29 rfl ?_
  refine lv_iconst (v := 5) hx hb dX0_init_30 (by decide) ?_
  refine lv_iconst (v := 0) hx hb dX0_init_31 (by decide) ?_
  refine x_iast B 1 rfl (vpc (by decide)) dX0_init_32 (j := 5) (by decide) (fun H locs B => ?_)
  have B := bd_to (ws' := [(a, .inr (0, [.int 0, .null, .null, .null])), (q_1, .inl (k 0, 7, .inl (upd (upd (upd (upd (upd (upd (fun _ => 0) 0 0) 1 0) 2 0) 3 1) 4 0) 5 0)))]) rfl B
  refine lv_dup hx hb dX0_init_33 rfl ?_
  refine lv_bipush (v := 6) hx hb dX0_init_34 (by decide) ?_
  refine lv_iconst (v := (-1)) hx hb dX0_init_36 (by decide) ?_
  refine x_iast B 1 rfl (vpc (by decide)) dX0_init_37 (j := 6) (by decide) (fun H locs B => ?_)
  have B := bd_to (ws' := [(a, .inr (0, [.int 0, .null, .null, .null])), (q_1, .inl (k 0, 7, .inl (upd (upd (upd (upd (upd (upd (upd (fun _ => 0) 0 0) 1 0) 2 0) 3 1) 4 0) 5 0) 6 (-1))))]) rfl B
  refine x_putF (ci := 0) (C := RX0) (T := TX0) (N := 4) (ty := .array .int) (v := .ref q_1) B tyX0_ok nmX0 0 rfl rfl in_X0 1 (by decide) mw_1172 (fun _ h9 => h9) rfl hnm rfl (by decide +kernel) rfl rfl (Nat.le_of_ble_eq_true rfl) dX0_init_38 (fun H locs B => ?_)
  have B := bd_to (ws' := [(a, .inr (0, [.int 0, .ref q_1, .null, .null])), (q_1, .inl (k 0, 7, .inl (upd (upd (upd (upd (upd (upd (upd (fun _ => 0) 0 0) 1 0) 2 0) 3 1) 4 0) 5 0) 6 (-1))))]) rfl B
  refine lv_aload_n hx hb dX0_init_41 rfl (lv_at hl 0 rfl) ?_
  refine x_new (ci := 11) (fs := [.int 0, .null, .int 0]) (C := RJx4a65c) (T := TJx4a65c) (N := 3) B tyJx4a65c_ok in_Jx4a65c mw_1134 mw_51 mw_5 rfl (by decide +kernel) (Nat.le_of_ble_eq_true rfl) (Nat.le_of_ble_eq_true rfl) dX0_init_42 (fun q_2 H B => ?_)
  have B := bd_to (ws' := [(a, .inr (0, [.int 0, .ref q_1, .null, .null])), (q_1, .inl (k 0, 7, .inl (upd (upd (upd (upd (upd (upd (upd (fun _ => 0) 0 0) 1 0) 2 0) 3 1) 4 0) 5 0) 6 (-1)))), (q_2, .inr (11, [.int 0, .null, .int 0]))]) rfl B
  refine lv_dup hx hb dX0_init_45 rfl ?_
  refine x_callI (rest := [.ref q_2, .ref a]) (wr := [(a, .inr (0, [.int 0, .ref q_1, .null, .null])), (q_1, .inl (k 0, 7, .inl (upd (upd (upd (upd (upd (upd (upd (fun _ => 0) 0 0) 1 0) 2 0) 3 1) 4 0) 5 0) 6 (-1))))]) (c_List_init l dC dI k q_2) B mI_Jx4a65c_init_da8c8 mw_1135 hl [2] [0, 1] rfl rfl ⟨by decide, by decide⟩ (by decide) ⟨Nat.le_of_ble_eq_true rfl, Nat.le_of_ble_eq_true rfl⟩ (Nat.le_of_ble_eq_true rfl) rfl dX0_init_46 ⟨Nat.le_of_ble_eq_true rfl, Nat.le_of_ble_eq_true rfl⟩ (fun r w H locs hp B => ?_)
  obtain ⟨rfl, rfl⟩ := hp
  have B := bd_to (ws' := [(a, .inr (0, [.int 0, .ref q_1, .null, .null])), (q_1, .inl (k 0, 7, .inl (upd (upd (upd (upd (upd (upd (upd (fun _ => 0) 0 0) 1 0) 2 0) 3 1) 4 0) 5 0) 6 (-1)))), (q_2, .inr (11, [.int 0, .ref (dI 99 1), .int 0]))]) rfl B
  refine x_putF (ci := 0) (C := RX0) (T := TX0) (N := 4) (ty := .object "java/util/ArrayList") (v := .ref q_2) B tyX0_ok nmX0 0 rfl rfl in_X0 2 (by decide) mw_1178 (fun _ h9 => h9) rfl hnm rfl (by decide +kernel) rfl rfl (Nat.le_of_ble_eq_true rfl) dX0_init_49 (fun H locs B => ?_)
  have B := bd_to (ws' := [(a, .inr (0, [.int 0, .ref q_1, .ref q_2, .null])), (q_1, .inl (k 0, 7, .inl (upd (upd (upd (upd (upd (upd (upd (fun _ => 0) 0 0) 1 0) 2 0) 3 1) 4 0) 5 0) 6 (-1)))), (q_2, .inr (11, [.int 0, .ref (dI 99 1), .int 0]))]) rfl B
  refine lv_aload_n hx hb dX0_init_52 rfl (lv_at hl 0 rfl) ?_
  refine lv_iload_n hx hb dX0_init_53 rfl (lv_at hl 1 rfl) ?_
  refine x_putF (ci := 0) (C := RX0) (T := TX0) (N := 4) (ty := .int) (v := .int x1) B tyX0_ok nmX0 0 rfl rfl in_X0 0 (by decide) mw_1165 (fun _ h9 => h9) rfl hnm rfl (by decide +kernel) rfl rfl (Nat.le_of_ble_eq_true rfl) dX0_init_54 (fun H locs B => ?_)
  have B := bd_to (ws' := [(a, .inr (0, [.int x1, .ref q_1, .ref q_2, .null])), (q_1, .inl (k 0, 7, .inl (upd (upd (upd (upd (upd (upd (upd (fun _ => 0) 0 0) 1 0) 2 0) 3 1) 4 0) 5 0) 6 (-1)))), (q_2, .inr (11, [.int 0, .ref (dI 99 1), .int 0]))]) rfl B
  refine lv_aload_n hx hb dX0_init_57 rfl (lv_at hl 0 rfl) ?_
  refine lv_iload_n hx hb dX0_init_58 rfl (lv_at hl 1 rfl) ?_
  refine lv_iconst (v := 3) hx hb dX0_init_59 (by decide) ?_
  refine lv_icmp_ne (tgt := 73) hx hb dX0_init_60 (by decide) (fun c_3 => ?_) (fun c_3 => ?_)
  · have zc_3 : x1.toInt ≠ 3 := zne c_3
    refine lv_null hx hb dX0_init_73 ?_
    refine x_putF (ci := 0) (C := RX0) (T := TX0) (N := 4) (ty := .object "Galleyforge$Table") (v := .null) B tyX0_ok nmX0 0 rfl rfl in_X0 3 (by decide) mw_1184 (fun _ h9 => h9) rfl hnm rfl (by decide +kernel) rfl rfl (Nat.le_of_ble_eq_true rfl) dX0_init_74 (fun H locs B => ?_)
    have B := bd_to (ws' := [(a, .inr (0, [.int x1, .ref q_1, .ref q_2, .null])), (q_1, .inl (k 0, 7, .inl (upd (upd (upd (upd (upd (upd (upd (fun _ => 0) 0 0) 1 0) 2 0) 3 1) 4 0) 5 0) 6 (-1)))), (q_2, .inr (11, [.int 0, .ref (dI 99 1), .int 0]))]) rfl B
    have B := bd_sub (ws' := [(a, .inr (0, [.int x1, .ref q_1, .ref q_2, .null]))]) [0] (by decide) rfl B
    exact x_vret B hr (⟨[.int x1, .ref q_1, .ref q_2, .null], rfl, rfl⟩) (Nat.le_of_ble_eq_true rfl) (Nat.le_of_ble_eq_true rfl) dX0_init_77
  · have zc_3 : x1.toInt = 3 := znne c_3
    refine x_new (ci := 7) (fs := [.null, .null, .null, .null, .null, .null, .null]) (C := RX8) (T := TX8) (N := 7) B tyX8_ok in_X8 mw_1136 mw_1137 mw_35 rfl (by decide +kernel) (Nat.le_of_ble_eq_true rfl) (Nat.le_of_ble_eq_true rfl) dX0_init_63 (fun q_4 H B => ?_)
    have B := bd_to (ws' := [(a, .inr (0, [.int x1, .ref q_1, .ref q_2, .null])), (q_1, .inl (k 0, 7, .inl (upd (upd (upd (upd (upd (upd (upd (fun _ => 0) 0 0) 1 0) 2 0) 3 1) 4 0) 5 0) 6 (-1)))), (q_2, .inr (11, [.int 0, .ref (dI 99 1), .int 0])), (q_4, .inr (7, [.null, .null, .null, .null, .null, .null, .null]))]) rfl B
    refine lv_dup hx hb dX0_init_66 rfl ?_
    refine x_callN (rest := [.ref q_4, .ref a]) (wr := [(a, .inr (0, [.int x1, .ref q_1, .ref q_2, .null])), (q_1, .inl (k 0, 7, .inl (upd (upd (upd (upd (upd (upd (upd (fun _ => 0) 0 0) 1 0) 2 0) 3 1) 4 0) 5 0) 6 (-1)))), (q_2, .inr (11, [.int 0, .ref (dI 99 1), .int 0]))]) (c_Table_init l dC dI k q_4) B mI_X8_init B.2.1.2.1.2.2.2.2.1 hl [3] [0, 1, 2] rfl rfl ⟨by decide, by decide⟩ (by decide) ⟨Nat.le_of_ble_eq_true rfl, Nat.le_of_ble_eq_true rfl⟩ (Nat.le_of_ble_eq_true rfl) rfl dX0_init_67 ⟨Nat.le_of_ble_eq_true rfl, Nat.le_of_ble_eq_true rfl⟩ (fun r w H locs hp B => ?_)
    obtain ⟨rfl, rfl⟩ := hp
    have B := bd_to (ws' := [(a, .inr (0, [.int x1, .ref q_1, .ref q_2, .null])), (q_1, .inl (k 0, 7, .inl (upd (upd (upd (upd (upd (upd (upd (fun _ => 0) 0 0) 1 0) 2 0) 3 1) 4 0) 5 0) 6 (-1)))), (q_2, .inr (11, [.int 0, .ref (dI 99 1), .int 0]))]) rfl B
    refine lv_goto (tgt := 74) hx hb dX0_init_70 (by decide) ?_
    refine x_putF (ci := 0) (C := RX0) (T := TX0) (N := 4) (ty := .object "Galleyforge$Table") (v := .ref q_4) B tyX0_ok nmX0 0 rfl rfl in_X0 3 (by decide) mw_1184 (fun _ h9 => h9) rfl hnm rfl (by decide +kernel) rfl rfl (Nat.le_of_ble_eq_true rfl) dX0_init_74 (fun H locs B => ?_)
    have B := bd_to (ws' := [(a, .inr (0, [.int x1, .ref q_1, .ref q_2, .ref q_4])), (q_1, .inl (k 0, 7, .inl (upd (upd (upd (upd (upd (upd (upd (fun _ => 0) 0 0) 1 0) 2 0) 3 1) 4 0) 5 0) 6 (-1)))), (q_2, .inr (11, [.int 0, .ref (dI 99 1), .int 0]))]) rfl B
    have B := bd_sub (ws' := [(a, .inr (0, [.int x1, .ref q_1, .ref q_2, .ref q_4]))]) [0] (by decide) rfl B
    exact x_vret B hr (⟨[.int x1, .ref q_1, .ref q_2, .ref q_4], rfl, rfl⟩) (Nat.le_of_ble_eq_true rfl) (Nat.le_of_ble_eq_true rfl) dX0_init_77

theorem mw_34 : (Jvm.Cond.initialized "Galleyforge$Block") ∈ gt := gt_at 169 (by decide +kernel) (by decide +kernel)
theorem mw_793 : (Jvm.Cond.classLink "Galleyforge" (145 : Nat) "Galleyforge$Block") ∈ gt := gt_at 928 (by decide +kernel) (by decide +kernel)
theorem mw_845 : (Jvm.Cond.methodLink "Galleyforge" (164 : Nat) ({ cls := "java/util/ArrayList", name := "add", desc := "(ILjava/lang/Object;)V" } : Jvm.MethodName)) ∈ gt := gt_at 980 (by decide +kernel) (by decide +kernel)
theorem mw_846 : (Jvm.Cond.instanceMethod ({ cls := "java/util/ArrayList", name := "add", desc := "(ILjava/lang/Object;)V" } : Jvm.MethodName)) ∈ gt := gt_at 981 (by decide +kernel) (by decide +kernel)
theorem mw_847 : (Jvm.Cond.selects "java/util/ArrayList" ({ cls := "java/util/ArrayList", name := "add", desc := "(ILjava/lang/Object;)V" } : Jvm.MethodName) ({ cls := "java/util/ArrayList", name := "add", desc := "(ILjava/lang/Object;)V" } : Jvm.MethodName)) ∈ gt := gt_at 982 (by decide +kernel) (by decide +kernel)
theorem mw_848 : (Jvm.Cond.code ({ cls := "java/util/ArrayList", name := "add", desc := "(ILjava/lang/Object;)V" } : Jvm.MethodName) prog_40_method_26_code (5 : Nat) (Option.none : Option Jvm.ClassFile.FieldType)) ∈ gt := gt_at 983 (by decide +kernel) (by decide +kernel)
theorem mw_1129 : (Jvm.Cond.instantiable "Galleyforge$Block" (4 : Nat)) ∈ gt := gt_at 1264 (by decide +kernel) (by decide +kernel)
theorem mw_1130 : (Jvm.Cond.methodLink "Galleyforge" (162 : Nat) ({ cls := "Galleyforge$Block", name := "<init>", desc := "(I)V" } : Jvm.MethodName)) ∈ gt := gt_at 1265 (by decide +kernel) (by decide +kernel)
theorem mw_1131 : (Jvm.Cond.instanceMethod ({ cls := "Galleyforge$Block", name := "<init>", desc := "(I)V" } : Jvm.MethodName)) ∈ gt := gt_at 1266 (by decide +kernel) (by decide +kernel)
theorem mw_1132 : (Jvm.Cond.code ({ cls := "Galleyforge$Block", name := "<init>", desc := "(I)V" } : Jvm.MethodName) prog_2_method_1_code (2 : Nat) (Option.none : Option Jvm.ClassFile.FieldType)) ∈ gt := gt_at 1267 (by decide +kernel) (by decide +kernel)
theorem mI_X0_init : mI yX0_init cX0_init 2 1 := ⟨⟨mw_1132, mw_34, by decide, by decide, by decide +kernel⟩, mw_1131, rfl⟩
theorem mV_Jx4a65c_add_7a177 : mV yJx4a65c_add_7a177 cJx4a65c_add_7a177 5 none 2 := ⟨⟨mw_848, mw_5, by decide, by decide, by decide +kernel⟩, mw_846, mw_847⟩
theorem dX11_block_0 : decode cX11_block 0 = .ok (.iload_n 1, 1) := by decide +kernel
theorem dX11_block_1 : decode cX11_block 1 = .ok (.ifCond .lt 17, 3) := by decide +kernel
theorem dX11_block_4 : decode cX11_block 4 = .ok (.iload_n 1, 1) := by decide +kernel
theorem dX11_block_5 : decode cX11_block 5 = .ok (.aload_n 0, 1) := by decide +kernel
theorem dX11_block_6 : decode cX11_block 6 = .ok (.getfield 12, 3) := by decide +kernel
theorem dX11_block_9 : decode cX11_block 9 = .ok (.getfield 153, 3) := by decide +kernel
theorem dX11_block_12 : decode cX11_block 12 = .ok (.invokevirtual 85, 3) := by decide +kernel
theorem dX11_block_15 : decode cX11_block 15 = .ok (.if_icmp .le 13, 3) := by decide +kernel
theorem dX11_block_18 : decode cX11_block 18 = .ok (.new 47, 3) := by decide +kernel
theorem dX11_block_21 : decode cX11_block 21 = .ok (.dup, 1) := by decide +kernel
theorem dX11_block_22 : decode cX11_block 22 = .ok (.ldc 156, 2) := by decide +kernel
theorem dX11_block_24 : decode cX11_block 24 = .ok (.invokespecial 51, 3) := by decide +kernel
theorem dX11_block_27 : decode cX11_block 27 = .ok (.athrow, 1) := by decide +kernel
theorem dX11_block_28 : decode cX11_block 28 = .ok (.iload_n 2, 1) := by decide +kernel
theorem dX11_block_29 : decode cX11_block 29 = .ok (.ifCond .lt 9, 3) := by decide +kernel
theorem dX11_block_32 : decode cX11_block 32 = .ok (.iload_n 2, 1) := by decide +kernel
theorem dX11_block_33 : decode cX11_block 33 = .ok (.bipush 6, 2) := by decide +kernel
theorem dX11_block_35 : decode cX11_block 35 = .ok (.if_icmp .le 13, 3) := by decide +kernel
theorem dX11_block_38 : decode cX11_block 38 = .ok (.new 72, 3) := by decide +kernel
theorem dX11_block_41 : decode cX11_block 41 = .ok (.dup, 1) := by decide +kernel
theorem dX11_block_42 : decode cX11_block 42 = .ok (.ldc 158, 2) := by decide +kernel
theorem dX11_block_44 : decode cX11_block 44 = .ok (.invokespecial 76, 3) := by decide +kernel
theorem dX11_block_47 : decode cX11_block 47 = .ok (.athrow, 1) := by decide +kernel
theorem dX11_block_48 : decode cX11_block 48 = .ok (.aload_n 0, 1) := by decide +kernel
theorem dX11_block_49 : decode cX11_block 49 = .ok (.getfield 12, 3) := by decide +kernel
theorem dX11_block_52 : decode cX11_block 52 = .ok (.getfield 153, 3) := by decide +kernel
theorem dX11_block_55 : decode cX11_block 55 = .ok (.invokevirtual 85, 3) := by decide +kernel
theorem dX11_block_58 : decode cX11_block 58 = .ok (.bipush 16, 2) := by decide +kernel
theorem dX11_block_60 : decode cX11_block 60 = .ok (.if_icmp .lt 13, 3) := by decide +kernel
theorem dX11_block_73 : decode cX11_block 73 = .ok (.aload_n 0, 1) := by decide +kernel
theorem dX11_block_74 : decode cX11_block 74 = .ok (.getfield 12, 3) := by decide +kernel
theorem dX11_block_77 : decode cX11_block 77 = .ok (.getfield 153, 3) := by decide +kernel
theorem dX11_block_80 : decode cX11_block 80 = .ok (.iload_n 1, 1) := by decide +kernel
theorem dX11_block_81 : decode cX11_block 81 = .ok (.new 145, 3) := by decide +kernel
theorem dX11_block_84 : decode cX11_block 84 = .ok (.dup, 1) := by decide +kernel
theorem dX11_block_85 : decode cX11_block 85 = .ok (.iload_n 2, 1) := by decide +kernel
theorem dX11_block_86 : decode cX11_block 86 = .ok (.invokespecial 162, 3) := by decide +kernel
theorem dX11_block_89 : decode cX11_block 89 = .ok (.invokevirtual 164, 3) := by decide +kernel
theorem dX11_block_92 : decode cX11_block 92 = .ok (.aload_n 0, 1) := by decide +kernel
theorem dX11_block_93 : decode cX11_block 93 = .ok (.invokevirtual 106, 3) := by decide +kernel
theorem dX11_block_96 : decode cX11_block 96 = .ok (.aload_n 0, 1) := by decide +kernel
theorem dX11_block_97 : decode cX11_block 97 = .ok (.getfield 12, 3) := by decide +kernel
theorem dX11_block_100 : decode cX11_block 100 = .ok (.getfield 153, 3) := by decide +kernel
theorem dX11_block_103 : decode cX11_block 103 = .ok (.invokevirtual 85, 3) := by decide +kernel
theorem dX11_block_106 : decode cX11_block 106 = .ok (.ireturn, 1) := by decide +kernel
set_option maxHeartbeats 4000000 in
set_option maxRecDepth 100000 in
theorem c_block (l : Launch) (dC : Nat → ClassId) (dI : Nat → Nat → Nat) (k : Nat → ClassId) (hl0 : l.stackTraces = false) (gx : Nat) (T : Nat) (LA : Nat) (sp : Nat) (dr : Nat) (bl : Nat) (pt : Nat) (fk : Nat) (fh : Nat) (ky : Nat) (L0 : Nat) (L1 : Nat) (LN : Nat) (lc0 : Nat) (le0 : Nat) (ll0 : Nat) (ld0 : Nat) (wl0 : Nat) (op0 : Nat) (dg0 : Nat) (lc1 : Nat) (le1 : Nat) (ll1 : Nat) (ld1 : Nat) (wl1 : Nat) (op1 : Nat) (dg1 : Nat) (R0 : Nat) (P0 : Nat) (R1 : Nat) (P1 : Nat) (x1 : Int32) (x2 : Int32) : Xt l dC dI k yX11_block (.code yX11_block cX11_block 3 (some .int)) ({ frames := 6, cells := 12, slots := 79, locals := 93 } : Room) [.ref gx, .int x1, .int x2] [(gx, .inr (9, [.ref T, .ref LA, .ref sp, .int 0, .ref dr])), (T, .inr (8, [.ref bl, .ref pt, .ref fk, .ref fh, .int 0, .ref ky, .int 60, .int 12])), (bl, .inr (11, [.int 0, .ref (dI 99 1), .int 0])), (LA, .inl (k 3, 2, .inr (.inr (.inr (.inr (va_up (va_up (fun _ => none) 0 (some L0)) 1 (some L1))))))), (L0, .inr (1, [.ref T, .int 0, .ref LN, .ref R0, .ref P0, .int 1, .int 0, .ref lc0, .ref le0, .ref ll0, .ref ld0, .ref wl0, .ref op0, .int 0, .int 0, .int 1365, .ref dg0])), (L1, .inr (1, [.ref T, .int 1, .ref LN, .ref R1, .ref P1, .int 1, .int 0, .ref lc1, .ref le1, .ref ll1, .ref ld1, .ref wl1, .ref op1, .int 0, .int 0, .int 1365, .ref dg1]))] (fun r w => ((0 ≤ x1.toInt ∧ x1.toInt ≤ 0) ∧ (0 ≤ x2.toInt ∧ x2.toInt ≤ 6) ∧ r = some (.int 1) ∧ w = [])) (fun E => (¬ (0 ≤ x1.toInt ∧ x1.toInt ≤ 0) ∧ E = "java/lang/IndexOutOfBoundsException") ∨ ((0 ≤ x1.toInt ∧ x1.toInt ≤ 0) ∧ ¬ (0 ≤ x2.toInt ∧ x2.toInt ≤ 6) ∧ E = "java/lang/IllegalArgumentException")) := by
  refine xt_of (by decide) (Nat.le_of_ble_eq_true rfl) ?_
  intro p e s m args below meth c H locs B hr hex ls hl
  have hx := B.1.1
  have hb := B.1.2.1
  have hl : lv_has ls 3 [(0, .ref gx), (1, .int x1), (2, .int x2)] := hl
  refine lv_iload_n hx hb dX11_block_0 rfl (lv_at hl 1 rfl) ?_
  refine lv_if_lt (tgt := 18) hx hb dX11_block_1 (by decide) (fun c_1 => ?_) (fun c_1 => ?_)
  · have zc_1 : x1.toInt < 0 := zlt c_1
    exact x_thr (tx := "no such place") xE_ioobe (Or.inl (⟨by omega, rfl⟩)) hl0 B hex hl (by decide +kernel) dX11_block_18 dX11_block_21 dX11_block_22 dX11_block_24 dX11_block_27 ⟨Nat.le_of_ble_eq_true rfl, Nat.le_of_ble_eq_true rfl, Nat.le_of_ble_eq_true rfl, Nat.le_of_ble_eq_true rfl⟩ ⟨Nat.le_of_ble_eq_true rfl, Nat.le_of_ble_eq_true rfl⟩
  · have zc_1 : 0 ≤ x1.toInt := znlt c_1
    refine lv_iload_n hx hb dX11_block_4 rfl (lv_at hl 1 rfl) ?_
    refine lv_aload_n hx hb dX11_block_5 rfl (lv_at hl 0 rfl) ?_
    refine x_get (ci := 9) (C := RX11) (T := TX11) (N := 5) (v := .ref T) B 0 rfl rfl in_X11 0 (by decide) mw_475 (fun _ h9 => h9) rfl dX11_block_6 ?_
    refine x_get (ci := 8) (C := RX9) (T := TX9) (N := 8) (v := .ref bl) B 1 rfl rfl in_X9 0 (by decide) mw_79 (fun _ h9 => h9) rfl dX11_block_9 ?_
    refine x_callV (rest := [.int x1]) (wr := [(gx, .inr (9, [.ref T, .ref LA, .ref sp, .int 0, .ref dr])), (T, .inr (8, [.ref bl, .ref pt, .ref fk, .ref fh, .int 0, .ref ky, .int 60, .int 12])), (LA, .inl (k 3, 2, .inr (.inr (.inr (.inr (va_up (va_up (fun _ => none) 0 (some L0)) 1 (some L1))))))), (L0, .inr (1, [.ref T, .int 0, .ref LN, .ref R0, .ref P0, .int 1, .int 0, .ref lc0, .ref le0, .ref ll0, .ref ld0, .ref wl0, .ref op0, .int 0, .int 0, .int 1365, .ref dg0])), (L1, .inr (1, [.ref T, .int 1, .ref LN, .ref R1, .ref P1, .int 1, .int 0, .ref lc1, .ref le1, .ref ll1, .ref ld1, .ref wl1, .ref op1, .int 0, .int 0, .int 1365, .ref dg1]))]) (c_size l dC dI k bl (dI 99 1) 0 0) B mV_Jx4a65c_size_8abf5 mw_499 hl [2] [0, 1, 3, 4, 5] rfl rfl ⟨by decide, by decide⟩ (by decide) (q0 := 0) rfl rfl rfl ⟨Nat.le_of_ble_eq_true rfl, Nat.le_of_ble_eq_true rfl⟩ (Nat.le_of_ble_eq_true rfl) rfl dX11_block_12 ⟨Nat.le_of_ble_eq_true rfl, Nat.le_of_ble_eq_true rfl⟩ (fun r w H locs hp B => ?_)
    obtain ⟨rfl, rfl⟩ := hp
    have B := bd_to (ws' := [(gx, .inr (9, [.ref T, .ref LA, .ref sp, .int 0, .ref dr])), (T, .inr (8, [.ref bl, .ref pt, .ref fk, .ref fh, .int 0, .ref ky, .int 60, .int 12])), (LA, .inl (k 3, 2, .inr (.inr (.inr (.inr (va_up (va_up (fun _ => none) 0 (some L0)) 1 (some L1))))))), (L0, .inr (1, [.ref T, .int 0, .ref LN, .ref R0, .ref P0, .int 1, .int 0, .ref lc0, .ref le0, .ref ll0, .ref ld0, .ref wl0, .ref op0, .int 0, .int 0, .int 1365, .ref dg0])), (L1, .inr (1, [.ref T, .int 1, .ref LN, .ref R1, .ref P1, .int 1, .int 0, .ref lc1, .ref le1, .ref ll1, .ref ld1, .ref wl1, .ref op1, .int 0, .int 0, .int 1365, .ref dg1])), (bl, .inr (11, [.int 0, .ref (dI 99 1), .int 0]))]) rfl B
    refine lv_icmp_le (tgt := 28) hx hb dX11_block_15 (by decide) (fun c_2 => ?_) (fun c_2 => ?_)
    · have zc_2 : x1.toInt ≤ 0 := zle c_2
      refine lv_iload_n hx hb dX11_block_28 rfl (lv_at hl 2 rfl) ?_
      refine lv_if_lt (tgt := 38) hx hb dX11_block_29 (by decide) (fun c_3 => ?_) (fun c_3 => ?_)
      · have zc_3 : x2.toInt < 0 := zlt c_3
        exact x_thr (tx := "no such kind") xE_iae (Or.inr (⟨by omega, by omega, rfl⟩)) hl0 B hex hl (by decide +kernel) dX11_block_38 dX11_block_41 dX11_block_42 dX11_block_44 dX11_block_47 ⟨Nat.le_of_ble_eq_true rfl, Nat.le_of_ble_eq_true rfl, Nat.le_of_ble_eq_true rfl, Nat.le_of_ble_eq_true rfl⟩ ⟨Nat.le_of_ble_eq_true rfl, Nat.le_of_ble_eq_true rfl⟩
      · have zc_3 : 0 ≤ x2.toInt := znlt c_3
        refine lv_iload_n hx hb dX11_block_32 rfl (lv_at hl 2 rfl) ?_
        refine lv_bipush (v := 6) hx hb dX11_block_33 (by decide) ?_
        refine lv_icmp_le (tgt := 48) hx hb dX11_block_35 (by decide) (fun c_4 => ?_) (fun c_4 => ?_)
        · have zc_4 : x2.toInt ≤ 6 := zle c_4
          refine lv_aload_n hx hb dX11_block_48 rfl (lv_at hl 0 rfl) ?_
          refine x_get (ci := 9) (C := RX11) (T := TX11) (N := 5) (v := .ref T) B 0 rfl rfl in_X11 0 (by decide) mw_475 (fun _ h9 => h9) rfl dX11_block_49 ?_
          refine x_get (ci := 8) (C := RX9) (T := TX9) (N := 8) (v := .ref bl) B 1 rfl rfl in_X9 0 (by decide) mw_79 (fun _ h9 => h9) rfl dX11_block_52 ?_
          refine x_callV (rest := []) (wr := [(gx, .inr (9, [.ref T, .ref LA, .ref sp, .int 0, .ref dr])), (T, .inr (8, [.ref bl, .ref pt, .ref fk, .ref fh, .int 0, .ref ky, .int 60, .int 12])), (LA, .inl (k 3, 2, .inr (.inr (.inr (.inr (va_up (va_up (fun _ => none) 0 (some L0)) 1 (some L1))))))), (L0, .inr (1, [.ref T, .int 0, .ref LN, .ref R0, .ref P0, .int 1, .int 0, .ref lc0, .ref le0, .ref ll0, .ref ld0, .ref wl0, .ref op0, .int 0, .int 0, .int 1365, .ref dg0])), (L1, .inr (1, [.ref T, .int 1, .ref LN, .ref R1, .ref P1, .int 1, .int 0, .ref lc1, .ref le1, .ref ll1, .ref ld1, .ref wl1, .ref op1, .int 0, .int 0, .int 1365, .ref dg1]))]) (c_size l dC dI k bl (dI 99 1) 0 0) B mV_Jx4a65c_size_8abf5 mw_499 hl [5] [0, 1, 2, 3, 4] rfl rfl ⟨by decide, by decide⟩ (by decide) (q0 := 0) rfl rfl rfl ⟨Nat.le_of_ble_eq_true rfl, Nat.le_of_ble_eq_true rfl⟩ (Nat.le_of_ble_eq_true rfl) rfl dX11_block_55 ⟨Nat.le_of_ble_eq_true rfl, Nat.le_of_ble_eq_true rfl⟩ (fun r w H locs hp B => ?_)
          obtain ⟨rfl, rfl⟩ := hp
          have B := bd_to (ws' := [(gx, .inr (9, [.ref T, .ref LA, .ref sp, .int 0, .ref dr])), (T, .inr (8, [.ref bl, .ref pt, .ref fk, .ref fh, .int 0, .ref ky, .int 60, .int 12])), (LA, .inl (k 3, 2, .inr (.inr (.inr (.inr (va_up (va_up (fun _ => none) 0 (some L0)) 1 (some L1))))))), (L0, .inr (1, [.ref T, .int 0, .ref LN, .ref R0, .ref P0, .int 1, .int 0, .ref lc0, .ref le0, .ref ll0, .ref ld0, .ref wl0, .ref op0, .int 0, .int 0, .int 1365, .ref dg0])), (L1, .inr (1, [.ref T, .int 1, .ref LN, .ref R1, .ref P1, .int 1, .int 0, .ref lc1, .ref le1, .ref ll1, .ref ld1, .ref wl1, .ref op1, .int 0, .int 0, .int 1365, .ref dg1])), (bl, .inr (11, [.int 0, .ref (dI 99 1), .int 0]))]) rfl B
          refine lv_bipush (v := 16) hx hb dX11_block_58 (by decide) ?_
          refine lv_icmp_lt (tgt := 73) hx hb dX11_block_60 (by decide) (fun _ => ?_) (fun c9 => absurd (by decide) c9)
          refine lv_aload_n hx hb dX11_block_73 rfl (lv_at hl 0 rfl) ?_
          refine x_get (ci := 9) (C := RX11) (T := TX11) (N := 5) (v := .ref T) B 0 rfl rfl in_X11 0 (by decide) mw_475 (fun _ h9 => h9) rfl dX11_block_74 ?_
          refine x_get (ci := 8) (C := RX9) (T := TX9) (N := 8) (v := .ref bl) B 1 rfl rfl in_X9 0 (by decide) mw_79 (fun _ h9 => h9) rfl dX11_block_77 ?_
          refine lv_iload_n hx hb dX11_block_80 rfl (lv_at hl 1 rfl) ?_
          refine lv_seti (y := 0) (zint (by rw [show (0 : Int32).toInt = 0 by decide]; omega)) ?_
          refine x_new (ci := 0) (fs := [.int 0, .null, .null, .null]) (C := RX0) (T := TX0) (N := 4) B tyX0_ok in_X0 mw_793 mw_1129 mw_34 rfl (by decide +kernel) (Nat.le_of_ble_eq_true rfl) (Nat.le_of_ble_eq_true rfl) dX11_block_81 (fun q_5 H B => ?_)
          have B := bd_to (ws' := [(gx, .inr (9, [.ref T, .ref LA, .ref sp, .int 0, .ref dr])), (T, .inr (8, [.ref bl, .ref pt, .ref fk, .ref fh, .int 0, .ref ky, .int 60, .int 12])), (LA, .inl (k 3, 2, .inr (.inr (.inr (.inr (va_up (va_up (fun _ => none) 0 (some L0)) 1 (some L1))))))), (L0, .inr (1, [.ref T, .int 0, .ref LN, .ref R0, .ref P0, .int 1, .int 0, .ref lc0, .ref le0, .ref ll0, .ref ld0, .ref wl0, .ref op0, .int 0, .int 0, .int 1365, .ref dg0])), (L1, .inr (1, [.ref T, .int 1, .ref LN, .ref R1, .ref P1, .int 1, .int 0, .ref lc1, .ref le1, .ref ll1, .ref ld1, .ref wl1, .ref op1, .int 0, .int 0, .int 1365, .ref dg1])), (bl, .inr (11, [.int 0, .ref (dI 99 1), .int 0])), (q_5, .inr (0, [.int 0, .null, .null, .null]))]) rfl B
          refine lv_dup hx hb dX11_block_84 rfl ?_
          refine lv_iload_n hx hb dX11_block_85 rfl (lv_at hl 2 rfl) ?_
          refine x_callI (rest := [.ref q_5, .int 0, .ref bl]) (wr := [(gx, .inr (9, [.ref T, .ref LA, .ref sp, .int 0, .ref dr])), (T, .inr (8, [.ref bl, .ref pt, .ref fk, .ref fh, .int 0, .ref ky, .int 60, .int 12])), (LA, .inl (k 3, 2, .inr (.inr (.inr (.inr (va_up (va_up (fun _ => none) 0 (some L0)) 1 (some L1))))))), (L0, .inr (1, [.ref T, .int 0, .ref LN, .ref R0, .ref P0, .int 1, .int 0, .ref lc0, .ref le0, .ref ll0, .ref ld0, .ref wl0, .ref op0, .int 0, .int 0, .int 1365, .ref dg0])), (L1, .inr (1, [.ref T, .int 1, .ref LN, .ref R1, .ref P1, .int 1, .int 0, .ref lc1, .ref le1, .ref ll1, .ref ld1, .ref wl1, .ref op1, .int 0, .int 0, .int 1365, .ref dg1])), (bl, .inr (11, [.int 0, .ref (dI 99 1), .int 0]))]) (c_Block_init l dC dI k q_5 x2) B mI_X0_init mw_1130 hl [6] [0, 1, 2, 3, 4, 5] rfl rfl ⟨by decide, by decide⟩ (by decide) ⟨Nat.le_of_ble_eq_true rfl, Nat.le_of_ble_eq_true rfl⟩ (Nat.le_of_ble_eq_true rfl) rfl dX11_block_86 ⟨Nat.le_of_ble_eq_true rfl, Nat.le_of_ble_eq_true rfl⟩ (fun r w H locs hp B => ?_)
          obtain ⟨vs_6, rfl, rfl⟩ := hp
          have B := bd_to (ws' := [(gx, .inr (9, [.ref T, .ref LA, .ref sp, .int 0, .ref dr])), (T, .inr (8, [.ref bl, .ref pt, .ref fk, .ref fh, .int 0, .ref ky, .int 60, .int 12])), (LA, .inl (k 3, 2, .inr (.inr (.inr (.inr (va_up (va_up (fun _ => none) 0 (some L0)) 1 (some L1))))))), (L0, .inr (1, [.ref T, .int 0, .ref LN, .ref R0, .ref P0, .int 1, .int 0, .ref lc0, .ref le0, .ref ll0, .ref ld0, .ref wl0, .ref op0, .int 0, .int 0, .int 1365, .ref dg0])), (L1, .inr (1, [.ref T, .int 1, .ref LN, .ref R1, .ref P1, .int 1, .int 0, .ref lc1, .ref le1, .ref ll1, .ref ld1, .ref wl1, .ref op1, .int 0, .int 0, .int 1365, .ref dg1])), (bl, .inr (11, [.int 0, .ref (dI 99 1), .int 0])), (q_5, .inr (0, vs_6))]) rfl B
          refine x_callV (rest := []) (wr := [(gx, .inr (9, [.ref T, .ref LA, .ref sp, .int 0, .ref dr])), (T, .inr (8, [.ref bl, .ref pt, .ref fk, .ref fh, .int 0, .ref ky, .int 60, .int 12])), (LA, .inl (k 3, 2, .inr (.inr (.inr (.inr (va_up (va_up (fun _ => none) 0 (some L0)) 1 (some L1))))))), (L0, .inr (1, [.ref T, .int 0, .ref LN, .ref R0, .ref P0, .int 1, .int 0, .ref lc0, .ref le0, .ref ll0, .ref ld0, .ref wl0, .ref op0, .int 0, .int 0, .int 1365, .ref dg0])), (L1, .inr (1, [.ref T, .int 1, .ref LN, .ref R1, .ref P1, .int 1, .int 0, .ref lc1, .ref le1, .ref ll1, .ref ld1, .ref wl1, .ref op1, .int 0, .int 0, .int 1365, .ref dg1]))]) (c_addAt l dC dI k bl q_5 vs_6) B mV_Jx4a65c_add_7a177 mw_845 hl [5, 6] [0, 1, 2, 3, 4] rfl rfl ⟨by decide, by decide⟩ (by decide) (q0 := 0) rfl rfl rfl ⟨Nat.le_of_ble_eq_true rfl, Nat.le_of_ble_eq_true rfl⟩ (Nat.le_of_ble_eq_true rfl) rfl dX11_block_89 ⟨Nat.le_of_ble_eq_true rfl, Nat.le_of_ble_eq_true rfl⟩ (fun r w H locs hp B => ?_)
          obtain ⟨q9_7, rfl, rfl⟩ := hp
          have B := bd_to (ws' := [(gx, .inr (9, [.ref T, .ref LA, .ref sp, .int 0, .ref dr])), (T, .inr (8, [.ref bl, .ref pt, .ref fk, .ref fh, .int 0, .ref ky, .int 60, .int 12])), (LA, .inl (k 3, 2, .inr (.inr (.inr (.inr (va_up (va_up (fun _ => none) 0 (some L0)) 1 (some L1))))))), (L0, .inr (1, [.ref T, .int 0, .ref LN, .ref R0, .ref P0, .int 1, .int 0, .ref lc0, .ref le0, .ref ll0, .ref ld0, .ref wl0, .ref op0, .int 0, .int 0, .int 1365, .ref dg0])), (L1, .inr (1, [.ref T, .int 1, .ref LN, .ref R1, .ref P1, .int 1, .int 0, .ref lc1, .ref le1, .ref ll1, .ref ld1, .ref wl1, .ref op1, .int 0, .int 0, .int 1365, .ref dg1])), (bl, .inr (11, [.int 1, .ref q9_7, .int 1]))]) rfl B
          refine lv_aload_n hx hb dX11_block_92 rfl (lv_at hl 0 rfl) ?_
          refine x_callV (rest := []) (wr := [(T, .inr (8, [.ref bl, .ref pt, .ref fk, .ref fh, .int 0, .ref ky, .int 60, .int 12])), (bl, .inr (11, [.int 1, .ref q9_7, .int 1]))]) (c_forgetLayouts l dC dI k gx T LA sp dr L0 L1 LN lc0 le0 ll0 ld0 wl0 op0 dg0 lc1 le1 ll1 ld1 wl1 op1 dg1 R0 P0 R1 P1) B mV_X11_forgetLayouts mw_768 hl [0, 2, 3, 4] [1, 5] rfl rfl ⟨by decide, by decide⟩ (by decide) (q0 := 0) rfl rfl rfl ⟨Nat.le_of_ble_eq_true rfl, Nat.le_of_ble_eq_true rfl⟩ (Nat.le_of_ble_eq_true rfl) rfl dX11_block_93 ⟨Nat.le_of_ble_eq_true rfl, Nat.le_of_ble_eq_true rfl⟩ (fun r w H locs hp B => ?_)
          obtain ⟨rfl, rfl⟩ := hp
          have B := bd_to (ws' := [(T, .inr (8, [.ref bl, .ref pt, .ref fk, .ref fh, .int 0, .ref ky, .int 60, .int 12])), (bl, .inr (11, [.int 1, .ref q9_7, .int 1])), (gx, .inr (9, [.ref T, .ref LA, .ref sp, .int 0, .ref dr]))]) rfl B
          refine lv_aload_n hx hb dX11_block_96 rfl (lv_at hl 0 rfl) ?_
          refine x_get (ci := 9) (C := RX11) (T := TX11) (N := 5) (v := .ref T) B 2 rfl rfl in_X11 0 (by decide) mw_475 (fun _ h9 => h9) rfl dX11_block_97 ?_
          refine x_get (ci := 8) (C := RX9) (T := TX9) (N := 8) (v := .ref bl) B 0 rfl rfl in_X9 0 (by decide) mw_79 (fun _ h9 => h9) rfl dX11_block_100 ?_
          refine x_callV (rest := []) (wr := [(T, .inr (8, [.ref bl, .ref pt, .ref fk, .ref fh, .int 0, .ref ky, .int 60, .int 12])), (gx, .inr (9, [.ref T, .ref LA, .ref sp, .int 0, .ref dr]))]) (c_size l dC dI k bl q9_7 1 1) B mV_Jx4a65c_size_8abf5 mw_499 hl [1] [0, 2] rfl rfl ⟨by decide, by decide⟩ (by decide) (q0 := 0) rfl rfl rfl ⟨Nat.le_of_ble_eq_true rfl, Nat.le_of_ble_eq_true rfl⟩ (Nat.le_of_ble_eq_true rfl) rfl dX11_block_103 ⟨Nat.le_of_ble_eq_true rfl, Nat.le_of_ble_eq_true rfl⟩ (fun r w H locs hp B => ?_)
          obtain ⟨rfl, rfl⟩ := hp
          have B := bd_to (ws' := [(T, .inr (8, [.ref bl, .ref pt, .ref fk, .ref fh, .int 0, .ref ky, .int 60, .int 12])), (gx, .inr (9, [.ref T, .ref LA, .ref sp, .int 0, .ref dr])), (bl, .inr (11, [.int 1, .ref q9_7, .int 1]))]) rfl B
          have B := bd_sub (ws' := []) [] (by decide) rfl B
          exact vx_ret (x_iret B hr (⟨by omega, by omega, rfl, rfl⟩) (Nat.le_of_ble_eq_true rfl) (Nat.le_of_ble_eq_true rfl) dX11_block_106)
        · have zc_4 : 6 < x2.toInt := znle c_4
          exact x_thr (tx := "no such kind") xE_iae (Or.inr (⟨by omega, by omega, rfl⟩)) hl0 B hex hl (by decide +kernel) dX11_block_38 dX11_block_41 dX11_block_42 dX11_block_44 dX11_block_47 ⟨Nat.le_of_ble_eq_true rfl, Nat.le_of_ble_eq_true rfl, Nat.le_of_ble_eq_true rfl, Nat.le_of_ble_eq_true rfl⟩ ⟨Nat.le_of_ble_eq_true rfl, Nat.le_of_ble_eq_true rfl⟩
    · have zc_2 : 0 < x1.toInt := znle c_2
      exact x_thr (tx := "no such place") xE_ioobe (Or.inl (⟨by omega, rfl⟩)) hl0 B hex hl (by decide +kernel) dX11_block_18 dX11_block_21 dX11_block_22 dX11_block_24 dX11_block_27 ⟨Nat.le_of_ble_eq_true rfl, Nat.le_of_ble_eq_true rfl, Nat.le_of_ble_eq_true rfl, Nat.le_of_ble_eq_true rfl⟩ ⟨Nat.le_of_ble_eq_true rfl, Nat.le_of_ble_eq_true rfl⟩

end
