section
section LDC
variable {T : Nat → Int → Int → Int → Int} {v dg i : Int} {Lv Lw : Nat → Int → Int} {M P : Nat → Int → Int}
theorem LR_cg (h : ∀ c, c ≠ 0 → c ≠ 6 → Lw c = Lv c) (hl : LR T v dg Lv) : LR T v dg Lw := by
  obtain ⟨h1, h2, h3, h4, h5⟩ := hl
  refine ⟨?_, ?_, ?_, ?_, ?_⟩
  · rw [h 1 (by omega) (by omega), h 2 (by omega) (by omega), h 3 (by omega) (by omega), h 4 (by omega) (by omega), h 5 (by omega) (by omega)]; exact h1
  · have e : (fun q : Nat => Lw (30 + q)) = fun q : Nat => Lv (30 + q) := by funext q; exact h (30 + q) (by omega) (by omega)
    rw [e]; exact h2
  · rw [h 30 (by omega) (by omega), h 42 (by omega) (by omega), h 43 (by omega) (by omega), h 47 (by omega) (by omega)]; exact h3
  · rw [h 50 (by omega) (by omega)]; exact h4
  · rw [h 51 (by omega) (by omega), h 52 (by omega) (by omega), h 53 (by omega) (by omega), h 54 (by omega) (by omega), h 55 (by omega) (by omega), h 56 (by omega) (by omega)]; exact h5
theorem LD_cg (h : ∀ c, c ≠ 6 → Lw c = Lv c) (hl : LD T v Lv) : LD T v Lw := by
  refine ⟨?_, LR_cg (fun c _ a => h c a) hl.2⟩
  rw [h 0 (by omega)]
  exact hl.1
theorem LDz_in (hK : TK T) : 0 ≤ LDz T v dg i ∧ LDz T v dg i ≤ 41736600 * 48 := by
  have hn := (tkP_w (i := i) (v := v) (dg := dg) hK).1
  have hd := wd_in (i := i) hK
  unfold LDz
  split
  · omega
  · have q := (bwc_in (i := i) (v := v) (dg := dg) hK (fr := 0) (la := 0) (a := 4) (by omega) (by omega)).1
    have h2 : 41736600 * ((tkP T i v dg).1 - 0) ≤ 41736600 * 48 := by omega
    omega
theorem LEz_in (hK : TK T) (l : Int) : 0 ≤ LEz T v dg i l ∧ LEz T v dg i l ≤ 120 := by
  have q := tkP_B (i := i) (v := v) (dg := dg) hK (lnC T i v dg (Int.toNat (l + 1))).1
  unfold LEz
  omega
theorem haF_h {ix : Int} : ∀ (f : Nat) (q a : Int), haF T v ix f q a ≠ -1 → hdP T v (haF T v ix f q a) ∧ q ≤ haF T v ix f q a ∧ haF T v ix f q a < q + f
  | 0, _, _, h => absurd rfl h
  | f + 1, q, a, h => by
    simp only [haF] at h ⊢
    split at h
    · rename_i g
      rw [if_pos g]
      split at h
      · rename_i g2
        rw [if_pos g2]
        exact ⟨g, by omega, by omega⟩
      · rename_i g2
        rw [if_neg g2]
        have := haF_h f (q + 1) (a + 1) h
        exact ⟨this.1, by omega, by omega⟩
    · rename_i g
      rw [if_neg g]
      have := haF_h f (q + 1) a h
      exact ⟨this.1, by omega, by omega⟩
end LDC

theorem mw_78 : (Jvm.Cond.fieldLink "Galleyforge" (153 : Nat) "Galleyforge$Text" "blocks" "Ljava/util/ArrayList;") ∈ gt := gt_at 148 (by decide +kernel) (by decide +kernel)
theorem mw_474 : (Jvm.Cond.fieldLink "Galleyforge" (12 : Nat) "Galleyforge" "text" "LGalleyforge$Text;") ∈ gt := gt_at 544 (by decide +kernel) (by decide +kernel)
theorem mw_637 : (Jvm.Cond.methodLink "Galleyforge" (85 : Nat) ({ cls := "java/util/ArrayList", name := "size", desc := "()I" } : Jvm.MethodName)) ∈ gt := gt_at 707 (by decide +kernel) (by decide +kernel)
theorem dX11_checkBlock_0 : decode cX11_checkBlock 0 = .ok (.iload_n 1, 1) := by decide +kernel
theorem dX11_checkBlock_1 : decode cX11_checkBlock 1 = .ok (.ifCond .lt 17, 3) := by decide +kernel
theorem dX11_checkBlock_4 : decode cX11_checkBlock 4 = .ok (.iload_n 1, 1) := by decide +kernel
theorem dX11_checkBlock_5 : decode cX11_checkBlock 5 = .ok (.aload_n 0, 1) := by decide +kernel
theorem dX11_checkBlock_6 : decode cX11_checkBlock 6 = .ok (.getfield 12, 3) := by decide +kernel
theorem dX11_checkBlock_9 : decode cX11_checkBlock 9 = .ok (.getfield 153, 3) := by decide +kernel
theorem dX11_checkBlock_12 : decode cX11_checkBlock 12 = .ok (.invokevirtual 85, 3) := by decide +kernel
theorem dX11_checkBlock_15 : decode cX11_checkBlock 15 = .ok (.if_icmp .lt 14, 3) := by decide +kernel
theorem dX11_checkBlock_18 : decode cX11_checkBlock 18 = .ok (.new 47, 3) := by decide +kernel
theorem dX11_checkBlock_21 : decode cX11_checkBlock 21 = .ok (.dup, 1) := by decide +kernel
theorem dX11_checkBlock_22 : decode cX11_checkBlock 22 = .ok (.ldc_w 405, 3) := by decide +kernel
theorem dX11_checkBlock_25 : decode cX11_checkBlock 25 = .ok (.invokespecial 51, 3) := by decide +kernel
theorem dX11_checkBlock_28 : decode cX11_checkBlock 28 = .ok (.athrow, 1) := by decide +kernel
theorem dX11_checkBlock_29 : decode cX11_checkBlock 29 = .ok (.return_, 1) := by decide +kernel
set_option maxHeartbeats 4000000 in
set_option maxRecDepth 100000 in
theorem k_checkBlock (l : Launch) (dC : Nat → ClassId) (dI : Nat → Nat → Nat) (k : Nat → ClassId) (hl0 : l.stackTraces = false) (T : Nat → Int → Int → Int → Int) (A : Nat → Int → Int → Nat) (X : Nat → Int → Int → Int) (tl : va_W) (G : Nat → Int → Nat) (Mc : Nat → Int → Int) (Y : Nat → Int → Nat) (O : Nat → Nat) (L : Int → Nat → Int → Int) (C : Nat → Int → Int) (K : Nat → Int → Int) (cp : Nat) (pl : Int) (hPR : PR dI k T A X G Mc Y O L C K cp tl) (hK : TK T) (hrpl : -2147483648 ≤ pl ∧ pl < 2147483648) : Kx l dC dI k yX11_checkBlock (.code yX11_checkBlock cX11_checkBlock 2 none) ({ frames := 6, cells := 1, slots := 6, locals := 82 } : Room) [.ref (Y 0 0), .int (iI pl)] ([] ++ tl) (fun r w gc gs => ((0 ≤ pl ∧ pl < T 0 0 0 0) ∧ r = none ∧ w = ([] ++ tl) ∧ gc = 0 ∧ gs = 0)) (fun E w gc gs => ((¬ (0 ≤ pl ∧ pl < T 0 0 0 0)) ∧ E = "java/lang/IndexOutOfBoundsException" ∧ w = ([] ++ tl) ∧ gc = 1 ∧ gs = 6)) := by
  refine kx_of (by decide) (Nat.le_of_ble_eq_true rfl) ?_
  intro p e s m args below meth c H locs B hr hex ls hl
  have hx := B.1.1
  have hb := B.1.2.1
  have hl : lv_has ls 2 [(0, .ref (Y 0 0)), (1, .int (iI pl))] := hl
  have hT := PR_TI hPR
  have hnb0 := TK_nb hK
  have hcp0 : 512 ≤ cp ∧ cp ≤ 131072 := by have q9 := hPR.2.2.2; unfold cpOk at q9; omega
  refine lv_iload_n hx hb dX11_checkBlock_0 rfl (lv_at hl 1 rfl) ?_
  refine lv_if_lt (tgt := 18) hx hb dX11_checkBlock_1 (by decide) (fun c_1 => ?_) (fun c_1 => ?_)
  · have zc_1 : pl < 0 := jlt (a := pl) (b := 0) (by omega) (by omega) c_1
    exact k_thrWG (tx := "no such block") xE_ioobe (⟨(by omega), rfl, rfl, rfl, rfl⟩) ⟨Nat.le_of_ble_eq_true rfl, Nat.le_of_ble_eq_true rfl⟩ hl0 B hex hl (by decide +kernel) dX11_checkBlock_18 dX11_checkBlock_21 dX11_checkBlock_22 dX11_checkBlock_25 dX11_checkBlock_28 ⟨Nat.le_of_ble_eq_true rfl, Nat.le_of_ble_eq_true rfl, Nat.le_of_ble_eq_true rfl, Nat.le_of_ble_eq_true rfl⟩ ⟨Nat.le_of_ble_eq_true rfl, Nat.le_of_ble_eq_true rfl⟩
  · have zc_1 : 0 ≤ pl := jnlt (a := pl) (b := 0) (by omega) (by omega) c_1
    refine lv_iload_n hx hb dX11_checkBlock_4 rfl (lv_at hl 1 rfl) ?_
    refine lv_aload_n hx hb dX11_checkBlock_5 rfl (lv_at hl 0 rfl) ?_
    obtain ⟨k_2, hk_2⟩ := pk_at (hs := []) (show (((Y 0 0), .inr (11, [.ref (A 50 0 0), .ref (Y 1 0), .ref (Y 2 0), .int (iI (K 0 0)), .ref (Y 3 0)])) : Nat × va_E) ∈ tl from PR_m hPR 0 0 rfl rfl)
    refine x_get (ci := 11) (C := RX11) (T := TX11) (N := 5) (v := .ref (A 50 0 0)) B k_2 hk_2 rfl in_X11 0 (by decide) mw_474 (fun _ h9 => h9) rfl dX11_checkBlock_6 ?_
    obtain ⟨k_3, hk_3⟩ := pk_at (hs := []) hT.1.1
    refine x_get (ci := 9) (C := RX9) (T := TX9) (N := 8) (v := .ref (A 51 0 0)) B k_3 hk_3 rfl in_X9 0 (by decide) mw_78 (fun _ h9 => h9) rfl dX11_checkBlock_9 ?_
    have B := bd_swap (a := []) (b := []) (d := tl) (bd_to rfl B)
    obtain ⟨k_4, fk_4, hk_4⟩ := LI_at (hs := []) hT.2.1
    refine k_V (rest := [.int (iI pl)]) (wc := ([] ++ tl)) (wr := []) (k_sizeB l dC dI k T A X tl hT hK) B mV_Jx4a65c_size_8abf5 mw_637 hl (q0 := k_4) (ci := 12) hk_4 rfl rfl ⟨Nat.le_of_ble_eq_true rfl, Nat.le_of_ble_eq_true rfl⟩ (Nat.le_of_ble_eq_true rfl) rfl dX11_checkBlock_12 ⟨Nat.le_of_ble_eq_true rfl, Nat.le_of_ble_eq_true rfl⟩ (fun r w gc gs H locs hp B => ?_)
    obtain ⟨z_5, rfl, hw9, rfl, rfl⟩ := hp
    rw [hw9] at B; clear hw9
    have B := bd_to (ws' := ([] ++ tl)) rfl B
    refine lv_icmp_lt (tgt := 29) hx hb dX11_checkBlock_15 (by decide) (fun c_6 => ?_) (fun c_6 => ?_)
    · have zc_6 : pl < (T 0 0 0 0) := jlt (a := pl) (b := (T 0 0 0 0)) (by omega) (by omega) c_6
      exact vx_ret (k_vret B hr (⟨(by omega), rfl, rfl, rfl, rfl⟩) ⟨Nat.le_of_ble_eq_true rfl, Nat.le_of_ble_eq_true rfl⟩ ⟨Nat.le_of_ble_eq_true rfl, Nat.le_of_ble_eq_true rfl⟩ dX11_checkBlock_29)
    · have zc_6 : (T 0 0 0 0) ≤ pl := jnlt (a := pl) (b := (T 0 0 0 0)) (by omega) (by omega) c_6
      exact k_thrWG (tx := "no such block") xE_ioobe (⟨(by omega), rfl, rfl, rfl, rfl⟩) ⟨Nat.le_of_ble_eq_true rfl, Nat.le_of_ble_eq_true rfl⟩ hl0 B hex hl (by decide +kernel) dX11_checkBlock_18 dX11_checkBlock_21 dX11_checkBlock_22 dX11_checkBlock_25 dX11_checkBlock_28 ⟨Nat.le_of_ble_eq_true rfl, Nat.le_of_ble_eq_true rfl, Nat.le_of_ble_eq_true rfl, Nat.le_of_ble_eq_true rfl⟩ ⟨Nat.le_of_ble_eq_true rfl, Nat.le_of_ble_eq_true rfl⟩

theorem mw_788 : (Jvm.Cond.methodLink "Galleyforge" (168 : Nat) ({ cls := "Galleyforge", name := "checkBlock", desc := "(I)V" } : Jvm.MethodName)) ∈ gt := gt_at 858 (by decide +kernel) (by decide +kernel)
theorem mw_790 : (Jvm.Cond.instanceMethod ({ cls := "Galleyforge", name := "checkBlock", desc := "(I)V" } : Jvm.MethodName)) ∈ gt := gt_at 860 (by decide +kernel) (by decide +kernel)
theorem mw_791 : (Jvm.Cond.code ({ cls := "Galleyforge", name := "checkBlock", desc := "(I)V" } : Jvm.MethodName) prog_1_method_48_code (2 : Nat) (Option.none : Option Jvm.ClassFile.FieldType)) ∈ gt := gt_at 861 (by decide +kernel) (by decide +kernel)
theorem mw_793 : (Jvm.Cond.methodLink "Galleyforge" (232 : Nat) ({ cls := "java/util/ArrayList", name := "get", desc := "(I)Ljava/lang/Object;" } : Jvm.MethodName)) ∈ gt := gt_at 863 (by decide +kernel) (by decide +kernel)
theorem mw_794 : (Jvm.Cond.classLink "Galleyforge" (145 : Nat) "Galleyforge$Block") ∈ gt := gt_at 864 (by decide +kernel) (by decide +kernel)
theorem ms_8 : Cond.selects "Galleyforge" (⟨"Galleyforge", "checkBlock", "(I)V"⟩ : MethodName) (⟨"Galleyforge", "checkBlock", "(I)V"⟩ : MethodName) ∈ gt := gt_at 8 (by decide +kernel) (by decide +kernel)
theorem mV_X11_checkBlock : mV yX11_checkBlock cX11_checkBlock 2 none 1 := ⟨⟨mw_791, mw_1, by decide, by decide, by decide +kernel⟩, mw_790, ms_8⟩
theorem dX11_blockAt_0 : decode cX11_blockAt 0 = .ok (.aload_n 0, 1) := by decide +kernel
theorem dX11_blockAt_1 : decode cX11_blockAt 1 = .ok (.iload_n 1, 1) := by decide +kernel
theorem dX11_blockAt_2 : decode cX11_blockAt 2 = .ok (.invokevirtual 168, 3) := by decide +kernel
theorem dX11_blockAt_5 : decode cX11_blockAt 5 = .ok (.aload_n 0, 1) := by decide +kernel
theorem dX11_blockAt_6 : decode cX11_blockAt 6 = .ok (.getfield 12, 3) := by decide +kernel
theorem dX11_blockAt_9 : decode cX11_blockAt 9 = .ok (.getfield 153, 3) := by decide +kernel
theorem dX11_blockAt_12 : decode cX11_blockAt 12 = .ok (.iload_n 1, 1) := by decide +kernel
theorem dX11_blockAt_13 : decode cX11_blockAt 13 = .ok (.invokevirtual 232, 3) := by decide +kernel
theorem dX11_blockAt_16 : decode cX11_blockAt 16 = .ok (.checkcast 145, 3) := by decide +kernel
theorem dX11_blockAt_19 : decode cX11_blockAt 19 = .ok (.areturn, 1) := by decide +kernel
set_option maxHeartbeats 4000000 in
set_option maxRecDepth 100000 in
theorem k_blockAt (l : Launch) (dC : Nat → ClassId) (dI : Nat → Nat → Nat) (k : Nat → ClassId) (hl0 : l.stackTraces = false) (T : Nat → Int → Int → Int → Int) (A : Nat → Int → Int → Nat) (X : Nat → Int → Int → Int) (tl : va_W) (G : Nat → Int → Nat) (Mc : Nat → Int → Int) (Y : Nat → Int → Nat) (O : Nat → Nat) (L : Int → Nat → Int → Int) (C : Nat → Int → Int) (K : Nat → Int → Int) (cp : Nat) (pl : Int) (hPR : PR dI k T A X G Mc Y O L C K cp tl) (hK : TK T) (hrpl : -2147483648 ≤ pl ∧ pl < 2147483648) : Kx l dC dI k yX11_blockAt (.code yX11_blockAt cX11_blockAt 2 (some (.object "Galleyforge$Block"))) ({ frames := 7, cells := 1, slots := 6, locals := 103 } : Room) [.ref (Y 0 0), .int (iI pl)] ([] ++ tl) (fun r w gc gs => ((0 ≤ pl ∧ pl < T 0 0 0 0) ∧ r = some (.ref (A 0 pl 0)) ∧ w = ([] ++ tl) ∧ gc = 0 ∧ gs = 0)) (fun E w gc gs => ((¬ (0 ≤ pl ∧ pl < T 0 0 0 0)) ∧ E = "java/lang/IndexOutOfBoundsException" ∧ w = ([] ++ tl) ∧ gc = 1 ∧ gs = 6)) := by
  refine kx_of (by decide) (Nat.le_of_ble_eq_true rfl) ?_
  intro p e s m args below meth c H locs B hr hex ls hl
  have hx := B.1.1
  have hb := B.1.2.1
  have hl : lv_has ls 2 [(0, .ref (Y 0 0)), (1, .int (iI pl))] := hl
  have hT := PR_TI hPR
  have hnb0 := TK_nb hK
  have hcp0 : 512 ≤ cp ∧ cp ≤ 131072 := by have q9 := hPR.2.2.2; unfold cpOk at q9; omega
  refine lv_aload_n hx hb dX11_blockAt_0 rfl (lv_at hl 0 rfl) ?_
  refine lv_iload_n hx hb dX11_blockAt_1 rfl (lv_at hl 1 rfl) ?_
  have B := bd_swap (a := []) (b := []) (d := tl) (bd_to rfl B)
  obtain ⟨k_1, hk_1⟩ := pk_at (hs := []) (show (((Y 0 0), .inr (11, [.ref (A 50 0 0), .ref (Y 1 0), .ref (Y 2 0), .int (iI (K 0 0)), .ref (Y 3 0)])) : Nat × va_E) ∈ tl from PR_m hPR 0 0 rfl rfl)
  refine k_Vx (rest := []) (wc := ([] ++ tl)) (wr := []) (k_checkBlock l dC dI k hl0 T A X tl G Mc Y O L C K cp pl hPR hK hrpl) B mV_X11_checkBlock mw_788 hl (q0 := k_1) (ci := 11) hk_1 rfl rfl ⟨Nat.le_of_ble_eq_true rfl, Nat.le_of_ble_eq_true rfl⟩ (Nat.le_of_ble_eq_true rfl) rfl dX11_blockAt_2 ⟨Nat.le_of_ble_eq_true rfl, Nat.le_of_ble_eq_true rfl⟩ (fun E ce q9 w gc gs H locs hp B h1 h2 h3 => ?_) (fun r w gc gs H locs hp B => ?_)
  · skip
    obtain ⟨z_2, rfl, hw9, rfl, rfl⟩ := hp
    rw [hw9] at B; clear hw9
    have B := bd_to (ws' := ([] ++ tl)) rfl B
    exact k_out hex (⟨z_2, rfl, rfl, rfl, rfl⟩) B h1 h2 h3 ⟨Nat.le_of_ble_eq_true rfl, Nat.le_of_ble_eq_true rfl⟩ ⟨Nat.le_of_ble_eq_true rfl, Nat.le_of_ble_eq_true rfl⟩
  · skip
    obtain ⟨z_3, rfl, hw9, rfl, rfl⟩ := hp
    rw [hw9] at B; clear hw9
    have B := bd_to (ws' := ([] ++ tl)) rfl B
    refine lv_aload_n hx hb dX11_blockAt_5 rfl (lv_at hl 0 rfl) ?_
    obtain ⟨k_4, hk_4⟩ := pk_at (hs := []) (show (((Y 0 0), .inr (11, [.ref (A 50 0 0), .ref (Y 1 0), .ref (Y 2 0), .int (iI (K 0 0)), .ref (Y 3 0)])) : Nat × va_E) ∈ tl from PR_m hPR 0 0 rfl rfl)
    refine x_get (ci := 11) (C := RX11) (T := TX11) (N := 5) (v := .ref (A 50 0 0)) B k_4 hk_4 rfl in_X11 0 (by decide) mw_474 (fun _ h9 => h9) rfl dX11_blockAt_6 ?_
    obtain ⟨k_5, hk_5⟩ := pk_at (hs := []) hT.1.1
    refine x_get (ci := 9) (C := RX9) (T := TX9) (N := 8) (v := .ref (A 51 0 0)) B k_5 hk_5 rfl in_X9 0 (by decide) mw_78 (fun _ h9 => h9) rfl dX11_blockAt_9 ?_
    refine lv_iload_n hx hb dX11_blockAt_12 rfl (lv_at hl 1 rfl) ?_
    have B := bd_swap (a := []) (b := []) (d := tl) (bd_to rfl B)
    obtain ⟨k_6, fk_6, hk_6⟩ := LI_at (hs := []) hT.2.1
    refine k_V (rest := []) (wc := ([] ++ tl)) (wr := []) (k_getB l dC dI k T A X tl pl hT hK z_3) B mV_Jx4a65c_get_915e3 mw_793 hl (q0 := k_6) (ci := 12) hk_6 rfl rfl ⟨Nat.le_of_ble_eq_true rfl, Nat.le_of_ble_eq_true rfl⟩ (Nat.le_of_ble_eq_true rfl) rfl dX11_blockAt_13 ⟨Nat.le_of_ble_eq_true rfl, Nat.le_of_ble_eq_true rfl⟩ (fun r w gc gs H locs hp B => ?_)
    obtain ⟨rfl, hw9, rfl, rfl⟩ := hp
    rw [hw9] at B; clear hw9
    have B := bd_to (ws' := ([] ++ tl)) rfl B
    obtain ⟨k_7, hk_7⟩ := pk_at (hs := []) (hT.2.2.2.1 pl (by omega) (by omega)).1
    refine x_cast (ci := 0) (C := RX0) (T := TX0) (N := 4) B k_7 hk_7 rfl mw_794 dX11_blockAt_16 ?_
    exact vx_ret (k_aret B hr (⟨z_3, rfl, rfl, rfl, rfl⟩) ⟨Nat.le_of_ble_eq_true rfl, Nat.le_of_ble_eq_true rfl⟩ ⟨Nat.le_of_ble_eq_true rfl, Nat.le_of_ble_eq_true rfl⟩ dX11_blockAt_19)

theorem mw_784 : (Jvm.Cond.methodLink "Galleyforge" (109 : Nat) ({ cls := "Galleyforge", name := "blockAt", desc := "(I)LGalleyforge$Block;" } : Jvm.MethodName)) ∈ gt := gt_at 854 (by decide +kernel) (by decide +kernel)
theorem mw_786 : (Jvm.Cond.instanceMethod ({ cls := "Galleyforge", name := "blockAt", desc := "(I)LGalleyforge$Block;" } : Jvm.MethodName)) ∈ gt := gt_at 856 (by decide +kernel) (by decide +kernel)
theorem mw_787 : (Jvm.Cond.code ({ cls := "Galleyforge", name := "blockAt", desc := "(I)LGalleyforge$Block;" } : Jvm.MethodName) prog_1_method_49_code (2 : Nat) (Option.some (Jvm.ClassFile.FieldType.object "Galleyforge$Block"))) ∈ gt := gt_at 857 (by decide +kernel) (by decide +kernel)
theorem mw_1187 : (Jvm.Cond.fieldLink "Galleyforge" (188 : Nat) "Galleyforge$Block" "table" "LGalleyforge$Table;") ∈ gt := gt_at 1257 (by decide +kernel) (by decide +kernel)
theorem ms_7 : Cond.selects "Galleyforge" (⟨"Galleyforge", "blockAt", "(I)LGalleyforge$Block;"⟩ : MethodName) (⟨"Galleyforge", "blockAt", "(I)LGalleyforge$Block;"⟩ : MethodName) ∈ gt := gt_at 7 (by decide +kernel) (by decide +kernel)
theorem mV_X11_blockAt : mV yX11_blockAt cX11_blockAt 2 (some (.object "Galleyforge$Block")) 1 := ⟨⟨mw_787, mw_1, by decide, by decide, by decide +kernel⟩, mw_786, ms_7⟩
theorem dX11_tableAt_0 : decode cX11_tableAt 0 = .ok (.aload_n 0, 1) := by decide +kernel
theorem dX11_tableAt_1 : decode cX11_tableAt 1 = .ok (.iload_n 1, 1) := by decide +kernel
theorem dX11_tableAt_2 : decode cX11_tableAt 2 = .ok (.invokevirtual 109, 3) := by decide +kernel
theorem dX11_tableAt_5 : decode cX11_tableAt 5 = .ok (.getfield 188, 3) := by decide +kernel
theorem dX11_tableAt_8 : decode cX11_tableAt 8 = .ok (.astore_n 2, 1) := by decide +kernel
theorem dX11_tableAt_9 : decode cX11_tableAt 9 = .ok (.aload_n 2, 1) := by decide +kernel
theorem dX11_tableAt_10 : decode cX11_tableAt 10 = .ok (.ifnonnull 13, 3) := by decide +kernel
theorem dX11_tableAt_13 : decode cX11_tableAt 13 = .ok (.new 47, 3) := by decide +kernel
theorem dX11_tableAt_16 : decode cX11_tableAt 16 = .ok (.dup, 1) := by decide +kernel
theorem dX11_tableAt_17 : decode cX11_tableAt 17 = .ok (.ldc 192, 2) := by decide +kernel
theorem dX11_tableAt_19 : decode cX11_tableAt 19 = .ok (.invokespecial 51, 3) := by decide +kernel
theorem dX11_tableAt_22 : decode cX11_tableAt 22 = .ok (.athrow, 1) := by decide +kernel
theorem dX11_tableAt_23 : decode cX11_tableAt 23 = .ok (.aload_n 2, 1) := by decide +kernel
theorem dX11_tableAt_24 : decode cX11_tableAt 24 = .ok (.areturn, 1) := by decide +kernel
set_option maxHeartbeats 4000000 in
set_option maxRecDepth 100000 in
theorem k_tableAt (l : Launch) (dC : Nat → ClassId) (dI : Nat → Nat → Nat) (k : Nat → ClassId) (hl0 : l.stackTraces = false) (T : Nat → Int → Int → Int → Int) (A : Nat → Int → Int → Nat) (X : Nat → Int → Int → Int) (tl : va_W) (G : Nat → Int → Nat) (Mc : Nat → Int → Int) (Y : Nat → Int → Nat) (O : Nat → Nat) (L : Int → Nat → Int → Int) (C : Nat → Int → Int) (K : Nat → Int → Int) (cp : Nat) (pl : Int) (hPR : PR dI k T A X G Mc Y O L C K cp tl) (hK : TK T) (hrpl : -2147483648 ≤ pl ∧ pl < 2147483648) : Kx l dC dI k yX11_tableAt (.code yX11_tableAt cX11_tableAt 3 (some (.object "Galleyforge$Table"))) ({ frames := 8, cells := 1, slots := 6, locals := 124 } : Room) [.ref (Y 0 0), .int (iI pl)] ([] ++ tl) (fun r w gc gs => (((0 ≤ pl ∧ pl < T 0 0 0 0) ∧ T 1 pl 0 0 = 3) ∧ r = some (.ref (A 7 pl 0)) ∧ w = ([] ++ tl) ∧ gc = 0 ∧ gs = 0)) (fun E w gc gs => ((¬ ((0 ≤ pl ∧ pl < T 0 0 0 0) ∧ T 1 pl 0 0 = 3)) ∧ E = "java/lang/IndexOutOfBoundsException" ∧ w = ([] ++ tl) ∧ gc = 1 ∧ gs = 6)) := by
  refine kx_of (by decide) (Nat.le_of_ble_eq_true rfl) ?_
  intro p e s m args below meth c H locs B hr hex ls hl
  have hx := B.1.1
  have hb := B.1.2.1
  have hl : lv_has ls 3 [(0, .ref (Y 0 0)), (1, .int (iI pl))] := hl
  have hT := PR_TI hPR
  have hnb0 := TK_nb hK
  have hcp0 : 512 ≤ cp ∧ cp ≤ 131072 := by have q9 := hPR.2.2.2; unfold cpOk at q9; omega
  refine lv_aload_n hx hb dX11_tableAt_0 rfl (lv_at hl 0 rfl) ?_
  refine lv_iload_n hx hb dX11_tableAt_1 rfl (lv_at hl 1 rfl) ?_
  have B := bd_swap (a := []) (b := []) (d := tl) (bd_to rfl B)
  obtain ⟨k_1, hk_1⟩ := pk_at (hs := []) (show (((Y 0 0), .inr (11, [.ref (A 50 0 0), .ref (Y 1 0), .ref (Y 2 0), .int (iI (K 0 0)), .ref (Y 3 0)])) : Nat × va_E) ∈ tl from PR_m hPR 0 0 rfl rfl)
  refine k_Vx (rest := []) (wc := ([] ++ tl)) (wr := []) (k_blockAt l dC dI k hl0 T A X tl G Mc Y O L C K cp pl hPR hK hrpl) B mV_X11_blockAt mw_784 hl (q0 := k_1) (ci := 11) hk_1 rfl rfl ⟨Nat.le_of_ble_eq_true rfl, Nat.le_of_ble_eq_true rfl⟩ (Nat.le_of_ble_eq_true rfl) rfl dX11_tableAt_2 ⟨Nat.le_of_ble_eq_true rfl, Nat.le_of_ble_eq_true rfl⟩ (fun E ce q9 w gc gs H locs hp B h1 h2 h3 => ?_) (fun r w gc gs H locs hp B => ?_)
  · skip
    obtain ⟨z_2, rfl, hw9, rfl, rfl⟩ := hp
    rw [hw9] at B; clear hw9
    have B := bd_to (ws' := ([] ++ tl)) rfl B
    exact k_out hex (⟨(by omega), rfl, rfl, rfl, rfl⟩) B h1 h2 h3 ⟨Nat.le_of_ble_eq_true rfl, Nat.le_of_ble_eq_true rfl⟩ ⟨Nat.le_of_ble_eq_true rfl, Nat.le_of_ble_eq_true rfl⟩
  · skip
    obtain ⟨z_3, rfl, hw9, rfl, rfl⟩ := hp
    rw [hw9] at B; clear hw9
    have B := bd_to (ws' := ([] ++ tl)) rfl B
    obtain ⟨k_4, hk_4⟩ := pk_at (hs := []) (hT.2.2.2.1 pl (by omega) (by omega)).1
    refine x_get (ci := 0) (C := RX0) (T := TX0) (N := 4) (v := va_rf (if T 1 pl 0 0 = 3 then some (A 7 pl 0) else none)) B k_4 hk_4 rfl in_X0 3 (by decide) mw_1187 (fun _ h9 => h9) rfl dX11_tableAt_5 ?_
    by_cases zc_5 : T 1 pl 0 0 = 3
    · refine lv_setv (y := .ref (A 7 pl 0)) (by rw [if_pos zc_5]; rfl) ?_
      refine lv_astore_n (lv' := [(2, .ref (A 7 pl 0)), (0, .ref (Y 0 0)), (1, .int (iI pl))]) hx hb dX11_tableAt_8 rfl hl (by decide) rfl (fun ls hl => ?_)
      refine lv_aload_n hx hb dX11_tableAt_9 rfl (lv_at hl 0 rfl) ?_
      refine lv_ifnonnull (tgt := 23) hx hb dX11_tableAt_10 (by decide) ?_
      refine lv_aload_n hx hb dX11_tableAt_23 rfl (lv_at hl 0 rfl) ?_
      exact vx_ret (k_aret B hr (⟨(by omega), rfl, rfl, rfl, rfl⟩) ⟨Nat.le_of_ble_eq_true rfl, Nat.le_of_ble_eq_true rfl⟩ ⟨Nat.le_of_ble_eq_true rfl, Nat.le_of_ble_eq_true rfl⟩ dX11_tableAt_24)
    · refine lv_setv (y := .null) (by rw [if_neg zc_5]; rfl) ?_
      refine lv_astore_nN (lv' := [(2, .null), (0, .ref (Y 0 0)), (1, .int (iI pl))]) hx hb dX11_tableAt_8 rfl hl (by decide) rfl (fun ls hl => ?_)
      refine lv_aload_nN hx hb dX11_tableAt_9 rfl (lv_at hl 0 rfl) ?_
      refine lv_ifnonnullN hx hb dX11_tableAt_10 ?_
      exact k_thrG (tx := "no table") xE_ioobe (⟨(by omega), rfl, rfl, rfl, rfl⟩) ⟨Nat.le_of_ble_eq_true rfl, Nat.le_of_ble_eq_true rfl⟩ hl0 B hex hl (by decide +kernel) dX11_tableAt_13 dX11_tableAt_16 dX11_tableAt_17 dX11_tableAt_19 dX11_tableAt_22 ⟨Nat.le_of_ble_eq_true rfl, Nat.le_of_ble_eq_true rfl, Nat.le_of_ble_eq_true rfl, Nat.le_of_ble_eq_true rfl⟩ ⟨Nat.le_of_ble_eq_true rfl, Nat.le_of_ble_eq_true rfl⟩

theorem mw_1183 : (Jvm.Cond.fieldLink "Galleyforge" (144 : Nat) "Galleyforge$Block" "words" "Ljava/util/ArrayList;") ∈ gt := gt_at 1253 (by decide +kernel) (by decide +kernel)
theorem dX11_checkWord_0 : decode cX11_checkWord 0 = .ok (.iload_n 1, 1) := by decide +kernel
theorem dX11_checkWord_1 : decode cX11_checkWord 1 = .ok (.ifCond .lt 14, 3) := by decide +kernel
theorem dX11_checkWord_4 : decode cX11_checkWord 4 = .ok (.iload_n 1, 1) := by decide +kernel
theorem dX11_checkWord_5 : decode cX11_checkWord 5 = .ok (.aload_n 0, 1) := by decide +kernel
theorem dX11_checkWord_6 : decode cX11_checkWord 6 = .ok (.getfield 144, 3) := by decide +kernel
theorem dX11_checkWord_9 : decode cX11_checkWord 9 = .ok (.invokevirtual 85, 3) := by decide +kernel
theorem dX11_checkWord_12 : decode cX11_checkWord 12 = .ok (.if_icmp .lt 14, 3) := by decide +kernel
theorem dX11_checkWord_15 : decode cX11_checkWord 15 = .ok (.new 47, 3) := by decide +kernel
theorem dX11_checkWord_18 : decode cX11_checkWord 18 = .ok (.dup, 1) := by decide +kernel
theorem dX11_checkWord_19 : decode cX11_checkWord 19 = .ok (.ldc_w 396, 3) := by decide +kernel
theorem dX11_checkWord_22 : decode cX11_checkWord 22 = .ok (.invokespecial 51, 3) := by decide +kernel
theorem dX11_checkWord_25 : decode cX11_checkWord 25 = .ok (.athrow, 1) := by decide +kernel
theorem dX11_checkWord_26 : decode cX11_checkWord 26 = .ok (.return_, 1) := by decide +kernel
set_option maxHeartbeats 4000000 in
set_option maxRecDepth 100000 in
theorem k_checkWord (l : Launch) (dC : Nat → ClassId) (dI : Nat → Nat → Nat) (k : Nat → ClassId) (hl0 : l.stackTraces = false) (T : Nat → Int → Int → Int → Int) (A : Nat → Int → Int → Nat) (X : Nat → Int → Int → Int) (tl : va_W) (G : Nat → Int → Nat) (Mc : Nat → Int → Int) (Y : Nat → Int → Nat) (O : Nat → Nat) (L : Int → Nat → Int → Int) (C : Nat → Int → Int) (K : Nat → Int → Int) (cp : Nat) (i : Int) (at_ : Int) (hPR : PR dI k T A X G Mc Y O L C K cp tl) (hK : TK T) (hi : 0 ≤ i ∧ i < T 0 0 0 0) (hrat_ : -2147483648 ≤ at_ ∧ at_ < 2147483648) : Kx l dC dI k yX11_checkWord (.code yX11_checkWord cX11_checkWord 2 none) ({ frames := 6, cells := 1, slots := 6, locals := 82 } : Room) [.ref (A 0 i 0), .int (iI at_)] ([] ++ tl) (fun r w gc gs => ((0 ≤ at_ ∧ at_ < T 3 i 0 0) ∧ r = none ∧ w = ([] ++ tl) ∧ gc = 0 ∧ gs = 0)) (fun E w gc gs => ((¬ (0 ≤ at_ ∧ at_ < T 3 i 0 0)) ∧ E = "java/lang/IndexOutOfBoundsException" ∧ w = ([] ++ tl) ∧ gc = 1 ∧ gs = 6)) := by
  refine kx_of (by decide) (Nat.le_of_ble_eq_true rfl) ?_
  intro p e s m args below meth c H locs B hr hex ls hl
  have hx := B.1.1
  have hb := B.1.2.1
  have hl : lv_has ls 2 [(0, .ref (A 0 i 0)), (1, .int (iI at_))] := hl
  have hT := PR_TI hPR
  have hnb0 := TK_nb hK
  have hcp0 : 512 ≤ cp ∧ cp ≤ 131072 := by have q9 := hPR.2.2.2; unfold cpOk at q9; omega
  refine lv_iload_n hx hb dX11_checkWord_0 rfl (lv_at hl 1 rfl) ?_
  refine lv_if_lt (tgt := 15) hx hb dX11_checkWord_1 (by decide) (fun c_1 => ?_) (fun c_1 => ?_)
  · have zc_1 : at_ < 0 := jlt (a := at_) (b := 0) (by omega) (by omega) c_1
    exact k_thrWG (tx := "no such word") xE_ioobe (⟨(by omega), rfl, rfl, rfl, rfl⟩) ⟨Nat.le_of_ble_eq_true rfl, Nat.le_of_ble_eq_true rfl⟩ hl0 B hex hl (by decide +kernel) dX11_checkWord_15 dX11_checkWord_18 dX11_checkWord_19 dX11_checkWord_22 dX11_checkWord_25 ⟨Nat.le_of_ble_eq_true rfl, Nat.le_of_ble_eq_true rfl, Nat.le_of_ble_eq_true rfl, Nat.le_of_ble_eq_true rfl⟩ ⟨Nat.le_of_ble_eq_true rfl, Nat.le_of_ble_eq_true rfl⟩
  · have zc_1 : 0 ≤ at_ := jnlt (a := at_) (b := 0) (by omega) (by omega) c_1
    refine lv_iload_n hx hb dX11_checkWord_4 rfl (lv_at hl 1 rfl) ?_
    refine lv_aload_n hx hb dX11_checkWord_5 rfl (lv_at hl 0 rfl) ?_
    obtain ⟨k_2, hk_2⟩ := pk_at (hs := []) (hT.2.2.2.1 i (by omega) (by omega)).1
    refine x_get (ci := 0) (C := RX0) (T := TX0) (N := 4) (v := .ref (A 2 i 0)) B k_2 hk_2 rfl in_X0 2 (by decide) mw_1183 (fun _ h9 => h9) rfl dX11_checkWord_6 ?_
    have B := bd_swap (a := []) (b := []) (d := tl) (bd_to rfl B)
    obtain ⟨k_3, fk_3, hk_3⟩ := LI_at (hs := []) (hT.2.2.2.1 i (by omega) (by omega)).2.2
    refine k_V (rest := [.int (iI at_)]) (wc := ([] ++ tl)) (wr := []) (k_sizeW l dC dI k T A X tl i hT hK hi) B mV_Jx4a65c_size_8abf5 mw_637 hl (q0 := k_3) (ci := 12) hk_3 rfl rfl ⟨Nat.le_of_ble_eq_true rfl, Nat.le_of_ble_eq_true rfl⟩ (Nat.le_of_ble_eq_true rfl) rfl dX11_checkWord_9 ⟨Nat.le_of_ble_eq_true rfl, Nat.le_of_ble_eq_true rfl⟩ (fun r w gc gs H locs hp B => ?_)
    obtain ⟨z_4, rfl, hw9, rfl, rfl⟩ := hp
    rw [hw9] at B; clear hw9
    have B := bd_to (ws' := ([] ++ tl)) rfl B
    refine lv_icmp_lt (tgt := 26) hx hb dX11_checkWord_12 (by decide) (fun c_5 => ?_) (fun c_5 => ?_)
    · have zc_5 : at_ < (T 3 i 0 0) := jlt (a := at_) (b := (T 3 i 0 0)) (by omega) (by omega) c_5
      exact vx_ret (k_vret B hr (⟨(by omega), rfl, rfl, rfl, rfl⟩) ⟨Nat.le_of_ble_eq_true rfl, Nat.le_of_ble_eq_true rfl⟩ ⟨Nat.le_of_ble_eq_true rfl, Nat.le_of_ble_eq_true rfl⟩ dX11_checkWord_26)
    · have zc_5 : (T 3 i 0 0) ≤ at_ := jnlt (a := at_) (b := (T 3 i 0 0)) (by omega) (by omega) c_5
      exact k_thrWG (tx := "no such word") xE_ioobe (⟨(by omega), rfl, rfl, rfl, rfl⟩) ⟨Nat.le_of_ble_eq_true rfl, Nat.le_of_ble_eq_true rfl⟩ hl0 B hex hl (by decide +kernel) dX11_checkWord_15 dX11_checkWord_18 dX11_checkWord_19 dX11_checkWord_22 dX11_checkWord_25 ⟨Nat.le_of_ble_eq_true rfl, Nat.le_of_ble_eq_true rfl, Nat.le_of_ble_eq_true rfl, Nat.le_of_ble_eq_true rfl⟩ ⟨Nat.le_of_ble_eq_true rfl, Nat.le_of_ble_eq_true rfl⟩

theorem dX11_checkGapBetweenWords_0 : decode cX11_checkGapBetweenWords 0 = .ok (.iload_n 1, 1) := by decide +kernel
theorem dX11_checkGapBetweenWords_1 : decode cX11_checkGapBetweenWords 1 = .ok (.ifCond .lt 14, 3) := by decide +kernel
theorem dX11_checkGapBetweenWords_4 : decode cX11_checkGapBetweenWords 4 = .ok (.iload_n 1, 1) := by decide +kernel
theorem dX11_checkGapBetweenWords_5 : decode cX11_checkGapBetweenWords 5 = .ok (.aload_n 0, 1) := by decide +kernel
theorem dX11_checkGapBetweenWords_6 : decode cX11_checkGapBetweenWords 6 = .ok (.getfield 144, 3) := by decide +kernel
theorem dX11_checkGapBetweenWords_9 : decode cX11_checkGapBetweenWords 9 = .ok (.invokevirtual 85, 3) := by decide +kernel
theorem dX11_checkGapBetweenWords_12 : decode cX11_checkGapBetweenWords 12 = .ok (.if_icmp .le 14, 3) := by decide +kernel
theorem dX11_checkGapBetweenWords_15 : decode cX11_checkGapBetweenWords 15 = .ok (.new 47, 3) := by decide +kernel
theorem dX11_checkGapBetweenWords_18 : decode cX11_checkGapBetweenWords 18 = .ok (.dup, 1) := by decide +kernel
theorem dX11_checkGapBetweenWords_19 : decode cX11_checkGapBetweenWords 19 = .ok (.ldc_w 398, 3) := by decide +kernel
theorem dX11_checkGapBetweenWords_22 : decode cX11_checkGapBetweenWords 22 = .ok (.invokespecial 51, 3) := by decide +kernel
theorem dX11_checkGapBetweenWords_25 : decode cX11_checkGapBetweenWords 25 = .ok (.athrow, 1) := by decide +kernel
theorem dX11_checkGapBetweenWords_26 : decode cX11_checkGapBetweenWords 26 = .ok (.return_, 1) := by decide +kernel
set_option maxHeartbeats 4000000 in
set_option maxRecDepth 100000 in
theorem k_checkGap (l : Launch) (dC : Nat → ClassId) (dI : Nat → Nat → Nat) (k : Nat → ClassId) (hl0 : l.stackTraces = false) (T : Nat → Int → Int → Int → Int) (A : Nat → Int → Int → Nat) (X : Nat → Int → Int → Int) (tl : va_W) (G : Nat → Int → Nat) (Mc : Nat → Int → Int) (Y : Nat → Int → Nat) (O : Nat → Nat) (L : Int → Nat → Int → Int) (C : Nat → Int → Int) (K : Nat → Int → Int) (cp : Nat) (i : Int) (at_ : Int) (hPR : PR dI k T A X G Mc Y O L C K cp tl) (hK : TK T) (hi : 0 ≤ i ∧ i < T 0 0 0 0) (hrat_ : -2147483648 ≤ at_ ∧ at_ < 2147483648) : Kx l dC dI k yX11_checkGapBetweenWords (.code yX11_checkGapBetweenWords cX11_checkGapBetweenWords 2 none) ({ frames := 6, cells := 1, slots := 6, locals := 82 } : Room) [.ref (A 0 i 0), .int (iI at_)] ([] ++ tl) (fun r w gc gs => ((0 ≤ at_ ∧ at_ ≤ T 3 i 0 0) ∧ r = none ∧ w = ([] ++ tl) ∧ gc = 0 ∧ gs = 0)) (fun E w gc gs => ((¬ (0 ≤ at_ ∧ at_ ≤ T 3 i 0 0)) ∧ E = "java/lang/IndexOutOfBoundsException" ∧ w = ([] ++ tl) ∧ gc = 1 ∧ gs = 6)) := by
  refine kx_of (by decide) (Nat.le_of_ble_eq_true rfl) ?_
  intro p e s m args below meth c H locs B hr hex ls hl
  have hx := B.1.1
  have hb := B.1.2.1
  have hl : lv_has ls 2 [(0, .ref (A 0 i 0)), (1, .int (iI at_))] := hl
  have hT := PR_TI hPR
  have hnb0 := TK_nb hK
  have hcp0 : 512 ≤ cp ∧ cp ≤ 131072 := by have q9 := hPR.2.2.2; unfold cpOk at q9; omega
  refine lv_iload_n hx hb dX11_checkGapBetweenWords_0 rfl (lv_at hl 1 rfl) ?_
  refine lv_if_lt (tgt := 15) hx hb dX11_checkGapBetweenWords_1 (by decide) (fun c_1 => ?_) (fun c_1 => ?_)
  · have zc_1 : at_ < 0 := jlt (a := at_) (b := 0) (by omega) (by omega) c_1
    exact k_thrWG (tx := "no such place in the block") xE_ioobe (⟨(by omega), rfl, rfl, rfl, rfl⟩) ⟨Nat.le_of_ble_eq_true rfl, Nat.le_of_ble_eq_true rfl⟩ hl0 B hex hl (by decide +kernel) dX11_checkGapBetweenWords_15 dX11_checkGapBetweenWords_18 dX11_checkGapBetweenWords_19 dX11_checkGapBetweenWords_22 dX11_checkGapBetweenWords_25 ⟨Nat.le_of_ble_eq_true rfl, Nat.le_of_ble_eq_true rfl, Nat.le_of_ble_eq_true rfl, Nat.le_of_ble_eq_true rfl⟩ ⟨Nat.le_of_ble_eq_true rfl, Nat.le_of_ble_eq_true rfl⟩
  · have zc_1 : 0 ≤ at_ := jnlt (a := at_) (b := 0) (by omega) (by omega) c_1
    refine lv_iload_n hx hb dX11_checkGapBetweenWords_4 rfl (lv_at hl 1 rfl) ?_
    refine lv_aload_n hx hb dX11_checkGapBetweenWords_5 rfl (lv_at hl 0 rfl) ?_
    obtain ⟨k_2, hk_2⟩ := pk_at (hs := []) (hT.2.2.2.1 i (by omega) (by omega)).1
    refine x_get (ci := 0) (C := RX0) (T := TX0) (N := 4) (v := .ref (A 2 i 0)) B k_2 hk_2 rfl in_X0 2 (by decide) mw_1183 (fun _ h9 => h9) rfl dX11_checkGapBetweenWords_6 ?_
    have B := bd_swap (a := []) (b := []) (d := tl) (bd_to rfl B)
    obtain ⟨k_3, fk_3, hk_3⟩ := LI_at (hs := []) (hT.2.2.2.1 i (by omega) (by omega)).2.2
    refine k_V (rest := [.int (iI at_)]) (wc := ([] ++ tl)) (wr := []) (k_sizeW l dC dI k T A X tl i hT hK hi) B mV_Jx4a65c_size_8abf5 mw_637 hl (q0 := k_3) (ci := 12) hk_3 rfl rfl ⟨Nat.le_of_ble_eq_true rfl, Nat.le_of_ble_eq_true rfl⟩ (Nat.le_of_ble_eq_true rfl) rfl dX11_checkGapBetweenWords_9 ⟨Nat.le_of_ble_eq_true rfl, Nat.le_of_ble_eq_true rfl⟩ (fun r w gc gs H locs hp B => ?_)
    obtain ⟨z_4, rfl, hw9, rfl, rfl⟩ := hp
    rw [hw9] at B; clear hw9
    have B := bd_to (ws' := ([] ++ tl)) rfl B
    refine lv_icmp_le (tgt := 26) hx hb dX11_checkGapBetweenWords_12 (by decide) (fun c_5 => ?_) (fun c_5 => ?_)
    · have zc_5 : at_ ≤ (T 3 i 0 0) := jle (a := at_) (b := (T 3 i 0 0)) (by omega) (by omega) c_5
      exact vx_ret (k_vret B hr (⟨(by omega), rfl, rfl, rfl, rfl⟩) ⟨Nat.le_of_ble_eq_true rfl, Nat.le_of_ble_eq_true rfl⟩ ⟨Nat.le_of_ble_eq_true rfl, Nat.le_of_ble_eq_true rfl⟩ dX11_checkGapBetweenWords_26)
    · have zc_5 : (T 3 i 0 0) < at_ := jnle (a := at_) (b := (T 3 i 0 0)) (by omega) (by omega) c_5
      exact k_thrWG (tx := "no such place in the block") xE_ioobe (⟨(by omega), rfl, rfl, rfl, rfl⟩) ⟨Nat.le_of_ble_eq_true rfl, Nat.le_of_ble_eq_true rfl⟩ hl0 B hex hl (by decide +kernel) dX11_checkGapBetweenWords_15 dX11_checkGapBetweenWords_18 dX11_checkGapBetweenWords_19 dX11_checkGapBetweenWords_22 dX11_checkGapBetweenWords_25 ⟨Nat.le_of_ble_eq_true rfl, Nat.le_of_ble_eq_true rfl, Nat.le_of_ble_eq_true rfl, Nat.le_of_ble_eq_true rfl⟩ ⟨Nat.le_of_ble_eq_true rfl, Nat.le_of_ble_eq_true rfl⟩

theorem mw_802 : (Jvm.Cond.methodLink "Galleyforge" (400 : Nat) ({ cls := "Galleyforge$Block", name := "hasWords", desc := "()Z" } : Jvm.MethodName)) ∈ gt := gt_at 872 (by decide +kernel) (by decide +kernel)
theorem mw_803 : (Jvm.Cond.instanceMethod ({ cls := "Galleyforge$Block", name := "hasWords", desc := "()Z" } : Jvm.MethodName)) ∈ gt := gt_at 873 (by decide +kernel) (by decide +kernel)
theorem mw_804 : (Jvm.Cond.selects "Galleyforge$Block" ({ cls := "Galleyforge$Block", name := "hasWords", desc := "()Z" } : Jvm.MethodName) ({ cls := "Galleyforge$Block", name := "hasWords", desc := "()Z" } : Jvm.MethodName)) ∈ gt := gt_at 874 (by decide +kernel) (by decide +kernel)
theorem mw_805 : (Jvm.Cond.code ({ cls := "Galleyforge$Block", name := "hasWords", desc := "()Z" } : Jvm.MethodName) prog_2_method_4_code (1 : Nat) (Option.some Jvm.ClassFile.FieldType.boolean)) ∈ gt := gt_at 875 (by decide +kernel) (by decide +kernel)
theorem mV_X0_hasWords : mV yX0_hasWords cX0_hasWords 1 (some .boolean) 0 := ⟨⟨mw_805, mw_19, by decide, by decide, by decide +kernel⟩, mw_803, mw_804⟩
theorem dX11_checkRoomForWord_0 : decode cX11_checkRoomForWord 0 = .ok (.aload_n 0, 1) := by decide +kernel
theorem dX11_checkRoomForWord_1 : decode cX11_checkRoomForWord 1 = .ok (.invokevirtual 400, 3) := by decide +kernel
theorem dX11_checkRoomForWord_4 : decode cX11_checkRoomForWord 4 = .ok (.ifCond .eq 15, 3) := by decide +kernel
theorem dX11_checkRoomForWord_7 : decode cX11_checkRoomForWord 7 = .ok (.aload_n 0, 1) := by decide +kernel
theorem dX11_checkRoomForWord_8 : decode cX11_checkRoomForWord 8 = .ok (.getfield 144, 3) := by decide +kernel
theorem dX11_checkRoomForWord_11 : decode cX11_checkRoomForWord 11 = .ok (.invokevirtual 85, 3) := by decide +kernel
theorem dX11_checkRoomForWord_14 : decode cX11_checkRoomForWord 14 = .ok (.bipush 12, 2) := by decide +kernel
theorem dX11_checkRoomForWord_16 : decode cX11_checkRoomForWord 16 = .ok (.if_icmp .lt 14, 3) := by decide +kernel
theorem dX11_checkRoomForWord_19 : decode cX11_checkRoomForWord 19 = .ok (.new 58, 3) := by decide +kernel
theorem dX11_checkRoomForWord_22 : decode cX11_checkRoomForWord 22 = .ok (.dup, 1) := by decide +kernel
theorem dX11_checkRoomForWord_23 : decode cX11_checkRoomForWord 23 = .ok (.ldc_w 403, 3) := by decide +kernel
theorem dX11_checkRoomForWord_26 : decode cX11_checkRoomForWord 26 = .ok (.invokespecial 62, 3) := by decide +kernel
theorem dX11_checkRoomForWord_29 : decode cX11_checkRoomForWord 29 = .ok (.athrow, 1) := by decide +kernel
theorem dX11_checkRoomForWord_30 : decode cX11_checkRoomForWord 30 = .ok (.return_, 1) := by decide +kernel
set_option maxHeartbeats 4000000 in
set_option maxRecDepth 100000 in
theorem k_checkRoom (l : Launch) (dC : Nat → ClassId) (dI : Nat → Nat → Nat) (k : Nat → ClassId) (hl0 : l.stackTraces = false) (T : Nat → Int → Int → Int → Int) (A : Nat → Int → Int → Nat) (X : Nat → Int → Int → Int) (tl : va_W) (G : Nat → Int → Nat) (Mc : Nat → Int → Int) (Y : Nat → Int → Nat) (O : Nat → Nat) (L : Int → Nat → Int → Int) (C : Nat → Int → Int) (K : Nat → Int → Int) (cp : Nat) (i : Int) (hPR : PR dI k T A X G Mc Y O L C K cp tl) (hK : TK T) (hi : 0 ≤ i ∧ i < T 0 0 0 0) : Kx l dC dI k yX11_checkRoomForWord (.code yX11_checkRoomForWord cX11_checkRoomForWord 1 none) ({ frames := 6, cells := 1, slots := 6, locals := 82 } : Room) [.ref (A 0 i 0)] ([] ++ tl) (fun r w gc gs => ((T 1 i 0 0 ≤ 2 ∧ T 3 i 0 0 < 12) ∧ r = none ∧ w = ([] ++ tl) ∧ gc = 0 ∧ gs = 0)) (fun E w gc gs => ((¬ (T 1 i 0 0 ≤ 2 ∧ T 3 i 0 0 < 12)) ∧ E = "java/lang/IllegalStateException" ∧ w = ([] ++ tl) ∧ gc = 1 ∧ gs = 6)) := by
  refine kx_of (by decide) (Nat.le_of_ble_eq_true rfl) ?_
  intro p e s m args below meth c H locs B hr hex ls hl
  have hx := B.1.1
  have hb := B.1.2.1
  have hl : lv_has ls 1 [(0, .ref (A 0 i 0))] := hl
  have hT := PR_TI hPR
  have hnb0 := TK_nb hK
  have hcp0 : 512 ≤ cp ∧ cp ≤ 131072 := by have q9 := hPR.2.2.2; unfold cpOk at q9; omega
  refine lv_aload_n hx hb dX11_checkRoomForWord_0 rfl (lv_at hl 0 rfl) ?_
  have B := bd_swap (a := []) (b := []) (d := tl) (bd_to rfl B)
  obtain ⟨k_1, hk_1⟩ := pk_at (hs := []) (hT.2.2.2.1 i (by omega) (by omega)).1
  refine k_V (rest := []) (wc := ([] ++ tl)) (wr := []) (k_hasWords l dC dI k T A X tl i hT hK hi) B mV_X0_hasWords mw_802 hl (q0 := k_1) (ci := 0) hk_1 rfl rfl ⟨Nat.le_of_ble_eq_true rfl, Nat.le_of_ble_eq_true rfl⟩ (Nat.le_of_ble_eq_true rfl) rfl dX11_checkRoomForWord_1 ⟨Nat.le_of_ble_eq_true rfl, Nat.le_of_ble_eq_true rfl⟩ (fun r w gc gs H locs hp B => ?_)
  rcases hp with ⟨z_2, rfl, hw9, rfl, rfl⟩ | ⟨z_3, rfl, hw9, rfl, rfl⟩
  · skip
    rw [hw9] at B; clear hw9
    have B := bd_to (ws' := ([] ++ tl)) rfl B
    refine lv_if_eq (tgt := 19) hx hb dX11_checkRoomForWord_4 (by decide) (fun c9 => absurd c9 (by decide)) (fun _ => ?_)
    refine lv_aload_n hx hb dX11_checkRoomForWord_7 rfl (lv_at hl 0 rfl) ?_
    obtain ⟨k_4, hk_4⟩ := pk_at (hs := []) (hT.2.2.2.1 i (by omega) (by omega)).1
    refine x_get (ci := 0) (C := RX0) (T := TX0) (N := 4) (v := .ref (A 2 i 0)) B k_4 hk_4 rfl in_X0 2 (by decide) mw_1183 (fun _ h9 => h9) rfl dX11_checkRoomForWord_8 ?_
    have B := bd_swap (a := []) (b := []) (d := tl) (bd_to rfl B)
    obtain ⟨k_5, fk_5, hk_5⟩ := LI_at (hs := []) (hT.2.2.2.1 i (by omega) (by omega)).2.2
    refine k_V (rest := []) (wc := ([] ++ tl)) (wr := []) (k_sizeW l dC dI k T A X tl i hT hK hi) B mV_Jx4a65c_size_8abf5 mw_637 hl (q0 := k_5) (ci := 12) hk_5 rfl rfl ⟨Nat.le_of_ble_eq_true rfl, Nat.le_of_ble_eq_true rfl⟩ (Nat.le_of_ble_eq_true rfl) rfl dX11_checkRoomForWord_11 ⟨Nat.le_of_ble_eq_true rfl, Nat.le_of_ble_eq_true rfl⟩ (fun r w gc gs H locs hp B => ?_)
    obtain ⟨z_6, rfl, hw9, rfl, rfl⟩ := hp
    rw [hw9] at B; clear hw9
    have B := bd_to (ws' := ([] ++ tl)) rfl B
    refine lv_bipush (v := iI 12) hx hb dX11_checkRoomForWord_14 (by decide) ?_
    refine lv_icmp_lt (tgt := 30) hx hb dX11_checkRoomForWord_16 (by decide) (fun c_7 => ?_) (fun c_7 => ?_)
    · have zc_7 : (T 3 i 0 0) < 12 := jlt (a := (T 3 i 0 0)) (b := 12) (by omega) (by omega) c_7
      exact vx_ret (k_vret B hr (⟨(by omega), rfl, rfl, rfl, rfl⟩) ⟨Nat.le_of_ble_eq_true rfl, Nat.le_of_ble_eq_true rfl⟩ ⟨Nat.le_of_ble_eq_true rfl, Nat.le_of_ble_eq_true rfl⟩ dX11_checkRoomForWord_30)
    · have zc_7 : 12 ≤ (T 3 i 0 0) := jnlt (a := (T 3 i 0 0)) (b := 12) (by omega) (by omega) c_7
      exact k_thrWG (tx := "no room for a word") xE_ise (⟨(by omega), rfl, rfl, rfl, rfl⟩) ⟨Nat.le_of_ble_eq_true rfl, Nat.le_of_ble_eq_true rfl⟩ hl0 B hex hl (by decide +kernel) dX11_checkRoomForWord_19 dX11_checkRoomForWord_22 dX11_checkRoomForWord_23 dX11_checkRoomForWord_26 dX11_checkRoomForWord_29 ⟨Nat.le_of_ble_eq_true rfl, Nat.le_of_ble_eq_true rfl, Nat.le_of_ble_eq_true rfl, Nat.le_of_ble_eq_true rfl⟩ ⟨Nat.le_of_ble_eq_true rfl, Nat.le_of_ble_eq_true rfl⟩
  · skip
    rw [hw9] at B; clear hw9
    have B := bd_to (ws' := ([] ++ tl)) rfl B
    refine lv_if_eq (tgt := 19) hx hb dX11_checkRoomForWord_4 (by decide) (fun _ => ?_) (fun c9 => absurd (by decide) c9)
    exact k_thrWG (tx := "no room for a word") xE_ise (⟨(by omega), rfl, rfl, rfl, rfl⟩) ⟨Nat.le_of_ble_eq_true rfl, Nat.le_of_ble_eq_true rfl⟩ hl0 B hex hl (by decide +kernel) dX11_checkRoomForWord_19 dX11_checkRoomForWord_22 dX11_checkRoomForWord_23 dX11_checkRoomForWord_26 dX11_checkRoomForWord_29 ⟨Nat.le_of_ble_eq_true rfl, Nat.le_of_ble_eq_true rfl, Nat.le_of_ble_eq_true rfl, Nat.le_of_ble_eq_true rfl⟩ ⟨Nat.le_of_ble_eq_true rfl, Nat.le_of_ble_eq_true rfl⟩

set_option maxHeartbeats 4000000 in
set_option maxRecDepth 100000 in
theorem k_pageOfP (l : Launch) (dC : Nat → ClassId) (dI : Nat → Nat → Nat) (k : Nat → ClassId) (T : Nat → Int → Int → Int → Int) (A : Nat → Int → Int → Nat) (X : Nat → Int → Int → Int) (tl : va_W) (G : Nat → Int → Nat) (Mc : Nat → Int → Int) (Y : Nat → Int → Nat) (O : Nat → Nat) (L : Int → Nat → Int → Int) (C : Nat → Int → Int) (K : Nat → Int → Int) (cp : Nat) (v : Int) (z : Int) (hPR : PR dI k T A X G Mc Y O L C K cp tl) (hK : TK T) (hLD : LD T v (L v)) (hv : 0 ≤ v ∧ v ≤ 1) (hF : FINE T) (h1 : 0 ≤ z ∧ z < (moC T v (dgN T v)) 0 0) : Kn l dC dI k yX4_pageOf (.code yX4_pageOf cX4_pageOf 2 (some .int)) ({ frames := 0, cells := 0, slots := 0, locals := 0 } : Room) [.ref (Y 61 v), .int (iI z)] ([] ++ tl) (fun r w gc gs => ((1 ≤ (mkZ T (moC T v (dgN T v))) 5 z ∧ (mkZ T (moC T v (dgN T v))) 5 z ≤ (mkZ T (moC T v (dgN T v))) 0 0 ∧ (mkZ T (moC T v (dgN T v))) 1 ((mkZ T (moC T v (dgN T v))) 5 z - 1) ≤ z ∧ z < (mkZ T (moC T v (dgN T v))) 1 ((mkZ T (moC T v (dgN T v))) 5 z - 1) + (mkZ T (moC T v (dgN T v))) 2 ((mkZ T (moC T v (dgN T v))) 5 z - 1)) ∧ (0 ≤ (mkZ T (moC T v (dgN T v))) 0 0 ∧ (mkZ T (moC T v (dgN T v))) 0 0 ≤ 965) ∧ r = some (.int (iI ((mkZ T (moC T v (dgN T v))) 5 z))) ∧ w = ([] ++ tl) ∧ gc = 0 ∧ gs = 0)) := by
  refine kn_of (by decide) (Nat.le_of_ble_eq_true rfl) ?_
  intro p e s m args below meth c H locs B hr hnm ls hl
  have hx := B.1.1
  have hb := B.1.2.1
  have hl : lv_has ls 2 [(0, .ref (Y 61 v)), (1, .int (iI z))] := hl
  have hT := PR_TI hPR
  have hnb0 := TK_nb hK
  have hcp0 : 512 ≤ cp ∧ cp ≤ 131072 := by have q9 := hPR.2.2.2; unfold cpOk at q9; omega
  have hP9 := hF.2 v (by omega) (by omega)
  have hm0 := MK_cnt (moC_in (v := v) (dg := dgN T v) hK).1
  refine lv_aload_n hx hb dX4_pageOf_0 rfl (lv_at hl 0 rfl) ?_
  obtain ⟨k_1, hk_1⟩ := pk_at (hs := []) (show (((Y 61 v), .inr (4, [.ref (A 50 0 0), .ref (Y 60 v), .ref (Y 62 v), .ref (Y 13 0), .int (iI ((L v) 50 0)), .int (iI ((L v) 50 1)), .ref (Y 63 v), .ref (Y 64 v), .ref (Y 65 v), .ref (Y 66 v), .ref (Y 67 v), .ref (Y 68 v)])) : Nat × va_E) ∈ tl from PR_pp hPR (show 0 ≤ v ∧ v ≤ 1 by omega) 0 rfl)
  refine x_get (ci := 4) (C := RX4) (T := TX4) (N := 12) (v := .ref (Y 67 v)) B k_1 hk_1 rfl in_X4 10 (by decide) mw_382 (fun _ h9 => h9) rfl dX4_pageOf_1 ?_
  refine lv_iload_n hx hb dX4_pageOf_4 rfl (lv_at hl 1 rfl) ?_
  obtain ⟨k_2, hk_2⟩ := pk_at (hs := []) (show (((Y 67 v), .inl (k 0, 768, .inl (fun i9 : Nat => iI (((L v) 55) i9)))) : Nat × va_E) ∈ tl from PR_pp hPR (show 0 ≤ v ∧ v ≤ 1 by omega) 5 rfl)
  refine x_iald' (f := ((L v) 55)) (z := z) B k_2 hk_2 (by omega) dX4_pageOf_5 ?_
  refine lv_seti (y := iI ((mkZ T (moC T v (dgN T v))) 5 z)) (congrArg iI (show ((L v) 55) z = (mkZ T (moC T v (dgN T v))) 5 z from hLD.2.2.2.2.2.2.1 _ (by omega) (by omega))) ?_
  have z_3 : 1 ≤ (mkZ T (moC T v (dgN T v))) 5 z ∧ (mkZ T (moC T v (dgN T v))) 5 z ≤ (mkZ T (moC T v (dgN T v))) 0 0 ∧ (mkZ T (moC T v (dgN T v))) 1 ((mkZ T (moC T v (dgN T v))) 5 z - 1) ≤ z ∧ z < (mkZ T (moC T v (dgN T v))) 1 ((mkZ T (moC T v (dgN T v))) 5 z - 1) + (mkZ T (moC T v (dgN T v))) 2 ((mkZ T (moC T v (dgN T v))) 5 z - 1) := hP9.2.1 _ (by omega) (by omega)
  exact k_iret B hr (⟨z_3, hP9.2.2.2.1, rfl, rfl, rfl, rfl⟩) ⟨Nat.le_of_ble_eq_true rfl, Nat.le_of_ble_eq_true rfl⟩ ⟨Nat.le_of_ble_eq_true rfl, Nat.le_of_ble_eq_true rfl⟩ dX4_pageOf_6

theorem mw_371 : (Jvm.Cond.fieldLink "Galleyforge" (308 : Nat) "Galleyforge$Pages" "count" "I") ∈ gt := gt_at 441 (by decide +kernel) (by decide +kernel)
theorem dX11_checkPage_0 : decode cX11_checkPage 0 = .ok (.iload_n 1, 1) := by decide +kernel
theorem dX11_checkPage_1 : decode cX11_checkPage 1 = .ok (.iconst 1, 1) := by decide +kernel
theorem dX11_checkPage_2 : decode cX11_checkPage 2 = .ok (.if_icmp .lt 11, 3) := by decide +kernel
theorem dX11_checkPage_5 : decode cX11_checkPage 5 = .ok (.iload_n 1, 1) := by decide +kernel
theorem dX11_checkPage_6 : decode cX11_checkPage 6 = .ok (.aload_n 0, 1) := by decide +kernel
theorem dX11_checkPage_7 : decode cX11_checkPage 7 = .ok (.getfield 308, 3) := by decide +kernel
theorem dX11_checkPage_10 : decode cX11_checkPage 10 = .ok (.if_icmp .le 14, 3) := by decide +kernel
theorem dX11_checkPage_13 : decode cX11_checkPage 13 = .ok (.new 47, 3) := by decide +kernel
theorem dX11_checkPage_16 : decode cX11_checkPage 16 = .ok (.dup, 1) := by decide +kernel
theorem dX11_checkPage_17 : decode cX11_checkPage 17 = .ok (.ldc_w 394, 3) := by decide +kernel
theorem dX11_checkPage_20 : decode cX11_checkPage 20 = .ok (.invokespecial 51, 3) := by decide +kernel
theorem dX11_checkPage_23 : decode cX11_checkPage 23 = .ok (.athrow, 1) := by decide +kernel
theorem dX11_checkPage_24 : decode cX11_checkPage 24 = .ok (.return_, 1) := by decide +kernel
set_option maxHeartbeats 4000000 in
set_option maxRecDepth 100000 in
theorem k_checkPage (l : Launch) (dC : Nat → ClassId) (dI : Nat → Nat → Nat) (k : Nat → ClassId) (hl0 : l.stackTraces = false) (T : Nat → Int → Int → Int → Int) (A : Nat → Int → Int → Nat) (X : Nat → Int → Int → Int) (tl : va_W) (G : Nat → Int → Nat) (Mc : Nat → Int → Int) (Y : Nat → Int → Nat) (O : Nat → Nat) (L : Int → Nat → Int → Int) (C : Nat → Int → Int) (K : Nat → Int → Int) (cp : Nat) (v : Int) (pg_ : Int) (hPR : PR dI k T A X G Mc Y O L C K cp tl) (hK : TK T) (hLD : LD T v (L v)) (hv : 0 ≤ v ∧ v ≤ 1) (hF : FINE T) (hrpg_ : -2147483648 ≤ pg_ ∧ pg_ < 2147483648) : Kx l dC dI k yX11_checkPage (.code yX11_checkPage cX11_checkPage 2 none) ({ frames := 6, cells := 1, slots := 6, locals := 82 } : Room) [.ref (Y 61 v), .int (iI pg_)] ([] ++ tl) (fun r w gc gs => ((1 ≤ pg_ ∧ pg_ ≤ (mkZ T (moC T v (dgN T v))) 0 0) ∧ (0 ≤ (mkZ T (moC T v (dgN T v))) 0 0 ∧ (mkZ T (moC T v (dgN T v))) 0 0 ≤ 965) ∧ r = none ∧ w = ([] ++ tl) ∧ gc = 0 ∧ gs = 0)) (fun E w gc gs => ((¬ (1 ≤ pg_ ∧ pg_ ≤ (mkZ T (moC T v (dgN T v))) 0 0)) ∧ E = "java/lang/IndexOutOfBoundsException" ∧ w = ([] ++ tl) ∧ gc = 1 ∧ gs = 6)) := by
  refine kx_of (by decide) (Nat.le_of_ble_eq_true rfl) ?_
  intro p e s m args below meth c H locs B hr hex ls hl
  have hx := B.1.1
  have hb := B.1.2.1
  have hl : lv_has ls 2 [(0, .ref (Y 61 v)), (1, .int (iI pg_))] := hl
  have hT := PR_TI hPR
  have hnb0 := TK_nb hK
  have hcp0 : 512 ≤ cp ∧ cp ≤ 131072 := by have q9 := hPR.2.2.2; unfold cpOk at q9; omega
  have hP9 := hF.2 v (by omega) (by omega)
  refine lv_iload_n hx hb dX11_checkPage_0 rfl (lv_at hl 1 rfl) ?_
  refine lv_iconst (v := iI 1) hx hb dX11_checkPage_1 (by decide) ?_
  refine lv_icmp_lt (tgt := 13) hx hb dX11_checkPage_2 (by decide) (fun c_1 => ?_) (fun c_1 => ?_)
  · have zc_1 : pg_ < 1 := jlt (a := pg_) (b := 1) (by omega) (by omega) c_1
    exact k_thrWG (tx := "no such page") xE_ioobe (⟨(by omega), rfl, rfl, rfl, rfl⟩) ⟨Nat.le_of_ble_eq_true rfl, Nat.le_of_ble_eq_true rfl⟩ hl0 B hex hl (by decide +kernel) dX11_checkPage_13 dX11_checkPage_16 dX11_checkPage_17 dX11_checkPage_20 dX11_checkPage_23 ⟨Nat.le_of_ble_eq_true rfl, Nat.le_of_ble_eq_true rfl, Nat.le_of_ble_eq_true rfl, Nat.le_of_ble_eq_true rfl⟩ ⟨Nat.le_of_ble_eq_true rfl, Nat.le_of_ble_eq_true rfl⟩
  · have zc_1 : 1 ≤ pg_ := jnlt (a := pg_) (b := 1) (by omega) (by omega) c_1
    refine lv_iload_n hx hb dX11_checkPage_5 rfl (lv_at hl 1 rfl) ?_
    refine lv_aload_n hx hb dX11_checkPage_6 rfl (lv_at hl 0 rfl) ?_
    obtain ⟨k_2, hk_2⟩ := pk_at (hs := []) (show (((Y 61 v), .inr (4, [.ref (A 50 0 0), .ref (Y 60 v), .ref (Y 62 v), .ref (Y 13 0), .int (iI ((L v) 50 0)), .int (iI ((L v) 50 1)), .ref (Y 63 v), .ref (Y 64 v), .ref (Y 65 v), .ref (Y 66 v), .ref (Y 67 v), .ref (Y 68 v)])) : Nat × va_E) ∈ tl from PR_pp hPR (show 0 ≤ v ∧ v ≤ 1 by omega) 0 rfl)
    refine x_get (ci := 4) (C := RX4) (T := TX4) (N := 12) (v := .int (iI ((L v) 50 0))) B k_2 hk_2 rfl in_X4 4 (by decide) mw_371 (fun _ h9 => h9) rfl dX11_checkPage_7 ?_
    refine lv_seti (y := iI (((mkZ T (moC T v (dgN T v))) 0 0))) (congrArg iI (show ((L v) 50 0) = ((mkZ T (moC T v (dgN T v))) 0 0) from hLD.2.2.2.2.1.1)) ?_
    have z_3 : 0 ≤ (mkZ T (moC T v (dgN T v))) 0 0 ∧ (mkZ T (moC T v (dgN T v))) 0 0 ≤ 965 := hP9.2.2.2.1
    refine lv_icmp_le (tgt := 24) hx hb dX11_checkPage_10 (by decide) (fun c_4 => ?_) (fun c_4 => ?_)
    · have zc_4 : pg_ ≤ ((mkZ T (moC T v (dgN T v))) 0 0) := jle (a := pg_) (b := ((mkZ T (moC T v (dgN T v))) 0 0)) (by omega) (by omega) c_4
      exact vx_ret (k_vret B hr (⟨(by omega), hP9.2.2.2.1, rfl, rfl, rfl, rfl⟩) ⟨Nat.le_of_ble_eq_true rfl, Nat.le_of_ble_eq_true rfl⟩ ⟨Nat.le_of_ble_eq_true rfl, Nat.le_of_ble_eq_true rfl⟩ dX11_checkPage_24)
    · have zc_4 : ((mkZ T (moC T v (dgN T v))) 0 0) < pg_ := jnle (a := pg_) (b := ((mkZ T (moC T v (dgN T v))) 0 0)) (by omega) (by omega) c_4
      exact k_thrWG (tx := "no such page") xE_ioobe (⟨(by omega), rfl, rfl, rfl, rfl⟩) ⟨Nat.le_of_ble_eq_true rfl, Nat.le_of_ble_eq_true rfl⟩ hl0 B hex hl (by decide +kernel) dX11_checkPage_13 dX11_checkPage_16 dX11_checkPage_17 dX11_checkPage_20 dX11_checkPage_23 ⟨Nat.le_of_ble_eq_true rfl, Nat.le_of_ble_eq_true rfl, Nat.le_of_ble_eq_true rfl, Nat.le_of_ble_eq_true rfl⟩ ⟨Nat.le_of_ble_eq_true rfl, Nat.le_of_ble_eq_true rfl⟩

theorem mw_421 : (Jvm.Cond.fieldLink "Galleyforge" (283 : Nat) "Galleyforge$Layout" "lineCounts" "[I") ∈ gt := gt_at 491 (by decide +kernel) (by decide +kernel)
theorem dX11_checkLine_0 : decode cX11_checkLine 0 = .ok (.aload_n 0, 1) := by decide +kernel
theorem dX11_checkLine_1 : decode cX11_checkLine 1 = .ok (.iload_n 2, 1) := by decide +kernel
theorem dX11_checkLine_2 : decode cX11_checkLine 2 = .ok (.invokevirtual 168, 3) := by decide +kernel
theorem dX11_checkLine_5 : decode cX11_checkLine 5 = .ok (.iload_n 3, 1) := by decide +kernel
theorem dX11_checkLine_6 : decode cX11_checkLine 6 = .ok (.ifCond .lt 13, 3) := by decide +kernel
theorem dX11_checkLine_9 : decode cX11_checkLine 9 = .ok (.iload_n 3, 1) := by decide +kernel
theorem dX11_checkLine_10 : decode cX11_checkLine 10 = .ok (.aload_n 1, 1) := by decide +kernel
theorem dX11_checkLine_11 : decode cX11_checkLine 11 = .ok (.getfield 283, 3) := by decide +kernel
theorem dX11_checkLine_14 : decode cX11_checkLine 14 = .ok (.iload_n 2, 1) := by decide +kernel
theorem dX11_checkLine_15 : decode cX11_checkLine 15 = .ok (.iaload, 1) := by decide +kernel
theorem dX11_checkLine_16 : decode cX11_checkLine 16 = .ok (.if_icmp .lt 14, 3) := by decide +kernel
theorem dX11_checkLine_19 : decode cX11_checkLine 19 = .ok (.new 47, 3) := by decide +kernel
theorem dX11_checkLine_22 : decode cX11_checkLine 22 = .ok (.dup, 1) := by decide +kernel
theorem dX11_checkLine_23 : decode cX11_checkLine 23 = .ok (.ldc_w 413, 3) := by decide +kernel
theorem dX11_checkLine_26 : decode cX11_checkLine 26 = .ok (.invokespecial 51, 3) := by decide +kernel
theorem dX11_checkLine_29 : decode cX11_checkLine 29 = .ok (.athrow, 1) := by decide +kernel
theorem dX11_checkLine_30 : decode cX11_checkLine 30 = .ok (.return_, 1) := by decide +kernel
set_option maxHeartbeats 4000000 in
set_option maxRecDepth 100000 in
theorem k_checkLine (l : Launch) (dC : Nat → ClassId) (dI : Nat → Nat → Nat) (k : Nat → ClassId) (hl0 : l.stackTraces = false) (T : Nat → Int → Int → Int → Int) (A : Nat → Int → Int → Nat) (X : Nat → Int → Int → Int) (tl : va_W) (G : Nat → Int → Nat) (Mc : Nat → Int → Int) (Y : Nat → Int → Nat) (O : Nat → Nat) (L : Int → Nat → Int → Int) (C : Nat → Int → Int) (K : Nat → Int → Int) (cp : Nat) (v : Int) (pl : Int) (li : Int) (hPR : PR dI k T A X G Mc Y O L C K cp tl) (hK : TK T) (hLD : LD T v (L v)) (hv : 0 ≤ v ∧ v ≤ 1) (hF : FINE T) (hrpl : -2147483648 ≤ pl ∧ pl < 2147483648) (hrli : -2147483648 ≤ li ∧ li < 2147483648) : Kx l dC dI k yX11_checkLine (.code yX11_checkLine cX11_checkLine 4 none) ({ frames := 7, cells := 1, slots := 6, locals := 103 } : Room) [.ref (Y 0 0), .ref (Y 4 v), .int (iI pl), .int (iI li)] ([] ++ tl) (fun r w gc gs => (((0 ≤ pl ∧ pl < T 0 0 0 0) ∧ 0 ≤ li ∧ li < LCz T v (dgN T v) pl) ∧ (0 ≤ LCz T v (dgN T v) pl ∧ LCz T v (dgN T v) pl ≤ 48) ∧ r = none ∧ w = ([] ++ tl) ∧ gc = 0 ∧ gs = 0)) (fun E w gc gs => ((¬ ((0 ≤ pl ∧ pl < T 0 0 0 0) ∧ 0 ≤ li ∧ li < LCz T v (dgN T v) pl)) ∧ E = "java/lang/IndexOutOfBoundsException" ∧ w = ([] ++ tl) ∧ gc = 1 ∧ gs = 6)) := by
  refine kx_of (by decide) (Nat.le_of_ble_eq_true rfl) ?_
  intro p e s m args below meth c H locs B hr hex ls hl
  have hx := B.1.1
  have hb := B.1.2.1
  have hl : lv_has ls 4 [(0, .ref (Y 0 0)), (1, .ref (Y 4 v)), (2, .int (iI pl)), (3, .int (iI li))] := hl
  have hT := PR_TI hPR
  have hnb0 := TK_nb hK
  have hcp0 : 512 ≤ cp ∧ cp ≤ 131072 := by have q9 := hPR.2.2.2; unfold cpOk at q9; omega
  have hP9 := hF.2 v (by omega) (by omega)
  refine lv_aload_n hx hb dX11_checkLine_0 rfl (lv_at hl 0 rfl) ?_
  refine lv_iload_n hx hb dX11_checkLine_1 rfl (lv_at hl 2 rfl) ?_
  have B := bd_swap (a := []) (b := []) (d := tl) (bd_to rfl B)
  obtain ⟨k_1, hk_1⟩ := pk_at (hs := []) (show (((Y 0 0), .inr (11, [.ref (A 50 0 0), .ref (Y 1 0), .ref (Y 2 0), .int (iI (K 0 0)), .ref (Y 3 0)])) : Nat × va_E) ∈ tl from PR_m hPR 0 0 rfl rfl)
  refine k_Vx (rest := []) (wc := ([] ++ tl)) (wr := []) (k_checkBlock l dC dI k hl0 T A X tl G Mc Y O L C K cp pl hPR hK hrpl) B mV_X11_checkBlock mw_788 hl (q0 := k_1) (ci := 11) hk_1 rfl rfl ⟨Nat.le_of_ble_eq_true rfl, Nat.le_of_ble_eq_true rfl⟩ (Nat.le_of_ble_eq_true rfl) rfl dX11_checkLine_2 ⟨Nat.le_of_ble_eq_true rfl, Nat.le_of_ble_eq_true rfl⟩ (fun E ce q9 w gc gs H locs hp B h1 h2 h3 => ?_) (fun r w gc gs H locs hp B => ?_)
  · skip
    obtain ⟨z_2, rfl, hw9, rfl, rfl⟩ := hp
    rw [hw9] at B; clear hw9
    have B := bd_to (ws' := ([] ++ tl)) rfl B
    exact k_out hex (⟨(by omega), rfl, rfl, rfl, rfl⟩) B h1 h2 h3 ⟨Nat.le_of_ble_eq_true rfl, Nat.le_of_ble_eq_true rfl⟩ ⟨Nat.le_of_ble_eq_true rfl, Nat.le_of_ble_eq_true rfl⟩
  · skip
    obtain ⟨z_3, rfl, hw9, rfl, rfl⟩ := hp
    rw [hw9] at B; clear hw9
    have B := bd_to (ws' := ([] ++ tl)) rfl B
    refine lv_iload_n hx hb dX11_checkLine_5 rfl (lv_at hl 3 rfl) ?_
    refine lv_if_lt (tgt := 19) hx hb dX11_checkLine_6 (by decide) (fun c_4 => ?_) (fun c_4 => ?_)
    · have zc_4 : li < 0 := jlt (a := li) (b := 0) (by omega) (by omega) c_4
      exact k_thrWG (tx := "no such line") xE_ioobe (⟨(by omega), rfl, rfl, rfl, rfl⟩) ⟨Nat.le_of_ble_eq_true rfl, Nat.le_of_ble_eq_true rfl⟩ hl0 B hex hl (by decide +kernel) dX11_checkLine_19 dX11_checkLine_22 dX11_checkLine_23 dX11_checkLine_26 dX11_checkLine_29 ⟨Nat.le_of_ble_eq_true rfl, Nat.le_of_ble_eq_true rfl, Nat.le_of_ble_eq_true rfl, Nat.le_of_ble_eq_true rfl⟩ ⟨Nat.le_of_ble_eq_true rfl, Nat.le_of_ble_eq_true rfl⟩
    · have zc_4 : 0 ≤ li := jnlt (a := li) (b := 0) (by omega) (by omega) c_4
      refine lv_iload_n hx hb dX11_checkLine_9 rfl (lv_at hl 3 rfl) ?_
      refine lv_aload_n hx hb dX11_checkLine_10 rfl (lv_at hl 1 rfl) ?_
      obtain ⟨k_5, hk_5⟩ := pk_at (hs := []) (show (((Y 4 v), .inr (1, [.ref (A 50 0 0), .int (iI v), .ref (Y 5 0), .ref (Y 60 v), .ref (Y 61 v), .int (iI ((L v) 0 0)), .int (iI ((L v) 0 1)), .ref (Y 21 v), .ref (Y 22 v), .ref (Y 23 v), .ref (Y 24 v), .ref (Y 25 v), .ref (Y 26 v), .int (iI ((L v) 0 2)), .int (iI ((L v) 0 3)), .int (iI ((L v) 0 4)), .ref (Y 27 v)])) : Nat × va_E) ∈ tl from PR_ly hPR (show 0 ≤ v ∧ v ≤ 1 by omega) 0 rfl)
      refine x_get (ci := 1) (C := RX1) (T := TX1) (N := 17) (v := .ref (Y 21 v)) B k_5 hk_5 rfl in_X1 7 (by decide) mw_421 (fun _ h9 => h9) rfl dX11_checkLine_11 ?_
      refine lv_iload_n hx hb dX11_checkLine_14 rfl (lv_at hl 2 rfl) ?_
      obtain ⟨k_6, hk_6⟩ := pk_at (hs := []) (show (((Y 21 v), .inl (k 0, 16, .inl (fun i9 : Nat => iI (((L v) 1) i9)))) : Nat × va_E) ∈ tl from PR_la hPR (show 0 ≤ v ∧ v ≤ 1 by omega) 0 rfl)
      refine x_iald' (f := ((L v) 1)) (z := pl) B k_6 hk_6 (by omega) dX11_checkLine_15 ?_
      refine lv_seti (y := iI (LCz T v (dgN T v) pl)) (congrArg iI (show ((L v) 1) pl = LCz T v (dgN T v) pl from (hLD.2.1.1 _ (by omega) (by omega)).1)) ?_
      have z_7 : 0 ≤ LCz T v (dgN T v) pl ∧ LCz T v (dgN T v) pl ≤ 48 := (LCz_in (i := pl) (v := v) (dg := dgN T v) hK).1
      refine lv_icmp_lt (tgt := 30) hx hb dX11_checkLine_16 (by decide) (fun c_8 => ?_) (fun c_8 => ?_)
      · have zc_8 : li < (LCz T v (dgN T v) pl) := jlt (a := li) (b := (LCz T v (dgN T v) pl)) (by omega) (by omega) c_8
        exact vx_ret (k_vret B hr (⟨(by omega), (LCz_in (i := pl) (v := v) (dg := dgN T v) hK).1, rfl, rfl, rfl, rfl⟩) ⟨Nat.le_of_ble_eq_true rfl, Nat.le_of_ble_eq_true rfl⟩ ⟨Nat.le_of_ble_eq_true rfl, Nat.le_of_ble_eq_true rfl⟩ dX11_checkLine_30)
      · have zc_8 : (LCz T v (dgN T v) pl) ≤ li := jnlt (a := li) (b := (LCz T v (dgN T v) pl)) (by omega) (by omega) c_8
        exact k_thrWG (tx := "no such line") xE_ioobe (⟨(by omega), rfl, rfl, rfl, rfl⟩) ⟨Nat.le_of_ble_eq_true rfl, Nat.le_of_ble_eq_true rfl⟩ hl0 B hex hl (by decide +kernel) dX11_checkLine_19 dX11_checkLine_22 dX11_checkLine_23 dX11_checkLine_26 dX11_checkLine_29 ⟨Nat.le_of_ble_eq_true rfl, Nat.le_of_ble_eq_true rfl, Nat.le_of_ble_eq_true rfl, Nat.le_of_ble_eq_true rfl⟩ ⟨Nat.le_of_ble_eq_true rfl, Nat.le_of_ble_eq_true rfl⟩

end
