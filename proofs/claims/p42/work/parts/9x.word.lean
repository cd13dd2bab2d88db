section
/-- the letters that are spelled, as a word has them -/
def spF (K : Nat → Int → Int) : Int → Int := cpz (K 1) (fun _ : Int => (0 : Int)) 0 0 (min (6 : Int) (K 0 0))
section SPF
variable {T : Nat → Int → Int → Int → Int} {K : Nat → Int → Int}
theorem spF_6 (h : K 0 0 = 6) (hKO : ∀ j : Int, j < 0 ∨ 5 < j → K 1 j = 0) : K 1 = spF K := by
  funext j
  unfold spF cpz
  split
  · congr 1; omega
  · exact hKO j (by omega)
theorem spF_in (hKK : KK T K) (j : Int) : 0 ≤ spF K j ∧ spF K j ≤ 3 := by
  unfold spF cpz
  split
  · exact hKK.2.1 _
  · exact ⟨Int.le_refl 0, (by decide : (0 : Int) ≤ 3)⟩
theorem KK_n {n : Int} (h : 0 ≤ n ∧ n ≤ 6) (hKK : KK T K) : KK T (KKn n (K 1) (K 2)) := ⟨h, hKK.2⟩
theorem WOK_w (hKK : KK T K) (h : 0 < K 0 0) : WOK T (Int.toNat (K 0 0)) (spF K) (-1) (K 2) := by
  have h0 := hKK.1
  exact ⟨by omega, spF_in hKK, ⟨by omega, by omega, fun _ => by omega, fun g => absurd rfl g⟩, hKK.2.2.1, hKK.2.2.2.1, hKK.2.2.2.2.1, hKK.2.2.2.2.2.1⟩
theorem WOK_r (hKK : KK T K) {lb : Int} (h : 0 ≤ lb ∧ lb ≤ 5) : WOK T 0 (fun _ => 0) lb (K 2) :=
  ⟨by omega, fun _ => ⟨Int.le_refl 0, (by decide : (0 : Int) ≤ 3)⟩, ⟨by omega, by omega, fun _ => by omega, fun _ => rfl⟩, hKK.2.2.1, hKK.2.2.2.1, hKK.2.2.2.2.1, hKK.2.2.2.2.2.1⟩
end SPF

theorem mw_644 : (Jvm.Cond.methodLink "Galleyforge" (95 : Nat) ({ cls := "java/util/Arrays", name := "copyOf", desc := "([II)[I" } : Jvm.MethodName)) ∈ gt := gt_at 714 (by decide +kernel) (by decide +kernel)
theorem mw_795 : (Jvm.Cond.methodLink "Galleyforge" (113 : Nat) ({ cls := "Galleyforge", name := "checkGapBetweenWords", desc := "(LGalleyforge$Block;I)V" } : Jvm.MethodName)) ∈ gt := gt_at 865 (by decide +kernel) (by decide +kernel)
theorem mw_796 : (Jvm.Cond.static ({ cls := "Galleyforge", name := "checkGapBetweenWords", desc := "(LGalleyforge$Block;I)V" } : Jvm.MethodName)) ∈ gt := gt_at 866 (by decide +kernel) (by decide +kernel)
theorem mw_797 : (Jvm.Cond.code ({ cls := "Galleyforge", name := "checkGapBetweenWords", desc := "(LGalleyforge$Block;I)V" } : Jvm.MethodName) prog_1_method_46_code (2 : Nat) (Option.none : Option Jvm.ClassFile.FieldType)) ∈ gt := gt_at 867 (by decide +kernel) (by decide +kernel)
theorem mw_799 : (Jvm.Cond.methodLink "Galleyforge" (117 : Nat) ({ cls := "Galleyforge", name := "checkRoomForWord", desc := "(LGalleyforge$Block;)V" } : Jvm.MethodName)) ∈ gt := gt_at 869 (by decide +kernel) (by decide +kernel)
theorem mw_800 : (Jvm.Cond.static ({ cls := "Galleyforge", name := "checkRoomForWord", desc := "(LGalleyforge$Block;)V" } : Jvm.MethodName)) ∈ gt := gt_at 870 (by decide +kernel) (by decide +kernel)
theorem mw_801 : (Jvm.Cond.code ({ cls := "Galleyforge", name := "checkRoomForWord", desc := "(LGalleyforge$Block;)V" } : Jvm.MethodName) prog_1_method_47_code (1 : Nat) (Option.none : Option Jvm.ClassFile.FieldType)) ∈ gt := gt_at 871 (by decide +kernel) (by decide +kernel)
theorem mw_813 : (Jvm.Cond.instantiable "Galleyforge$Word" (4 : Nat)) ∈ gt := gt_at 883 (by decide +kernel) (by decide +kernel)
theorem mw_814 : (Jvm.Cond.methodLink "Galleyforge" (125 : Nat) ({ cls := "[I", name := "clone", desc := "()Ljava/lang/Object;" } : Jvm.MethodName)) ∈ gt := gt_at 884 (by decide +kernel) (by decide +kernel)
theorem mw_815 : (Jvm.Cond.classLink "Galleyforge" (126 : Nat) "[I") ∈ gt := gt_at 885 (by decide +kernel) (by decide +kernel)
theorem mw_816 : (Jvm.Cond.methodLink "Galleyforge" (130 : Nat) ({ cls := "Galleyforge$Word", name := "<init>", desc := "([II[I)V" } : Jvm.MethodName)) ∈ gt := gt_at 886 (by decide +kernel) (by decide +kernel)
theorem mw_817 : (Jvm.Cond.instanceMethod ({ cls := "Galleyforge$Word", name := "<init>", desc := "([II[I)V" } : Jvm.MethodName)) ∈ gt := gt_at 887 (by decide +kernel) (by decide +kernel)
theorem mw_818 : (Jvm.Cond.code ({ cls := "Galleyforge$Word", name := "<init>", desc := "([II[I)V" } : Jvm.MethodName) prog_12_method_1_code (4 : Nat) (Option.none : Option Jvm.ClassFile.FieldType)) ∈ gt := gt_at 888 (by decide +kernel) (by decide +kernel)
theorem mw_841 : (Jvm.Cond.methodLink "Galleyforge" (133 : Nat) ({ cls := "Galleyforge", name := "putIn", desc := "(LGalleyforge$Block;ILGalleyforge$Word;)I" } : Jvm.MethodName)) ∈ gt := gt_at 911 (by decide +kernel) (by decide +kernel)
theorem mw_843 : (Jvm.Cond.instanceMethod ({ cls := "Galleyforge", name := "putIn", desc := "(LGalleyforge$Block;ILGalleyforge$Word;)I" } : Jvm.MethodName)) ∈ gt := gt_at 913 (by decide +kernel) (by decide +kernel)
theorem mw_844 : (Jvm.Cond.code ({ cls := "Galleyforge", name := "putIn", desc := "(LGalleyforge$Block;ILGalleyforge$Word;)I" } : Jvm.MethodName) prog_1_method_53_code (4 : Nat) (Option.some Jvm.ClassFile.FieldType.int)) ∈ gt := gt_at 914 (by decide +kernel) (by decide +kernel)
theorem mI_X10_init : mI yX10_init cX10_init 4 3 := ⟨⟨mw_818, mw_33, by decide, by decide, by decide +kernel⟩, mw_817, rfl⟩
theorem mS_X11_checkGapBetweenWords : mS yX11_checkGapBetweenWords cX11_checkGapBetweenWords 2 none 2 := ⟨⟨mw_797, mw_1, by decide, by decide, by decide +kernel⟩, mw_796⟩
theorem mS_X11_checkRoomForWord : mS yX11_checkRoomForWord cX11_checkRoomForWord 1 none 1 := ⟨⟨mw_801, mw_1, by decide, by decide, by decide +kernel⟩, mw_800⟩
theorem ms_9 : Cond.selects "Galleyforge" (⟨"Galleyforge", "putIn", "(LGalleyforge$Block;ILGalleyforge$Word;)I"⟩ : MethodName) (⟨"Galleyforge", "putIn", "(LGalleyforge$Block;ILGalleyforge$Word;)I"⟩ : MethodName) ∈ gt := gt_at 9 (by decide +kernel) (by decide +kernel)
theorem mV_X11_putIn : mV yX11_putIn cX11_putIn 4 (some .int) 3 := ⟨⟨mw_844, mw_1, by decide, by decide, by decide +kernel⟩, mw_843, ms_9⟩
theorem dX11_word_0 : decode cX11_word 0 = .ok (.aload_n 0, 1) := by decide +kernel
theorem dX11_word_1 : decode cX11_word 1 = .ok (.iload_n 1, 1) := by decide +kernel
theorem dX11_word_2 : decode cX11_word 2 = .ok (.invokevirtual 109, 3) := by decide +kernel
theorem dX11_word_5 : decode cX11_word 5 = .ok (.astore_n 3, 1) := by decide +kernel
theorem dX11_word_6 : decode cX11_word 6 = .ok (.aload_n 3, 1) := by decide +kernel
theorem dX11_word_7 : decode cX11_word 7 = .ok (.iload_n 2, 1) := by decide +kernel
theorem dX11_word_8 : decode cX11_word 8 = .ok (.invokestatic 113, 3) := by decide +kernel
theorem dX11_word_11 : decode cX11_word 11 = .ok (.aload_n 3, 1) := by decide +kernel
theorem dX11_word_12 : decode cX11_word 12 = .ok (.invokestatic 117, 3) := by decide +kernel
theorem dX11_word_15 : decode cX11_word 15 = .ok (.aload_n 0, 1) := by decide +kernel
theorem dX11_word_16 : decode cX11_word 16 = .ok (.getfield 54, 3) := by decide +kernel
theorem dX11_word_19 : decode cX11_word 19 = .ok (.ifCond .ne 13, 3) := by decide +kernel
theorem dX11_word_22 : decode cX11_word 22 = .ok (.new 58, 3) := by decide +kernel
theorem dX11_word_25 : decode cX11_word 25 = .ok (.dup, 1) := by decide +kernel
theorem dX11_word_26 : decode cX11_word 26 = .ok (.ldc 121, 2) := by decide +kernel
theorem dX11_word_28 : decode cX11_word 28 = .ok (.invokespecial 62, 3) := by decide +kernel
theorem dX11_word_31 : decode cX11_word 31 = .ok (.athrow, 1) := by decide +kernel
theorem dX11_word_32 : decode cX11_word 32 = .ok (.aload_n 0, 1) := by decide +kernel
theorem dX11_word_33 : decode cX11_word 33 = .ok (.getfield 31, 3) := by decide +kernel
theorem dX11_word_36 : decode cX11_word 36 = .ok (.aload_n 0, 1) := by decide +kernel
theorem dX11_word_37 : decode cX11_word 37 = .ok (.getfield 54, 3) := by decide +kernel
theorem dX11_word_40 : decode cX11_word 40 = .ok (.invokestatic 95, 3) := by decide +kernel
theorem dX11_word_43 : decode cX11_word 43 = .ok (.astore 4, 2) := by decide +kernel
theorem dX11_word_45 : decode cX11_word 45 = .ok (.aload_n 0, 1) := by decide +kernel
theorem dX11_word_46 : decode cX11_word 46 = .ok (.iconst 0, 1) := by decide +kernel
theorem dX11_word_47 : decode cX11_word 47 = .ok (.putfield 54, 3) := by decide +kernel
theorem dX11_word_50 : decode cX11_word 50 = .ok (.aload_n 0, 1) := by decide +kernel
theorem dX11_word_51 : decode cX11_word 51 = .ok (.aload_n 3, 1) := by decide +kernel
theorem dX11_word_52 : decode cX11_word 52 = .ok (.iload_n 2, 1) := by decide +kernel
theorem dX11_word_53 : decode cX11_word 53 = .ok (.new 123, 3) := by decide +kernel
theorem dX11_word_56 : decode cX11_word 56 = .ok (.dup, 1) := by decide +kernel
theorem dX11_word_57 : decode cX11_word 57 = .ok (.aload 4, 2) := by decide +kernel
theorem dX11_word_59 : decode cX11_word 59 = .ok (.iconst (-1), 1) := by decide +kernel
theorem dX11_word_60 : decode cX11_word 60 = .ok (.aload_n 0, 1) := by decide +kernel
theorem dX11_word_61 : decode cX11_word 61 = .ok (.getfield 35, 3) := by decide +kernel
theorem dX11_word_64 : decode cX11_word 64 = .ok (.invokevirtual 125, 3) := by decide +kernel
theorem dX11_word_67 : decode cX11_word 67 = .ok (.checkcast 126, 3) := by decide +kernel
theorem dX11_word_70 : decode cX11_word 70 = .ok (.invokespecial 130, 3) := by decide +kernel
theorem dX11_word_73 : decode cX11_word 73 = .ok (.invokevirtual 133, 3) := by decide +kernel
theorem dX11_word_76 : decode cX11_word 76 = .ok (.ireturn, 1) := by decide +kernel
set_option maxHeartbeats 4000000 in
set_option maxRecDepth 100000 in
theorem k_word (l : Launch) (dC : Nat → ClassId) (dI : Nat → Nat → Nat) (k : Nat → ClassId) (hl0 : l.stackTraces = false) (T : Nat → Int → Int → Int → Int) (A : Nat → Int → Int → Nat) (X : Nat → Int → Int → Int) (tl : va_W) (G : Nat → Int → Nat) (Mc : Nat → Int → Int) (Y : Nat → Int → Nat) (O : Nat → Nat) (L : Int → Nat → Int → Int) (C : Nat → Int → Int) (K : Nat → Int → Int) (cp : Nat) (pl : Int) (at_ : Int) (hPR : PR dI k T A X G Mc Y O L C K cp tl) (hK : TK T) (hKK : KK T K) (hrpl : -2147483648 ≤ pl ∧ pl < 2147483648) (hrat_ : -2147483648 ≤ at_ ∧ at_ < 2147483648) (hKO : ∀ j : Int, j < 0 ∨ 5 < j → K 1 j = 0) : Kx l dC dI k yX11_word (.code yX11_word cX11_word 5 (some .int)) ({ frames := 14, cells := 4, slots := 60, locals := 447 } : Room) [.ref (Y 0 0), .int (iI pl), .int (iI at_)] ([] ++ tl) (fun r w gc gs => (∃ (L2 : Int → Nat → Int → Int) (e2 : Nat) (c2 : Nat) (v9 : Nat) (la_ : Nat) (ma : Nat) (gq : Nat) (tl2 : va_W), (PR dI k (puT T pl at_ (Int.toNat (K 0 0)) (spF K) (-1) (K 2) (gsZ T (spF K) ((Int.toNat (K 0 0) : Nat) : Int))) (puA A pl at_ v9 la_ ma e2) X (upG G 1 pl c2) (upM Mc 1 pl (Mc 1 pl + 1)) Y O L2 C (KKn 0 (K 1) (fun _ : Int => (-1))) cp tl2) ∧ (∀ u, 0 ≤ u → u ≤ 1 → LF (L2 u)) ∧ (((0 ≤ pl ∧ pl < T 0 0 0 0) ∧ 0 ≤ at_ ∧ at_ ≤ T 3 pl 0 0) ∧ (T 1 pl 0 0 ≤ 2 ∧ T 3 pl 0 0 < 12) ∧ 0 < K 0 0) ∧ (gq ≤ 60) ∧ r = some (.int (iI (T 3 pl 0 0 + 1))) ∧ w = ([] ++ tl2) ∧ gc = 4 ∧ gs = (gq + 0))) (fun E w gc gs => ((¬ ((0 ≤ pl ∧ pl < T 0 0 0 0) ∧ 0 ≤ at_ ∧ at_ ≤ T 3 pl 0 0)) ∧ E = "java/lang/IndexOutOfBoundsException" ∧ w = ([] ++ tl) ∧ gc = 1 ∧ gs = 6) ∨ ((((0 ≤ pl ∧ pl < T 0 0 0 0) ∧ 0 ≤ at_ ∧ at_ ≤ T 3 pl 0 0) ∧ ¬ ((T 1 pl 0 0 ≤ 2 ∧ T 3 pl 0 0 < 12) ∧ 0 < K 0 0)) ∧ E = "java/lang/IllegalStateException" ∧ w = ([] ++ tl) ∧ gc = 1 ∧ gs = 6)) := by
  refine kx_of (by decide) (Nat.le_of_ble_eq_true rfl) ?_
  intro p e s m args below meth c H locs B hr hex ls hl
  have hx := B.1.1
  have hb := B.1.2.1
  have hl : lv_has ls 5 [(0, .ref (Y 0 0)), (1, .int (iI pl)), (2, .int (iI at_))] := hl
  have hT := PR_TI hPR
  have hnb0 := TK_nb hK
  have hcp0 : 512 ≤ cp ∧ cp ≤ 131072 := by have q9 := hPR.2.2.2; unfold cpOk at q9; omega
  have hk0 := KK_0 hKK
  refine lv_aload_n hx hb dX11_word_0 rfl (lv_at hl 0 rfl) ?_
  refine lv_iload_n hx hb dX11_word_1 rfl (lv_at hl 1 rfl) ?_
  have B := bd_swap (a := []) (b := []) (d := tl) (bd_to rfl B)
  obtain ⟨k_1, hk_1⟩ := pk_at (hs := []) (show (((Y 0 0), .inr (11, [.ref (A 50 0 0), .ref (Y 1 0), .ref (Y 2 0), .int (iI (K 0 0)), .ref (Y 3 0)])) : Nat × va_E) ∈ tl from PR_m hPR 0 0 rfl rfl)
  refine k_Vx (rest := []) (wc := ([] ++ tl)) (wr := []) (k_blockAt l dC dI k hl0 T A X tl G Mc Y O L C K cp pl hPR hK hrpl) B mV_X11_blockAt mw_784 hl (q0 := k_1) (ci := 11) hk_1 rfl rfl ⟨Nat.le_of_ble_eq_true rfl, Nat.le_of_ble_eq_true rfl⟩ (Nat.le_of_ble_eq_true rfl) rfl dX11_word_2 ⟨by dsimp only; omega, by dsimp only; omega⟩ (fun E ce q9 w gc gs H locs hp B h1 h2 h3 => ?_) (fun r w gc gs H locs hp B => ?_)
  · skip
    obtain ⟨z_2, rfl, hw9, rfl, rfl⟩ := hp
    rw [hw9] at B; clear hw9
    have B := bd_to (ws' := ([] ++ tl)) rfl B
    exact k_out hex (Or.inl (⟨(by omega), rfl, rfl, rfl, rfl⟩)) B h1 h2 h3 ⟨(by first | omega | (dsimp only; omega)), (by first | omega | (dsimp only; omega))⟩ ⟨(by first | omega | (dsimp only; omega)), (by first | omega | (dsimp only; omega))⟩
  · skip
    obtain ⟨z_3, rfl, hw9, rfl, rfl⟩ := hp
    rw [hw9] at B; clear hw9
    have B := bd_to (ws' := ([] ++ tl)) rfl B
    refine lv_astore_n (lv' := [(3, .ref (A 0 pl 0)), (0, .ref (Y 0 0)), (1, .int (iI pl)), (2, .int (iI at_))]) hx hb dX11_word_5 rfl hl (by decide) rfl (fun ls hl => ?_)
    refine lv_aload_n hx hb dX11_word_6 rfl (lv_at hl 0 rfl) ?_
    refine lv_iload_n hx hb dX11_word_7 rfl (lv_at hl 3 rfl) ?_
    have B := bd_swap (a := []) (b := []) (d := tl) (bd_to rfl B)
    refine k_Sx (rest := []) (wc := ([] ++ tl)) (wr := []) (k_checkGap l dC dI k hl0 T A X tl G Mc Y O L C K cp pl at_ hPR hK z_3 hrat_) B mS_X11_checkGapBetweenWords mw_795 hl ⟨Nat.le_of_ble_eq_true rfl, Nat.le_of_ble_eq_true rfl⟩ (Nat.le_of_ble_eq_true rfl) rfl dX11_word_8 ⟨by dsimp only; omega, by dsimp only; omega⟩ (fun E ce q9 w gc gs H locs hp B h1 h2 h3 => ?_) (fun r w gc gs H locs hp B => ?_)
    · skip
      obtain ⟨z_4, rfl, hw9, rfl, rfl⟩ := hp
      rw [hw9] at B; clear hw9
      have B := bd_to (ws' := ([] ++ tl)) rfl B
      exact k_out hex (Or.inl (⟨(by omega), rfl, rfl, rfl, rfl⟩)) B h1 h2 h3 ⟨(by first | omega | (dsimp only; omega)), (by first | omega | (dsimp only; omega))⟩ ⟨(by first | omega | (dsimp only; omega)), (by first | omega | (dsimp only; omega))⟩
    · skip
      obtain ⟨z_5, rfl, hw9, rfl, rfl⟩ := hp
      rw [hw9] at B; clear hw9
      have B := bd_to (ws' := ([] ++ tl)) rfl B
      refine lv_aload_n hx hb dX11_word_11 rfl (lv_at hl 0 rfl) ?_
      have B := bd_swap (a := []) (b := []) (d := tl) (bd_to rfl B)
      refine k_Sx (rest := []) (wc := ([] ++ tl)) (wr := []) (k_checkRoom l dC dI k hl0 T A X tl G Mc Y O L C K cp pl hPR hK z_3) B mS_X11_checkRoomForWord mw_799 hl ⟨Nat.le_of_ble_eq_true rfl, Nat.le_of_ble_eq_true rfl⟩ (Nat.le_of_ble_eq_true rfl) rfl dX11_word_12 ⟨by dsimp only; omega, by dsimp only; omega⟩ (fun E ce q9 w gc gs H locs hp B h1 h2 h3 => ?_) (fun r w gc gs H locs hp B => ?_)
      · skip
        obtain ⟨z_6, rfl, hw9, rfl, rfl⟩ := hp
        rw [hw9] at B; clear hw9
        have B := bd_to (ws' := ([] ++ tl)) rfl B
        exact k_out hex (Or.inr (⟨(by omega), rfl, rfl, rfl, rfl⟩)) B h1 h2 h3 ⟨(by first | omega | (dsimp only; omega)), (by first | omega | (dsimp only; omega))⟩ ⟨(by first | omega | (dsimp only; omega)), (by first | omega | (dsimp only; omega))⟩
      · skip
        obtain ⟨z_7, rfl, hw9, rfl, rfl⟩ := hp
        rw [hw9] at B; clear hw9
        have B := bd_to (ws' := ([] ++ tl)) rfl B
        refine lv_aload_n hx hb dX11_word_15 rfl (lv_at hl 1 rfl) ?_
        obtain ⟨k_8, hk_8⟩ := pk_at (hs := []) (show (((Y 0 0), .inr (11, [.ref (A 50 0 0), .ref (Y 1 0), .ref (Y 2 0), .int (iI (K 0 0)), .ref (Y 3 0)])) : Nat × va_E) ∈ tl from PR_m hPR 0 0 rfl rfl)
        refine x_get (ci := 11) (C := RX11) (T := TX11) (N := 5) (v := .int (iI (K 0 0))) B k_8 hk_8 rfl in_X11 3 (by decide) mw_477 (fun _ h9 => h9) rfl dX11_word_16 ?_
        have z_9 : 0 ≤ K 0 0 ∧ K 0 0 ≤ 6 := KK_0 hKK
        refine lv_if_ne (tgt := 32) hx hb dX11_word_19 (by decide) (fun c_10 => ?_) (fun c_10 => ?_)
        · have zc_10 : (K 0 0) ≠ 0 := jne (a := (K 0 0)) (b := 0) (by omega) (by omega) c_10
          obtain ⟨tr_11, htr_11, btr_11⟩ := PR_gout hPR
          have B := bd_perm (List.Perm.append_left [] htr_11) B
          have B := bd_to (ws' := ([((Y 0 0), .inr (11, [.ref (A 50 0 0), .ref (Y 1 0), .ref (Y 2 0), .int (iI (K 0 0)), .ref (Y 3 0)])), ((Y 1 0), .inl (k 3, 2, .inr (.inr (.inr (.inr (fun i9 : Nat => (fun j9 : Int => some (Y 4 j9)) i9)))))), ((Y 2 0), .inl (k 0, 6, .inl (fun i9 : Nat => iI ((K 1) i9)))), ((Y 3 0), .inl (k 0, 5, .inl (fun i9 : Nat => iI ((K 2) i9))))] ++ tr_11)) rfl B
          refine lv_aload_n hx hb dX11_word_32 rfl (lv_at hl 1 rfl) ?_
          refine x_get (ci := 11) (C := RX11) (T := TX11) (N := 5) (v := .ref (Y 2 0)) B 0 rfl rfl in_X11 2 (by decide) mw_476 (fun _ h9 => h9) rfl dX11_word_33 ?_
          refine lv_aload_n hx hb dX11_word_36 rfl (lv_at hl 1 rfl) ?_
          refine x_get (ci := 11) (C := RX11) (T := TX11) (N := 5) (v := .int (iI (K 0 0))) B 0 rfl rfl in_X11 3 (by decide) mw_477 (fun _ h9 => h9) rfl dX11_word_37 ?_
          by_cases zc_12 : K 0 0 = 6
          · refine lv_seti (y := iI ((6 : Nat) : Int)) (congrArg iI (show (K 0 0) = ((6 : Nat) : Int) by omega)) ?_
            have B := bd_pick (hs := [((Y 0 0), .inr (11, [.ref (A 50 0 0), .ref (Y 1 0), .ref (Y 2 0), .int (iI (K 0 0)), .ref (Y 3 0)])), ((Y 1 0), .inl (k 3, 2, .inr (.inr (.inr (.inr (fun i9 : Nat => (fun j9 : Int => some (Y 4 j9)) i9)))))), ((Y 2 0), .inl (k 0, 6, .inl (fun i9 : Nat => iI ((K 1) i9)))), ((Y 3 0), .inl (k 0, 5, .inl (fun i9 : Nat => iI ((K 2) i9))))]) (ws' := [((Y 2 0), .inl (k 0, 6, .inl (fun i9 : Nat => iI ((K 1) i9)))), ((Y 0 0), .inr (11, [.ref (A 50 0 0), .ref (Y 1 0), .ref (Y 2 0), .int (iI (K 0 0)), .ref (Y 3 0)])), ((Y 1 0), .inl (k 3, 2, .inr (.inr (.inr (.inr (fun i9 : Nat => (fun j9 : Int => some (Y 4 j9)) i9)))))), ((Y 3 0), .inl (k 0, 5, .inl (fun i9 : Nat => iI ((K 2) i9))))]) (tl := tr_11) [2, 0, 1, 3] (by decide) rfl B
            have B := bd_to (ws' := [((Y 2 0), .inl (k 0, 6, .inl (fun i9 : Nat => iI ((K 1) i9))))] ++ ([((Y 0 0), .inr (11, [.ref (A 50 0 0), .ref (Y 1 0), .ref (Y 2 0), .int (iI (K 0 0)), .ref (Y 3 0)])), ((Y 1 0), .inl (k 3, 2, .inr (.inr (.inr (.inr (fun i9 : Nat => (fun j9 : Int => some (Y 4 j9)) i9)))))), ((Y 3 0), .inl (k 0, 5, .inl (fun i9 : Nat => iI ((K 2) i9))))] ++ tr_11)) rfl B
            refine k_S (rest := []) (wc := [((Y 2 0), .inl (k 0, 6, .inl (fun i9 : Nat => iI ((K 1) i9))))]) (wr := ([((Y 0 0), .inr (11, [.ref (A 50 0 0), .ref (Y 1 0), .ref (Y 2 0), .int (iI (K 0 0)), .ref (Y 3 0)])), ((Y 1 0), .inl (k 3, 2, .inr (.inr (.inr (.inr (fun i9 : Nat => (fun j9 : Int => some (Y 4 j9)) i9)))))), ((Y 3 0), .inl (k 0, 5, .inl (fun i9 : Nat => iI ((K 2) i9))))] ++ tr_11)) (k_copyIs l dC dI k (Y 2 0) 6 (K 1) (by omega)) B mS_J7_copyOf_59c91 mw_644 hl ⟨Nat.le_of_ble_eq_true rfl, Nat.le_of_ble_eq_true rfl⟩ (Nat.le_of_ble_eq_true rfl) rfl dX11_word_40 ⟨by dsimp only; omega, by dsimp only; omega⟩ (fun r w gc gs H locs hp B => ?_)
            obtain ⟨cq_13, rfl, hw9, rfl, rfl⟩ := hp
            rw [hw9] at B; clear hw9
            have B := bd_swap (a := [((Y 0 0), .inr (11, [.ref (A 50 0 0), .ref (Y 1 0), .ref (Y 2 0), .int (iI (K 0 0)), .ref (Y 3 0)])), ((Y 1 0), .inl (k 3, 2, .inr (.inr (.inr (.inr (fun i9 : Nat => (fun j9 : Int => some (Y 4 j9)) i9)))))), ((Y 3 0), .inl (k 0, 5, .inl (fun i9 : Nat => iI ((K 2) i9))))]) (b := tr_11) (d := [((Y 2 0), .inl (k 0, 6, .inl (fun i9 : Nat => iI ((K 1) i9)))), (cq_13, .inl (k 0, 6, .inl (fun i9 : Nat => iI ((K 1) i9))))]) B
            have B := bd_to (ws' := ([((Y 0 0), .inr (11, [.ref (A 50 0 0), .ref (Y 1 0), .ref (Y 2 0), .int (iI (K 0 0)), .ref (Y 3 0)])), ((Y 1 0), .inl (k 3, 2, .inr (.inr (.inr (.inr (fun i9 : Nat => (fun j9 : Int => some (Y 4 j9)) i9)))))), ((Y 3 0), .inl (k 0, 5, .inl (fun i9 : Nat => iI ((K 2) i9)))), ((Y 2 0), .inl (k 0, 6, .inl (fun i9 : Nat => iI ((K 1) i9)))), (cq_13, .inl (k 0, 6, .inl (fun i9 : Nat => iI ((K 1) i9))))] ++ tr_11)) rfl B
            have B := bd_to (ws' := ([((Y 0 0), .inr (11, [.ref (A 50 0 0), .ref (Y 1 0), .ref (Y 2 0), .int (iI (K 0 0)), .ref (Y 3 0)])), ((Y 1 0), .inl (k 3, 2, .inr (.inr (.inr (.inr (fun i9 : Nat => (fun j9 : Int => some (Y 4 j9)) i9)))))), ((Y 3 0), .inl (k 0, 5, .inl (fun i9 : Nat => iI ((K 2) i9)))), ((Y 2 0), .inl (k 0, 6, .inl (fun i9 : Nat => iI ((K 1) i9)))), (cq_13, .inl (k 0, 6, .inl (fun i9 : Nat => iI ((spF K) i9))))] ++ tr_11)) (congrArg (fun h9 : Int → Int => (([((Y 0 0), .inr (11, [.ref (A 50 0 0), .ref (Y 1 0), .ref (Y 2 0), .int (iI (K 0 0)), .ref (Y 3 0)])), ((Y 1 0), .inl (k 3, 2, .inr (.inr (.inr (.inr (fun i9 : Nat => (fun j9 : Int => some (Y 4 j9)) i9)))))), ((Y 3 0), .inl (k 0, 5, .inl (fun i9 : Nat => iI ((K 2) i9)))), ((Y 2 0), .inl (k 0, 6, .inl (fun i9 : Nat => iI ((K 1) i9)))), (cq_13, .inl (k 0, 6, .inl (fun i9 : Nat => iI (h9 i9))))] ++ tr_11) : va_W)) (show (K 1) = (spF K) from spF_6 zc_12 hKO)) B
            have B := bd_to (ws' := ([((Y 0 0), .inr (11, [.ref (A 50 0 0), .ref (Y 1 0), .ref (Y 2 0), .int (iI (K 0 0)), .ref (Y 3 0)])), ((Y 1 0), .inl (k 3, 2, .inr (.inr (.inr (.inr (fun i9 : Nat => (fun j9 : Int => some (Y 4 j9)) i9)))))), ((Y 3 0), .inl (k 0, 5, .inl (fun i9 : Nat => iI ((K 2) i9)))), ((Y 2 0), .inl (k 0, 6, .inl (fun i9 : Nat => iI ((K 1) i9)))), (cq_13, .inl (k 0, (Int.toNat (K 0 0)), .inl (fun i9 : Nat => iI ((spF K) i9))))] ++ tr_11)) (congrArg (fun h9 : Nat => (([((Y 0 0), .inr (11, [.ref (A 50 0 0), .ref (Y 1 0), .ref (Y 2 0), .int (iI (K 0 0)), .ref (Y 3 0)])), ((Y 1 0), .inl (k 3, 2, .inr (.inr (.inr (.inr (fun i9 : Nat => (fun j9 : Int => some (Y 4 j9)) i9)))))), ((Y 3 0), .inl (k 0, 5, .inl (fun i9 : Nat => iI ((K 2) i9)))), ((Y 2 0), .inl (k 0, 6, .inl (fun i9 : Nat => iI ((K 1) i9)))), (cq_13, .inl (k 0, h9, .inl (fun i9 : Nat => iI ((spF K) i9))))] ++ tr_11) : va_W)) (show 6 = (Int.toNat (K 0 0)) from by omega)) B
            refine lv_astore (lv' := [(4, .ref cq_13), (3, .ref (A 0 pl 0)), (0, .ref (Y 0 0)), (1, .int (iI pl)), (2, .int (iI at_))]) hx hb dX11_word_43 hl (by decide) rfl (fun ls hl => ?_)
            refine lv_aload_n hx hb dX11_word_45 rfl (lv_at hl 2 rfl) ?_
            refine lv_iconst (v := iI 0) hx hb dX11_word_46 (by decide) ?_
            refine x_put (ci := 11) (C := RX11) (T := TX11) (N := 5) (ty := .int) (v := .int (iI 0)) B tyX11_ok nmX11 0 rfl rfl in_X11 3 (by decide) mw_477 (fun _ h9 => h9) rfl (by decide +kernel) rfl rfl (Nat.le_of_ble_eq_true rfl) dX11_word_47 (fun H locs B => ?_)
            have B := bd_to (ws' := ([((Y 0 0), .inr (11, [.ref (A 50 0 0), .ref (Y 1 0), .ref (Y 2 0), .int (iI 0), .ref (Y 3 0)])), ((Y 1 0), .inl (k 3, 2, .inr (.inr (.inr (.inr (fun i9 : Nat => (fun j9 : Int => some (Y 4 j9)) i9)))))), ((Y 3 0), .inl (k 0, 5, .inl (fun i9 : Nat => iI ((K 2) i9)))), ((Y 2 0), .inl (k 0, 6, .inl (fun i9 : Nat => iI ((K 1) i9)))), (cq_13, .inl (k 0, (Int.toNat (K 0 0)), .inl (fun i9 : Nat => iI ((spF K) i9))))] ++ tr_11)) rfl B
            refine lv_aload_n hx hb dX11_word_50 rfl (lv_at hl 2 rfl) ?_
            refine lv_aload_n hx hb dX11_word_51 rfl (lv_at hl 1 rfl) ?_
            refine lv_iload_n hx hb dX11_word_52 rfl (lv_at hl 4 rfl) ?_
            refine x_new (ci := 10) (fs := [.null, .int 0, .null, .int 0]) (C := RX10) (T := TX10) (N := 4) B tyX10_ok in_X10 mw_812 mw_813 mw_33 rfl (by decide +kernel) (by first | omega | (dsimp only; omega)) (by first | omega | (dsimp only; omega)) dX11_word_53 (fun q_14 H B => ?_)
            have B := bd_swap (a := [((Y 0 0), .inr (11, [.ref (A 50 0 0), .ref (Y 1 0), .ref (Y 2 0), .int (iI 0), .ref (Y 3 0)])), ((Y 1 0), .inl (k 3, 2, .inr (.inr (.inr (.inr (fun i9 : Nat => (fun j9 : Int => some (Y 4 j9)) i9)))))), ((Y 3 0), .inl (k 0, 5, .inl (fun i9 : Nat => iI ((K 2) i9)))), ((Y 2 0), .inl (k 0, 6, .inl (fun i9 : Nat => iI ((K 1) i9)))), (cq_13, .inl (k 0, (Int.toNat (K 0 0)), .inl (fun i9 : Nat => iI ((spF K) i9))))]) (b := tr_11) (d := [(q_14, .inr (10, [.null, .int (iI 0), .null, .int (iI 0)]))]) B
            have B := bd_to (ws' := ([((Y 0 0), .inr (11, [.ref (A 50 0 0), .ref (Y 1 0), .ref (Y 2 0), .int (iI 0), .ref (Y 3 0)])), ((Y 1 0), .inl (k 3, 2, .inr (.inr (.inr (.inr (fun i9 : Nat => (fun j9 : Int => some (Y 4 j9)) i9)))))), ((Y 3 0), .inl (k 0, 5, .inl (fun i9 : Nat => iI ((K 2) i9)))), ((Y 2 0), .inl (k 0, 6, .inl (fun i9 : Nat => iI ((K 1) i9)))), (cq_13, .inl (k 0, (Int.toNat (K 0 0)), .inl (fun i9 : Nat => iI ((spF K) i9)))), (q_14, .inr (10, [.null, .int (iI 0), .null, .int (iI 0)]))] ++ tr_11)) rfl B
            refine lv_dup hx hb dX11_word_56 rfl ?_
            refine lv_aload hx hb dX11_word_57 (lv_at hl 0 rfl) ?_
            refine lv_iconst (v := iI (-1)) hx hb dX11_word_59 (by decide) ?_
            refine lv_aload_n hx hb dX11_word_60 rfl (lv_at hl 2 rfl) ?_
            refine x_get (ci := 11) (C := RX11) (T := TX11) (N := 5) (v := .ref (Y 3 0)) B 0 rfl rfl in_X11 4 (by decide) mw_478 (fun _ h9 => h9) rfl dX11_word_61 ?_
            refine x_clone (f := (K 2)) B hl mw_814 mw_648 mw_649 mw_650 mw_651 2 rfl (Nat.le_of_ble_eq_true rfl) (Nat.le_of_ble_eq_true rfl) (by first | omega | (dsimp only; omega)) (by first | omega | (dsimp only; omega)) dX11_word_64 (fun q_15 H B => ?_)
            have B := bd_swap (a := [((Y 0 0), .inr (11, [.ref (A 50 0 0), .ref (Y 1 0), .ref (Y 2 0), .int (iI 0), .ref (Y 3 0)])), ((Y 1 0), .inl (k 3, 2, .inr (.inr (.inr (.inr (fun i9 : Nat => (fun j9 : Int => some (Y 4 j9)) i9)))))), ((Y 3 0), .inl (k 0, 5, .inl (fun i9 : Nat => iI ((K 2) i9)))), ((Y 2 0), .inl (k 0, 6, .inl (fun i9 : Nat => iI ((K 1) i9)))), (cq_13, .inl (k 0, (Int.toNat (K 0 0)), .inl (fun i9 : Nat => iI ((spF K) i9)))), (q_14, .inr (10, [.null, .int (iI 0), .null, .int (iI 0)]))]) (b := tr_11) (d := [(q_15, .inl (k 0, 5, .inl (fun i9 : Nat => iI ((K 2) i9))))]) B
            have B := bd_to (ws' := ([((Y 0 0), .inr (11, [.ref (A 50 0 0), .ref (Y 1 0), .ref (Y 2 0), .int (iI 0), .ref (Y 3 0)])), ((Y 1 0), .inl (k 3, 2, .inr (.inr (.inr (.inr (fun i9 : Nat => (fun j9 : Int => some (Y 4 j9)) i9)))))), ((Y 3 0), .inl (k 0, 5, .inl (fun i9 : Nat => iI ((K 2) i9)))), ((Y 2 0), .inl (k 0, 6, .inl (fun i9 : Nat => iI ((K 1) i9)))), (cq_13, .inl (k 0, (Int.toNat (K 0 0)), .inl (fun i9 : Nat => iI ((spF K) i9)))), (q_14, .inr (10, [.null, .int (iI 0), .null, .int (iI 0)])), (q_15, .inl (k 0, 5, .inl (fun i9 : Nat => iI ((K 2) i9))))] ++ tr_11)) rfl B
            refine x_castI (f := (K 2)) (q0 := 6) B rfl mw_815 dX11_word_67 ?_
            have B := bd_pick (hs := [((Y 0 0), .inr (11, [.ref (A 50 0 0), .ref (Y 1 0), .ref (Y 2 0), .int (iI 0), .ref (Y 3 0)])), ((Y 1 0), .inl (k 3, 2, .inr (.inr (.inr (.inr (fun i9 : Nat => (fun j9 : Int => some (Y 4 j9)) i9)))))), ((Y 3 0), .inl (k 0, 5, .inl (fun i9 : Nat => iI ((K 2) i9)))), ((Y 2 0), .inl (k 0, 6, .inl (fun i9 : Nat => iI ((K 1) i9)))), (cq_13, .inl (k 0, (Int.toNat (K 0 0)), .inl (fun i9 : Nat => iI ((spF K) i9)))), (q_14, .inr (10, [.null, .int (iI 0), .null, .int (iI 0)])), (q_15, .inl (k 0, 5, .inl (fun i9 : Nat => iI ((K 2) i9))))]) (ws' := [(q_14, .inr (10, [.null, .int (iI 0), .null, .int (iI 0)])), ((Y 0 0), .inr (11, [.ref (A 50 0 0), .ref (Y 1 0), .ref (Y 2 0), .int (iI 0), .ref (Y 3 0)])), ((Y 1 0), .inl (k 3, 2, .inr (.inr (.inr (.inr (fun i9 : Nat => (fun j9 : Int => some (Y 4 j9)) i9)))))), ((Y 3 0), .inl (k 0, 5, .inl (fun i9 : Nat => iI ((K 2) i9)))), ((Y 2 0), .inl (k 0, 6, .inl (fun i9 : Nat => iI ((K 1) i9)))), (cq_13, .inl (k 0, (Int.toNat (K 0 0)), .inl (fun i9 : Nat => iI ((spF K) i9)))), (q_15, .inl (k 0, 5, .inl (fun i9 : Nat => iI ((K 2) i9))))]) (tl := tr_11) [5, 0, 1, 2, 3, 4, 6] (by decide) rfl B
            have B := bd_to (ws' := [(q_14, .inr (10, [.null, .int (iI 0), .null, .int (iI 0)]))] ++ ([((Y 0 0), .inr (11, [.ref (A 50 0 0), .ref (Y 1 0), .ref (Y 2 0), .int (iI 0), .ref (Y 3 0)])), ((Y 1 0), .inl (k 3, 2, .inr (.inr (.inr (.inr (fun i9 : Nat => (fun j9 : Int => some (Y 4 j9)) i9)))))), ((Y 3 0), .inl (k 0, 5, .inl (fun i9 : Nat => iI ((K 2) i9)))), ((Y 2 0), .inl (k 0, 6, .inl (fun i9 : Nat => iI ((K 1) i9)))), (cq_13, .inl (k 0, (Int.toNat (K 0 0)), .inl (fun i9 : Nat => iI ((spF K) i9)))), (q_15, .inl (k 0, 5, .inl (fun i9 : Nat => iI ((K 2) i9))))] ++ tr_11)) rfl B
            refine k_I (rest := [.ref q_14, .int (iI at_), .ref (A 0 pl 0), .ref (Y 0 0)]) (wc := [(q_14, .inr (10, [.null, .int (iI 0), .null, .int (iI 0)]))]) (wr := ([((Y 0 0), .inr (11, [.ref (A 50 0 0), .ref (Y 1 0), .ref (Y 2 0), .int (iI 0), .ref (Y 3 0)])), ((Y 1 0), .inl (k 3, 2, .inr (.inr (.inr (.inr (fun i9 : Nat => (fun j9 : Int => some (Y 4 j9)) i9)))))), ((Y 3 0), .inl (k 0, 5, .inl (fun i9 : Nat => iI ((K 2) i9)))), ((Y 2 0), .inl (k 0, 6, .inl (fun i9 : Nat => iI ((K 1) i9)))), (cq_13, .inl (k 0, (Int.toNat (K 0 0)), .inl (fun i9 : Nat => iI ((spF K) i9)))), (q_15, .inl (k 0, 5, .inl (fun i9 : Nat => iI ((K 2) i9))))] ++ tr_11)) (k_wordInit l dC dI k q_14 cq_13 q_15 (-1)) B mI_X10_init mw_816 hl ⟨Nat.le_of_ble_eq_true rfl, Nat.le_of_ble_eq_true rfl⟩ (Nat.le_of_ble_eq_true rfl) rfl dX11_word_70 ⟨by dsimp only; omega, by dsimp only; omega⟩ (fun r w gc gs H locs hp B => ?_)
            obtain ⟨rfl, hw9, rfl, rfl⟩ := hp
            rw [hw9] at B; clear hw9
            have B := bd_swap (a := [((Y 0 0), .inr (11, [.ref (A 50 0 0), .ref (Y 1 0), .ref (Y 2 0), .int (iI 0), .ref (Y 3 0)])), ((Y 1 0), .inl (k 3, 2, .inr (.inr (.inr (.inr (fun i9 : Nat => (fun j9 : Int => some (Y 4 j9)) i9)))))), ((Y 3 0), .inl (k 0, 5, .inl (fun i9 : Nat => iI ((K 2) i9)))), ((Y 2 0), .inl (k 0, 6, .inl (fun i9 : Nat => iI ((K 1) i9)))), (cq_13, .inl (k 0, (Int.toNat (K 0 0)), .inl (fun i9 : Nat => iI ((spF K) i9)))), (q_15, .inl (k 0, 5, .inl (fun i9 : Nat => iI ((K 2) i9))))]) (b := tr_11) (d := [(q_14, .inr (10, [.ref cq_13, .int (iI (-1)), .ref q_15, .int (iI 0)]))]) B
            have B := bd_to (ws' := ([((Y 0 0), .inr (11, [.ref (A 50 0 0), .ref (Y 1 0), .ref (Y 2 0), .int (iI 0), .ref (Y 3 0)])), ((Y 1 0), .inl (k 3, 2, .inr (.inr (.inr (.inr (fun i9 : Nat => (fun j9 : Int => some (Y 4 j9)) i9)))))), ((Y 3 0), .inl (k 0, 5, .inl (fun i9 : Nat => iI ((K 2) i9)))), ((Y 2 0), .inl (k 0, 6, .inl (fun i9 : Nat => iI ((K 1) i9)))), (cq_13, .inl (k 0, (Int.toNat (K 0 0)), .inl (fun i9 : Nat => iI ((spF K) i9)))), (q_15, .inl (k 0, 5, .inl (fun i9 : Nat => iI ((K 2) i9)))), (q_14, .inr (10, [.ref cq_13, .int (iI (-1)), .ref q_15, .int (iI 0)]))] ++ tr_11)) rfl B
            have B := bd_pick (hs := [((Y 0 0), .inr (11, [.ref (A 50 0 0), .ref (Y 1 0), .ref (Y 2 0), .int (iI 0), .ref (Y 3 0)])), ((Y 1 0), .inl (k 3, 2, .inr (.inr (.inr (.inr (fun i9 : Nat => (fun j9 : Int => some (Y 4 j9)) i9)))))), ((Y 3 0), .inl (k 0, 5, .inl (fun i9 : Nat => iI ((K 2) i9)))), ((Y 2 0), .inl (k 0, 6, .inl (fun i9 : Nat => iI ((K 1) i9)))), (cq_13, .inl (k 0, (Int.toNat (K 0 0)), .inl (fun i9 : Nat => iI ((spF K) i9)))), (q_15, .inl (k 0, 5, .inl (fun i9 : Nat => iI ((K 2) i9)))), (q_14, .inr (10, [.ref cq_13, .int (iI (-1)), .ref q_15, .int (iI 0)]))]) (ws' := [(cq_13, .inl (k 0, (Int.toNat (K 0 0)), .inl (fun i9 : Nat => iI ((spF K) i9)))), (q_15, .inl (k 0, 5, .inl (fun i9 : Nat => iI ((K 2) i9)))), (q_14, .inr (10, [.ref cq_13, .int (iI (-1)), .ref q_15, .int (iI 0)])), ((Y 0 0), .inr (11, [.ref (A 50 0 0), .ref (Y 1 0), .ref (Y 2 0), .int (iI 0), .ref (Y 3 0)])), ((Y 1 0), .inl (k 3, 2, .inr (.inr (.inr (.inr (fun i9 : Nat => (fun j9 : Int => some (Y 4 j9)) i9)))))), ((Y 2 0), .inl (k 0, 6, .inl (fun i9 : Nat => iI ((K 1) i9)))), ((Y 3 0), .inl (k 0, 5, .inl (fun i9 : Nat => iI ((K 2) i9))))]) (tl := tr_11) [4, 5, 6, 0, 1, 3, 2] (by decide) rfl B
            have B := bd_to (ws' := ([(cq_13, .inl (k 0, (Int.toNat (K 0 0)), .inl (fun i9 : Nat => iI ((spF K) i9)))), (q_15, .inl (k 0, 5, .inl (fun i9 : Nat => iI ((K 2) i9)))), (q_14, .inr (10, [.ref cq_13, .int (iI (-1)), .ref q_15, .int (iI 0)]))] ++ (gCl k A Y (KKn 0 (K 1) (K 2)) ++ tr_11))) rfl B
            have hPR : PR dI k T A X G Mc Y O L C (KKn 0 (K 1) (K 2)) cp (gCl k A Y (KKn 0 (K 1) (K 2)) ++ tr_11) := btr_11 (KKn 0 (K 1) (K 2))
            have hT := PR_TI hPR
            have B := bd_pick (hs := [(cq_13, .inl (k 0, (Int.toNat (K 0 0)), .inl (fun i9 : Nat => iI ((spF K) i9)))), (q_15, .inl (k 0, 5, .inl (fun i9 : Nat => iI ((K 2) i9)))), (q_14, .inr (10, [.ref cq_13, .int (iI (-1)), .ref q_15, .int (iI 0)]))]) (ws' := [(q_14, .inr (10, [.ref cq_13, .int (iI (-1)), .ref q_15, .int (iI 0)])), (cq_13, .inl (k 0, (Int.toNat (K 0 0)), .inl (fun i9 : Nat => iI ((spF K) i9)))), (q_15, .inl (k 0, 5, .inl (fun i9 : Nat => iI ((K 2) i9))))]) (tl := (gCl k A Y (KKn 0 (K 1) (K 2)) ++ tr_11)) [2, 0, 1] (by decide) rfl B
            have B := bd_swap (a := [(q_14, .inr (10, [.ref cq_13, .int (iI (-1)), .ref q_15, .int (iI 0)])), (cq_13, .inl (k 0, (Int.toNat (K 0 0)), .inl (fun i9 : Nat => iI ((spF K) i9)))), (q_15, .inl (k 0, 5, .inl (fun i9 : Nat => iI ((K 2) i9))))]) (b := []) (d := (gCl k A Y (KKn 0 (K 1) (K 2)) ++ tr_11)) (bd_to rfl B)
            obtain ⟨k_16, hk_16⟩ := pk_at (hs := [(q_14, .inr (10, [.ref cq_13, .int (iI (-1)), .ref q_15, .int (iI 0)])), (cq_13, .inl (k 0, (Int.toNat (K 0 0)), .inl (fun i9 : Nat => iI ((spF K) i9)))), (q_15, .inl (k 0, 5, .inl (fun i9 : Nat => iI ((K 2) i9))))]) (show (((Y 0 0), .inr (11, [.ref (A 50 0 0), .ref (Y 1 0), .ref (Y 2 0), .int (iI ((KKn 0 (K 1) (K 2)) 0 0)), .ref (Y 3 0)])) : Nat × va_E) ∈ (gCl k A Y (KKn 0 (K 1) (K 2)) ++ tr_11) from (PR_m hPR 0 0 rfl rfl))
            refine k_V (rest := []) (wc := ([(q_14, .inr (10, [.ref cq_13, .int (iI (-1)), .ref q_15, .int (iI 0)])), (cq_13, .inl (k 0, (Int.toNat (K 0 0)), .inl (fun i9 : Nat => iI ((spF K) i9)))), (q_15, .inl (k 0, 5, .inl (fun i9 : Nat => iI ((K 2) i9))))] ++ (gCl k A Y (KKn 0 (K 1) (K 2)) ++ tr_11))) (wr := []) (k_putIn l dC dI k T A X (gCl k A Y (KKn 0 (K 1) (K 2)) ++ tr_11) G Mc Y O L C (KKn 0 (K 1) (K 2)) cp pl at_ (-1) 0 q_14 cq_13 q_15 (Int.toNat (K 0 0)) (spF K) (K 2) hPR hK (KK_n (by omega) hKK) z_3 (by omega) (WOK_w hKK (by omega))) B mV_X11_putIn mw_841 hl (q0 := k_16) (ci := 11) hk_16 rfl rfl ⟨Nat.le_of_ble_eq_true rfl, Nat.le_of_ble_eq_true rfl⟩ (Nat.le_of_ble_eq_true rfl) rfl dX11_word_73 ⟨by dsimp only; omega, by dsimp only; omega⟩ (fun r w gc gs H locs hp B => ?_)
            obtain ⟨L2_17, e2_18, c2_19, tl2_20, z_21, z_22, rfl, hw9, rfl, rfl⟩ := hp
            rw [hw9] at B; clear hw9
            have B := bd_to (ws' := ([] ++ tl2_20)) rfl B
            have hPR : PR dI k (puT T pl at_ (Int.toNat (K 0 0)) (spF K) (-1) (K 2) (gsZ T (spF K) ((Int.toNat (K 0 0)) : Int))) (puA A pl at_ q_14 cq_13 q_15 e2_18) X (upG G 1 pl c2_19) (upM Mc 1 pl (Mc 1 pl + 1)) Y O L2_17 C (KKn ((KKn 0 (K 1) (K 2)) 0 0) ((KKn 0 (K 1) (K 2)) 1) (fun _ : Int => (-1))) cp tl2_20 := z_21
            have hT : TI dI k (puT T pl at_ (Int.toNat (K 0 0)) (spF K) (-1) (K 2) (gsZ T (spF K) ((Int.toNat (K 0 0)) : Int))) (puA A pl at_ q_14 cq_13 q_15 e2_18) X tl2_20 := PR_TI hPR
            exact vx_ret (k_iret B hr (⟨L2_17, e2_18, c2_19, q_14, cq_13, q_15, (((((0 + (0 + 6)) + 4) + 5) + 0) + 40), tl2_20, hPR, z_22, (by omega), (by omega), rfl, rfl, rfl, rfl⟩) ⟨(by first | omega | (dsimp only; omega)), (by first | omega | (dsimp only; omega))⟩ ⟨(by first | omega | (dsimp only; omega)), (by first | omega | (dsimp only; omega))⟩ dX11_word_76)
          · refine lv_seti (y := iI (((Int.toNat (K 0 0)) : Nat) : Int)) (congrArg iI (show (K 0 0) = (((Int.toNat (K 0 0)) : Nat) : Int) by omega)) ?_
            have B := bd_pick (hs := [((Y 0 0), .inr (11, [.ref (A 50 0 0), .ref (Y 1 0), .ref (Y 2 0), .int (iI (K 0 0)), .ref (Y 3 0)])), ((Y 1 0), .inl (k 3, 2, .inr (.inr (.inr (.inr (fun i9 : Nat => (fun j9 : Int => some (Y 4 j9)) i9)))))), ((Y 2 0), .inl (k 0, 6, .inl (fun i9 : Nat => iI ((K 1) i9)))), ((Y 3 0), .inl (k 0, 5, .inl (fun i9 : Nat => iI ((K 2) i9))))]) (ws' := [((Y 2 0), .inl (k 0, 6, .inl (fun i9 : Nat => iI ((K 1) i9)))), ((Y 0 0), .inr (11, [.ref (A 50 0 0), .ref (Y 1 0), .ref (Y 2 0), .int (iI (K 0 0)), .ref (Y 3 0)])), ((Y 1 0), .inl (k 3, 2, .inr (.inr (.inr (.inr (fun i9 : Nat => (fun j9 : Int => some (Y 4 j9)) i9)))))), ((Y 3 0), .inl (k 0, 5, .inl (fun i9 : Nat => iI ((K 2) i9))))]) (tl := tr_11) [2, 0, 1, 3] (by decide) rfl B
            have B := bd_to (ws' := [((Y 2 0), .inl (k 0, 6, .inl (fun i9 : Nat => iI ((K 1) i9))))] ++ ([((Y 0 0), .inr (11, [.ref (A 50 0 0), .ref (Y 1 0), .ref (Y 2 0), .int (iI (K 0 0)), .ref (Y 3 0)])), ((Y 1 0), .inl (k 3, 2, .inr (.inr (.inr (.inr (fun i9 : Nat => (fun j9 : Int => some (Y 4 j9)) i9)))))), ((Y 3 0), .inl (k 0, 5, .inl (fun i9 : Nat => iI ((K 2) i9))))] ++ tr_11)) rfl B
            refine k_S (rest := []) (wc := [((Y 2 0), .inl (k 0, 6, .inl (fun i9 : Nat => iI ((K 1) i9))))]) (wr := ([((Y 0 0), .inr (11, [.ref (A 50 0 0), .ref (Y 1 0), .ref (Y 2 0), .int (iI (K 0 0)), .ref (Y 3 0)])), ((Y 1 0), .inl (k 3, 2, .inr (.inr (.inr (.inr (fun i9 : Nat => (fun j9 : Int => some (Y 4 j9)) i9)))))), ((Y 3 0), .inl (k 0, 5, .inl (fun i9 : Nat => iI ((K 2) i9))))] ++ tr_11)) (k_copyI l dC dI k (Y 2 0) 6 (Int.toNat (K 0 0)) (K 1) (by omega)) B mS_J7_copyOf_59c91 mw_644 hl ⟨Nat.le_of_ble_eq_true rfl, Nat.le_of_ble_eq_true rfl⟩ (Nat.le_of_ble_eq_true rfl) rfl dX11_word_40 ⟨by dsimp only; omega, by dsimp only; omega⟩ (fun r w gc gs H locs hp B => ?_)
            obtain ⟨cq_23, rfl, hw9, rfl, rfl⟩ := hp
            rw [hw9] at B; clear hw9
            have B := bd_swap (a := [((Y 0 0), .inr (11, [.ref (A 50 0 0), .ref (Y 1 0), .ref (Y 2 0), .int (iI (K 0 0)), .ref (Y 3 0)])), ((Y 1 0), .inl (k 3, 2, .inr (.inr (.inr (.inr (fun i9 : Nat => (fun j9 : Int => some (Y 4 j9)) i9)))))), ((Y 3 0), .inl (k 0, 5, .inl (fun i9 : Nat => iI ((K 2) i9))))]) (b := tr_11) (d := [((Y 2 0), .inl (k 0, 6, .inl (fun i9 : Nat => iI ((K 1) i9)))), (cq_23, .inl (k 0, (Int.toNat (K 0 0)), .inl (fun i9 : Nat => iI ((cpz (K 1) (fun _ : Int => (0 : Int)) 0 0 (min (6 : Int) ((Int.toNat (K 0 0)) : Int))) i9))))]) B
            have B := bd_to (ws' := ([((Y 0 0), .inr (11, [.ref (A 50 0 0), .ref (Y 1 0), .ref (Y 2 0), .int (iI (K 0 0)), .ref (Y 3 0)])), ((Y 1 0), .inl (k 3, 2, .inr (.inr (.inr (.inr (fun i9 : Nat => (fun j9 : Int => some (Y 4 j9)) i9)))))), ((Y 3 0), .inl (k 0, 5, .inl (fun i9 : Nat => iI ((K 2) i9)))), ((Y 2 0), .inl (k 0, 6, .inl (fun i9 : Nat => iI ((K 1) i9)))), (cq_23, .inl (k 0, (Int.toNat (K 0 0)), .inl (fun i9 : Nat => iI ((cpz (K 1) (fun _ : Int => (0 : Int)) 0 0 (min (6 : Int) ((Int.toNat (K 0 0)) : Int))) i9))))] ++ tr_11)) rfl B
            have B := bd_to (ws' := ([((Y 0 0), .inr (11, [.ref (A 50 0 0), .ref (Y 1 0), .ref (Y 2 0), .int (iI (K 0 0)), .ref (Y 3 0)])), ((Y 1 0), .inl (k 3, 2, .inr (.inr (.inr (.inr (fun i9 : Nat => (fun j9 : Int => some (Y 4 j9)) i9)))))), ((Y 3 0), .inl (k 0, 5, .inl (fun i9 : Nat => iI ((K 2) i9)))), ((Y 2 0), .inl (k 0, 6, .inl (fun i9 : Nat => iI ((K 1) i9)))), (cq_23, .inl (k 0, (Int.toNat (K 0 0)), .inl (fun i9 : Nat => iI ((spF K) i9))))] ++ tr_11)) (congrArg (fun h9 : Int → Int => (([((Y 0 0), .inr (11, [.ref (A 50 0 0), .ref (Y 1 0), .ref (Y 2 0), .int (iI (K 0 0)), .ref (Y 3 0)])), ((Y 1 0), .inl (k 3, 2, .inr (.inr (.inr (.inr (fun i9 : Nat => (fun j9 : Int => some (Y 4 j9)) i9)))))), ((Y 3 0), .inl (k 0, 5, .inl (fun i9 : Nat => iI ((K 2) i9)))), ((Y 2 0), .inl (k 0, 6, .inl (fun i9 : Nat => iI ((K 1) i9)))), (cq_23, .inl (k 0, (Int.toNat (K 0 0)), .inl (fun i9 : Nat => iI (h9 i9))))] ++ tr_11) : va_W)) (show (cpz (K 1) (fun _ : Int => (0 : Int)) 0 0 (min (6 : Int) ((Int.toNat (K 0 0)) : Int))) = (spF K) from by unfold spF; rw [show ((((Int.toNat (K 0 0)) : Nat)) : Int) = K 0 0 by omega])) B
            refine lv_astore (lv' := [(4, .ref cq_23), (3, .ref (A 0 pl 0)), (0, .ref (Y 0 0)), (1, .int (iI pl)), (2, .int (iI at_))]) hx hb dX11_word_43 hl (by decide) rfl (fun ls hl => ?_)
            refine lv_aload_n hx hb dX11_word_45 rfl (lv_at hl 2 rfl) ?_
            refine lv_iconst (v := iI 0) hx hb dX11_word_46 (by decide) ?_
            refine x_put (ci := 11) (C := RX11) (T := TX11) (N := 5) (ty := .int) (v := .int (iI 0)) B tyX11_ok nmX11 0 rfl rfl in_X11 3 (by decide) mw_477 (fun _ h9 => h9) rfl (by decide +kernel) rfl rfl (Nat.le_of_ble_eq_true rfl) dX11_word_47 (fun H locs B => ?_)
            have B := bd_to (ws' := ([((Y 0 0), .inr (11, [.ref (A 50 0 0), .ref (Y 1 0), .ref (Y 2 0), .int (iI 0), .ref (Y 3 0)])), ((Y 1 0), .inl (k 3, 2, .inr (.inr (.inr (.inr (fun i9 : Nat => (fun j9 : Int => some (Y 4 j9)) i9)))))), ((Y 3 0), .inl (k 0, 5, .inl (fun i9 : Nat => iI ((K 2) i9)))), ((Y 2 0), .inl (k 0, 6, .inl (fun i9 : Nat => iI ((K 1) i9)))), (cq_23, .inl (k 0, (Int.toNat (K 0 0)), .inl (fun i9 : Nat => iI ((spF K) i9))))] ++ tr_11)) rfl B
            refine lv_aload_n hx hb dX11_word_50 rfl (lv_at hl 2 rfl) ?_
            refine lv_aload_n hx hb dX11_word_51 rfl (lv_at hl 1 rfl) ?_
            refine lv_iload_n hx hb dX11_word_52 rfl (lv_at hl 4 rfl) ?_
            refine x_new (ci := 10) (fs := [.null, .int 0, .null, .int 0]) (C := RX10) (T := TX10) (N := 4) B tyX10_ok in_X10 mw_812 mw_813 mw_33 rfl (by decide +kernel) (by first | omega | (dsimp only; omega)) (by first | omega | (dsimp only; omega)) dX11_word_53 (fun q_24 H B => ?_)
            have B := bd_swap (a := [((Y 0 0), .inr (11, [.ref (A 50 0 0), .ref (Y 1 0), .ref (Y 2 0), .int (iI 0), .ref (Y 3 0)])), ((Y 1 0), .inl (k 3, 2, .inr (.inr (.inr (.inr (fun i9 : Nat => (fun j9 : Int => some (Y 4 j9)) i9)))))), ((Y 3 0), .inl (k 0, 5, .inl (fun i9 : Nat => iI ((K 2) i9)))), ((Y 2 0), .inl (k 0, 6, .inl (fun i9 : Nat => iI ((K 1) i9)))), (cq_23, .inl (k 0, (Int.toNat (K 0 0)), .inl (fun i9 : Nat => iI ((spF K) i9))))]) (b := tr_11) (d := [(q_24, .inr (10, [.null, .int (iI 0), .null, .int (iI 0)]))]) B
            have B := bd_to (ws' := ([((Y 0 0), .inr (11, [.ref (A 50 0 0), .ref (Y 1 0), .ref (Y 2 0), .int (iI 0), .ref (Y 3 0)])), ((Y 1 0), .inl (k 3, 2, .inr (.inr (.inr (.inr (fun i9 : Nat => (fun j9 : Int => some (Y 4 j9)) i9)))))), ((Y 3 0), .inl (k 0, 5, .inl (fun i9 : Nat => iI ((K 2) i9)))), ((Y 2 0), .inl (k 0, 6, .inl (fun i9 : Nat => iI ((K 1) i9)))), (cq_23, .inl (k 0, (Int.toNat (K 0 0)), .inl (fun i9 : Nat => iI ((spF K) i9)))), (q_24, .inr (10, [.null, .int (iI 0), .null, .int (iI 0)]))] ++ tr_11)) rfl B
            refine lv_dup hx hb dX11_word_56 rfl ?_
            refine lv_aload hx hb dX11_word_57 (lv_at hl 0 rfl) ?_
            refine lv_iconst (v := iI (-1)) hx hb dX11_word_59 (by decide) ?_
            refine lv_aload_n hx hb dX11_word_60 rfl (lv_at hl 2 rfl) ?_
            refine x_get (ci := 11) (C := RX11) (T := TX11) (N := 5) (v := .ref (Y 3 0)) B 0 rfl rfl in_X11 4 (by decide) mw_478 (fun _ h9 => h9) rfl dX11_word_61 ?_
            refine x_clone (f := (K 2)) B hl mw_814 mw_648 mw_649 mw_650 mw_651 2 rfl (Nat.le_of_ble_eq_true rfl) (Nat.le_of_ble_eq_true rfl) (by first | omega | (dsimp only; omega)) (by first | omega | (dsimp only; omega)) dX11_word_64 (fun q_25 H B => ?_)
            have B := bd_swap (a := [((Y 0 0), .inr (11, [.ref (A 50 0 0), .ref (Y 1 0), .ref (Y 2 0), .int (iI 0), .ref (Y 3 0)])), ((Y 1 0), .inl (k 3, 2, .inr (.inr (.inr (.inr (fun i9 : Nat => (fun j9 : Int => some (Y 4 j9)) i9)))))), ((Y 3 0), .inl (k 0, 5, .inl (fun i9 : Nat => iI ((K 2) i9)))), ((Y 2 0), .inl (k 0, 6, .inl (fun i9 : Nat => iI ((K 1) i9)))), (cq_23, .inl (k 0, (Int.toNat (K 0 0)), .inl (fun i9 : Nat => iI ((spF K) i9)))), (q_24, .inr (10, [.null, .int (iI 0), .null, .int (iI 0)]))]) (b := tr_11) (d := [(q_25, .inl (k 0, 5, .inl (fun i9 : Nat => iI ((K 2) i9))))]) B
            have B := bd_to (ws' := ([((Y 0 0), .inr (11, [.ref (A 50 0 0), .ref (Y 1 0), .ref (Y 2 0), .int (iI 0), .ref (Y 3 0)])), ((Y 1 0), .inl (k 3, 2, .inr (.inr (.inr (.inr (fun i9 : Nat => (fun j9 : Int => some (Y 4 j9)) i9)))))), ((Y 3 0), .inl (k 0, 5, .inl (fun i9 : Nat => iI ((K 2) i9)))), ((Y 2 0), .inl (k 0, 6, .inl (fun i9 : Nat => iI ((K 1) i9)))), (cq_23, .inl (k 0, (Int.toNat (K 0 0)), .inl (fun i9 : Nat => iI ((spF K) i9)))), (q_24, .inr (10, [.null, .int (iI 0), .null, .int (iI 0)])), (q_25, .inl (k 0, 5, .inl (fun i9 : Nat => iI ((K 2) i9))))] ++ tr_11)) rfl B
            refine x_castI (f := (K 2)) (q0 := 6) B rfl mw_815 dX11_word_67 ?_
            have B := bd_pick (hs := [((Y 0 0), .inr (11, [.ref (A 50 0 0), .ref (Y 1 0), .ref (Y 2 0), .int (iI 0), .ref (Y 3 0)])), ((Y 1 0), .inl (k 3, 2, .inr (.inr (.inr (.inr (fun i9 : Nat => (fun j9 : Int => some (Y 4 j9)) i9)))))), ((Y 3 0), .inl (k 0, 5, .inl (fun i9 : Nat => iI ((K 2) i9)))), ((Y 2 0), .inl (k 0, 6, .inl (fun i9 : Nat => iI ((K 1) i9)))), (cq_23, .inl (k 0, (Int.toNat (K 0 0)), .inl (fun i9 : Nat => iI ((spF K) i9)))), (q_24, .inr (10, [.null, .int (iI 0), .null, .int (iI 0)])), (q_25, .inl (k 0, 5, .inl (fun i9 : Nat => iI ((K 2) i9))))]) (ws' := [(q_24, .inr (10, [.null, .int (iI 0), .null, .int (iI 0)])), ((Y 0 0), .inr (11, [.ref (A 50 0 0), .ref (Y 1 0), .ref (Y 2 0), .int (iI 0), .ref (Y 3 0)])), ((Y 1 0), .inl (k 3, 2, .inr (.inr (.inr (.inr (fun i9 : Nat => (fun j9 : Int => some (Y 4 j9)) i9)))))), ((Y 3 0), .inl (k 0, 5, .inl (fun i9 : Nat => iI ((K 2) i9)))), ((Y 2 0), .inl (k 0, 6, .inl (fun i9 : Nat => iI ((K 1) i9)))), (cq_23, .inl (k 0, (Int.toNat (K 0 0)), .inl (fun i9 : Nat => iI ((spF K) i9)))), (q_25, .inl (k 0, 5, .inl (fun i9 : Nat => iI ((K 2) i9))))]) (tl := tr_11) [5, 0, 1, 2, 3, 4, 6] (by decide) rfl B
            have B := bd_to (ws' := [(q_24, .inr (10, [.null, .int (iI 0), .null, .int (iI 0)]))] ++ ([((Y 0 0), .inr (11, [.ref (A 50 0 0), .ref (Y 1 0), .ref (Y 2 0), .int (iI 0), .ref (Y 3 0)])), ((Y 1 0), .inl (k 3, 2, .inr (.inr (.inr (.inr (fun i9 : Nat => (fun j9 : Int => some (Y 4 j9)) i9)))))), ((Y 3 0), .inl (k 0, 5, .inl (fun i9 : Nat => iI ((K 2) i9)))), ((Y 2 0), .inl (k 0, 6, .inl (fun i9 : Nat => iI ((K 1) i9)))), (cq_23, .inl (k 0, (Int.toNat (K 0 0)), .inl (fun i9 : Nat => iI ((spF K) i9)))), (q_25, .inl (k 0, 5, .inl (fun i9 : Nat => iI ((K 2) i9))))] ++ tr_11)) rfl B
            refine k_I (rest := [.ref q_24, .int (iI at_), .ref (A 0 pl 0), .ref (Y 0 0)]) (wc := [(q_24, .inr (10, [.null, .int (iI 0), .null, .int (iI 0)]))]) (wr := ([((Y 0 0), .inr (11, [.ref (A 50 0 0), .ref (Y 1 0), .ref (Y 2 0), .int (iI 0), .ref (Y 3 0)])), ((Y 1 0), .inl (k 3, 2, .inr (.inr (.inr (.inr (fun i9 : Nat => (fun j9 : Int => some (Y 4 j9)) i9)))))), ((Y 3 0), .inl (k 0, 5, .inl (fun i9 : Nat => iI ((K 2) i9)))), ((Y 2 0), .inl (k 0, 6, .inl (fun i9 : Nat => iI ((K 1) i9)))), (cq_23, .inl (k 0, (Int.toNat (K 0 0)), .inl (fun i9 : Nat => iI ((spF K) i9)))), (q_25, .inl (k 0, 5, .inl (fun i9 : Nat => iI ((K 2) i9))))] ++ tr_11)) (k_wordInit l dC dI k q_24 cq_23 q_25 (-1)) B mI_X10_init mw_816 hl ⟨Nat.le_of_ble_eq_true rfl, Nat.le_of_ble_eq_true rfl⟩ (Nat.le_of_ble_eq_true rfl) rfl dX11_word_70 ⟨by dsimp only; omega, by dsimp only; omega⟩ (fun r w gc gs H locs hp B => ?_)
            obtain ⟨rfl, hw9, rfl, rfl⟩ := hp
            rw [hw9] at B; clear hw9
            have B := bd_swap (a := [((Y 0 0), .inr (11, [.ref (A 50 0 0), .ref (Y 1 0), .ref (Y 2 0), .int (iI 0), .ref (Y 3 0)])), ((Y 1 0), .inl (k 3, 2, .inr (.inr (.inr (.inr (fun i9 : Nat => (fun j9 : Int => some (Y 4 j9)) i9)))))), ((Y 3 0), .inl (k 0, 5, .inl (fun i9 : Nat => iI ((K 2) i9)))), ((Y 2 0), .inl (k 0, 6, .inl (fun i9 : Nat => iI ((K 1) i9)))), (cq_23, .inl (k 0, (Int.toNat (K 0 0)), .inl (fun i9 : Nat => iI ((spF K) i9)))), (q_25, .inl (k 0, 5, .inl (fun i9 : Nat => iI ((K 2) i9))))]) (b := tr_11) (d := [(q_24, .inr (10, [.ref cq_23, .int (iI (-1)), .ref q_25, .int (iI 0)]))]) B
            have B := bd_to (ws' := ([((Y 0 0), .inr (11, [.ref (A 50 0 0), .ref (Y 1 0), .ref (Y 2 0), .int (iI 0), .ref (Y 3 0)])), ((Y 1 0), .inl (k 3, 2, .inr (.inr (.inr (.inr (fun i9 : Nat => (fun j9 : Int => some (Y 4 j9)) i9)))))), ((Y 3 0), .inl (k 0, 5, .inl (fun i9 : Nat => iI ((K 2) i9)))), ((Y 2 0), .inl (k 0, 6, .inl (fun i9 : Nat => iI ((K 1) i9)))), (cq_23, .inl (k 0, (Int.toNat (K 0 0)), .inl (fun i9 : Nat => iI ((spF K) i9)))), (q_25, .inl (k 0, 5, .inl (fun i9 : Nat => iI ((K 2) i9)))), (q_24, .inr (10, [.ref cq_23, .int (iI (-1)), .ref q_25, .int (iI 0)]))] ++ tr_11)) rfl B
            have B := bd_pick (hs := [((Y 0 0), .inr (11, [.ref (A 50 0 0), .ref (Y 1 0), .ref (Y 2 0), .int (iI 0), .ref (Y 3 0)])), ((Y 1 0), .inl (k 3, 2, .inr (.inr (.inr (.inr (fun i9 : Nat => (fun j9 : Int => some (Y 4 j9)) i9)))))), ((Y 3 0), .inl (k 0, 5, .inl (fun i9 : Nat => iI ((K 2) i9)))), ((Y 2 0), .inl (k 0, 6, .inl (fun i9 : Nat => iI ((K 1) i9)))), (cq_23, .inl (k 0, (Int.toNat (K 0 0)), .inl (fun i9 : Nat => iI ((spF K) i9)))), (q_25, .inl (k 0, 5, .inl (fun i9 : Nat => iI ((K 2) i9)))), (q_24, .inr (10, [.ref cq_23, .int (iI (-1)), .ref q_25, .int (iI 0)]))]) (ws' := [(cq_23, .inl (k 0, (Int.toNat (K 0 0)), .inl (fun i9 : Nat => iI ((spF K) i9)))), (q_25, .inl (k 0, 5, .inl (fun i9 : Nat => iI ((K 2) i9)))), (q_24, .inr (10, [.ref cq_23, .int (iI (-1)), .ref q_25, .int (iI 0)])), ((Y 0 0), .inr (11, [.ref (A 50 0 0), .ref (Y 1 0), .ref (Y 2 0), .int (iI 0), .ref (Y 3 0)])), ((Y 1 0), .inl (k 3, 2, .inr (.inr (.inr (.inr (fun i9 : Nat => (fun j9 : Int => some (Y 4 j9)) i9)))))), ((Y 2 0), .inl (k 0, 6, .inl (fun i9 : Nat => iI ((K 1) i9)))), ((Y 3 0), .inl (k 0, 5, .inl (fun i9 : Nat => iI ((K 2) i9))))]) (tl := tr_11) [4, 5, 6, 0, 1, 3, 2] (by decide) rfl B
            have B := bd_to (ws' := ([(cq_23, .inl (k 0, (Int.toNat (K 0 0)), .inl (fun i9 : Nat => iI ((spF K) i9)))), (q_25, .inl (k 0, 5, .inl (fun i9 : Nat => iI ((K 2) i9)))), (q_24, .inr (10, [.ref cq_23, .int (iI (-1)), .ref q_25, .int (iI 0)]))] ++ (gCl k A Y (KKn 0 (K 1) (K 2)) ++ tr_11))) rfl B
            have hPR : PR dI k T A X G Mc Y O L C (KKn 0 (K 1) (K 2)) cp (gCl k A Y (KKn 0 (K 1) (K 2)) ++ tr_11) := btr_11 (KKn 0 (K 1) (K 2))
            have hT := PR_TI hPR
            have B := bd_pick (hs := [(cq_23, .inl (k 0, (Int.toNat (K 0 0)), .inl (fun i9 : Nat => iI ((spF K) i9)))), (q_25, .inl (k 0, 5, .inl (fun i9 : Nat => iI ((K 2) i9)))), (q_24, .inr (10, [.ref cq_23, .int (iI (-1)), .ref q_25, .int (iI 0)]))]) (ws' := [(q_24, .inr (10, [.ref cq_23, .int (iI (-1)), .ref q_25, .int (iI 0)])), (cq_23, .inl (k 0, (Int.toNat (K 0 0)), .inl (fun i9 : Nat => iI ((spF K) i9)))), (q_25, .inl (k 0, 5, .inl (fun i9 : Nat => iI ((K 2) i9))))]) (tl := (gCl k A Y (KKn 0 (K 1) (K 2)) ++ tr_11)) [2, 0, 1] (by decide) rfl B
            have B := bd_swap (a := [(q_24, .inr (10, [.ref cq_23, .int (iI (-1)), .ref q_25, .int (iI 0)])), (cq_23, .inl (k 0, (Int.toNat (K 0 0)), .inl (fun i9 : Nat => iI ((spF K) i9)))), (q_25, .inl (k 0, 5, .inl (fun i9 : Nat => iI ((K 2) i9))))]) (b := []) (d := (gCl k A Y (KKn 0 (K 1) (K 2)) ++ tr_11)) (bd_to rfl B)
            obtain ⟨k_26, hk_26⟩ := pk_at (hs := [(q_24, .inr (10, [.ref cq_23, .int (iI (-1)), .ref q_25, .int (iI 0)])), (cq_23, .inl (k 0, (Int.toNat (K 0 0)), .inl (fun i9 : Nat => iI ((spF K) i9)))), (q_25, .inl (k 0, 5, .inl (fun i9 : Nat => iI ((K 2) i9))))]) (show (((Y 0 0), .inr (11, [.ref (A 50 0 0), .ref (Y 1 0), .ref (Y 2 0), .int (iI ((KKn 0 (K 1) (K 2)) 0 0)), .ref (Y 3 0)])) : Nat × va_E) ∈ (gCl k A Y (KKn 0 (K 1) (K 2)) ++ tr_11) from (PR_m hPR 0 0 rfl rfl))
            refine k_V (rest := []) (wc := ([(q_24, .inr (10, [.ref cq_23, .int (iI (-1)), .ref q_25, .int (iI 0)])), (cq_23, .inl (k 0, (Int.toNat (K 0 0)), .inl (fun i9 : Nat => iI ((spF K) i9)))), (q_25, .inl (k 0, 5, .inl (fun i9 : Nat => iI ((K 2) i9))))] ++ (gCl k A Y (KKn 0 (K 1) (K 2)) ++ tr_11))) (wr := []) (k_putIn l dC dI k T A X (gCl k A Y (KKn 0 (K 1) (K 2)) ++ tr_11) G Mc Y O L C (KKn 0 (K 1) (K 2)) cp pl at_ (-1) 0 q_24 cq_23 q_25 (Int.toNat (K 0 0)) (spF K) (K 2) hPR hK (KK_n (by omega) hKK) z_3 (by omega) (WOK_w hKK (by omega))) B mV_X11_putIn mw_841 hl (q0 := k_26) (ci := 11) hk_26 rfl rfl ⟨Nat.le_of_ble_eq_true rfl, Nat.le_of_ble_eq_true rfl⟩ (Nat.le_of_ble_eq_true rfl) rfl dX11_word_73 ⟨by dsimp only; omega, by dsimp only; omega⟩ (fun r w gc gs H locs hp B => ?_)
            obtain ⟨L2_27, e2_28, c2_29, tl2_30, z_31, z_32, rfl, hw9, rfl, rfl⟩ := hp
            rw [hw9] at B; clear hw9
            have B := bd_to (ws' := ([] ++ tl2_30)) rfl B
            have hPR : PR dI k (puT T pl at_ (Int.toNat (K 0 0)) (spF K) (-1) (K 2) (gsZ T (spF K) ((Int.toNat (K 0 0)) : Int))) (puA A pl at_ q_24 cq_23 q_25 e2_28) X (upG G 1 pl c2_29) (upM Mc 1 pl (Mc 1 pl + 1)) Y O L2_27 C (KKn ((KKn 0 (K 1) (K 2)) 0 0) ((KKn 0 (K 1) (K 2)) 1) (fun _ : Int => (-1))) cp tl2_30 := z_31
            have hT : TI dI k (puT T pl at_ (Int.toNat (K 0 0)) (spF K) (-1) (K 2) (gsZ T (spF K) ((Int.toNat (K 0 0)) : Int))) (puA A pl at_ q_24 cq_23 q_25 e2_28) X tl2_30 := PR_TI hPR
            exact vx_ret (k_iret B hr (⟨L2_27, e2_28, c2_29, q_24, cq_23, q_25, (((((0 + (Int.toNat (K 0 0))) + 4) + 5) + 0) + 40), tl2_30, hPR, z_32, (by omega), (by omega), rfl, rfl, rfl, rfl⟩) ⟨(by first | omega | (dsimp only; omega)), (by first | omega | (dsimp only; omega))⟩ ⟨(by first | omega | (dsimp only; omega)), (by first | omega | (dsimp only; omega))⟩ dX11_word_76)
        · have zc_10 : (K 0 0) = 0 := jeq (a := (K 0 0)) (b := 0) (by omega) (by omega) c_10
          exact k_thrG (tx := "nothing is spelled") xE_ise (Or.inr (⟨(by omega), rfl, rfl, rfl, rfl⟩)) ⟨(by first | omega | (dsimp only; omega)), (by first | omega | (dsimp only; omega))⟩ hl0 B hex hl (by decide +kernel) dX11_word_22 dX11_word_25 dX11_word_26 dX11_word_28 dX11_word_31 ⟨(by first | exact Nat.le_of_ble_eq_true rfl | omega | (dsimp only; omega)), (by first | exact Nat.le_of_ble_eq_true rfl | omega | (dsimp only; omega)), (by first | omega | (dsimp only; omega)), (by first | omega | (dsimp only; omega))⟩ ⟨(by first | omega | (dsimp only; omega)), (by first | omega | (dsimp only; omega))⟩

theorem dX11_reference_0 : decode cX11_reference 0 = .ok (.aload_n 0, 1) := by decide +kernel
theorem dX11_reference_1 : decode cX11_reference 1 = .ok (.iload_n 1, 1) := by decide +kernel
theorem dX11_reference_2 : decode cX11_reference 2 = .ok (.invokevirtual 109, 3) := by decide +kernel
theorem dX11_reference_5 : decode cX11_reference 5 = .ok (.astore 4, 2) := by decide +kernel
theorem dX11_reference_7 : decode cX11_reference 7 = .ok (.aload 4, 2) := by decide +kernel
theorem dX11_reference_9 : decode cX11_reference 9 = .ok (.iload_n 2, 1) := by decide +kernel
theorem dX11_reference_10 : decode cX11_reference 10 = .ok (.invokestatic 113, 3) := by decide +kernel
theorem dX11_reference_13 : decode cX11_reference 13 = .ok (.iload_n 3, 1) := by decide +kernel
theorem dX11_reference_14 : decode cX11_reference 14 = .ok (.invokestatic 137, 3) := by decide +kernel
theorem dX11_reference_17 : decode cX11_reference 17 = .ok (.aload 4, 2) := by decide +kernel
theorem dX11_reference_19 : decode cX11_reference 19 = .ok (.invokestatic 117, 3) := by decide +kernel
theorem dX11_reference_22 : decode cX11_reference 22 = .ok (.aload_n 0, 1) := by decide +kernel
theorem dX11_reference_23 : decode cX11_reference 23 = .ok (.aload 4, 2) := by decide +kernel
theorem dX11_reference_25 : decode cX11_reference 25 = .ok (.iload_n 2, 1) := by decide +kernel
theorem dX11_reference_26 : decode cX11_reference 26 = .ok (.new 123, 3) := by decide +kernel
theorem dX11_reference_29 : decode cX11_reference 29 = .ok (.dup, 1) := by decide +kernel
theorem dX11_reference_30 : decode cX11_reference 30 = .ok (.iconst 0, 1) := by decide +kernel
theorem dX11_reference_31 : decode cX11_reference 31 = .ok (.newarray .int, 2) := by decide +kernel
theorem dX11_reference_33 : decode cX11_reference 33 = .ok (.iload_n 3, 1) := by decide +kernel
theorem dX11_reference_34 : decode cX11_reference 34 = .ok (.aload_n 0, 1) := by decide +kernel
theorem dX11_reference_35 : decode cX11_reference 35 = .ok (.getfield 35, 3) := by decide +kernel
theorem dX11_reference_38 : decode cX11_reference 38 = .ok (.invokevirtual 125, 3) := by decide +kernel
theorem dX11_reference_41 : decode cX11_reference 41 = .ok (.checkcast 126, 3) := by decide +kernel
theorem dX11_reference_44 : decode cX11_reference 44 = .ok (.invokespecial 130, 3) := by decide +kernel
theorem dX11_reference_47 : decode cX11_reference 47 = .ok (.invokevirtual 133, 3) := by decide +kernel
theorem dX11_reference_50 : decode cX11_reference 50 = .ok (.ireturn, 1) := by decide +kernel
set_option maxHeartbeats 4000000 in
set_option maxRecDepth 100000 in
theorem k_reference (l : Launch) (dC : Nat → ClassId) (dI : Nat → Nat → Nat) (k : Nat → ClassId) (hl0 : l.stackTraces = false) (T : Nat → Int → Int → Int → Int) (A : Nat → Int → Int → Nat) (X : Nat → Int → Int → Int) (tl : va_W) (G : Nat → Int → Nat) (Mc : Nat → Int → Int) (Y : Nat → Int → Nat) (O : Nat → Nat) (L : Int → Nat → Int → Int) (C : Nat → Int → Int) (K : Nat → Int → Int) (cp : Nat) (pl : Int) (at_ : Int) (lab : Int) (hPR : PR dI k T A X G Mc Y O L C K cp tl) (hK : TK T) (hKK : KK T K) (hrpl : -2147483648 ≤ pl ∧ pl < 2147483648) (hrat_ : -2147483648 ≤ at_ ∧ at_ < 2147483648) (hrlab : -2147483648 ≤ lab ∧ lab < 2147483648) : Kx l dC dI k yX11_reference (.code yX11_reference cX11_reference 5 (some .int)) ({ frames := 14, cells := 4, slots := 60, locals := 447 } : Room) [.ref (Y 0 0), .int (iI pl), .int (iI at_), .int (iI lab)] ([] ++ tl) (fun r w gc gs => (∃ (L2 : Int → Nat → Int → Int) (e2 : Nat) (c2 : Nat) (v9 : Nat) (la_ : Nat) (ma : Nat) (gq : Nat) (tl2 : va_W), (PR dI k (puT T pl at_ 0 (fun _ : Int => (0 : Int)) lab (K 2) (gsZ T (fun _ : Int => (0 : Int)) ((0 : Nat) : Int))) (puA A pl at_ v9 la_ ma e2) X (upG G 1 pl c2) (upM Mc 1 pl (Mc 1 pl + 1)) Y O L2 C (KKn (K 0 0) (K 1) (fun _ : Int => (-1))) cp tl2) ∧ (∀ u, 0 ≤ u → u ≤ 1 → LF (L2 u)) ∧ ((((0 ≤ pl ∧ pl < T 0 0 0 0) ∧ 0 ≤ at_ ∧ at_ ≤ T 3 pl 0 0) ∧ (0 ≤ lab ∧ lab ≤ 5)) ∧ (T 1 pl 0 0 ≤ 2 ∧ T 3 pl 0 0 < 12)) ∧ (gq ≤ 60) ∧ r = some (.int (iI (T 3 pl 0 0 + 1))) ∧ w = ([] ++ tl2) ∧ gc = 4 ∧ gs = (gq + 0))) (fun E w gc gs => ((¬ (((0 ≤ pl ∧ pl < T 0 0 0 0) ∧ 0 ≤ at_ ∧ at_ ≤ T 3 pl 0 0) ∧ (0 ≤ lab ∧ lab ≤ 5))) ∧ E = "java/lang/IndexOutOfBoundsException" ∧ w = ([] ++ tl) ∧ gc = 1 ∧ gs = 6) ∨ (((((0 ≤ pl ∧ pl < T 0 0 0 0) ∧ 0 ≤ at_ ∧ at_ ≤ T 3 pl 0 0) ∧ (0 ≤ lab ∧ lab ≤ 5)) ∧ ¬ (T 1 pl 0 0 ≤ 2 ∧ T 3 pl 0 0 < 12)) ∧ E = "java/lang/IllegalStateException" ∧ w = ([] ++ tl) ∧ gc = 1 ∧ gs = 6)) := by
  refine kx_of (by decide) (Nat.le_of_ble_eq_true rfl) ?_
  intro p e s m args below meth c H locs B hr hex ls hl
  have hx := B.1.1
  have hb := B.1.2.1
  have hl : lv_has ls 5 [(0, .ref (Y 0 0)), (1, .int (iI pl)), (2, .int (iI at_)), (3, .int (iI lab))] := hl
  have hT := PR_TI hPR
  have hnb0 := TK_nb hK
  have hcp0 : 512 ≤ cp ∧ cp ≤ 131072 := by have q9 := hPR.2.2.2; unfold cpOk at q9; omega
  have hk0 := KK_0 hKK
  refine lv_aload_n hx hb dX11_reference_0 rfl (lv_at hl 0 rfl) ?_
  refine lv_iload_n hx hb dX11_reference_1 rfl (lv_at hl 1 rfl) ?_
  have B := bd_swap (a := []) (b := []) (d := tl) (bd_to rfl B)
  obtain ⟨k_1, hk_1⟩ := pk_at (hs := []) (show (((Y 0 0), .inr (11, [.ref (A 50 0 0), .ref (Y 1 0), .ref (Y 2 0), .int (iI (K 0 0)), .ref (Y 3 0)])) : Nat × va_E) ∈ tl from PR_m hPR 0 0 rfl rfl)
  refine k_Vx (rest := []) (wc := ([] ++ tl)) (wr := []) (k_blockAt l dC dI k hl0 T A X tl G Mc Y O L C K cp pl hPR hK hrpl) B mV_X11_blockAt mw_784 hl (q0 := k_1) (ci := 11) hk_1 rfl rfl ⟨Nat.le_of_ble_eq_true rfl, Nat.le_of_ble_eq_true rfl⟩ (Nat.le_of_ble_eq_true rfl) rfl dX11_reference_2 ⟨by dsimp only; omega, by dsimp only; omega⟩ (fun E ce q9 w gc gs H locs hp B h1 h2 h3 => ?_) (fun r w gc gs H locs hp B => ?_)
  · skip
    obtain ⟨z_2, rfl, hw9, rfl, rfl⟩ := hp
    rw [hw9] at B; clear hw9
    have B := bd_to (ws' := ([] ++ tl)) rfl B
    exact k_out hex (Or.inl (⟨(by omega), rfl, rfl, rfl, rfl⟩)) B h1 h2 h3 ⟨(by first | omega | (dsimp only; omega)), (by first | omega | (dsimp only; omega))⟩ ⟨(by first | omega | (dsimp only; omega)), (by first | omega | (dsimp only; omega))⟩
  · skip
    obtain ⟨z_3, rfl, hw9, rfl, rfl⟩ := hp
    rw [hw9] at B; clear hw9
    have B := bd_to (ws' := ([] ++ tl)) rfl B
    refine lv_astore (lv' := [(4, .ref (A 0 pl 0)), (0, .ref (Y 0 0)), (1, .int (iI pl)), (2, .int (iI at_)), (3, .int (iI lab))]) hx hb dX11_reference_5 hl (by decide) rfl (fun ls hl => ?_)
    refine lv_aload hx hb dX11_reference_7 (lv_at hl 0 rfl) ?_
    refine lv_iload_n hx hb dX11_reference_9 rfl (lv_at hl 3 rfl) ?_
    have B := bd_swap (a := []) (b := []) (d := tl) (bd_to rfl B)
    refine k_Sx (rest := []) (wc := ([] ++ tl)) (wr := []) (k_checkGap l dC dI k hl0 T A X tl G Mc Y O L C K cp pl at_ hPR hK z_3 hrat_) B mS_X11_checkGapBetweenWords mw_795 hl ⟨Nat.le_of_ble_eq_true rfl, Nat.le_of_ble_eq_true rfl⟩ (Nat.le_of_ble_eq_true rfl) rfl dX11_reference_10 ⟨by dsimp only; omega, by dsimp only; omega⟩ (fun E ce q9 w gc gs H locs hp B h1 h2 h3 => ?_) (fun r w gc gs H locs hp B => ?_)
    · skip
      obtain ⟨z_4, rfl, hw9, rfl, rfl⟩ := hp
      rw [hw9] at B; clear hw9
      have B := bd_to (ws' := ([] ++ tl)) rfl B
      exact k_out hex (Or.inl (⟨(by omega), rfl, rfl, rfl, rfl⟩)) B h1 h2 h3 ⟨(by first | omega | (dsimp only; omega)), (by first | omega | (dsimp only; omega))⟩ ⟨(by first | omega | (dsimp only; omega)), (by first | omega | (dsimp only; omega))⟩
    · skip
      obtain ⟨z_5, rfl, hw9, rfl, rfl⟩ := hp
      rw [hw9] at B; clear hw9
      have B := bd_to (ws' := ([] ++ tl)) rfl B
      refine lv_iload_n hx hb dX11_reference_13 rfl (lv_at hl 4 rfl) ?_
      have B := bd_to (ws' := [] ++ ([] ++ tl)) rfl B
      refine k_Sx (rest := []) (wc := []) (wr := ([] ++ tl)) (k_checkLabel l dC dI k hl0 lab hrlab) B mS_X11_checkLabel mw_1097 hl ⟨Nat.le_of_ble_eq_true rfl, Nat.le_of_ble_eq_true rfl⟩ (Nat.le_of_ble_eq_true rfl) rfl dX11_reference_14 ⟨by dsimp only; omega, by dsimp only; omega⟩ (fun E ce q9 w gc gs H locs hp B h1 h2 h3 => ?_) (fun r w gc gs H locs hp B => ?_)
      · skip
        obtain ⟨z_6, rfl, hw9, rfl, rfl⟩ := hp
        rw [hw9] at B; clear hw9
        have B := bd_swap (a := []) (b := tl) (d := []) B
        have B := bd_to (ws' := ([] ++ tl)) rfl B
        exact k_out hex (Or.inl (⟨(by omega), rfl, rfl, rfl, rfl⟩)) B h1 h2 h3 ⟨(by first | omega | (dsimp only; omega)), (by first | omega | (dsimp only; omega))⟩ ⟨(by first | omega | (dsimp only; omega)), (by first | omega | (dsimp only; omega))⟩
      · skip
        obtain ⟨z_7, rfl, hw9, rfl, rfl⟩ := hp
        rw [hw9] at B; clear hw9
        have B := bd_swap (a := []) (b := tl) (d := []) B
        have B := bd_to (ws' := ([] ++ tl)) rfl B
        refine lv_aload hx hb dX11_reference_17 (lv_at hl 0 rfl) ?_
        have B := bd_swap (a := []) (b := []) (d := tl) (bd_to rfl B)
        refine k_Sx (rest := []) (wc := ([] ++ tl)) (wr := []) (k_checkRoom l dC dI k hl0 T A X tl G Mc Y O L C K cp pl hPR hK z_3) B mS_X11_checkRoomForWord mw_799 hl ⟨Nat.le_of_ble_eq_true rfl, Nat.le_of_ble_eq_true rfl⟩ (Nat.le_of_ble_eq_true rfl) rfl dX11_reference_19 ⟨by dsimp only; omega, by dsimp only; omega⟩ (fun E ce q9 w gc gs H locs hp B h1 h2 h3 => ?_) (fun r w gc gs H locs hp B => ?_)
        · skip
          obtain ⟨z_8, rfl, hw9, rfl, rfl⟩ := hp
          rw [hw9] at B; clear hw9
          have B := bd_to (ws' := ([] ++ tl)) rfl B
          exact k_out hex (Or.inr (⟨(by omega), rfl, rfl, rfl, rfl⟩)) B h1 h2 h3 ⟨(by first | omega | (dsimp only; omega)), (by first | omega | (dsimp only; omega))⟩ ⟨(by first | omega | (dsimp only; omega)), (by first | omega | (dsimp only; omega))⟩
        · skip
          obtain ⟨z_9, rfl, hw9, rfl, rfl⟩ := hp
          rw [hw9] at B; clear hw9
          have B := bd_to (ws' := ([] ++ tl)) rfl B
          refine lv_aload_n hx hb dX11_reference_22 rfl (lv_at hl 1 rfl) ?_
          refine lv_aload hx hb dX11_reference_23 (lv_at hl 0 rfl) ?_
          refine lv_iload_n hx hb dX11_reference_25 rfl (lv_at hl 3 rfl) ?_
          refine x_new (ci := 10) (fs := [.null, .int 0, .null, .int 0]) (C := RX10) (T := TX10) (N := 4) B tyX10_ok in_X10 mw_812 mw_813 mw_33 rfl (by decide +kernel) (by first | omega | (dsimp only; omega)) (by first | omega | (dsimp only; omega)) dX11_reference_26 (fun q_10 H B => ?_)
          have B := bd_swap (a := []) (b := tl) (d := [(q_10, .inr (10, [.null, .int (iI 0), .null, .int (iI 0)]))]) B
          have B := bd_to (ws' := ([(q_10, .inr (10, [.null, .int (iI 0), .null, .int (iI 0)]))] ++ tl)) rfl B
          refine lv_dup hx hb dX11_reference_29 rfl ?_
          refine lv_iconst (v := iI 0) hx hb dX11_reference_30 (by decide) ?_
          refine x_newa (atype := .int) (ty := .int) (N' := 0) (a0 := (0, .inl (fun _ => 0))) B mw_119 rfl 0 rfl pr_int (fun _ => rfl) (by decide) (by decide) (Nat.le_of_ble_eq_true rfl) (by first | omega | (dsimp only; omega)) (by first | omega | (dsimp only; omega)) dX11_reference_31 (fun q_11 H B => ?_)
          have B := bd_swap (a := [(q_10, .inr (10, [.null, .int (iI 0), .null, .int (iI 0)]))]) (b := tl) (d := [(q_11, .inl (k 0, 0, .inl (fun i9 : Nat => iI ((fun _ : Int => (0 : Int)) i9))))]) B
          have B := bd_to (ws' := ([(q_10, .inr (10, [.null, .int (iI 0), .null, .int (iI 0)])), (q_11, .inl (k 0, 0, .inl (fun i9 : Nat => iI ((fun _ : Int => (0 : Int)) i9))))] ++ tl)) rfl B
          refine lv_iload_n hx hb dX11_reference_33 rfl (lv_at hl 4 rfl) ?_
          refine lv_aload_n hx hb dX11_reference_34 rfl (lv_at hl 1 rfl) ?_
          obtain ⟨k_12, hk_12⟩ := pk_at (hs := [(q_10, .inr (10, [.null, .int (iI 0), .null, .int (iI 0)])), (q_11, .inl (k 0, 0, .inl (fun i9 : Nat => iI ((fun _ : Int => (0 : Int)) i9))))]) (show (((Y 0 0), .inr (11, [.ref (A 50 0 0), .ref (Y 1 0), .ref (Y 2 0), .int (iI (K 0 0)), .ref (Y 3 0)])) : Nat × va_E) ∈ tl from PR_m hPR 0 0 rfl rfl)
          refine x_get (ci := 11) (C := RX11) (T := TX11) (N := 5) (v := .ref (Y 3 0)) B k_12 hk_12 rfl in_X11 4 (by decide) mw_478 (fun _ h9 => h9) rfl dX11_reference_35 ?_
          obtain ⟨k_13, hk_13⟩ := pk_at (hs := [(q_10, .inr (10, [.null, .int (iI 0), .null, .int (iI 0)])), (q_11, .inl (k 0, 0, .inl (fun i9 : Nat => iI ((fun _ : Int => (0 : Int)) i9))))]) (show (((Y 3 0), .inl (k 0, 5, .inl (fun i9 : Nat => iI ((K 2) i9)))) : Nat × va_E) ∈ tl from PR_m hPR 0 3 rfl rfl)
          refine x_clone (f := (K 2)) B hl mw_814 mw_648 mw_649 mw_650 mw_651 k_13 hk_13 (Nat.le_of_ble_eq_true rfl) (Nat.le_of_ble_eq_true rfl) (by first | omega | (dsimp only; omega)) (by first | omega | (dsimp only; omega)) dX11_reference_38 (fun q_14 H B => ?_)
          have B := bd_swap (a := [(q_10, .inr (10, [.null, .int (iI 0), .null, .int (iI 0)])), (q_11, .inl (k 0, 0, .inl (fun i9 : Nat => iI ((fun _ : Int => (0 : Int)) i9))))]) (b := tl) (d := [(q_14, .inl (k 0, 5, .inl (fun i9 : Nat => iI ((K 2) i9))))]) B
          have B := bd_to (ws' := ([(q_10, .inr (10, [.null, .int (iI 0), .null, .int (iI 0)])), (q_11, .inl (k 0, 0, .inl (fun i9 : Nat => iI ((fun _ : Int => (0 : Int)) i9)))), (q_14, .inl (k 0, 5, .inl (fun i9 : Nat => iI ((K 2) i9))))] ++ tl)) rfl B
          refine x_castI (f := (K 2)) (q0 := 2) B rfl mw_815 dX11_reference_41 ?_
          have B := bd_to (ws' := [(q_10, .inr (10, [.null, .int (iI 0), .null, .int (iI 0)]))] ++ ([(q_11, .inl (k 0, 0, .inl (fun i9 : Nat => iI ((fun _ : Int => (0 : Int)) i9)))), (q_14, .inl (k 0, 5, .inl (fun i9 : Nat => iI ((K 2) i9))))] ++ tl)) rfl B
          refine k_I (rest := [.ref q_10, .int (iI at_), .ref (A 0 pl 0), .ref (Y 0 0)]) (wc := [(q_10, .inr (10, [.null, .int (iI 0), .null, .int (iI 0)]))]) (wr := ([(q_11, .inl (k 0, 0, .inl (fun i9 : Nat => iI ((fun _ : Int => (0 : Int)) i9)))), (q_14, .inl (k 0, 5, .inl (fun i9 : Nat => iI ((K 2) i9))))] ++ tl)) (k_wordInit l dC dI k q_10 q_11 q_14 lab) B mI_X10_init mw_816 hl ⟨Nat.le_of_ble_eq_true rfl, Nat.le_of_ble_eq_true rfl⟩ (Nat.le_of_ble_eq_true rfl) rfl dX11_reference_44 ⟨by dsimp only; omega, by dsimp only; omega⟩ (fun r w gc gs H locs hp B => ?_)
          obtain ⟨rfl, hw9, rfl, rfl⟩ := hp
          rw [hw9] at B; clear hw9
          have B := bd_swap (a := [(q_11, .inl (k 0, 0, .inl (fun i9 : Nat => iI ((fun _ : Int => (0 : Int)) i9)))), (q_14, .inl (k 0, 5, .inl (fun i9 : Nat => iI ((K 2) i9))))]) (b := tl) (d := [(q_10, .inr (10, [.ref q_11, .int (iI lab), .ref q_14, .int (iI 0)]))]) B
          have B := bd_to (ws' := ([(q_11, .inl (k 0, 0, .inl (fun i9 : Nat => iI ((fun _ : Int => (0 : Int)) i9)))), (q_14, .inl (k 0, 5, .inl (fun i9 : Nat => iI ((K 2) i9)))), (q_10, .inr (10, [.ref q_11, .int (iI lab), .ref q_14, .int (iI 0)]))] ++ tl)) rfl B
          have B := bd_pick (hs := [(q_11, .inl (k 0, 0, .inl (fun i9 : Nat => iI ((fun _ : Int => (0 : Int)) i9)))), (q_14, .inl (k 0, 5, .inl (fun i9 : Nat => iI ((K 2) i9)))), (q_10, .inr (10, [.ref q_11, .int (iI lab), .ref q_14, .int (iI 0)]))]) (ws' := [(q_10, .inr (10, [.ref q_11, .int (iI lab), .ref q_14, .int (iI 0)])), (q_11, .inl (k 0, 0, .inl (fun i9 : Nat => iI ((fun _ : Int => (0 : Int)) i9)))), (q_14, .inl (k 0, 5, .inl (fun i9 : Nat => iI ((K 2) i9))))]) (tl := tl) [2, 0, 1] (by decide) rfl B
          have B := bd_swap (a := [(q_10, .inr (10, [.ref q_11, .int (iI lab), .ref q_14, .int (iI 0)])), (q_11, .inl (k 0, 0, .inl (fun i9 : Nat => iI ((fun _ : Int => (0 : Int)) i9)))), (q_14, .inl (k 0, 5, .inl (fun i9 : Nat => iI ((K 2) i9))))]) (b := []) (d := tl) (bd_to rfl B)
          obtain ⟨k_15, hk_15⟩ := pk_at (hs := [(q_10, .inr (10, [.ref q_11, .int (iI lab), .ref q_14, .int (iI 0)])), (q_11, .inl (k 0, 0, .inl (fun i9 : Nat => iI ((fun _ : Int => (0 : Int)) i9)))), (q_14, .inl (k 0, 5, .inl (fun i9 : Nat => iI ((K 2) i9))))]) (show (((Y 0 0), .inr (11, [.ref (A 50 0 0), .ref (Y 1 0), .ref (Y 2 0), .int (iI (K 0 0)), .ref (Y 3 0)])) : Nat × va_E) ∈ tl from PR_m hPR 0 0 rfl rfl)
          refine k_V (rest := []) (wc := ([(q_10, .inr (10, [.ref q_11, .int (iI lab), .ref q_14, .int (iI 0)])), (q_11, .inl (k 0, 0, .inl (fun i9 : Nat => iI ((fun _ : Int => (0 : Int)) i9)))), (q_14, .inl (k 0, 5, .inl (fun i9 : Nat => iI ((K 2) i9))))] ++ tl)) (wr := []) (k_putIn l dC dI k T A X tl G Mc Y O L C K cp pl at_ lab 0 q_10 q_11 q_14 0 (fun _ : Int => (0 : Int)) (K 2) hPR hK hKK z_3 (by omega) (WOK_r hKK (by omega))) B mV_X11_putIn mw_841 hl (q0 := k_15) (ci := 11) hk_15 rfl rfl ⟨Nat.le_of_ble_eq_true rfl, Nat.le_of_ble_eq_true rfl⟩ (Nat.le_of_ble_eq_true rfl) rfl dX11_reference_47 ⟨by dsimp only; omega, by dsimp only; omega⟩ (fun r w gc gs H locs hp B => ?_)
          obtain ⟨L2_16, e2_17, c2_18, tl2_19, z_20, z_21, rfl, hw9, rfl, rfl⟩ := hp
          rw [hw9] at B; clear hw9
          have B := bd_to (ws' := ([] ++ tl2_19)) rfl B
          have hPR : PR dI k (puT T pl at_ 0 (fun _ : Int => (0 : Int)) lab (K 2) (gsZ T (fun _ : Int => (0 : Int)) (0 : Int))) (puA A pl at_ q_10 q_11 q_14 e2_17) X (upG G 1 pl c2_18) (upM Mc 1 pl (Mc 1 pl + 1)) Y O L2_16 C (KKn (K 0 0) (K 1) (fun _ : Int => (-1))) cp tl2_19 := z_20
          have hT : TI dI k (puT T pl at_ 0 (fun _ : Int => (0 : Int)) lab (K 2) (gsZ T (fun _ : Int => (0 : Int)) (0 : Int))) (puA A pl at_ q_10 q_11 q_14 e2_17) X tl2_19 := PR_TI hPR
          exact vx_ret (k_iret B hr (⟨L2_16, e2_17, c2_18, q_10, q_11, q_14, 49, tl2_19, hPR, z_21, (by omega), (by omega), rfl, rfl, rfl, rfl⟩) ⟨(by first | omega | (dsimp only; omega)), (by first | omega | (dsimp only; omega))⟩ ⟨(by first | omega | (dsimp only; omega)), (by first | omega | (dsimp only; omega))⟩ dX11_reference_50)

end
