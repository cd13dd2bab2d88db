section
theorem ccZ_in {f : Int → Int} (h : ∀ c, c % 3 + f c ≤ 3) : ∀ n : Nat, 0 ≤ ccZ f n ∧ ccZ f n ≤ 3
  | 0 => by simp only [ccZ]; omega
  | c + 1 => by
    have ih := ccZ_in h c
    have := h (c : Int)
    simp only [ccZ]
    split <;> omega

theorem k_columnCountT (l : Launch) (dC : Nat → ClassId) (dI : Nat → Nat → Nat) (k : Nat → ClassId) (T : Nat → Int → Int → Int → Int) (A : Nat → Int → Int → Nat) (X : Nat → Int → Int → Int) (tl : va_W) (G : Nat → Int → Nat) (Mc : Nat → Int → Int) (i : Int) (hTX : TXP dI k T A X G Mc tl) (hK : TK T) (hi : 0 ≤ i ∧ i < T 0 0 0 0) (hk3 : T 1 i 0 0 = 3) : Kn l dC dI k yX8_columnCount (.code yX8_columnCount cX8_columnCount 3 (some .int)) ({ frames := 1, cells := 0, slots := 0, locals := 13 } : Room) [.ref (A 7 i 0)] ([] ++ tl) (fun r w gc gs => ((0 ≤ (ccZ (fun j9 : Int => T 9 i j9 0) 12) ∧ (ccZ (fun j9 : Int => T 9 i j9 0) 12) ≤ 3) ∧ r = some (.int (iI (ccZ (fun j9 : Int => T 9 i j9 0) 12))) ∧ w = ([] ++ tl) ∧ gc = 0 ∧ gs = 0)) := by
  obtain ⟨rest, hp, hx⟩ := TXP_ta hTX hi.1 hi.2 hk3
  have K := k_columnCount l dC dI k (A 7 i 0) (A 8 i 0) (A 8 i 1) (A 8 i 2) (A 8 i 3) (A 8 i 4) (A 8 i 5) (A 8 i 6) (fun j9 : Int => T 9 i j9 0) (fun j => TK_span hK i j)
  refine kn_perm (ws := [(((A 7 i 0), .inr (8, [.ref (A 8 i 0), .ref (A 8 i 1), .ref (A 8 i 2), .ref (A 8 i 3), .ref (A 8 i 4), .ref (A 8 i 5), .ref (A 8 i 6)])) : Nat × va_E), (((A 8 i 0), .inl (k 0, 12, .inl (fun i9 : Nat => iI ((fun j9 : Int => T 9 i j9 0) i9)))) : Nat × va_E)] ++ ([(((A 8 i 1), .inl (k 0, 12, .inl (fun i9 : Nat => iI ((fun j9 : Int => T 10 i j9 0) i9)))) : Nat × va_E), (((A 8 i 2), .inl (k 0, 12, .inl (fun i9 : Nat => iI ((fun j9 : Int => T 11 i j9 0) i9)))) : Nat × va_E), (((A 8 i 3), .inl (k 0, 3, .inl (fun i9 : Nat => iI ((X 3 i) i9)))) : Nat × va_E), (((A 8 i 4), .inl (k 0, 3, .inl (fun i9 : Nat => iI ((X 4 i) i9)))) : Nat × va_E), (((A 8 i 5), .inl (k 0, 3, .inl (fun i9 : Nat => iI ((X 5 i) i9)))) : Nat × va_E), (((A 8 i 6), .inl (k 0, 3, .inl (fun i9 : Nat => iI ((X 6 i) i9)))) : Nat × va_E)] ++ rest)) hp ?_
  refine kn_post (kn_frame ([(((A 8 i 1), .inl (k 0, 12, .inl (fun i9 : Nat => iI ((fun j9 : Int => T 10 i j9 0) i9)))) : Nat × va_E), (((A 8 i 2), .inl (k 0, 12, .inl (fun i9 : Nat => iI ((fun j9 : Int => T 11 i j9 0) i9)))) : Nat × va_E), (((A 8 i 3), .inl (k 0, 3, .inl (fun i9 : Nat => iI ((X 3 i) i9)))) : Nat × va_E), (((A 8 i 4), .inl (k 0, 3, .inl (fun i9 : Nat => iI ((X 4 i) i9)))) : Nat × va_E), (((A 8 i 5), .inl (k 0, 3, .inl (fun i9 : Nat => iI ((X 5 i) i9)))) : Nat × va_E), (((A 8 i 6), .inl (k 0, 3, .inl (fun i9 : Nat => iI ((X 6 i) i9)))) : Nat × va_E)] ++ rest) K) ?_
  rintro r w gc gs ⟨w1, ⟨hr, hw1, hgc, hgs⟩, hw⟩
  refine ⟨[] ++ tl, ?_, ccZ_in (fun c => TK_spc hK i c) 12, hr, rfl, hgc, hgs⟩
  rw [hw, hw1]
  exact List.perm_append_comm.trans hp.symm

theorem k_measureP (l : Launch) (dC : Nat → ClassId) (dI : Nat → Nat → Nat) (k : Nat → ClassId) (T : Nat → Int → Int → Int → Int) (A : Nat → Int → Int → Nat) (X : Nat → Int → Int → Int) (tl : va_W) (G : Nat → Int → Nat) (Mc : Nat → Int → Int) (Y : Nat → Int → Nat) (O : Nat → Nat) (L : Int → Nat → Int → Int) (C : Nat → Int → Int) (K : Nat → Int → Int) (cp : Nat) (i : Int) (hPR : PR dI k T A X G Mc Y O L C K cp tl) (hK : TK T) (hi : 0 ≤ i ∧ i < T 0 0 0 0) (hk3 : T 1 i 0 0 = 3) : Kn l dC dI k yX8_measure (.code yX8_measure cX8_measure 4 none) ({ frames := 2, cells := 0, slots := 0, locals := 65 } : Room) [.ref (A 7 i 0), .int (iI (T 16 0 0 0))] ([] ++ tl) (fun r w gc gs => (∃ (X2 : Nat → Int → Int → Int) (tl2 : va_W), (PR dI k T A X2 G Mc Y O L C K cp tl2) ∧ (X2 6 i = (fitZ (msW (fun j9 : Int => T 9 i j9 0) (fun j9 : Int => T 10 i j9 0) 3) (msW (fun j9 : Int => T 9 i j9 0) (fun j9 : Int => T 11 i j9 0) 3) (T 16 0 0 0))) ∧ (Bd 0 1210001 (X2 6 i)) ∧ r = none ∧ w = ([] ++ tl2) ∧ gc = 0 ∧ gs = 0)) := by
  have K0 := k_measureT l dC dI k T A X (txC k T A X G Mc) G Mc i (PR_TX hPR) hK hi hk3
  have hp := hPR.1.trans (prB_tx (k := k) (T := T) (A := A) (X := X) (G := G) (Mc := Mc) (Y := Y) (O := O) (L := L) (C := C) (K := K) (cp := cp) (v := 0) (by omega))
  refine kn_post (kn_perm hp (kn_frame (lyCl A Y (L 0) 0 ++ (laCl k Y (L 0) 0 ++ (l6Cl k Y (L 0) 0 ++ (rwCl k Y (L 0) 0 ++ (ppCl k A Y (L 0) 0 ++ (pgCl A Y (L 0) 0 ++ (lyCl A Y (L (1 - 0)) (1 - 0) ++ (laCl k Y (L (1 - 0)) (1 - 0) ++ (l6Cl k Y (L (1 - 0)) (1 - 0) ++ (rwCl k Y (L (1 - 0)) (1 - 0) ++ (ppCl k A Y (L (1 - 0)) (1 - 0) ++ (pgCl A Y (L (1 - 0)) (1 - 0) ++ (gCl k A Y K ++ (lnCl k Y C ++ (stCl k Y O C cp))))))))))))))) K0)) ?_
  clear K0
  rintro r w gc gs ⟨w1, ⟨X2, tl2, q0, q1, q2, hr, hw1, hgc, hgs⟩, hw⟩
  refine ⟨w, List.Perm.refl _, X2, w, ⟨?_, q0.2, hPR.2.2.1, hPR.2.2.2⟩, q1, q2, hr, rfl, hgc, hgs⟩
  rw [hw, hw1]
  exact (List.perm_append_comm.trans (List.Perm.append_right _ q0.1)).trans (prB_tx (k := k) (T := T) (A := A) (X := X2) (G := G) (Mc := Mc) (Y := Y) (O := O) (L := L) (C := C) (K := K) (cp := cp) (v := 0) (by omega)).symm

theorem k_rowCountP (l : Launch) (dC : Nat → ClassId) (dI : Nat → Nat → Nat) (k : Nat → ClassId) (T : Nat → Int → Int → Int → Int) (A : Nat → Int → Int → Nat) (X : Nat → Int → Int → Int) (tl : va_W) (G : Nat → Int → Nat) (Mc : Nat → Int → Int) (Y : Nat → Int → Nat) (O : Nat → Nat) (L : Int → Nat → Int → Int) (C : Nat → Int → Int) (K : Nat → Int → Int) (cp : Nat) (i : Int) (hPR : PR dI k T A X G Mc Y O L C K cp tl) (hK : TK T) (hi : 0 ≤ i ∧ i < T 0 0 0 0) (hk3 : T 1 i 0 0 = 3) : Kn l dC dI k yX8_rowCount (.code yX8_rowCount cX8_rowCount 3 (some .int)) ({ frames := 0, cells := 0, slots := 0, locals := 0 } : Room) [.ref (A 7 i 0)] ([] ++ tl) (fun r w gc gs => ((0 ≤ rcT T i ∧ rcT T i ≤ 4) ∧ r = some (.int (iI (rcT T i))) ∧ w = ([] ++ tl) ∧ gc = 0 ∧ gs = 0)) := by
  have K0 := k_rowCountT l dC dI k T A X (txC k T A X G Mc) G Mc i (PR_TX hPR) hK hi hk3
  have hp := hPR.1.trans (prB_tx (k := k) (T := T) (A := A) (X := X) (G := G) (Mc := Mc) (Y := Y) (O := O) (L := L) (C := C) (K := K) (cp := cp) (v := 0) (by omega))
  refine kn_post (kn_perm hp (kn_frame (lyCl A Y (L 0) 0 ++ (laCl k Y (L 0) 0 ++ (l6Cl k Y (L 0) 0 ++ (rwCl k Y (L 0) 0 ++ (ppCl k A Y (L 0) 0 ++ (pgCl A Y (L 0) 0 ++ (lyCl A Y (L (1 - 0)) (1 - 0) ++ (laCl k Y (L (1 - 0)) (1 - 0) ++ (l6Cl k Y (L (1 - 0)) (1 - 0) ++ (rwCl k Y (L (1 - 0)) (1 - 0) ++ (ppCl k A Y (L (1 - 0)) (1 - 0) ++ (pgCl A Y (L (1 - 0)) (1 - 0) ++ (gCl k A Y K ++ (lnCl k Y C ++ (stCl k Y O C cp))))))))))))))) K0)) ?_
  clear K0
  rintro r w gc gs ⟨w1, ⟨q0, hr, hw1, hgc, hgs⟩, hw⟩
  refine ⟨[] ++ tl, ?_, q0, hr, rfl, hgc, hgs⟩
  rw [hw, hw1]
  exact List.perm_append_comm.trans hp.symm

theorem k_columnCountP (l : Launch) (dC : Nat → ClassId) (dI : Nat → Nat → Nat) (k : Nat → ClassId) (T : Nat → Int → Int → Int → Int) (A : Nat → Int → Int → Nat) (X : Nat → Int → Int → Int) (tl : va_W) (G : Nat → Int → Nat) (Mc : Nat → Int → Int) (Y : Nat → Int → Nat) (O : Nat → Nat) (L : Int → Nat → Int → Int) (C : Nat → Int → Int) (K : Nat → Int → Int) (cp : Nat) (i : Int) (hPR : PR dI k T A X G Mc Y O L C K cp tl) (hK : TK T) (hi : 0 ≤ i ∧ i < T 0 0 0 0) (hk3 : T 1 i 0 0 = 3) : Kn l dC dI k yX8_columnCount (.code yX8_columnCount cX8_columnCount 3 (some .int)) ({ frames := 1, cells := 0, slots := 0, locals := 13 } : Room) [.ref (A 7 i 0)] ([] ++ tl) (fun r w gc gs => ((0 ≤ (ccZ (fun j9 : Int => T 9 i j9 0) 12) ∧ (ccZ (fun j9 : Int => T 9 i j9 0) 12) ≤ 3) ∧ r = some (.int (iI (ccZ (fun j9 : Int => T 9 i j9 0) 12))) ∧ w = ([] ++ tl) ∧ gc = 0 ∧ gs = 0)) := by
  have K0 := k_columnCountT l dC dI k T A X (txC k T A X G Mc) G Mc i (PR_TX hPR) hK hi hk3
  have hp := hPR.1.trans (prB_tx (k := k) (T := T) (A := A) (X := X) (G := G) (Mc := Mc) (Y := Y) (O := O) (L := L) (C := C) (K := K) (cp := cp) (v := 0) (by omega))
  refine kn_post (kn_perm hp (kn_frame (lyCl A Y (L 0) 0 ++ (laCl k Y (L 0) 0 ++ (l6Cl k Y (L 0) 0 ++ (rwCl k Y (L 0) 0 ++ (ppCl k A Y (L 0) 0 ++ (pgCl A Y (L 0) 0 ++ (lyCl A Y (L (1 - 0)) (1 - 0) ++ (laCl k Y (L (1 - 0)) (1 - 0) ++ (l6Cl k Y (L (1 - 0)) (1 - 0) ++ (rwCl k Y (L (1 - 0)) (1 - 0) ++ (ppCl k A Y (L (1 - 0)) (1 - 0) ++ (pgCl A Y (L (1 - 0)) (1 - 0) ++ (gCl k A Y K ++ (lnCl k Y C ++ (stCl k Y O C cp))))))))))))))) K0)) ?_
  clear K0
  rintro r w gc gs ⟨w1, ⟨q0, hr, hw1, hgc, hgs⟩, hw⟩
  refine ⟨[] ++ tl, ?_, q0, hr, rfl, hgc, hgs⟩
  rw [hw, hw1]
  exact List.perm_append_comm.trans hp.symm

theorem k_heightOfP (l : Launch) (dC : Nat → ClassId) (dI : Nat → Nat → Nat) (k : Nat → ClassId) (T : Nat → Int → Int → Int → Int) (A : Nat → Int → Int → Nat) (X : Nat → Int → Int → Int) (tl : va_W) (G : Nat → Int → Nat) (Mc : Nat → Int → Int) (Y : Nat → Int → Nat) (O : Nat → Nat) (L : Int → Nat → Int → Int) (C : Nat → Int → Int) (K : Nat → Int → Int) (cp : Nat) (i : Int) (ro : Int) (hPR : PR dI k T A X G Mc Y O L C K cp tl) (hK : TK T) (hi : 0 ≤ i ∧ i < T 0 0 0 0) (hk3 : T 1 i 0 0 = 3) (hx6 : X 6 i = (fitZ (msW (fun j9 : Int => T 9 i j9 0) (fun j9 : Int => T 10 i j9 0) 3) (msW (fun j9 : Int => T 9 i j9 0) (fun j9 : Int => T 11 i j9 0) 3) (T 16 0 0 0))) (hb6 : Bd 0 1210001 (X 6 i)) (h1 : 0 ≤ ro ∧ ro ≤ 3) : Kn l dC dI k yX8_heightOf (.code yX8_heightOf cX8_heightOf 6 (some .int)) ({ frames := 1, cells := 0, slots := 0, locals := 25 } : Room) [.ref (A 7 i 0), .int (iI ro)] ([] ++ tl) (fun r w gc gs => ((1 ≤ htT T i ro ∧ htT T i ro ≤ 200) ∧ r = some (.int (iI (htT T i ro))) ∧ w = ([] ++ tl) ∧ gc = 0 ∧ gs = 0)) := by
  have K0 := k_heightOfT l dC dI k T A X (txC k T A X G Mc) G Mc i ro (PR_TX hPR) hK hi hk3 hx6 hb6 h1
  have hp := hPR.1.trans (prB_tx (k := k) (T := T) (A := A) (X := X) (G := G) (Mc := Mc) (Y := Y) (O := O) (L := L) (C := C) (K := K) (cp := cp) (v := 0) (by omega))
  refine kn_post (kn_perm hp (kn_frame (lyCl A Y (L 0) 0 ++ (laCl k Y (L 0) 0 ++ (l6Cl k Y (L 0) 0 ++ (rwCl k Y (L 0) 0 ++ (ppCl k A Y (L 0) 0 ++ (pgCl A Y (L 0) 0 ++ (lyCl A Y (L (1 - 0)) (1 - 0) ++ (laCl k Y (L (1 - 0)) (1 - 0) ++ (l6Cl k Y (L (1 - 0)) (1 - 0) ++ (rwCl k Y (L (1 - 0)) (1 - 0) ++ (ppCl k A Y (L (1 - 0)) (1 - 0) ++ (pgCl A Y (L (1 - 0)) (1 - 0) ++ (gCl k A Y K ++ (lnCl k Y C ++ (stCl k Y O C cp))))))))))))))) K0)) ?_
  clear K0
  rintro r w gc gs ⟨w1, ⟨q0, hr, hw1, hgc, hgs⟩, hw⟩
  refine ⟨[] ++ tl, ?_, q0, hr, rfl, hgc, hgs⟩
  rw [hw, hw1]
  exact List.perm_append_comm.trans hp.symm

theorem mw_97 : (Jvm.Cond.fieldLink "Galleyforge" (218 : Nat) "Galleyforge$Text" "width" "I") ∈ gt := gt_at 167 (by decide +kernel) (by decide +kernel)
theorem mw_1150 : (Jvm.Cond.fieldLink "Galleyforge" (271 : Nat) "Galleyforge$Table" "widths" "[I") ∈ gt := gt_at 1220 (by decide +kernel) (by decide +kernel)
theorem mw_1316 : (Jvm.Cond.methodLink "Galleyforge" (259 : Nat) ({ cls := "Galleyforge", name := "tableAt", desc := "(I)LGalleyforge$Table;" } : Jvm.MethodName)) ∈ gt := gt_at 1386 (by decide +kernel) (by decide +kernel)
theorem mw_1318 : (Jvm.Cond.instanceMethod ({ cls := "Galleyforge", name := "tableAt", desc := "(I)LGalleyforge$Table;" } : Jvm.MethodName)) ∈ gt := gt_at 1388 (by decide +kernel) (by decide +kernel)
theorem mw_1319 : (Jvm.Cond.code ({ cls := "Galleyforge", name := "tableAt", desc := "(I)LGalleyforge$Table;" } : Jvm.MethodName) prog_1_method_50_code (3 : Nat) (Option.some (Jvm.ClassFile.FieldType.object "Galleyforge$Table"))) ∈ gt := gt_at 1389 (by decide +kernel) (by decide +kernel)
theorem mw_1320 : (Jvm.Cond.methodLink "Galleyforge" (263 : Nat) ({ cls := "Galleyforge$Table", name := "columnCount", desc := "()I" } : Jvm.MethodName)) ∈ gt := gt_at 1390 (by decide +kernel) (by decide +kernel)
theorem mw_1321 : (Jvm.Cond.instanceMethod ({ cls := "Galleyforge$Table", name := "columnCount", desc := "()I" } : Jvm.MethodName)) ∈ gt := gt_at 1391 (by decide +kernel) (by decide +kernel)
theorem mw_1322 : (Jvm.Cond.selects "Galleyforge$Table" ({ cls := "Galleyforge$Table", name := "columnCount", desc := "()I" } : Jvm.MethodName) ({ cls := "Galleyforge$Table", name := "columnCount", desc := "()I" } : Jvm.MethodName)) ∈ gt := gt_at 1392 (by decide +kernel) (by decide +kernel)
theorem mw_1323 : (Jvm.Cond.code ({ cls := "Galleyforge$Table", name := "columnCount", desc := "()I" } : Jvm.MethodName) prog_10_method_4_code (3 : Nat) (Option.some Jvm.ClassFile.FieldType.int)) ∈ gt := gt_at 1393 (by decide +kernel) (by decide +kernel)
theorem mw_1326 : (Jvm.Cond.methodLink "Galleyforge" (268 : Nat) ({ cls := "Galleyforge$Table", name := "measure", desc := "(I)V" } : Jvm.MethodName)) ∈ gt := gt_at 1396 (by decide +kernel) (by decide +kernel)
theorem ms_13 : Cond.selects "Galleyforge" (⟨"Galleyforge", "tableAt", "(I)LGalleyforge$Table;"⟩ : MethodName) (⟨"Galleyforge", "tableAt", "(I)LGalleyforge$Table;"⟩ : MethodName) ∈ gt := gt_at 13 (by decide +kernel) (by decide +kernel)
theorem mV_X11_tableAt : mV yX11_tableAt cX11_tableAt 3 (some (.object "Galleyforge$Table")) 1 := ⟨⟨mw_1319, mw_1, by decide, by decide, by decide +kernel⟩, mw_1318, ms_13⟩
theorem mV_X8_columnCount : mV yX8_columnCount cX8_columnCount 3 (some .int) 0 := ⟨⟨mw_1323, mw_20, by decide, by decide, by decide +kernel⟩, mw_1321, mw_1322⟩
theorem dX11_columnWidth_0 : decode cX11_columnWidth 0 = .ok (.aload_n 0, 1) := by decide +kernel
theorem dX11_columnWidth_1 : decode cX11_columnWidth 1 = .ok (.iload_n 1, 1) := by decide +kernel
theorem dX11_columnWidth_2 : decode cX11_columnWidth 2 = .ok (.invokevirtual 259, 3) := by decide +kernel
theorem dX11_columnWidth_5 : decode cX11_columnWidth 5 = .ok (.astore_n 3, 1) := by decide +kernel
theorem dX11_columnWidth_6 : decode cX11_columnWidth 6 = .ok (.iload_n 2, 1) := by decide +kernel
theorem dX11_columnWidth_7 : decode cX11_columnWidth 7 = .ok (.ifCond .lt 11, 3) := by decide +kernel
theorem dX11_columnWidth_10 : decode cX11_columnWidth 10 = .ok (.iload_n 2, 1) := by decide +kernel
theorem dX11_columnWidth_11 : decode cX11_columnWidth 11 = .ok (.aload_n 3, 1) := by decide +kernel
theorem dX11_columnWidth_12 : decode cX11_columnWidth 12 = .ok (.invokevirtual 263, 3) := by decide +kernel
theorem dX11_columnWidth_15 : decode cX11_columnWidth 15 = .ok (.if_icmp .lt 14, 3) := by decide +kernel
theorem dX11_columnWidth_18 : decode cX11_columnWidth 18 = .ok (.new 47, 3) := by decide +kernel
theorem dX11_columnWidth_21 : decode cX11_columnWidth 21 = .ok (.dup, 1) := by decide +kernel
theorem dX11_columnWidth_22 : decode cX11_columnWidth 22 = .ok (.ldc_w 266, 3) := by decide +kernel
theorem dX11_columnWidth_25 : decode cX11_columnWidth 25 = .ok (.invokespecial 51, 3) := by decide +kernel
theorem dX11_columnWidth_28 : decode cX11_columnWidth 28 = .ok (.athrow, 1) := by decide +kernel
theorem dX11_columnWidth_29 : decode cX11_columnWidth 29 = .ok (.aload_n 3, 1) := by decide +kernel
theorem dX11_columnWidth_30 : decode cX11_columnWidth 30 = .ok (.aload_n 0, 1) := by decide +kernel
theorem dX11_columnWidth_31 : decode cX11_columnWidth 31 = .ok (.getfield 12, 3) := by decide +kernel
theorem dX11_columnWidth_34 : decode cX11_columnWidth 34 = .ok (.getfield 218, 3) := by decide +kernel
theorem dX11_columnWidth_37 : decode cX11_columnWidth 37 = .ok (.invokevirtual 268, 3) := by decide +kernel
theorem dX11_columnWidth_40 : decode cX11_columnWidth 40 = .ok (.aload_n 3, 1) := by decide +kernel
theorem dX11_columnWidth_41 : decode cX11_columnWidth 41 = .ok (.getfield 271, 3) := by decide +kernel
theorem dX11_columnWidth_44 : decode cX11_columnWidth 44 = .ok (.iload_n 2, 1) := by decide +kernel
theorem dX11_columnWidth_45 : decode cX11_columnWidth 45 = .ok (.iaload, 1) := by decide +kernel
theorem dX11_columnWidth_46 : decode cX11_columnWidth 46 = .ok (.ireturn, 1) := by decide +kernel
set_option maxHeartbeats 4000000 in
set_option maxRecDepth 100000 in
theorem k_columnWidth (l : Launch) (dC : Nat → ClassId) (dI : Nat → Nat → Nat) (k : Nat → ClassId) (hl0 : l.stackTraces = false) (T : Nat → Int → Int → Int → Int) (A : Nat → Int → Int → Nat) (X : Nat → Int → Int → Int) (tl : va_W) (G : Nat → Int → Nat) (Mc : Nat → Int → Int) (Y : Nat → Int → Nat) (O : Nat → Nat) (L : Int → Nat → Int → Int) (C : Nat → Int → Int) (K : Nat → Int → Int) (cp : Nat) (pl : Int) (cc : Int) (hPR : PR dI k T A X G Mc Y O L C K cp tl) (hK : TK T) (hL : ∀ u, 0 ≤ u → u ≤ 1 → LSq T u (L u)) (hF : FINE T) (hrpl : -2147483648 ≤ pl ∧ pl < 2147483648) (hrcc : -2147483648 ≤ cc ∧ cc < 2147483648) : Kx l dC dI k yX11_columnWidth (.code yX11_columnWidth cX11_columnWidth 4 (some .int)) ({ frames := 9, cells := (131072 - cp + 1), slots := (12 * (131072 - cp) + 6), locals := 146 } : Room) [.ref (Y 0 0), .int (iI pl), .int (iI cc)] ([] ++ tl) (fun r w gc gs => (∃ (O2 : Nat → Nat) (L2 : Int → Nat → Int → Int) (C2 : Nat → Int → Int) (X2 : Nat → Int → Int → Int) (cp2 : Nat) (tl2 : va_W), (PR dI k T A X2 G Mc Y O2 L2 C2 K cp2 tl2) ∧ (∀ u, 0 ≤ u → u ≤ 1 → LSq T u (L2 u)) ∧ (cp ≤ cp2 ∧ cp2 ≤ 131072) ∧ (((0 ≤ pl ∧ pl < T 0 0 0 0) ∧ T 1 pl 0 0 = 3) ∧ 0 ≤ cc ∧ cc < (ccZ (fun j9 : Int => T 9 pl j9 0) 12)) ∧ r = some (.int (iI ((fitZ (msW (fun j9 : Int => T 9 pl j9 0) (fun j9 : Int => T 10 pl j9 0) 3) (msW (fun j9 : Int => T 9 pl j9 0) (fun j9 : Int => T 11 pl j9 0) 3) (T 16 0 0 0)) cc))) ∧ w = ([] ++ tl2) ∧ gc = (cp2 - cp) ∧ gs = (12 * (cp2 - cp)))) (fun E w gc gs => (∃ (O2 : Nat → Nat) (L2 : Int → Nat → Int → Int) (C2 : Nat → Int → Int) (X2 : Nat → Int → Int → Int) (cp2 : Nat) (tl2 : va_W), (PR dI k T A X2 G Mc Y O2 L2 C2 K cp2 tl2) ∧ (∀ u, 0 ≤ u → u ≤ 1 → LSq T u (L2 u)) ∧ (cp ≤ cp2 ∧ cp2 ≤ 131072) ∧ (¬ (((0 ≤ pl ∧ pl < T 0 0 0 0) ∧ T 1 pl 0 0 = 3) ∧ 0 ≤ cc ∧ cc < (ccZ (fun j9 : Int => T 9 pl j9 0) 12))) ∧ E = "java/lang/IndexOutOfBoundsException" ∧ w = ([] ++ tl2) ∧ gc = (cp2 - cp + 1) ∧ gs = (12 * (cp2 - cp) + 6))) := by
  refine kx_of (by decide) (Nat.le_of_ble_eq_true rfl) ?_
  intro p e s m args below meth c H locs B hr hex ls hl
  have hx := B.1.1
  have hb := B.1.2.1
  have hl : lv_has ls 4 [(0, .ref (Y 0 0)), (1, .int (iI pl)), (2, .int (iI cc))] := hl
  have hT := PR_TI hPR
  have hnb0 := TK_nb hK
  have hcp0 : 512 ≤ cp ∧ cp ≤ 131072 := by have q9 := hPR.2.2.2; unfold cpOk at q9; omega
  have hcap := hF.1
  refine lv_aload_n hx hb dX11_columnWidth_0 rfl (lv_at hl 0 rfl) ?_
  refine lv_iload_n hx hb dX11_columnWidth_1 rfl (lv_at hl 1 rfl) ?_
  have B := bd_swap (a := []) (b := []) (d := tl) (bd_to rfl B)
  obtain ⟨k_1, hk_1⟩ := pk_at (hs := []) (show (((Y 0 0), .inr (11, [.ref (A 50 0 0), .ref (Y 1 0), .ref (Y 2 0), .int (iI (K 0 0)), .ref (Y 3 0)])) : Nat × va_E) ∈ tl from PR_m hPR 0 0 rfl rfl)
  refine k_Vx (rest := []) (wc := ([] ++ tl)) (wr := []) (k_tableAt l dC dI k hl0 T A X tl G Mc Y O L C K cp pl hPR hK hrpl) B mV_X11_tableAt mw_1316 hl (q0 := k_1) (ci := 11) hk_1 rfl rfl ⟨Nat.le_of_ble_eq_true rfl, Nat.le_of_ble_eq_true rfl⟩ (Nat.le_of_ble_eq_true rfl) rfl dX11_columnWidth_2 ⟨by dsimp only; omega, by dsimp only; omega⟩ (fun E ce q9 w gc gs H locs hp B h1 h2 h3 => ?_) (fun r w gc gs H locs hp B => ?_)
  · skip
    obtain ⟨z_2, rfl, hw9, rfl, rfl⟩ := hp
    rw [hw9] at B; clear hw9
    have B := bd_to (ws' := ([] ++ tl)) rfl B
    exact k_out hex (⟨O, L, C, X, cp, tl, hPR, hL, (by omega), (by omega), rfl, rfl, rfl, rfl⟩) B h1 h2 h3 ⟨(by first | omega | (dsimp only; omega)), (by first | omega | (dsimp only; omega))⟩ ⟨(by first | omega | (dsimp only; omega)), (by first | omega | (dsimp only; omega))⟩
  · skip
    obtain ⟨z_3, rfl, hw9, rfl, rfl⟩ := hp
    rw [hw9] at B; clear hw9
    have B := bd_to (ws' := ([] ++ tl)) rfl B
    refine lv_astore_n (lv' := [(3, .ref (A 7 pl 0)), (0, .ref (Y 0 0)), (1, .int (iI pl)), (2, .int (iI cc))]) hx hb dX11_columnWidth_5 rfl hl (by decide) rfl (fun ls hl => ?_)
    refine lv_iload_n hx hb dX11_columnWidth_6 rfl (lv_at hl 3 rfl) ?_
    refine lv_if_lt (tgt := 18) hx hb dX11_columnWidth_7 (by decide) (fun c_4 => ?_) (fun c_4 => ?_)
    · have zc_4 : cc < 0 := jlt (a := cc) (b := 0) (by omega) (by omega) c_4
      exact k_thrWG (tx := "no such column") xE_ioobe (⟨O, L, C, X, cp, tl, hPR, hL, (by omega), (by omega), rfl, rfl, rfl, rfl⟩) ⟨(by first | omega | (dsimp only; omega)), (by first | omega | (dsimp only; omega))⟩ hl0 B hex hl (by decide +kernel) dX11_columnWidth_18 dX11_columnWidth_21 dX11_columnWidth_22 dX11_columnWidth_25 dX11_columnWidth_28 ⟨(by first | exact Nat.le_of_ble_eq_true rfl | omega | (dsimp only; omega)), (by first | exact Nat.le_of_ble_eq_true rfl | omega | (dsimp only; omega)), (by first | omega | (dsimp only; omega)), (by first | omega | (dsimp only; omega))⟩ ⟨(by first | omega | (dsimp only; omega)), (by first | omega | (dsimp only; omega))⟩
    · have zc_4 : 0 ≤ cc := jnlt (a := cc) (b := 0) (by omega) (by omega) c_4
      refine lv_iload_n hx hb dX11_columnWidth_10 rfl (lv_at hl 3 rfl) ?_
      refine lv_aload_n hx hb dX11_columnWidth_11 rfl (lv_at hl 0 rfl) ?_
      have B := bd_swap (a := []) (b := []) (d := tl) (bd_to rfl B)
      obtain ⟨k_5, hk_5⟩ := pk_at (hs := []) (hT.2.2.2.2.2.1 pl (by omega) (by omega) (by omega)).1
      refine k_V (rest := [.int (iI cc)]) (wc := ([] ++ tl)) (wr := []) (k_columnCountP l dC dI k T A X tl G Mc Y O L C K cp pl hPR hK (by omega) (by omega)) B mV_X8_columnCount mw_1320 hl (q0 := k_5) (ci := 8) hk_5 rfl rfl ⟨Nat.le_of_ble_eq_true rfl, Nat.le_of_ble_eq_true rfl⟩ (Nat.le_of_ble_eq_true rfl) rfl dX11_columnWidth_12 ⟨by dsimp only; omega, by dsimp only; omega⟩ (fun r w gc gs H locs hp B => ?_)
      obtain ⟨z_6, rfl, hw9, rfl, rfl⟩ := hp
      rw [hw9] at B; clear hw9
      have B := bd_to (ws' := ([] ++ tl)) rfl B
      refine lv_icmp_lt (tgt := 29) hx hb dX11_columnWidth_15 (by decide) (fun c_7 => ?_) (fun c_7 => ?_)
      · have zc_7 : cc < (ccZ (fun j9 : Int => T 9 pl j9 0) 12) := jlt (a := cc) (b := (ccZ (fun j9 : Int => T 9 pl j9 0) 12)) (by omega) (by omega) c_7
        refine lv_aload_n hx hb dX11_columnWidth_29 rfl (lv_at hl 0 rfl) ?_
        refine lv_aload_n hx hb dX11_columnWidth_30 rfl (lv_at hl 1 rfl) ?_
        obtain ⟨k_8, hk_8⟩ := pk_at (hs := []) (show (((Y 0 0), .inr (11, [.ref (A 50 0 0), .ref (Y 1 0), .ref (Y 2 0), .int (iI (K 0 0)), .ref (Y 3 0)])) : Nat × va_E) ∈ tl from PR_m hPR 0 0 rfl rfl)
        refine x_get (ci := 11) (C := RX11) (T := TX11) (N := 5) (v := .ref (A 50 0 0)) B k_8 hk_8 rfl in_X11 0 (by decide) mw_474 (fun _ h9 => h9) rfl dX11_columnWidth_31 ?_
        obtain ⟨k_9, hk_9⟩ := pk_at (hs := []) hT.1.1
        refine x_get (ci := 9) (C := RX9) (T := TX9) (N := 8) (v := .int (iI (T 16 0 0 0))) B k_9 hk_9 rfl in_X9 6 (by decide) mw_97 (fun _ h9 => h9) rfl dX11_columnWidth_34 ?_
        have z_10 : 30 ≤ T 16 0 0 0 ∧ T 16 0 0 0 ≤ 120 := TK_wid hK
        have B := bd_swap (a := []) (b := []) (d := tl) (bd_to rfl B)
        obtain ⟨k_11, hk_11⟩ := pk_at (hs := []) (hT.2.2.2.2.2.1 pl (by omega) (by omega) (by omega)).1
        refine k_V (rest := []) (wc := ([] ++ tl)) (wr := []) (k_measureP l dC dI k T A X tl G Mc Y O L C K cp pl hPR hK (by omega) (by omega)) B mV_X8_measure mw_1326 hl (q0 := k_11) (ci := 8) hk_11 rfl rfl ⟨Nat.le_of_ble_eq_true rfl, Nat.le_of_ble_eq_true rfl⟩ (Nat.le_of_ble_eq_true rfl) rfl dX11_columnWidth_37 ⟨by dsimp only; omega, by dsimp only; omega⟩ (fun r w gc gs H locs hp B => ?_)
        obtain ⟨X2_12, tl2_13, z_14, z_15, z_16, rfl, hw9, rfl, rfl⟩ := hp
        rw [hw9] at B; clear hw9
        have B := bd_to (ws' := ([] ++ tl2_13)) rfl B
        have hPR : PR dI k T A X2_12 G Mc Y O L C K cp tl2_13 := z_14
        have hT : TI dI k T A X2_12 tl2_13 := PR_TI hPR
        have hx6_ := z_15
        refine lv_aload_n hx hb dX11_columnWidth_40 rfl (lv_at hl 0 rfl) ?_
        obtain ⟨k_17, hk_17⟩ := pk_at (hs := []) (hT.2.2.2.2.2.1 pl (by omega) (by omega) (by omega)).1
        refine x_get (ci := 8) (C := RX8) (T := TX8) (N := 7) (v := .ref (A 8 pl 6)) B k_17 hk_17 rfl in_X8 6 (by decide) mw_1150 (fun _ h9 => h9) rfl dX11_columnWidth_41 ?_
        refine lv_iload_n hx hb dX11_columnWidth_44 rfl (lv_at hl 3 rfl) ?_
        obtain ⟨k_18, hk_18⟩ := pk_at (hs := []) (hT.2.2.2.2.2.1 pl (by omega) (by omega) (by omega)).2.2.2.2.2.2.2
        refine x_iald' (f := (X2_12 6 pl)) (z := cc) B k_18 hk_18 (by omega) dX11_columnWidth_45 ?_
        refine lv_seti (y := iI ((fitZ (msW (fun j9 : Int => T 9 pl j9 0) (fun j9 : Int => T 10 pl j9 0) 3) (msW (fun j9 : Int => T 9 pl j9 0) (fun j9 : Int => T 11 pl j9 0) 3) (T 16 0 0 0)) cc)) (congrArg iI (show (X2_12 6 pl) cc = (fitZ (msW (fun j9 : Int => T 9 pl j9 0) (fun j9 : Int => T 10 pl j9 0) 3) (msW (fun j9 : Int => T 9 pl j9 0) (fun j9 : Int => T 11 pl j9 0) 3) (T 16 0 0 0)) cc from (congrFun hx6_ _))) ?_
        exact vx_ret (k_iret B hr (⟨O, L, C, X2_12, cp, tl2_13, hPR, hL, (by omega), (by omega), rfl, rfl, rfl, rfl⟩) ⟨(by first | omega | (dsimp only; omega)), (by first | omega | (dsimp only; omega))⟩ ⟨(by first | omega | (dsimp only; omega)), (by first | omega | (dsimp only; omega))⟩ dX11_columnWidth_46)
      · have zc_7 : (ccZ (fun j9 : Int => T 9 pl j9 0) 12) ≤ cc := jnlt (a := cc) (b := (ccZ (fun j9 : Int => T 9 pl j9 0) 12)) (by omega) (by omega) c_7
        exact k_thrWG (tx := "no such column") xE_ioobe (⟨O, L, C, X, cp, tl, hPR, hL, (by omega), (by omega), rfl, rfl, rfl, rfl⟩) ⟨(by first | omega | (dsimp only; omega)), (by first | omega | (dsimp only; omega))⟩ hl0 B hex hl (by decide +kernel) dX11_columnWidth_18 dX11_columnWidth_21 dX11_columnWidth_22 dX11_columnWidth_25 dX11_columnWidth_28 ⟨(by first | exact Nat.le_of_ble_eq_true rfl | omega | (dsimp only; omega)), (by first | exact Nat.le_of_ble_eq_true rfl | omega | (dsimp only; omega)), (by first | omega | (dsimp only; omega)), (by first | omega | (dsimp only; omega))⟩ ⟨(by first | omega | (dsimp only; omega)), (by first | omega | (dsimp only; omega))⟩

theorem mw_1233 : (Jvm.Cond.methodLink "Galleyforge" (200 : Nat) ({ cls := "Galleyforge$Table", name := "rowCount", desc := "()I" } : Jvm.MethodName)) ∈ gt := gt_at 1303 (by decide +kernel) (by decide +kernel)
theorem mw_1356 : (Jvm.Cond.methodLink "Galleyforge" (276 : Nat) ({ cls := "Galleyforge$Table", name := "heightOf", desc := "(I)I" } : Jvm.MethodName)) ∈ gt := gt_at 1426 (by decide +kernel) (by decide +kernel)
theorem dX11_rowHeight_0 : decode cX11_rowHeight 0 = .ok (.aload_n 0, 1) := by decide +kernel
theorem dX11_rowHeight_1 : decode cX11_rowHeight 1 = .ok (.iload_n 1, 1) := by decide +kernel
theorem dX11_rowHeight_2 : decode cX11_rowHeight 2 = .ok (.invokevirtual 259, 3) := by decide +kernel
theorem dX11_rowHeight_5 : decode cX11_rowHeight 5 = .ok (.astore_n 3, 1) := by decide +kernel
theorem dX11_rowHeight_6 : decode cX11_rowHeight 6 = .ok (.iload_n 2, 1) := by decide +kernel
theorem dX11_rowHeight_7 : decode cX11_rowHeight 7 = .ok (.ifCond .lt 11, 3) := by decide +kernel
theorem dX11_rowHeight_10 : decode cX11_rowHeight 10 = .ok (.iload_n 2, 1) := by decide +kernel
theorem dX11_rowHeight_11 : decode cX11_rowHeight 11 = .ok (.aload_n 3, 1) := by decide +kernel
theorem dX11_rowHeight_12 : decode cX11_rowHeight 12 = .ok (.invokevirtual 200, 3) := by decide +kernel
theorem dX11_rowHeight_15 : decode cX11_rowHeight 15 = .ok (.if_icmp .lt 14, 3) := by decide +kernel
theorem dX11_rowHeight_18 : decode cX11_rowHeight 18 = .ok (.new 47, 3) := by decide +kernel
theorem dX11_rowHeight_21 : decode cX11_rowHeight 21 = .ok (.dup, 1) := by decide +kernel
theorem dX11_rowHeight_22 : decode cX11_rowHeight 22 = .ok (.ldc_w 274, 3) := by decide +kernel
theorem dX11_rowHeight_25 : decode cX11_rowHeight 25 = .ok (.invokespecial 51, 3) := by decide +kernel
theorem dX11_rowHeight_28 : decode cX11_rowHeight 28 = .ok (.athrow, 1) := by decide +kernel
theorem dX11_rowHeight_29 : decode cX11_rowHeight 29 = .ok (.aload_n 3, 1) := by decide +kernel
theorem dX11_rowHeight_30 : decode cX11_rowHeight 30 = .ok (.aload_n 0, 1) := by decide +kernel
theorem dX11_rowHeight_31 : decode cX11_rowHeight 31 = .ok (.getfield 12, 3) := by decide +kernel
theorem dX11_rowHeight_34 : decode cX11_rowHeight 34 = .ok (.getfield 218, 3) := by decide +kernel
theorem dX11_rowHeight_37 : decode cX11_rowHeight 37 = .ok (.invokevirtual 268, 3) := by decide +kernel
theorem dX11_rowHeight_40 : decode cX11_rowHeight 40 = .ok (.aload_n 3, 1) := by decide +kernel
theorem dX11_rowHeight_41 : decode cX11_rowHeight 41 = .ok (.iload_n 2, 1) := by decide +kernel
theorem dX11_rowHeight_42 : decode cX11_rowHeight 42 = .ok (.invokevirtual 276, 3) := by decide +kernel
theorem dX11_rowHeight_45 : decode cX11_rowHeight 45 = .ok (.ireturn, 1) := by decide +kernel
set_option maxHeartbeats 4000000 in
set_option maxRecDepth 100000 in
theorem k_rowHeight (l : Launch) (dC : Nat → ClassId) (dI : Nat → Nat → Nat) (k : Nat → ClassId) (hl0 : l.stackTraces = false) (T : Nat → Int → Int → Int → Int) (A : Nat → Int → Int → Nat) (X : Nat → Int → Int → Int) (tl : va_W) (G : Nat → Int → Nat) (Mc : Nat → Int → Int) (Y : Nat → Int → Nat) (O : Nat → Nat) (L : Int → Nat → Int → Int) (C : Nat → Int → Int) (K : Nat → Int → Int) (cp : Nat) (pl : Int) (ro : Int) (hPR : PR dI k T A X G Mc Y O L C K cp tl) (hK : TK T) (hL : ∀ u, 0 ≤ u → u ≤ 1 → LSq T u (L u)) (hF : FINE T) (hrpl : -2147483648 ≤ pl ∧ pl < 2147483648) (hrro : -2147483648 ≤ ro ∧ ro < 2147483648) : Kx l dC dI k yX11_rowHeight (.code yX11_rowHeight cX11_rowHeight 4 (some .int)) ({ frames := 9, cells := (131072 - cp + 1), slots := (12 * (131072 - cp) + 6), locals := 146 } : Room) [.ref (Y 0 0), .int (iI pl), .int (iI ro)] ([] ++ tl) (fun r w gc gs => (∃ (O2 : Nat → Nat) (L2 : Int → Nat → Int → Int) (C2 : Nat → Int → Int) (X2 : Nat → Int → Int → Int) (cp2 : Nat) (tl2 : va_W), (PR dI k T A X2 G Mc Y O2 L2 C2 K cp2 tl2) ∧ (∀ u, 0 ≤ u → u ≤ 1 → LSq T u (L2 u)) ∧ (cp ≤ cp2 ∧ cp2 ≤ 131072) ∧ (((0 ≤ pl ∧ pl < T 0 0 0 0) ∧ T 1 pl 0 0 = 3) ∧ 0 ≤ ro ∧ ro < rcT T pl) ∧ r = some (.int (iI (htT T pl ro))) ∧ w = ([] ++ tl2) ∧ gc = (cp2 - cp) ∧ gs = (12 * (cp2 - cp)))) (fun E w gc gs => (∃ (O2 : Nat → Nat) (L2 : Int → Nat → Int → Int) (C2 : Nat → Int → Int) (X2 : Nat → Int → Int → Int) (cp2 : Nat) (tl2 : va_W), (PR dI k T A X2 G Mc Y O2 L2 C2 K cp2 tl2) ∧ (∀ u, 0 ≤ u → u ≤ 1 → LSq T u (L2 u)) ∧ (cp ≤ cp2 ∧ cp2 ≤ 131072) ∧ (¬ (((0 ≤ pl ∧ pl < T 0 0 0 0) ∧ T 1 pl 0 0 = 3) ∧ 0 ≤ ro ∧ ro < rcT T pl)) ∧ E = "java/lang/IndexOutOfBoundsException" ∧ w = ([] ++ tl2) ∧ gc = (cp2 - cp + 1) ∧ gs = (12 * (cp2 - cp) + 6))) := by
  refine kx_of (by decide) (Nat.le_of_ble_eq_true rfl) ?_
  intro p e s m args below meth c H locs B hr hex ls hl
  have hx := B.1.1
  have hb := B.1.2.1
  have hl : lv_has ls 4 [(0, .ref (Y 0 0)), (1, .int (iI pl)), (2, .int (iI ro))] := hl
  have hT := PR_TI hPR
  have hnb0 := TK_nb hK
  have hcp0 : 512 ≤ cp ∧ cp ≤ 131072 := by have q9 := hPR.2.2.2; unfold cpOk at q9; omega
  have hcap := hF.1
  refine lv_aload_n hx hb dX11_rowHeight_0 rfl (lv_at hl 0 rfl) ?_
  refine lv_iload_n hx hb dX11_rowHeight_1 rfl (lv_at hl 1 rfl) ?_
  have B := bd_swap (a := []) (b := []) (d := tl) (bd_to rfl B)
  obtain ⟨k_1, hk_1⟩ := pk_at (hs := []) (show (((Y 0 0), .inr (11, [.ref (A 50 0 0), .ref (Y 1 0), .ref (Y 2 0), .int (iI (K 0 0)), .ref (Y 3 0)])) : Nat × va_E) ∈ tl from PR_m hPR 0 0 rfl rfl)
  refine k_Vx (rest := []) (wc := ([] ++ tl)) (wr := []) (k_tableAt l dC dI k hl0 T A X tl G Mc Y O L C K cp pl hPR hK hrpl) B mV_X11_tableAt mw_1316 hl (q0 := k_1) (ci := 11) hk_1 rfl rfl ⟨Nat.le_of_ble_eq_true rfl, Nat.le_of_ble_eq_true rfl⟩ (Nat.le_of_ble_eq_true rfl) rfl dX11_rowHeight_2 ⟨by dsimp only; omega, by dsimp only; omega⟩ (fun E ce q9 w gc gs H locs hp B h1 h2 h3 => ?_) (fun r w gc gs H locs hp B => ?_)
  · skip
    obtain ⟨z_2, rfl, hw9, rfl, rfl⟩ := hp
    rw [hw9] at B; clear hw9
    have B := bd_to (ws' := ([] ++ tl)) rfl B
    exact k_out hex (⟨O, L, C, X, cp, tl, hPR, hL, (by omega), (by omega), rfl, rfl, rfl, rfl⟩) B h1 h2 h3 ⟨(by first | omega | (dsimp only; omega)), (by first | omega | (dsimp only; omega))⟩ ⟨(by first | omega | (dsimp only; omega)), (by first | omega | (dsimp only; omega))⟩
  · skip
    obtain ⟨z_3, rfl, hw9, rfl, rfl⟩ := hp
    rw [hw9] at B; clear hw9
    have B := bd_to (ws' := ([] ++ tl)) rfl B
    refine lv_astore_n (lv' := [(3, .ref (A 7 pl 0)), (0, .ref (Y 0 0)), (1, .int (iI pl)), (2, .int (iI ro))]) hx hb dX11_rowHeight_5 rfl hl (by decide) rfl (fun ls hl => ?_)
    refine lv_iload_n hx hb dX11_rowHeight_6 rfl (lv_at hl 3 rfl) ?_
    refine lv_if_lt (tgt := 18) hx hb dX11_rowHeight_7 (by decide) (fun c_4 => ?_) (fun c_4 => ?_)
    · have zc_4 : ro < 0 := jlt (a := ro) (b := 0) (by omega) (by omega) c_4
      exact k_thrWG (tx := "no such row") xE_ioobe (⟨O, L, C, X, cp, tl, hPR, hL, (by omega), (by omega), rfl, rfl, rfl, rfl⟩) ⟨(by first | omega | (dsimp only; omega)), (by first | omega | (dsimp only; omega))⟩ hl0 B hex hl (by decide +kernel) dX11_rowHeight_18 dX11_rowHeight_21 dX11_rowHeight_22 dX11_rowHeight_25 dX11_rowHeight_28 ⟨(by first | exact Nat.le_of_ble_eq_true rfl | omega | (dsimp only; omega)), (by first | exact Nat.le_of_ble_eq_true rfl | omega | (dsimp only; omega)), (by first | omega | (dsimp only; omega)), (by first | omega | (dsimp only; omega))⟩ ⟨(by first | omega | (dsimp only; omega)), (by first | omega | (dsimp only; omega))⟩
    · have zc_4 : 0 ≤ ro := jnlt (a := ro) (b := 0) (by omega) (by omega) c_4
      refine lv_iload_n hx hb dX11_rowHeight_10 rfl (lv_at hl 3 rfl) ?_
      refine lv_aload_n hx hb dX11_rowHeight_11 rfl (lv_at hl 0 rfl) ?_
      have B := bd_swap (a := []) (b := []) (d := tl) (bd_to rfl B)
      obtain ⟨k_5, hk_5⟩ := pk_at (hs := []) (hT.2.2.2.2.2.1 pl (by omega) (by omega) (by omega)).1
      refine k_V (rest := [.int (iI ro)]) (wc := ([] ++ tl)) (wr := []) (k_rowCountP l dC dI k T A X tl G Mc Y O L C K cp pl hPR hK (by omega) (by omega)) B mV_X8_rowCount mw_1233 hl (q0 := k_5) (ci := 8) hk_5 rfl rfl ⟨Nat.le_of_ble_eq_true rfl, Nat.le_of_ble_eq_true rfl⟩ (Nat.le_of_ble_eq_true rfl) rfl dX11_rowHeight_12 ⟨by dsimp only; omega, by dsimp only; omega⟩ (fun r w gc gs H locs hp B => ?_)
      obtain ⟨z_6, rfl, hw9, rfl, rfl⟩ := hp
      rw [hw9] at B; clear hw9
      have B := bd_to (ws' := ([] ++ tl)) rfl B
      refine lv_icmp_lt (tgt := 29) hx hb dX11_rowHeight_15 (by decide) (fun c_7 => ?_) (fun c_7 => ?_)
      · have zc_7 : ro < (rcT T pl) := jlt (a := ro) (b := (rcT T pl)) (by omega) (by omega) c_7
        refine lv_aload_n hx hb dX11_rowHeight_29 rfl (lv_at hl 0 rfl) ?_
        refine lv_aload_n hx hb dX11_rowHeight_30 rfl (lv_at hl 1 rfl) ?_
        obtain ⟨k_8, hk_8⟩ := pk_at (hs := []) (show (((Y 0 0), .inr (11, [.ref (A 50 0 0), .ref (Y 1 0), .ref (Y 2 0), .int (iI (K 0 0)), .ref (Y 3 0)])) : Nat × va_E) ∈ tl from PR_m hPR 0 0 rfl rfl)
        refine x_get (ci := 11) (C := RX11) (T := TX11) (N := 5) (v := .ref (A 50 0 0)) B k_8 hk_8 rfl in_X11 0 (by decide) mw_474 (fun _ h9 => h9) rfl dX11_rowHeight_31 ?_
        obtain ⟨k_9, hk_9⟩ := pk_at (hs := []) hT.1.1
        refine x_get (ci := 9) (C := RX9) (T := TX9) (N := 8) (v := .int (iI (T 16 0 0 0))) B k_9 hk_9 rfl in_X9 6 (by decide) mw_97 (fun _ h9 => h9) rfl dX11_rowHeight_34 ?_
        have z_10 : 30 ≤ T 16 0 0 0 ∧ T 16 0 0 0 ≤ 120 := TK_wid hK
        have B := bd_swap (a := []) (b := []) (d := tl) (bd_to rfl B)
        obtain ⟨k_11, hk_11⟩ := pk_at (hs := []) (hT.2.2.2.2.2.1 pl (by omega) (by omega) (by omega)).1
        refine k_V (rest := []) (wc := ([] ++ tl)) (wr := []) (k_measureP l dC dI k T A X tl G Mc Y O L C K cp pl hPR hK (by omega) (by omega)) B mV_X8_measure mw_1326 hl (q0 := k_11) (ci := 8) hk_11 rfl rfl ⟨Nat.le_of_ble_eq_true rfl, Nat.le_of_ble_eq_true rfl⟩ (Nat.le_of_ble_eq_true rfl) rfl dX11_rowHeight_37 ⟨by dsimp only; omega, by dsimp only; omega⟩ (fun r w gc gs H locs hp B => ?_)
        obtain ⟨X2_12, tl2_13, z_14, z_15, z_16, rfl, hw9, rfl, rfl⟩ := hp
        rw [hw9] at B; clear hw9
        have B := bd_to (ws' := ([] ++ tl2_13)) rfl B
        have hPR : PR dI k T A X2_12 G Mc Y O L C K cp tl2_13 := z_14
        have hT : TI dI k T A X2_12 tl2_13 := PR_TI hPR
        refine lv_aload_n hx hb dX11_rowHeight_40 rfl (lv_at hl 0 rfl) ?_
        refine lv_iload_n hx hb dX11_rowHeight_41 rfl (lv_at hl 3 rfl) ?_
        have B := bd_swap (a := []) (b := []) (d := tl2_13) (bd_to rfl B)
        obtain ⟨k_17, hk_17⟩ := pk_at (hs := []) (hT.2.2.2.2.2.1 pl (by omega) (by omega) (by omega)).1
        refine k_V (rest := []) (wc := ([] ++ tl2_13)) (wr := []) (k_heightOfP l dC dI k T A X2_12 tl2_13 G Mc Y O L C K cp pl ro z_14 hK (by omega) (by omega) z_15 z_16 (by omega)) B mV_X8_heightOf mw_1356 hl (q0 := k_17) (ci := 8) hk_17 rfl rfl ⟨Nat.le_of_ble_eq_true rfl, Nat.le_of_ble_eq_true rfl⟩ (Nat.le_of_ble_eq_true rfl) rfl dX11_rowHeight_42 ⟨by dsimp only; omega, by dsimp only; omega⟩ (fun r w gc gs H locs hp B => ?_)
        obtain ⟨z_18, rfl, hw9, rfl, rfl⟩ := hp
        rw [hw9] at B; clear hw9
        have B := bd_to (ws' := ([] ++ tl2_13)) rfl B
        exact vx_ret (k_iret B hr (⟨O, L, C, X2_12, cp, tl2_13, hPR, hL, (by omega), (by omega), rfl, rfl, rfl, rfl⟩) ⟨(by first | omega | (dsimp only; omega)), (by first | omega | (dsimp only; omega))⟩ ⟨(by first | omega | (dsimp only; omega)), (by first | omega | (dsimp only; omega))⟩ dX11_rowHeight_45)
      · have zc_7 : (rcT T pl) ≤ ro := jnlt (a := ro) (b := (rcT T pl)) (by omega) (by omega) c_7
        exact k_thrWG (tx := "no such row") xE_ioobe (⟨O, L, C, X, cp, tl, hPR, hL, (by omega), (by omega), rfl, rfl, rfl, rfl⟩) ⟨(by first | omega | (dsimp only; omega)), (by first | omega | (dsimp only; omega))⟩ hl0 B hex hl (by decide +kernel) dX11_rowHeight_18 dX11_rowHeight_21 dX11_rowHeight_22 dX11_rowHeight_25 dX11_rowHeight_28 ⟨(by first | exact Nat.le_of_ble_eq_true rfl | omega | (dsimp only; omega)), (by first | exact Nat.le_of_ble_eq_true rfl | omega | (dsimp only; omega)), (by first | omega | (dsimp only; omega)), (by first | omega | (dsimp only; omega))⟩ ⟨(by first | omega | (dsimp only; omega)), (by first | omega | (dsimp only; omega))⟩

end
