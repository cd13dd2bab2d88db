section
/-- what is spelled and drafted, told anew -/
def KKn (n : Int) (sp dr : Int → Int) : Nat → Int → Int := fun c j => if c = 0 then n else if c = 1 then sp j else dr j
section PR3
variable {dI : Nat → Nat → Nat} {k : Nat → ClassId} {T T' : Nat → Int → Int → Int → Int} {A A' : Nat → Int → Int → Nat} {X X' : Nat → Int → Int → Int} {G G' : Nat → Int → Nat} {Mc Mc' : Nat → Int → Int} {Y : Nat → Int → Nat} {O O' : Nat → Nat} {L L' : Int → Nat → Int → Int} {C C' : Nat → Int → Int} {K K' : Nat → Int → Int} {cp cp' : Nat} {tl tx tx' : va_W} {v : Int}
theorem prB_gt (hv : 0 ≤ v ∧ v ≤ 1) : (prB k T A X G Mc Y O L C K cp).flatten.Perm ((gCl k A Y K ++ (txC k T A X G Mc)) ++ (lyCl A Y (L v) v ++ (laCl k Y (L v) v ++ (l6Cl k Y (L v) v ++ (rwCl k Y (L v) v ++ (ppCl k A Y (L v) v ++ (pgCl A Y (L v) v ++ (lyCl A Y (L (1 - v)) (1 - v) ++ (laCl k Y (L (1 - v)) (1 - v) ++ (l6Cl k Y (L (1 - v)) (1 - v) ++ (rwCl k Y (L (1 - v)) (1 - v) ++ (ppCl k A Y (L (1 - v)) (1 - v) ++ (pgCl A Y (L (1 - v)) (1 - v) ++ (lnCl k Y C ++ (stCl k Y O C cp))))))))))))))) := by
  have h : (prB k T A X G Mc Y O L C K cp).flatten.Perm ((gCl k A Y K ++ (txC k T A X G Mc ++ ([]))) ++ (lyCl A Y (L v) v ++ (laCl k Y (L v) v ++ (l6Cl k Y (L v) v ++ (rwCl k Y (L v) v ++ (ppCl k A Y (L v) v ++ (pgCl A Y (L v) v ++ (lyCl A Y (L (1 - v)) (1 - v) ++ (laCl k Y (L (1 - v)) (1 - v) ++ (l6Cl k Y (L (1 - v)) (1 - v) ++ (rwCl k Y (L (1 - v)) (1 - v) ++ (ppCl k A Y (L (1 - v)) (1 - v) ++ (pgCl A Y (L (1 - v)) (1 - v) ++ (lnCl k Y C ++ (stCl k Y O C cp ++ ([])))))))))))))))) := by
    rcases (show v = 0 ∨ v = 1 by omega) with rfl | rfl
    · exact blk_pick (prB k T A X G Mc Y O L C K cp) 16 rfl [0, 15] [1, 2, 3, 4, 5, 6, 7, 8, 9, 10, 11, 12, 13, 14] (by decide)
    · exact blk_pick (prB k T A X G Mc Y O L C K cp) 16 rfl [0, 15] [7, 8, 9, 10, 11, 12, 1, 2, 3, 4, 5, 6, 13, 14] (by decide)
  simpa only [List.append_nil] using h
theorem cA_g (h : A' 50 0 0 = A 50 0 0) : gCl k A' Y K = gCl k A Y K := by unfold gCl; rw [h]
theorem cA_ly {Lv : Nat → Int → Int} (h : A' 50 0 0 = A 50 0 0) : lyCl A' Y Lv v = lyCl A Y Lv v := by unfold lyCl; rw [h]
theorem cA_pp {Lv : Nat → Int → Int} (h : A' 50 0 0 = A 50 0 0) : ppCl k A' Y Lv v = ppCl k A Y Lv v := by unfold ppCl; rw [h]
theorem cA_pg {Lv : Nat → Int → Int} (h : A' 50 0 0 = A 50 0 0) : pgCl A' Y Lv v = pgCl A Y Lv v := by unfold pgCl; rw [h]
theorem PR_gout (h : PR dI k T A X G Mc Y O L C K cp tl) : ∃ tr : va_W, tl.Perm (gCl k A Y K ++ tr) ∧ ∀ K', PR dI k T A X G Mc Y O L C K' cp (gCl k A Y K' ++ tr) :=
  ⟨_, h.1.trans (prB_g (v := 0) (by omega)), fun K' => ⟨(prB_g (K := K') (v := 0) (by omega)).symm, h.2⟩⟩
theorem PR_gtx (h : PR dI k T A X G Mc Y O L C K cp tl) : ∃ tr : va_W, tl.Perm (gCl k A Y K ++ (txC k T A X G Mc ++ tr)) ∧ ∀ (K' : Nat → Int → Int) (T' : Nat → Int → Int → Int → Int) (A' : Nat → Int → Int → Nat) (X' : Nat → Int → Int → Int) (G' : Nat → Int → Nat) (Mc' : Nat → Int → Int) (t' : va_W), TXP dI k T' A' X' G' Mc' t' → A' 50 0 0 = A 50 0 0 → PR dI k T' A' X' G' Mc' Y O L C K' cp (gCl k A Y K' ++ (t' ++ tr)) := by
  have h0 := prB_gt (k := k) (T := T) (A := A) (X := X) (G := G) (Mc := Mc) (Y := Y) (O := O) (L := L) (C := C) (K := K) (cp := cp) (v := 0) (by omega)
  simp only [List.append_assoc] at h0
  refine ⟨_, h.1.trans h0, fun K' T' A' X' G' Mc' t' ht hA => ⟨?_, ht.2, h.2.2⟩⟩
  have h9 := prB_gt (k := k) (T := T') (A := A') (X := X') (G := G') (Mc := Mc') (Y := Y) (O := O) (L := L) (C := C) (K := K') (cp := cp) (v := 0) (by omega)
  simp only [cA_g hA, cA_ly hA, cA_pp hA, cA_pg hA, List.append_assoc] at h9
  exact (List.Perm.append_left _ (List.Perm.append_right _ ht.1)).trans h9.symm
theorem blC_cg {i : Int} (h : ∀ c, c < 12 → T' c = T c) : blC k T' A X G Mc i = blC k T A X G Mc i := by
  simp only [blC, blP, taC, woC, h 1 (by omega), h 2 (by omega), h 3 (by omega), h 4 (by omega), h 5 (by omega), h 6 (by omega), h 7 (by omega), h 8 (by omega), h 9 (by omega), h 10 (by omega), h 11 (by omega)] <;> congr
theorem ptC_cg (h : ∀ c, 17 < c → T' c = T c) : ptC k T' A = ptC k T A := by
  simp only [ptC, paC, h 18 (by omega), h 19 (by omega), h 20 (by omega), h 21 (by omega), h 22 (by omega)]
/-- the text's own cells, taken out -/
def heC (k : Nat → ClassId) (T : Nat → Int → Int → Int → Int) (A : Nat → Int → Int → Nat) : va_W := [(((A 50 0 0), .inr (9, [.ref (A 51 0 0), .ref (A 52 0 0), .ref (A 53 0 0), .ref (A 54 0 0), .int (iI (T 12 0 0 0)), .ref (A 55 0 0), .int (iI (T 16 0 0 0)), .int (iI (T 17 0 0 0))])) : Nat × va_E), (((A 53 0 0), .inl (k 0, 5, .inl (fun i9 : Nat => iI ((fun j9 : Int => T 13 j9 0 0) i9)))) : Nat × va_E), (((A 54 0 0), .inl (k 0, 5, .inl (fun i9 : Nat => iI ((fun j9 : Int => T 14 j9 0 0) i9)))) : Nat × va_E), (((A 55 0 0), .inl (k 0, 8, .inl (fun i9 : Nat => iI ((fun j9 : Int => T 15 j9 0 0) i9)))) : Nat × va_E)]
theorem TXP_he {tx : va_W} (h : TXP dI k T A X G Mc tx) : ∃ tr : va_W, tx.Perm (heC k T A ++ tr) ∧ ∀ T', (∀ c, c < 12 ∨ 17 < c → T' c = T c) → TXP dI k T' A X G Mc (heC k T' A ++ tr) := by
  refine ⟨(lsC k (A 51 0 0) (A 56 0 0) (Mc 0 0) (T 0 0 0 0) (G 0 0) (fun i => A 0 i 0) ++ lsC k (A 52 0 0) (A 57 0 0) (Mc 2 0) (T 18 0 0 0) (G 2 0) (fun i => A 15 i 0)) ++ ((List.range (T 0 0 0 0).toNat).flatMap (fun i : Nat => blC k T A X G Mc i) ++ ptC k T A), ?_, fun T' hT' => ⟨?_, ?_⟩⟩
  · refine h.1.trans (perm_eq ?_)
    unfold txC hdC heC
    simp only [List.append_assoc]
  · refine perm_eq ?_
    unfold txC hdC heC
    simp only [List.append_assoc, hT' 0 (by omega), hT' 18 (by omega), ptC_cg (fun c hc => hT' c (Or.inr hc)), blC_cg (fun c hc => hT' c (Or.inl hc))]
  · rw [hT' 0 (by omega), hT' 18 (by omega), hT' 3 (by omega)]
    exact h.2
theorem PR_he (h : PR dI k T A X G Mc Y O L C K cp tl) : ∃ tr : va_W, tl.Perm ((gCl k A Y K ++ heC k T A) ++ tr) ∧ ∀ K' T', (∀ c, c < 12 ∨ 17 < c → T' c = T c) → PR dI k T' A X G Mc Y O L C K' cp ((gCl k A Y K' ++ heC k T' A) ++ tr) := by
  obtain ⟨tr, h1, h2⟩ := PR_gtx h
  obtain ⟨t2, h3, h4⟩ := TXP_he (PR_TX h)
  refine ⟨t2 ++ tr, ?_, fun K' T' hT' => ?_⟩
  · refine h1.trans ((List.Perm.append_left _ (List.Perm.append_right _ h3)).trans (perm_eq ?_))
    simp only [List.append_assoc]
  · have h5 := h2 K' T' A X G Mc _ (h4 T' hT') rfl
    simpa only [List.append_assoc] using h5
end PR3

theorem mw_477 : (Jvm.Cond.fieldLink "Galleyforge" (54 : Nat) "Galleyforge" "spelledCount" "I") ∈ gt := gt_at 547 (by decide +kernel) (by decide +kernel)
theorem dX11_unspell_0 : decode cX11_unspell 0 = .ok (.aload_n 0, 1) := by decide +kernel
theorem dX11_unspell_1 : decode cX11_unspell 1 = .ok (.getfield 54, 3) := by decide +kernel
theorem dX11_unspell_4 : decode cX11_unspell 4 = .ok (.istore_n 1, 1) := by decide +kernel
theorem dX11_unspell_5 : decode cX11_unspell 5 = .ok (.aload_n 0, 1) := by decide +kernel
theorem dX11_unspell_6 : decode cX11_unspell 6 = .ok (.iconst 0, 1) := by decide +kernel
theorem dX11_unspell_7 : decode cX11_unspell 7 = .ok (.putfield 54, 3) := by decide +kernel
theorem dX11_unspell_10 : decode cX11_unspell 10 = .ok (.iload_n 1, 1) := by decide +kernel
theorem dX11_unspell_11 : decode cX11_unspell 11 = .ok (.ireturn, 1) := by decide +kernel
set_option maxHeartbeats 4000000 in
set_option maxRecDepth 100000 in
theorem k_unspell (l : Launch) (dC : Nat → ClassId) (dI : Nat → Nat → Nat) (k : Nat → ClassId) (T : Nat → Int → Int → Int → Int) (A : Nat → Int → Int → Nat) (X : Nat → Int → Int → Int) (tl : va_W) (G : Nat → Int → Nat) (Mc : Nat → Int → Int) (Y : Nat → Int → Nat) (O : Nat → Nat) (L : Int → Nat → Int → Int) (C : Nat → Int → Int) (K : Nat → Int → Int) (cp : Nat) (hPR : PR dI k T A X G Mc Y O L C K cp tl) (hK : TK T) (hKK : KK T K) : Kn l dC dI k yX11_unspell (.code yX11_unspell cX11_unspell 2 (some .int)) ({ frames := 0, cells := 0, slots := 0, locals := 0 } : Room) [.ref (Y 0 0)] ([] ++ tl) (fun r w gc gs => (∃ (tl2 : va_W), (PR dI k T A X G Mc Y O L C (KKn 0 (K 1) (K 2)) cp tl2) ∧ r = some (.int (iI (K 0 0))) ∧ w = ([] ++ tl2) ∧ gc = 0 ∧ gs = 0)) := by
  refine kn_of (by decide) (Nat.le_of_ble_eq_true rfl) ?_
  intro p e s m args below meth c H locs B hr hnm ls hl
  have hx := B.1.1
  have hb := B.1.2.1
  have hl : lv_has ls 2 [(0, .ref (Y 0 0))] := hl
  have hT := PR_TI hPR
  have hnb0 := TK_nb hK
  have hcp0 : 512 ≤ cp ∧ cp ≤ 131072 := by have q9 := hPR.2.2.2; unfold cpOk at q9; omega
  refine lv_aload_n hx hb dX11_unspell_0 rfl (lv_at hl 0 rfl) ?_
  obtain ⟨k_1, hk_1⟩ := pk_at (hs := []) (show (((Y 0 0), .inr (11, [.ref (A 50 0 0), .ref (Y 1 0), .ref (Y 2 0), .int (iI (K 0 0)), .ref (Y 3 0)])) : Nat × va_E) ∈ tl from PR_m hPR 0 0 rfl rfl)
  refine x_get (ci := 11) (C := RX11) (T := TX11) (N := 5) (v := .int (iI (K 0 0))) B k_1 hk_1 rfl in_X11 3 (by decide) mw_477 (fun _ h9 => h9) rfl dX11_unspell_1 ?_
  have z_2 : 0 ≤ K 0 0 ∧ K 0 0 ≤ 6 := KK_0 hKK
  refine lv_istore_n (lv' := [(1, .int (iI (K 0 0))), (0, .ref (Y 0 0))]) hx hb dX11_unspell_4 rfl hl (by decide) rfl (fun ls hl => ?_)
  refine lv_aload_n hx hb dX11_unspell_5 rfl (lv_at hl 1 rfl) ?_
  refine lv_iconst (v := iI 0) hx hb dX11_unspell_6 (by decide) ?_
  obtain ⟨tr_3, htr_3, btr_3⟩ := PR_gout hPR
  have B := bd_perm (List.Perm.append_left [] htr_3) B
  have B := bd_to (ws' := ([((Y 0 0), .inr (11, [.ref (A 50 0 0), .ref (Y 1 0), .ref (Y 2 0), .int (iI (K 0 0)), .ref (Y 3 0)])), ((Y 1 0), .inl (k 3, 2, .inr (.inr (.inr (.inr (fun i9 : Nat => (fun j9 : Int => some (Y 4 j9)) i9)))))), ((Y 2 0), .inl (k 0, 6, .inl (fun i9 : Nat => iI ((K 1) i9)))), ((Y 3 0), .inl (k 0, 5, .inl (fun i9 : Nat => iI ((K 2) i9))))] ++ tr_3)) rfl B
  refine x_put (ci := 11) (C := RX11) (T := TX11) (N := 5) (ty := .int) (v := .int (iI 0)) B tyX11_ok nmX11 0 rfl rfl in_X11 3 (by decide) mw_477 (fun _ h9 => h9) rfl (by decide +kernel) rfl rfl (Nat.le_of_ble_eq_true rfl) dX11_unspell_7 (fun H locs B => ?_)
  have B := bd_to (ws' := ([((Y 0 0), .inr (11, [.ref (A 50 0 0), .ref (Y 1 0), .ref (Y 2 0), .int (iI 0), .ref (Y 3 0)])), ((Y 1 0), .inl (k 3, 2, .inr (.inr (.inr (.inr (fun i9 : Nat => (fun j9 : Int => some (Y 4 j9)) i9)))))), ((Y 2 0), .inl (k 0, 6, .inl (fun i9 : Nat => iI ((K 1) i9)))), ((Y 3 0), .inl (k 0, 5, .inl (fun i9 : Nat => iI ((K 2) i9))))] ++ tr_3)) rfl B
  refine lv_iload_n hx hb dX11_unspell_10 rfl (lv_at hl 0 rfl) ?_
  have B := bd_to (ws' := ([] ++ (gCl k A Y (KKn 0 (K 1) (K 2)) ++ tr_3))) rfl B
  have hPR : PR dI k T A X G Mc Y O L C (KKn 0 (K 1) (K 2)) cp (gCl k A Y (KKn 0 (K 1) (K 2)) ++ tr_3) := btr_3 (KKn 0 (K 1) (K 2))
  have hT := PR_TI hPR
  exact k_iret B hr (⟨(gCl k A Y (KKn 0 (K 1) (K 2)) ++ tr_3), hPR, rfl, rfl, rfl, rfl⟩) ⟨Nat.le_of_ble_eq_true rfl, Nat.le_of_ble_eq_true rfl⟩ ⟨Nat.le_of_ble_eq_true rfl, Nat.le_of_ble_eq_true rfl⟩ dX11_unspell_11

theorem mw_476 : (Jvm.Cond.fieldLink "Galleyforge" (31 : Nat) "Galleyforge" "spelled" "[I") ∈ gt := gt_at 546 (by decide +kernel) (by decide +kernel)
theorem mw_507 : (Jvm.Cond.fieldLink "Galleyforge" (44 : Nat) "Galleyforge" "LETTER_WIDTHS" "[I") ∈ gt := gt_at 577 (by decide +kernel) (by decide +kernel)
theorem dX11_spell_0 : decode cX11_spell 0 = .ok (.iload_n 1, 1) := by decide +kernel
theorem dX11_spell_1 : decode cX11_spell 1 = .ok (.ifCond .lt 11, 3) := by decide +kernel
theorem dX11_spell_4 : decode cX11_spell 4 = .ok (.iload_n 1, 1) := by decide +kernel
theorem dX11_spell_5 : decode cX11_spell 5 = .ok (.getstatic 44, 3) := by decide +kernel
theorem dX11_spell_8 : decode cX11_spell 8 = .ok (.arraylength, 1) := by decide +kernel
theorem dX11_spell_9 : decode cX11_spell 9 = .ok (.if_icmp .lt 13, 3) := by decide +kernel
theorem dX11_spell_12 : decode cX11_spell 12 = .ok (.new 47, 3) := by decide +kernel
theorem dX11_spell_15 : decode cX11_spell 15 = .ok (.dup, 1) := by decide +kernel
theorem dX11_spell_16 : decode cX11_spell 16 = .ok (.ldc 49, 2) := by decide +kernel
theorem dX11_spell_18 : decode cX11_spell 18 = .ok (.invokespecial 51, 3) := by decide +kernel
theorem dX11_spell_21 : decode cX11_spell 21 = .ok (.athrow, 1) := by decide +kernel
theorem dX11_spell_22 : decode cX11_spell 22 = .ok (.aload_n 0, 1) := by decide +kernel
theorem dX11_spell_23 : decode cX11_spell 23 = .ok (.getfield 54, 3) := by decide +kernel
theorem dX11_spell_26 : decode cX11_spell 26 = .ok (.bipush 6, 2) := by decide +kernel
theorem dX11_spell_28 : decode cX11_spell 28 = .ok (.if_icmp .lt 13, 3) := by decide +kernel
theorem dX11_spell_31 : decode cX11_spell 31 = .ok (.new 58, 3) := by decide +kernel
theorem dX11_spell_34 : decode cX11_spell 34 = .ok (.dup, 1) := by decide +kernel
theorem dX11_spell_35 : decode cX11_spell 35 = .ok (.ldc 60, 2) := by decide +kernel
theorem dX11_spell_37 : decode cX11_spell 37 = .ok (.invokespecial 62, 3) := by decide +kernel
theorem dX11_spell_40 : decode cX11_spell 40 = .ok (.athrow, 1) := by decide +kernel
theorem dX11_spell_41 : decode cX11_spell 41 = .ok (.aload_n 0, 1) := by decide +kernel
theorem dX11_spell_42 : decode cX11_spell 42 = .ok (.getfield 31, 3) := by decide +kernel
theorem dX11_spell_45 : decode cX11_spell 45 = .ok (.aload_n 0, 1) := by decide +kernel
theorem dX11_spell_46 : decode cX11_spell 46 = .ok (.getfield 54, 3) := by decide +kernel
theorem dX11_spell_49 : decode cX11_spell 49 = .ok (.iload_n 1, 1) := by decide +kernel
theorem dX11_spell_50 : decode cX11_spell 50 = .ok (.iastore, 1) := by decide +kernel
theorem dX11_spell_51 : decode cX11_spell 51 = .ok (.aload_n 0, 1) := by decide +kernel
theorem dX11_spell_52 : decode cX11_spell 52 = .ok (.dup, 1) := by decide +kernel
theorem dX11_spell_53 : decode cX11_spell 53 = .ok (.getfield 54, 3) := by decide +kernel
theorem dX11_spell_56 : decode cX11_spell 56 = .ok (.iconst 1, 1) := by decide +kernel
theorem dX11_spell_57 : decode cX11_spell 57 = .ok (.iadd, 1) := by decide +kernel
theorem dX11_spell_58 : decode cX11_spell 58 = .ok (.putfield 54, 3) := by decide +kernel
theorem dX11_spell_61 : decode cX11_spell 61 = .ok (.aload_n 0, 1) := by decide +kernel
theorem dX11_spell_62 : decode cX11_spell 62 = .ok (.getfield 54, 3) := by decide +kernel
theorem dX11_spell_65 : decode cX11_spell 65 = .ok (.ireturn, 1) := by decide +kernel
set_option maxHeartbeats 4000000 in
set_option maxRecDepth 100000 in
theorem k_spell (l : Launch) (dC : Nat → ClassId) (dI : Nat → Nat → Nat) (k : Nat → ClassId) (hl0 : l.stackTraces = false) (T : Nat → Int → Int → Int → Int) (A : Nat → Int → Int → Nat) (X : Nat → Int → Int → Int) (tl : va_W) (G : Nat → Int → Nat) (Mc : Nat → Int → Int) (Y : Nat → Int → Nat) (O : Nat → Nat) (L : Int → Nat → Int → Int) (C : Nat → Int → Int) (K : Nat → Int → Int) (cp : Nat) (le : Int) (hPR : PR dI k T A X G Mc Y O L C K cp tl) (hK : TK T) (hKK : KK T K) (hrle : -2147483648 ≤ le ∧ le < 2147483648) : Kx l dC dI k yX11_spell (.code yX11_spell cX11_spell 2 (some .int)) ({ frames := 6, cells := 1, slots := 6, locals := 82 } : Room) [.ref (Y 0 0), .int (iI le)] ([] ++ tl) (fun r w gc gs => (∃ (tl2 : va_W), (PR dI k T A X G Mc Y O L C (KKn (K 0 0 + 1) (uz (K 1) (K 0 0) le) (K 2)) cp tl2) ∧ ((0 ≤ le ∧ le ≤ 3) ∧ K 0 0 < 6) ∧ r = some (.int (iI (K 0 0 + 1))) ∧ w = ([] ++ tl2) ∧ gc = 1 ∧ gs = 6)) (fun E w gc gs => ((¬ (0 ≤ le ∧ le ≤ 3)) ∧ E = "java/lang/IndexOutOfBoundsException" ∧ w = ([] ++ tl) ∧ gc = 1 ∧ gs = 6) ∨ (((0 ≤ le ∧ le ≤ 3) ∧ ¬ K 0 0 < 6) ∧ E = "java/lang/IllegalStateException" ∧ w = ([] ++ tl) ∧ gc = 1 ∧ gs = 6)) := by
  refine kx_of (by decide) (Nat.le_of_ble_eq_true rfl) ?_
  intro p e s m args below meth c H locs B hr hex ls hl
  have hx := B.1.1
  have hb := B.1.2.1
  have hl : lv_has ls 2 [(0, .ref (Y 0 0)), (1, .int (iI le))] := hl
  have hT := PR_TI hPR
  have hnb0 := TK_nb hK
  have hcp0 : 512 ≤ cp ∧ cp ≤ 131072 := by have q9 := hPR.2.2.2; unfold cpOk at q9; omega
  refine lv_iload_n hx hb dX11_spell_0 rfl (lv_at hl 1 rfl) ?_
  refine lv_if_lt (tgt := 12) hx hb dX11_spell_1 (by decide) (fun c_1 => ?_) (fun c_1 => ?_)
  · have zc_1 : le < 0 := jlt (a := le) (b := 0) (by omega) (by omega) c_1
    exact k_thrG (tx := "no such letter") xE_ioobe (Or.inl (⟨(by omega), rfl, rfl, rfl, rfl⟩)) ⟨Nat.le_of_ble_eq_true rfl, Nat.le_of_ble_eq_true rfl⟩ hl0 B hex hl (by decide +kernel) dX11_spell_12 dX11_spell_15 dX11_spell_16 dX11_spell_18 dX11_spell_21 ⟨Nat.le_of_ble_eq_true rfl, Nat.le_of_ble_eq_true rfl, Nat.le_of_ble_eq_true rfl, Nat.le_of_ble_eq_true rfl⟩ ⟨Nat.le_of_ble_eq_true rfl, Nat.le_of_ble_eq_true rfl⟩
  · have zc_1 : 0 ≤ le := jnlt (a := le) (b := 0) (by omega) (by omega) c_1
    refine lv_iload_n hx hb dX11_spell_4 rfl (lv_at hl 1 rfl) ?_
    obtain ⟨lw, hlw1, hlw2⟩ := B.2.1.2.2.2.2.1
    refine va_gets hx hb hlw1 B.2.2.2.2.2 B.1.2.2.2.1 (B.1.2.2.2.2.1 _ mw_507) (fun _ h9 => h9) dX11_spell_5 ?_
    refine x_lwlen B hlw2 dX11_spell_8 ?_
    refine lv_icmp_lt (tgt := 22) hx hb dX11_spell_9 (by decide) (fun c_2 => ?_) (fun c_2 => ?_)
    · have zc_2 : le < 4 := jlt (a := le) (b := 4) (by omega) (by omega) c_2
      refine lv_aload_n hx hb dX11_spell_22 rfl (lv_at hl 0 rfl) ?_
      obtain ⟨k_3, hk_3⟩ := pk_at (hs := []) (show (((Y 0 0), .inr (11, [.ref (A 50 0 0), .ref (Y 1 0), .ref (Y 2 0), .int (iI (K 0 0)), .ref (Y 3 0)])) : Nat × va_E) ∈ tl from PR_m hPR 0 0 rfl rfl)
      refine x_get (ci := 11) (C := RX11) (T := TX11) (N := 5) (v := .int (iI (K 0 0))) B k_3 hk_3 rfl in_X11 3 (by decide) mw_477 (fun _ h9 => h9) rfl dX11_spell_23 ?_
      have z_4 : 0 ≤ K 0 0 ∧ K 0 0 ≤ 6 := KK_0 hKK
      refine lv_bipush (v := iI 6) hx hb dX11_spell_26 (by decide) ?_
      refine lv_icmp_lt (tgt := 41) hx hb dX11_spell_28 (by decide) (fun c_5 => ?_) (fun c_5 => ?_)
      · have zc_5 : (K 0 0) < 6 := jlt (a := (K 0 0)) (b := 6) (by omega) (by omega) c_5
        refine lv_aload_n hx hb dX11_spell_41 rfl (lv_at hl 0 rfl) ?_
        obtain ⟨k_6, hk_6⟩ := pk_at (hs := []) (show (((Y 0 0), .inr (11, [.ref (A 50 0 0), .ref (Y 1 0), .ref (Y 2 0), .int (iI (K 0 0)), .ref (Y 3 0)])) : Nat × va_E) ∈ tl from PR_m hPR 0 0 rfl rfl)
        refine x_get (ci := 11) (C := RX11) (T := TX11) (N := 5) (v := .ref (Y 2 0)) B k_6 hk_6 rfl in_X11 2 (by decide) mw_476 (fun _ h9 => h9) rfl dX11_spell_42 ?_
        refine lv_aload_n hx hb dX11_spell_45 rfl (lv_at hl 0 rfl) ?_
        obtain ⟨k_7, hk_7⟩ := pk_at (hs := []) (show (((Y 0 0), .inr (11, [.ref (A 50 0 0), .ref (Y 1 0), .ref (Y 2 0), .int (iI (K 0 0)), .ref (Y 3 0)])) : Nat × va_E) ∈ tl from PR_m hPR 0 0 rfl rfl)
        refine x_get (ci := 11) (C := RX11) (T := TX11) (N := 5) (v := .int (iI (K 0 0))) B k_7 hk_7 rfl in_X11 3 (by decide) mw_477 (fun _ h9 => h9) rfl dX11_spell_46 ?_
        have z_8 : 0 ≤ K 0 0 ∧ K 0 0 ≤ 6 := KK_0 hKK
        refine lv_iload_n hx hb dX11_spell_49 rfl (lv_at hl 1 rfl) ?_
        obtain ⟨tr_9, htr_9, btr_9⟩ := PR_gout hPR
        have B := bd_perm (List.Perm.append_left [] htr_9) B
        have B := bd_to (ws' := ([((Y 0 0), .inr (11, [.ref (A 50 0 0), .ref (Y 1 0), .ref (Y 2 0), .int (iI (K 0 0)), .ref (Y 3 0)])), ((Y 1 0), .inl (k 3, 2, .inr (.inr (.inr (.inr (fun i9 : Nat => (fun j9 : Int => some (Y 4 j9)) i9)))))), ((Y 2 0), .inl (k 0, 6, .inl (fun i9 : Nat => iI ((K 1) i9)))), ((Y 3 0), .inl (k 0, 5, .inl (fun i9 : Nat => iI ((K 2) i9))))] ++ tr_9)) rfl B
        refine x_iast' (f := (K 1)) (z := (K 0 0)) (v := le) B 2 rfl (by omega) dX11_spell_50 (fun H locs B => ?_)
        have B := bd_to (ws' := ([((Y 0 0), .inr (11, [.ref (A 50 0 0), .ref (Y 1 0), .ref (Y 2 0), .int (iI (K 0 0)), .ref (Y 3 0)])), ((Y 1 0), .inl (k 3, 2, .inr (.inr (.inr (.inr (fun i9 : Nat => (fun j9 : Int => some (Y 4 j9)) i9)))))), ((Y 2 0), .inl (k 0, 6, .inl (fun i9 : Nat => iI ((uz (K 1) (K 0 0) le) i9)))), ((Y 3 0), .inl (k 0, 5, .inl (fun i9 : Nat => iI ((K 2) i9))))] ++ tr_9)) rfl B
        refine lv_aload_n hx hb dX11_spell_51 rfl (lv_at hl 0 rfl) ?_
        refine lv_dup hx hb dX11_spell_52 rfl ?_
        refine x_get (ci := 11) (C := RX11) (T := TX11) (N := 5) (v := .int (iI (K 0 0))) B 0 rfl rfl in_X11 3 (by decide) mw_477 (fun _ h9 => h9) rfl dX11_spell_53 ?_
        refine lv_iconst (v := iI 1) hx hb dX11_spell_56 (by decide) ?_
        refine y_add hx hb dX11_spell_57 ?_
        refine x_put (ci := 11) (C := RX11) (T := TX11) (N := 5) (ty := .int) (v := .int (iI ((K 0 0) + 1))) B tyX11_ok nmX11 0 rfl rfl in_X11 3 (by decide) mw_477 (fun _ h9 => h9) rfl (by decide +kernel) rfl rfl (Nat.le_of_ble_eq_true rfl) dX11_spell_58 (fun H locs B => ?_)
        have B := bd_to (ws' := ([((Y 0 0), .inr (11, [.ref (A 50 0 0), .ref (Y 1 0), .ref (Y 2 0), .int (iI ((K 0 0) + 1)), .ref (Y 3 0)])), ((Y 1 0), .inl (k 3, 2, .inr (.inr (.inr (.inr (fun i9 : Nat => (fun j9 : Int => some (Y 4 j9)) i9)))))), ((Y 2 0), .inl (k 0, 6, .inl (fun i9 : Nat => iI ((uz (K 1) (K 0 0) le) i9)))), ((Y 3 0), .inl (k 0, 5, .inl (fun i9 : Nat => iI ((K 2) i9))))] ++ tr_9)) rfl B
        refine lv_aload_n hx hb dX11_spell_61 rfl (lv_at hl 0 rfl) ?_
        refine x_get (ci := 11) (C := RX11) (T := TX11) (N := 5) (v := .int (iI ((K 0 0) + 1))) B 0 rfl rfl in_X11 3 (by decide) mw_477 (fun _ h9 => h9) rfl dX11_spell_62 ?_
        have B := bd_to (ws' := ([] ++ (gCl k A Y (KKn ((K 0 0) + 1) (uz (K 1) (K 0 0) le) (K 2)) ++ tr_9))) rfl B
        have hPR : PR dI k T A X G Mc Y O L C (KKn ((K 0 0) + 1) (uz (K 1) (K 0 0) le) (K 2)) cp (gCl k A Y (KKn ((K 0 0) + 1) (uz (K 1) (K 0 0) le) (K 2)) ++ tr_9) := btr_9 (KKn ((K 0 0) + 1) (uz (K 1) (K 0 0) le) (K 2))
        have hT := PR_TI hPR
        have e_10 : (K 0 0 + 1) = ((K 0 0) + 1) := (by first | rfl | omega)
        skip
        exact vx_ret (k_iret B hr (⟨(gCl k A Y (KKn ((K 0 0) + 1) (uz (K 1) (K 0 0) le) (K 2)) ++ tr_9), hPR, (by omega), (by rw [e_10]), rfl, rfl, rfl⟩) ⟨Nat.le_of_ble_eq_true rfl, Nat.le_of_ble_eq_true rfl⟩ ⟨Nat.le_of_ble_eq_true rfl, Nat.le_of_ble_eq_true rfl⟩ dX11_spell_65)
      · have zc_5 : 6 ≤ (K 0 0) := jnlt (a := (K 0 0)) (b := 6) (by omega) (by omega) c_5
        exact k_thrG (tx := "six letters are spelled") xE_ise (Or.inr (⟨(by omega), rfl, rfl, rfl, rfl⟩)) ⟨Nat.le_of_ble_eq_true rfl, Nat.le_of_ble_eq_true rfl⟩ hl0 B hex hl (by decide +kernel) dX11_spell_31 dX11_spell_34 dX11_spell_35 dX11_spell_37 dX11_spell_40 ⟨Nat.le_of_ble_eq_true rfl, Nat.le_of_ble_eq_true rfl, Nat.le_of_ble_eq_true rfl, Nat.le_of_ble_eq_true rfl⟩ ⟨Nat.le_of_ble_eq_true rfl, Nat.le_of_ble_eq_true rfl⟩
    · have zc_2 : 4 ≤ le := jnlt (a := le) (b := 4) (by omega) (by omega) c_2
      exact k_thrG (tx := "no such letter") xE_ioobe (Or.inl (⟨(by omega), rfl, rfl, rfl, rfl⟩)) ⟨Nat.le_of_ble_eq_true rfl, Nat.le_of_ble_eq_true rfl⟩ hl0 B hex hl (by decide +kernel) dX11_spell_12 dX11_spell_15 dX11_spell_16 dX11_spell_18 dX11_spell_21 ⟨Nat.le_of_ble_eq_true rfl, Nat.le_of_ble_eq_true rfl, Nat.le_of_ble_eq_true rfl, Nat.le_of_ble_eq_true rfl⟩ ⟨Nat.le_of_ble_eq_true rfl, Nat.le_of_ble_eq_true rfl⟩

/-- the least and the most of a mark, of a style -/
def lmZ (a : Int) : Int := if a = 0 then 1 else 0
def mmZ (T : Nat → Int → Int → Int → Int) (a : Int) : Int := if a = 0 then 5 else if a = 1 then T 12 0 0 0 - 1 else if a = 2 then 5 else if a = 3 then 7 else 1
theorem lmZ_in {a : Int} : 0 ≤ lmZ a ∧ lmZ a ≤ 1 := by unfold lmZ; split <;> omega
theorem mmZ_in {T : Nat → Int → Int → Int → Int} (h : TK T) {a : Int} : -1 ≤ mmZ T a ∧ mmZ T a ≤ 7 := by
  have := TK_fc h
  unfold mmZ
  repeat' split
  all_goals omega

theorem dX11_leastMark_0 : decode cX11_leastMark 0 = .ok (.iload_n 0, 1) := by decide +kernel
theorem dX11_leastMark_1 : decode cX11_leastMark 1 = .ok (.ifCond .ne 7, 3) := by decide +kernel
theorem dX11_leastMark_4 : decode cX11_leastMark 4 = .ok (.iconst 1, 1) := by decide +kernel
theorem dX11_leastMark_5 : decode cX11_leastMark 5 = .ok (.goto 4, 3) := by decide +kernel
theorem dX11_leastMark_8 : decode cX11_leastMark 8 = .ok (.iconst 0, 1) := by decide +kernel
theorem dX11_leastMark_9 : decode cX11_leastMark 9 = .ok (.ireturn, 1) := by decide +kernel
set_option maxHeartbeats 4000000 in
set_option maxRecDepth 100000 in
theorem k_leastMark (l : Launch) (dC : Nat → ClassId) (dI : Nat → Nat → Nat) (k : Nat → ClassId) (wt : Int) (hwt : 0 ≤ wt ∧ wt ≤ 4) : Kn l dC dI k yX11_leastMark (.code yX11_leastMark cX11_leastMark 1 (some .int)) ({ frames := 0, cells := 0, slots := 0, locals := 0 } : Room) [.int (iI wt)] [] (fun r w gc gs => ((0 ≤ lmZ wt ∧ lmZ wt ≤ 1) ∧ r = some (.int (iI (lmZ wt))) ∧ w = [] ∧ gc = 0 ∧ gs = 0)) := by
  refine kn_of (by decide) (Nat.le_of_ble_eq_true rfl) ?_
  intro p e s m args below meth c H locs B hr hnm ls hl
  have hx := B.1.1
  have hb := B.1.2.1
  have hl : lv_has ls 1 [(0, .int (iI wt))] := hl
  refine lv_iload_n hx hb dX11_leastMark_0 rfl (lv_at hl 0 rfl) ?_
  refine lv_if_ne (tgt := 8) hx hb dX11_leastMark_1 (by decide) (fun c_1 => ?_) (fun c_1 => ?_)
  · have zc_1 : wt ≠ 0 := jne (a := wt) (b := 0) (by omega) (by omega) c_1
    refine lv_iconst (v := iI 0) hx hb dX11_leastMark_8 (by decide) ?_
    have e_2 : (lmZ wt) = 0 := (by unfold lmZ; first | (rw [if_pos (by omega)]; done) | (rw [if_neg (by omega)]; done) | (simp only [if_neg, if_pos, *]; done) | (repeat' (split <;> first | omega | rfl)))
    skip
    exact k_iret B hr (⟨lmZ_in, (by rw [e_2]), rfl, rfl, rfl⟩) ⟨Nat.le_of_ble_eq_true rfl, Nat.le_of_ble_eq_true rfl⟩ ⟨Nat.le_of_ble_eq_true rfl, Nat.le_of_ble_eq_true rfl⟩ dX11_leastMark_9
  · have zc_1 : wt = 0 := jeq (a := wt) (b := 0) (by omega) (by omega) c_1
    refine lv_iconst (v := iI 1) hx hb dX11_leastMark_4 (by decide) ?_
    refine lv_goto (tgt := 9) hx hb dX11_leastMark_5 (by decide) ?_
    have e_3 : (lmZ wt) = 1 := (by unfold lmZ; first | (rw [if_pos (by omega)]; done) | (rw [if_neg (by omega)]; done) | (simp only [if_neg, if_pos, *]; done) | (repeat' (split <;> first | omega | rfl)))
    skip
    exact k_iret B hr (⟨lmZ_in, (by rw [e_3]), rfl, rfl, rfl⟩) ⟨Nat.le_of_ble_eq_true rfl, Nat.le_of_ble_eq_true rfl⟩ ⟨Nat.le_of_ble_eq_true rfl, Nat.le_of_ble_eq_true rfl⟩ dX11_leastMark_9

theorem dX11_mostMark_0 : decode cX11_mostMark 0 = .ok (.iload_n 1, 1) := by decide +kernel
theorem dX11_mostMark_1 : decode cX11_mostMark 1 = .ok (.tableswitch 48 0 3 #[31, 33, 43, 45], 31) := by decide +kernel
theorem dX11_mostMark_32 : decode cX11_mostMark 32 = .ok (.iconst 5, 1) := by decide +kernel
theorem dX11_mostMark_33 : decode cX11_mostMark 33 = .ok (.ireturn, 1) := by decide +kernel
theorem dX11_mostMark_34 : decode cX11_mostMark 34 = .ok (.aload_n 0, 1) := by decide +kernel
theorem dX11_mostMark_35 : decode cX11_mostMark 35 = .ok (.getfield 12, 3) := by decide +kernel
theorem dX11_mostMark_38 : decode cX11_mostMark 38 = .ok (.getfield 205, 3) := by decide +kernel
theorem dX11_mostMark_41 : decode cX11_mostMark 41 = .ok (.iconst 1, 1) := by decide +kernel
theorem dX11_mostMark_42 : decode cX11_mostMark 42 = .ok (.isub, 1) := by decide +kernel
theorem dX11_mostMark_43 : decode cX11_mostMark 43 = .ok (.ireturn, 1) := by decide +kernel
theorem dX11_mostMark_44 : decode cX11_mostMark 44 = .ok (.iconst 5, 1) := by decide +kernel
theorem dX11_mostMark_45 : decode cX11_mostMark 45 = .ok (.ireturn, 1) := by decide +kernel
theorem dX11_mostMark_46 : decode cX11_mostMark 46 = .ok (.bipush 7, 2) := by decide +kernel
theorem dX11_mostMark_48 : decode cX11_mostMark 48 = .ok (.ireturn, 1) := by decide +kernel
theorem dX11_mostMark_49 : decode cX11_mostMark 49 = .ok (.iconst 1, 1) := by decide +kernel
theorem dX11_mostMark_50 : decode cX11_mostMark 50 = .ok (.ireturn, 1) := by decide +kernel
set_option maxHeartbeats 4000000 in
set_option maxRecDepth 100000 in
theorem k_mostMark (l : Launch) (dC : Nat → ClassId) (dI : Nat → Nat → Nat) (k : Nat → ClassId) (T : Nat → Int → Int → Int → Int) (A : Nat → Int → Int → Nat) (X : Nat → Int → Int → Int) (tl : va_W) (G : Nat → Int → Nat) (Mc : Nat → Int → Int) (Y : Nat → Int → Nat) (O : Nat → Nat) (L : Int → Nat → Int → Int) (C : Nat → Int → Int) (K : Nat → Int → Int) (cp : Nat) (wt : Int) (hPR : PR dI k T A X G Mc Y O L C K cp tl) (hK : TK T) (hwt : 0 ≤ wt ∧ wt ≤ 4) : Kn l dC dI k yX11_mostMark (.code yX11_mostMark cX11_mostMark 2 (some .int)) ({ frames := 0, cells := 0, slots := 0, locals := 0 } : Room) [.ref (Y 0 0), .int (iI wt)] ([] ++ tl) (fun r w gc gs => ((-1 ≤ mmZ T wt ∧ mmZ T wt ≤ 7) ∧ r = some (.int (iI (mmZ T wt))) ∧ w = ([] ++ tl) ∧ gc = 0 ∧ gs = 0)) := by
  refine kn_of (by decide) (Nat.le_of_ble_eq_true rfl) ?_
  intro p e s m args below meth c H locs B hr hnm ls hl
  have hx := B.1.1
  have hb := B.1.2.1
  have hl : lv_has ls 2 [(0, .ref (Y 0 0)), (1, .int (iI wt))] := hl
  have hT := PR_TI hPR
  have hnb0 := TK_nb hK
  have hcp0 : 512 ≤ cp ∧ cp ≤ 131072 := by have q9 := hPR.2.2.2; unfold cpOk at q9; omega
  refine lv_iload_n hx hb dX11_mostMark_0 rfl (lv_at hl 1 rfl) ?_
  have zc_1 : wt = 0 ∨ wt = 1 ∨ wt = 2 ∨ wt = 3 ∨ wt = 4 := by omega
  rcases zc_1 with zc_1 | zc_1 | zc_1 | zc_1 | zc_1
  · refine lv_seti (y := iI 0) (congrArg iI zc_1) ?_
    refine lv_tableIn (off := 31) (tgt := 32) hx hb dX11_mostMark_1 (by decide) (by decide) (by decide) (by decide) ?_
    refine lv_iconst (v := iI 5) hx hb dX11_mostMark_32 (by decide) ?_
    have e_2 : (mmZ T wt) = 5 := (by unfold mmZ; first | (rw [if_pos (by omega)]; done) | (rw [if_neg (by omega)]; done) | (simp only [if_neg, if_pos, *]; done) | (repeat' (split <;> first | omega | rfl)))
    skip
    exact k_iret B hr (⟨(mmZ_in hK), (by rw [e_2]), rfl, rfl, rfl⟩) ⟨Nat.le_of_ble_eq_true rfl, Nat.le_of_ble_eq_true rfl⟩ ⟨Nat.le_of_ble_eq_true rfl, Nat.le_of_ble_eq_true rfl⟩ dX11_mostMark_33
  · refine lv_seti (y := iI 1) (congrArg iI zc_1) ?_
    refine lv_tableIn (off := 33) (tgt := 34) hx hb dX11_mostMark_1 (by decide) (by decide) (by decide) (by decide) ?_
    refine lv_aload_n hx hb dX11_mostMark_34 rfl (lv_at hl 0 rfl) ?_
    obtain ⟨k_3, hk_3⟩ := pk_at (hs := []) (show (((Y 0 0), .inr (11, [.ref (A 50 0 0), .ref (Y 1 0), .ref (Y 2 0), .int (iI (K 0 0)), .ref (Y 3 0)])) : Nat × va_E) ∈ tl from PR_m hPR 0 0 rfl rfl)
    refine x_get (ci := 11) (C := RX11) (T := TX11) (N := 5) (v := .ref (A 50 0 0)) B k_3 hk_3 rfl in_X11 0 (by decide) mw_474 (fun _ h9 => h9) rfl dX11_mostMark_35 ?_
    obtain ⟨k_4, hk_4⟩ := pk_at (hs := []) hT.1.1
    refine x_get (ci := 9) (C := RX9) (T := TX9) (N := 8) (v := .int (iI (T 12 0 0 0))) B k_4 hk_4 rfl in_X9 4 (by decide) mw_90 (fun _ h9 => h9) rfl dX11_mostMark_38 ?_
    have z_5 : 0 ≤ T 12 0 0 0 ∧ T 12 0 0 0 ≤ 5 := TK_fc hK
    refine lv_iconst (v := iI 1) hx hb dX11_mostMark_41 (by decide) ?_
    refine y_sub hx hb dX11_mostMark_42 ?_
    have e_6 : (mmZ T wt) = ((T 12 0 0 0) - 1) := (by unfold mmZ; first | (rw [if_pos (by omega)]; done) | (rw [if_neg (by omega)]; done) | (simp only [if_neg, if_pos, *]; done) | (repeat' (split <;> first | omega | rfl)))
    skip
    exact k_iret B hr (⟨(mmZ_in hK), (by rw [e_6]), rfl, rfl, rfl⟩) ⟨Nat.le_of_ble_eq_true rfl, Nat.le_of_ble_eq_true rfl⟩ ⟨Nat.le_of_ble_eq_true rfl, Nat.le_of_ble_eq_true rfl⟩ dX11_mostMark_43
  · refine lv_seti (y := iI 2) (congrArg iI zc_1) ?_
    refine lv_tableIn (off := 43) (tgt := 44) hx hb dX11_mostMark_1 (by decide) (by decide) (by decide) (by decide) ?_
    refine lv_iconst (v := iI 5) hx hb dX11_mostMark_44 (by decide) ?_
    have e_7 : (mmZ T wt) = 5 := (by unfold mmZ; first | (rw [if_pos (by omega)]; done) | (rw [if_neg (by omega)]; done) | (simp only [if_neg, if_pos, *]; done) | (repeat' (split <;> first | omega | rfl)))
    skip
    exact k_iret B hr (⟨(mmZ_in hK), (by rw [e_7]), rfl, rfl, rfl⟩) ⟨Nat.le_of_ble_eq_true rfl, Nat.le_of_ble_eq_true rfl⟩ ⟨Nat.le_of_ble_eq_true rfl, Nat.le_of_ble_eq_true rfl⟩ dX11_mostMark_45
  · refine lv_seti (y := iI 3) (congrArg iI zc_1) ?_
    refine lv_tableIn (off := 45) (tgt := 46) hx hb dX11_mostMark_1 (by decide) (by decide) (by decide) (by decide) ?_
    refine lv_bipush (v := iI 7) hx hb dX11_mostMark_46 (by decide) ?_
    have e_8 : (mmZ T wt) = 7 := (by unfold mmZ; first | (rw [if_pos (by omega)]; done) | (rw [if_neg (by omega)]; done) | (simp only [if_neg, if_pos, *]; done) | (repeat' (split <;> first | omega | rfl)))
    skip
    exact k_iret B hr (⟨(mmZ_in hK), (by rw [e_8]), rfl, rfl, rfl⟩) ⟨Nat.le_of_ble_eq_true rfl, Nat.le_of_ble_eq_true rfl⟩ ⟨Nat.le_of_ble_eq_true rfl, Nat.le_of_ble_eq_true rfl⟩ dX11_mostMark_48
  · refine lv_seti (y := iI 4) (congrArg iI zc_1) ?_
    refine lv_tableOut (tgt := 49) hx hb dX11_mostMark_1 (by decide) (by decide) ?_
    refine lv_iconst (v := iI 1) hx hb dX11_mostMark_49 (by decide) ?_
    have e_9 : (mmZ T wt) = 1 := (by unfold mmZ; first | (rw [if_pos (by omega)]; done) | (rw [if_neg (by omega)]; done) | (simp only [if_neg, if_pos, *]; done) | (repeat' (split <;> first | omega | rfl)))
    skip
    exact k_iret B hr (⟨(mmZ_in hK), (by rw [e_9]), rfl, rfl, rfl⟩) ⟨Nat.le_of_ble_eq_true rfl, Nat.le_of_ble_eq_true rfl⟩ ⟨Nat.le_of_ble_eq_true rfl, Nat.le_of_ble_eq_true rfl⟩ dX11_mostMark_50

theorem mw_478 : (Jvm.Cond.fieldLink "Galleyforge" (35 : Nat) "Galleyforge" "drafted" "[I") ∈ gt := gt_at 548 (by decide +kernel) (by decide +kernel)
theorem mw_604 : (Jvm.Cond.methodLink "Galleyforge" (65 : Nat) ({ cls := "Galleyforge", name := "leastMark", desc := "(I)I" } : Jvm.MethodName)) ∈ gt := gt_at 674 (by decide +kernel) (by decide +kernel)
theorem mw_605 : (Jvm.Cond.static ({ cls := "Galleyforge", name := "leastMark", desc := "(I)I" } : Jvm.MethodName)) ∈ gt := gt_at 675 (by decide +kernel) (by decide +kernel)
theorem mw_606 : (Jvm.Cond.code ({ cls := "Galleyforge", name := "leastMark", desc := "(I)I" } : Jvm.MethodName) prog_1_method_55_code (1 : Nat) (Option.some Jvm.ClassFile.FieldType.int)) ∈ gt := gt_at 676 (by decide +kernel) (by decide +kernel)
theorem mw_607 : (Jvm.Cond.methodLink "Galleyforge" (69 : Nat) ({ cls := "Galleyforge", name := "mostMark", desc := "(I)I" } : Jvm.MethodName)) ∈ gt := gt_at 677 (by decide +kernel) (by decide +kernel)
theorem mw_609 : (Jvm.Cond.instanceMethod ({ cls := "Galleyforge", name := "mostMark", desc := "(I)I" } : Jvm.MethodName)) ∈ gt := gt_at 679 (by decide +kernel) (by decide +kernel)
theorem mw_610 : (Jvm.Cond.code ({ cls := "Galleyforge", name := "mostMark", desc := "(I)I" } : Jvm.MethodName) prog_1_method_56_code (2 : Nat) (Option.some Jvm.ClassFile.FieldType.int)) ∈ gt := gt_at 680 (by decide +kernel) (by decide +kernel)
theorem mS_X11_leastMark : mS yX11_leastMark cX11_leastMark 1 (some .int) 1 := ⟨⟨mw_606, mw_1, by decide, by decide, by decide +kernel⟩, mw_605⟩
theorem ms_1 : Cond.selects "Galleyforge" (⟨"Galleyforge", "mostMark", "(I)I"⟩ : MethodName) (⟨"Galleyforge", "mostMark", "(I)I"⟩ : MethodName) ∈ gt := gt_at 1 (by decide +kernel) (by decide +kernel)
theorem mV_X11_mostMark : mV yX11_mostMark cX11_mostMark 2 (some .int) 1 := ⟨⟨mw_610, mw_1, by decide, by decide, by decide +kernel⟩, mw_609, ms_1⟩
theorem dX11_mark_0 : decode cX11_mark 0 = .ok (.iload_n 1, 1) := by decide +kernel
theorem dX11_mark_1 : decode cX11_mark 1 = .ok (.ifCond .lt 8, 3) := by decide +kernel
theorem dX11_mark_4 : decode cX11_mark 4 = .ok (.iload_n 1, 1) := by decide +kernel
theorem dX11_mark_5 : decode cX11_mark 5 = .ok (.iconst 4, 1) := by decide +kernel
theorem dX11_mark_6 : decode cX11_mark 6 = .ok (.if_icmp .le 13, 3) := by decide +kernel
theorem dX11_mark_9 : decode cX11_mark 9 = .ok (.new 47, 3) := by decide +kernel
theorem dX11_mark_12 : decode cX11_mark 12 = .ok (.dup, 1) := by decide +kernel
theorem dX11_mark_13 : decode cX11_mark 13 = .ok (.ldc 63, 2) := by decide +kernel
theorem dX11_mark_15 : decode cX11_mark 15 = .ok (.invokespecial 51, 3) := by decide +kernel
theorem dX11_mark_18 : decode cX11_mark 18 = .ok (.athrow, 1) := by decide +kernel
theorem dX11_mark_19 : decode cX11_mark 19 = .ok (.iload_n 2, 1) := by decide +kernel
theorem dX11_mark_20 : decode cX11_mark 20 = .ok (.iconst (-1), 1) := by decide +kernel
theorem dX11_mark_21 : decode cX11_mark 21 = .ok (.if_icmp .eq 30, 3) := by decide +kernel
theorem dX11_mark_24 : decode cX11_mark 24 = .ok (.iload_n 2, 1) := by decide +kernel
theorem dX11_mark_25 : decode cX11_mark 25 = .ok (.iload_n 1, 1) := by decide +kernel
theorem dX11_mark_26 : decode cX11_mark 26 = .ok (.invokestatic 65, 3) := by decide +kernel
theorem dX11_mark_29 : decode cX11_mark 29 = .ok (.if_icmp .lt 12, 3) := by decide +kernel
theorem dX11_mark_32 : decode cX11_mark 32 = .ok (.iload_n 2, 1) := by decide +kernel
theorem dX11_mark_33 : decode cX11_mark 33 = .ok (.aload_n 0, 1) := by decide +kernel
theorem dX11_mark_34 : decode cX11_mark 34 = .ok (.iload_n 1, 1) := by decide +kernel
theorem dX11_mark_35 : decode cX11_mark 35 = .ok (.invokevirtual 69, 3) := by decide +kernel
theorem dX11_mark_38 : decode cX11_mark 38 = .ok (.if_icmp .le 13, 3) := by decide +kernel
theorem dX11_mark_41 : decode cX11_mark 41 = .ok (.new 72, 3) := by decide +kernel
theorem dX11_mark_44 : decode cX11_mark 44 = .ok (.dup, 1) := by decide +kernel
theorem dX11_mark_45 : decode cX11_mark 45 = .ok (.ldc 74, 2) := by decide +kernel
theorem dX11_mark_47 : decode cX11_mark 47 = .ok (.invokespecial 76, 3) := by decide +kernel
theorem dX11_mark_50 : decode cX11_mark 50 = .ok (.athrow, 1) := by decide +kernel
theorem dX11_mark_51 : decode cX11_mark 51 = .ok (.aload_n 0, 1) := by decide +kernel
theorem dX11_mark_52 : decode cX11_mark 52 = .ok (.getfield 35, 3) := by decide +kernel
theorem dX11_mark_55 : decode cX11_mark 55 = .ok (.iload_n 1, 1) := by decide +kernel
theorem dX11_mark_56 : decode cX11_mark 56 = .ok (.iaload, 1) := by decide +kernel
theorem dX11_mark_57 : decode cX11_mark 57 = .ok (.istore_n 3, 1) := by decide +kernel
theorem dX11_mark_58 : decode cX11_mark 58 = .ok (.aload_n 0, 1) := by decide +kernel
theorem dX11_mark_59 : decode cX11_mark 59 = .ok (.getfield 35, 3) := by decide +kernel
theorem dX11_mark_62 : decode cX11_mark 62 = .ok (.iload_n 1, 1) := by decide +kernel
theorem dX11_mark_63 : decode cX11_mark 63 = .ok (.iload_n 2, 1) := by decide +kernel
theorem dX11_mark_64 : decode cX11_mark 64 = .ok (.iastore, 1) := by decide +kernel
theorem dX11_mark_65 : decode cX11_mark 65 = .ok (.iload_n 3, 1) := by decide +kernel
theorem dX11_mark_66 : decode cX11_mark 66 = .ok (.ireturn, 1) := by decide +kernel
set_option maxHeartbeats 4000000 in
set_option maxRecDepth 100000 in
theorem k_mark (l : Launch) (dC : Nat → ClassId) (dI : Nat → Nat → Nat) (k : Nat → ClassId) (hl0 : l.stackTraces = false) (T : Nat → Int → Int → Int → Int) (A : Nat → Int → Int → Nat) (X : Nat → Int → Int → Int) (tl : va_W) (G : Nat → Int → Nat) (Mc : Nat → Int → Int) (Y : Nat → Int → Nat) (O : Nat → Nat) (L : Int → Nat → Int → Int) (C : Nat → Int → Int) (K : Nat → Int → Int) (cp : Nat) (wt : Int) (va : Int) (hPR : PR dI k T A X G Mc Y O L C K cp tl) (hK : TK T) (hKK : KK T K) (hrwt : -2147483648 ≤ wt ∧ wt < 2147483648) (hrva : -2147483648 ≤ va ∧ va < 2147483648) : Kx l dC dI k yX11_mark (.code yX11_mark cX11_mark 4 (some .int)) ({ frames := 6, cells := 1, slots := 6, locals := 82 } : Room) [.ref (Y 0 0), .int (iI wt), .int (iI va)] ([] ++ tl) (fun r w gc gs => (∃ (tl2 : va_W), (PR dI k T A X G Mc Y O L C (KKn (K 0 0) (K 1) (uz (K 2) wt va)) cp tl2) ∧ ((0 ≤ wt ∧ wt ≤ 4) ∧ (va = -1 ∨ (lmZ wt ≤ va ∧ va ≤ mmZ T wt))) ∧ r = some (.int (iI (K 2 wt))) ∧ w = ([] ++ tl2) ∧ gc = 1 ∧ gs = 6)) (fun E w gc gs => ((¬ (0 ≤ wt ∧ wt ≤ 4)) ∧ E = "java/lang/IndexOutOfBoundsException" ∧ w = ([] ++ tl) ∧ gc = 1 ∧ gs = 6) ∨ ((¬ ((0 ≤ wt ∧ wt ≤ 4) ∧ (va = -1 ∨ (lmZ wt ≤ va ∧ va ≤ mmZ T wt)))) ∧ E = "java/lang/IllegalArgumentException" ∧ w = ([] ++ tl) ∧ gc = 1 ∧ gs = 6)) := by
  refine kx_of (by decide) (Nat.le_of_ble_eq_true rfl) ?_
  intro p e s m args below meth c H locs B hr hex ls hl
  have hx := B.1.1
  have hb := B.1.2.1
  have hl : lv_has ls 4 [(0, .ref (Y 0 0)), (1, .int (iI wt)), (2, .int (iI va))] := hl
  have hT := PR_TI hPR
  have hnb0 := TK_nb hK
  have hcp0 : 512 ≤ cp ∧ cp ≤ 131072 := by have q9 := hPR.2.2.2; unfold cpOk at q9; omega
  refine lv_iload_n hx hb dX11_mark_0 rfl (lv_at hl 1 rfl) ?_
  refine lv_if_lt (tgt := 9) hx hb dX11_mark_1 (by decide) (fun c_1 => ?_) (fun c_1 => ?_)
  · have zc_1 : wt < 0 := jlt (a := wt) (b := 0) (by omega) (by omega) c_1
    exact k_thrG (tx := "no such thing to draft") xE_ioobe (Or.inl (⟨(by omega), rfl, rfl, rfl, rfl⟩)) ⟨Nat.le_of_ble_eq_true rfl, Nat.le_of_ble_eq_true rfl⟩ hl0 B hex hl (by decide +kernel) dX11_mark_9 dX11_mark_12 dX11_mark_13 dX11_mark_15 dX11_mark_18 ⟨Nat.le_of_ble_eq_true rfl, Nat.le_of_ble_eq_true rfl, Nat.le_of_ble_eq_true rfl, Nat.le_of_ble_eq_true rfl⟩ ⟨Nat.le_of_ble_eq_true rfl, Nat.le_of_ble_eq_true rfl⟩
  · have zc_1 : 0 ≤ wt := jnlt (a := wt) (b := 0) (by omega) (by omega) c_1
    refine lv_iload_n hx hb dX11_mark_4 rfl (lv_at hl 1 rfl) ?_
    refine lv_iconst (v := iI 4) hx hb dX11_mark_5 (by decide) ?_
    refine lv_icmp_le (tgt := 19) hx hb dX11_mark_6 (by decide) (fun c_2 => ?_) (fun c_2 => ?_)
    · have zc_2 : wt ≤ 4 := jle (a := wt) (b := 4) (by omega) (by omega) c_2
      refine lv_iload_n hx hb dX11_mark_19 rfl (lv_at hl 2 rfl) ?_
      refine lv_iconst (v := iI (-1)) hx hb dX11_mark_20 (by decide) ?_
      refine lv_icmp_eq (tgt := 51) hx hb dX11_mark_21 (by decide) (fun c_3 => ?_) (fun c_3 => ?_)
      · have zc_3 : va = (-1) := jeq (a := va) (b := (-1)) (by omega) (by omega) c_3
        refine lv_aload_n hx hb dX11_mark_51 rfl (lv_at hl 0 rfl) ?_
        obtain ⟨k_4, hk_4⟩ := pk_at (hs := []) (show (((Y 0 0), .inr (11, [.ref (A 50 0 0), .ref (Y 1 0), .ref (Y 2 0), .int (iI (K 0 0)), .ref (Y 3 0)])) : Nat × va_E) ∈ tl from PR_m hPR 0 0 rfl rfl)
        refine x_get (ci := 11) (C := RX11) (T := TX11) (N := 5) (v := .ref (Y 3 0)) B k_4 hk_4 rfl in_X11 4 (by decide) mw_478 (fun _ h9 => h9) rfl dX11_mark_52 ?_
        refine lv_iload_n hx hb dX11_mark_55 rfl (lv_at hl 1 rfl) ?_
        obtain ⟨k_5, hk_5⟩ := pk_at (hs := []) (show (((Y 3 0), .inl (k 0, 5, .inl (fun i9 : Nat => iI ((K 2) i9)))) : Nat × va_E) ∈ tl from PR_m hPR 0 3 rfl rfl)
        refine x_iald' (f := (K 2)) (z := wt) B k_5 hk_5 (by omega) dX11_mark_56 ?_
        refine lv_istore_n (lv' := [(3, .int (iI ((K 2) wt))), (0, .ref (Y 0 0)), (1, .int (iI wt)), (2, .int (iI va))]) hx hb dX11_mark_57 rfl hl (by decide) rfl (fun ls hl => ?_)
        refine lv_aload_n hx hb dX11_mark_58 rfl (lv_at hl 1 rfl) ?_
        obtain ⟨k_6, hk_6⟩ := pk_at (hs := []) (show (((Y 0 0), .inr (11, [.ref (A 50 0 0), .ref (Y 1 0), .ref (Y 2 0), .int (iI (K 0 0)), .ref (Y 3 0)])) : Nat × va_E) ∈ tl from PR_m hPR 0 0 rfl rfl)
        refine x_get (ci := 11) (C := RX11) (T := TX11) (N := 5) (v := .ref (Y 3 0)) B k_6 hk_6 rfl in_X11 4 (by decide) mw_478 (fun _ h9 => h9) rfl dX11_mark_59 ?_
        refine lv_iload_n hx hb dX11_mark_62 rfl (lv_at hl 2 rfl) ?_
        refine lv_iload_n hx hb dX11_mark_63 rfl (lv_at hl 3 rfl) ?_
        obtain ⟨tr_7, htr_7, btr_7⟩ := PR_gout hPR
        have B := bd_perm (List.Perm.append_left [] htr_7) B
        have B := bd_to (ws' := ([((Y 0 0), .inr (11, [.ref (A 50 0 0), .ref (Y 1 0), .ref (Y 2 0), .int (iI (K 0 0)), .ref (Y 3 0)])), ((Y 1 0), .inl (k 3, 2, .inr (.inr (.inr (.inr (fun i9 : Nat => (fun j9 : Int => some (Y 4 j9)) i9)))))), ((Y 2 0), .inl (k 0, 6, .inl (fun i9 : Nat => iI ((K 1) i9)))), ((Y 3 0), .inl (k 0, 5, .inl (fun i9 : Nat => iI ((K 2) i9))))] ++ tr_7)) rfl B
        refine x_iast' (f := (K 2)) (z := wt) (v := va) B 3 rfl (by omega) dX11_mark_64 (fun H locs B => ?_)
        have B := bd_to (ws' := ([((Y 0 0), .inr (11, [.ref (A 50 0 0), .ref (Y 1 0), .ref (Y 2 0), .int (iI (K 0 0)), .ref (Y 3 0)])), ((Y 1 0), .inl (k 3, 2, .inr (.inr (.inr (.inr (fun i9 : Nat => (fun j9 : Int => some (Y 4 j9)) i9)))))), ((Y 2 0), .inl (k 0, 6, .inl (fun i9 : Nat => iI ((K 1) i9)))), ((Y 3 0), .inl (k 0, 5, .inl (fun i9 : Nat => iI ((uz (K 2) wt va) i9))))] ++ tr_7)) rfl B
        refine lv_iload_n hx hb dX11_mark_65 rfl (lv_at hl 0 rfl) ?_
        have B := bd_to (ws' := ([] ++ (gCl k A Y (KKn (K 0 0) (K 1) (uz (K 2) wt va)) ++ tr_7))) rfl B
        have hPR : PR dI k T A X G Mc Y O L C (KKn (K 0 0) (K 1) (uz (K 2) wt va)) cp (gCl k A Y (KKn (K 0 0) (K 1) (uz (K 2) wt va)) ++ tr_7) := btr_7 (KKn (K 0 0) (K 1) (uz (K 2) wt va))
        have hT := PR_TI hPR
        have e_8 : (K 2 wt) = ((K 2) wt) := (by first | rfl | omega)
        skip
        exact vx_ret (k_iret B hr (⟨(gCl k A Y (KKn (K 0 0) (K 1) (uz (K 2) wt va)) ++ tr_7), hPR, (by omega), (by rw [e_8]), rfl, rfl, rfl⟩) ⟨Nat.le_of_ble_eq_true rfl, Nat.le_of_ble_eq_true rfl⟩ ⟨Nat.le_of_ble_eq_true rfl, Nat.le_of_ble_eq_true rfl⟩ dX11_mark_66)
      · have zc_3 : va ≠ (-1) := jne (a := va) (b := (-1)) (by omega) (by omega) c_3
        refine lv_iload_n hx hb dX11_mark_24 rfl (lv_at hl 2 rfl) ?_
        refine lv_iload_n hx hb dX11_mark_25 rfl (lv_at hl 1 rfl) ?_
        have B := bd_to (ws' := [] ++ ([] ++ tl)) rfl B
        refine k_S (rest := [.int (iI va)]) (wc := []) (wr := ([] ++ tl)) (k_leastMark l dC dI k wt (by omega)) B mS_X11_leastMark mw_604 hl ⟨Nat.le_of_ble_eq_true rfl, Nat.le_of_ble_eq_true rfl⟩ (Nat.le_of_ble_eq_true rfl) rfl dX11_mark_26 ⟨Nat.le_of_ble_eq_true rfl, Nat.le_of_ble_eq_true rfl⟩ (fun r w gc gs H locs hp B => ?_)
        obtain ⟨z_9, rfl, hw9, rfl, rfl⟩ := hp
        rw [hw9] at B; clear hw9
        have B := bd_swap (a := []) (b := tl) (d := []) B
        have B := bd_to (ws' := ([] ++ tl)) rfl B
        refine lv_icmp_lt (tgt := 41) hx hb dX11_mark_29 (by decide) (fun c_10 => ?_) (fun c_10 => ?_)
        · have zc_10 : va < (lmZ wt) := jlt (a := va) (b := (lmZ wt)) (by omega) (by omega) c_10
          exact k_thrG (tx := "not a value for this") xE_iae (Or.inr (⟨(by omega), rfl, rfl, rfl, rfl⟩)) ⟨Nat.le_of_ble_eq_true rfl, Nat.le_of_ble_eq_true rfl⟩ hl0 B hex hl (by decide +kernel) dX11_mark_41 dX11_mark_44 dX11_mark_45 dX11_mark_47 dX11_mark_50 ⟨Nat.le_of_ble_eq_true rfl, Nat.le_of_ble_eq_true rfl, Nat.le_of_ble_eq_true rfl, Nat.le_of_ble_eq_true rfl⟩ ⟨Nat.le_of_ble_eq_true rfl, Nat.le_of_ble_eq_true rfl⟩
        · have zc_10 : (lmZ wt) ≤ va := jnlt (a := va) (b := (lmZ wt)) (by omega) (by omega) c_10
          refine lv_iload_n hx hb dX11_mark_32 rfl (lv_at hl 2 rfl) ?_
          refine lv_aload_n hx hb dX11_mark_33 rfl (lv_at hl 0 rfl) ?_
          refine lv_iload_n hx hb dX11_mark_34 rfl (lv_at hl 1 rfl) ?_
          have B := bd_swap (a := []) (b := []) (d := tl) (bd_to rfl B)
          obtain ⟨k_11, hk_11⟩ := pk_at (hs := []) (show (((Y 0 0), .inr (11, [.ref (A 50 0 0), .ref (Y 1 0), .ref (Y 2 0), .int (iI (K 0 0)), .ref (Y 3 0)])) : Nat × va_E) ∈ tl from PR_m hPR 0 0 rfl rfl)
          refine k_V (rest := [.int (iI va)]) (wc := ([] ++ tl)) (wr := []) (k_mostMark l dC dI k T A X tl G Mc Y O L C K cp wt hPR hK (by omega)) B mV_X11_mostMark mw_607 hl (q0 := k_11) (ci := 11) hk_11 rfl rfl ⟨Nat.le_of_ble_eq_true rfl, Nat.le_of_ble_eq_true rfl⟩ (Nat.le_of_ble_eq_true rfl) rfl dX11_mark_35 ⟨Nat.le_of_ble_eq_true rfl, Nat.le_of_ble_eq_true rfl⟩ (fun r w gc gs H locs hp B => ?_)
          obtain ⟨z_12, rfl, hw9, rfl, rfl⟩ := hp
          rw [hw9] at B; clear hw9
          have B := bd_to (ws' := ([] ++ tl)) rfl B
          refine lv_icmp_le (tgt := 51) hx hb dX11_mark_38 (by decide) (fun c_13 => ?_) (fun c_13 => ?_)
          · have zc_13 : va ≤ (mmZ T wt) := jle (a := va) (b := (mmZ T wt)) (by omega) (by omega) c_13
            refine lv_aload_n hx hb dX11_mark_51 rfl (lv_at hl 0 rfl) ?_
            obtain ⟨k_14, hk_14⟩ := pk_at (hs := []) (show (((Y 0 0), .inr (11, [.ref (A 50 0 0), .ref (Y 1 0), .ref (Y 2 0), .int (iI (K 0 0)), .ref (Y 3 0)])) : Nat × va_E) ∈ tl from PR_m hPR 0 0 rfl rfl)
            refine x_get (ci := 11) (C := RX11) (T := TX11) (N := 5) (v := .ref (Y 3 0)) B k_14 hk_14 rfl in_X11 4 (by decide) mw_478 (fun _ h9 => h9) rfl dX11_mark_52 ?_
            refine lv_iload_n hx hb dX11_mark_55 rfl (lv_at hl 1 rfl) ?_
            obtain ⟨k_15, hk_15⟩ := pk_at (hs := []) (show (((Y 3 0), .inl (k 0, 5, .inl (fun i9 : Nat => iI ((K 2) i9)))) : Nat × va_E) ∈ tl from PR_m hPR 0 3 rfl rfl)
            refine x_iald' (f := (K 2)) (z := wt) B k_15 hk_15 (by omega) dX11_mark_56 ?_
            refine lv_istore_n (lv' := [(3, .int (iI ((K 2) wt))), (0, .ref (Y 0 0)), (1, .int (iI wt)), (2, .int (iI va))]) hx hb dX11_mark_57 rfl hl (by decide) rfl (fun ls hl => ?_)
            refine lv_aload_n hx hb dX11_mark_58 rfl (lv_at hl 1 rfl) ?_
            obtain ⟨k_16, hk_16⟩ := pk_at (hs := []) (show (((Y 0 0), .inr (11, [.ref (A 50 0 0), .ref (Y 1 0), .ref (Y 2 0), .int (iI (K 0 0)), .ref (Y 3 0)])) : Nat × va_E) ∈ tl from PR_m hPR 0 0 rfl rfl)
            refine x_get (ci := 11) (C := RX11) (T := TX11) (N := 5) (v := .ref (Y 3 0)) B k_16 hk_16 rfl in_X11 4 (by decide) mw_478 (fun _ h9 => h9) rfl dX11_mark_59 ?_
            refine lv_iload_n hx hb dX11_mark_62 rfl (lv_at hl 2 rfl) ?_
            refine lv_iload_n hx hb dX11_mark_63 rfl (lv_at hl 3 rfl) ?_
            obtain ⟨tr_17, htr_17, btr_17⟩ := PR_gout hPR
            have B := bd_perm (List.Perm.append_left [] htr_17) B
            have B := bd_to (ws' := ([((Y 0 0), .inr (11, [.ref (A 50 0 0), .ref (Y 1 0), .ref (Y 2 0), .int (iI (K 0 0)), .ref (Y 3 0)])), ((Y 1 0), .inl (k 3, 2, .inr (.inr (.inr (.inr (fun i9 : Nat => (fun j9 : Int => some (Y 4 j9)) i9)))))), ((Y 2 0), .inl (k 0, 6, .inl (fun i9 : Nat => iI ((K 1) i9)))), ((Y 3 0), .inl (k 0, 5, .inl (fun i9 : Nat => iI ((K 2) i9))))] ++ tr_17)) rfl B
            refine x_iast' (f := (K 2)) (z := wt) (v := va) B 3 rfl (by omega) dX11_mark_64 (fun H locs B => ?_)
            have B := bd_to (ws' := ([((Y 0 0), .inr (11, [.ref (A 50 0 0), .ref (Y 1 0), .ref (Y 2 0), .int (iI (K 0 0)), .ref (Y 3 0)])), ((Y 1 0), .inl (k 3, 2, .inr (.inr (.inr (.inr (fun i9 : Nat => (fun j9 : Int => some (Y 4 j9)) i9)))))), ((Y 2 0), .inl (k 0, 6, .inl (fun i9 : Nat => iI ((K 1) i9)))), ((Y 3 0), .inl (k 0, 5, .inl (fun i9 : Nat => iI ((uz (K 2) wt va) i9))))] ++ tr_17)) rfl B
            refine lv_iload_n hx hb dX11_mark_65 rfl (lv_at hl 0 rfl) ?_
            have B := bd_to (ws' := ([] ++ (gCl k A Y (KKn (K 0 0) (K 1) (uz (K 2) wt va)) ++ tr_17))) rfl B
            have hPR : PR dI k T A X G Mc Y O L C (KKn (K 0 0) (K 1) (uz (K 2) wt va)) cp (gCl k A Y (KKn (K 0 0) (K 1) (uz (K 2) wt va)) ++ tr_17) := btr_17 (KKn (K 0 0) (K 1) (uz (K 2) wt va))
            have hT := PR_TI hPR
            have e_18 : (K 2 wt) = ((K 2) wt) := (by first | rfl | omega)
            skip
            exact vx_ret (k_iret B hr (⟨(gCl k A Y (KKn (K 0 0) (K 1) (uz (K 2) wt va)) ++ tr_17), hPR, (by omega), (by rw [e_18]), rfl, rfl, rfl⟩) ⟨Nat.le_of_ble_eq_true rfl, Nat.le_of_ble_eq_true rfl⟩ ⟨Nat.le_of_ble_eq_true rfl, Nat.le_of_ble_eq_true rfl⟩ dX11_mark_66)
          · have zc_13 : (mmZ T wt) < va := jnle (a := va) (b := (mmZ T wt)) (by omega) (by omega) c_13
            exact k_thrG (tx := "not a value for this") xE_iae (Or.inr (⟨(by omega), rfl, rfl, rfl, rfl⟩)) ⟨Nat.le_of_ble_eq_true rfl, Nat.le_of_ble_eq_true rfl⟩ hl0 B hex hl (by decide +kernel) dX11_mark_41 dX11_mark_44 dX11_mark_45 dX11_mark_47 dX11_mark_50 ⟨Nat.le_of_ble_eq_true rfl, Nat.le_of_ble_eq_true rfl, Nat.le_of_ble_eq_true rfl, Nat.le_of_ble_eq_true rfl⟩ ⟨Nat.le_of_ble_eq_true rfl, Nat.le_of_ble_eq_true rfl⟩
    · have zc_2 : 4 < wt := jnle (a := wt) (b := 4) (by omega) (by omega) c_2
      exact k_thrG (tx := "no such thing to draft") xE_ioobe (Or.inl (⟨(by omega), rfl, rfl, rfl, rfl⟩)) ⟨Nat.le_of_ble_eq_true rfl, Nat.le_of_ble_eq_true rfl⟩ hl0 B hex hl (by decide +kernel) dX11_mark_9 dX11_mark_12 dX11_mark_13 dX11_mark_15 dX11_mark_18 ⟨Nat.le_of_ble_eq_true rfl, Nat.le_of_ble_eq_true rfl, Nat.le_of_ble_eq_true rfl, Nat.le_of_ble_eq_true rfl⟩ ⟨Nat.le_of_ble_eq_true rfl, Nat.le_of_ble_eq_true rfl⟩

/-- a key, the paper, one more figure -/
def kyT (T : Nat → Int → Int → Int → Int) (te ky_ : Int) : Nat → Int → Int → Int → Int := up1 T 15 (fun j9 i7 i8 => if j9 = te then ky_ else T 15 j9 i7 i8)
def paT (T : Nat → Int → Int → Int → Int) (wi he_ : Int) : Nat → Int → Int → Int → Int := fun c => if c = 16 then fun _ _ _ => wi else if c = 17 then fun _ _ _ => he_ else T c
def fiT (T : Nat → Int → Int → Int → Int) (ki he_ : Int) : Nat → Int → Int → Int → Int := fun c => if c = 12 then fun _ _ _ => T 12 0 0 0 + 1 else if c = 13 then fun j9 i7 i8 => if j9 = T 12 0 0 0 then ki else T 13 j9 i7 i8 else if c = 14 then fun j9 i7 i8 => if j9 = T 12 0 0 0 then he_ else T 14 j9 i7 i8 else T c
section TKC
variable {T : Nat → Int → Int → Int → Int}
theorem TK_kyT (hK : TK T) {te ky_ : Int} (h : 0 ≤ ky_ ∧ ky_ ≤ 999) : TK (kyT T te ky_) := ⟨TK_nb (T := T) hK, TK_kind (T := T) hK, TK_sty (T := T) hK, TK_ind (T := T) hK, TK_side (T := T) hK, TK_dep (T := T) hK, TK_nw (T := T) hK, TK_len (T := T) hK, TK_let (T := T) hK, TK_lab (T := T) hK, TK_mrk (T := T) hK, TK_note (T := T) hK, TK_men (T := T) hK, TK_mlab (T := T) hK, TK_gap (T := T) hK, TK_span (T := T) hK, TK_least (T := T) hK, TK_best (T := T) hK, TK_fc (T := T) hK, TK_fk (T := T) hK, TK_fh (T := T) hK, (fun j => by have q := TK_key hK j; show 0 ≤ (if j = te then ky_ else T 15 j 0 0) ∧ (if j = te then ky_ else T 15 j 0 0) ≤ 999; split <;> omega), TK_wid (T := T) hK, TK_hei (T := T) hK, TK_np (T := T) hK, TK_pl (T := T) hK, TK_plt (T := T) hK, TK_pg (T := T) hK, TK_plv (T := T) hK, TK_gapb (T := T) hK, TK_hasw (T := T) hK, TK_spc (T := T) hK, TK_wl (T := T) hK, TK_lst (T := T) hK⟩
theorem TK_paT (hK : TK T) {wi he_ : Int} (h : (30 ≤ wi ∧ wi ≤ 120) ∧ 6 ≤ he_ ∧ he_ ≤ 40) : TK (paT T wi he_) := ⟨TK_nb (T := T) hK, TK_kind (T := T) hK, TK_sty (T := T) hK, TK_ind (T := T) hK, TK_side (T := T) hK, TK_dep (T := T) hK, TK_nw (T := T) hK, TK_len (T := T) hK, TK_let (T := T) hK, TK_lab (T := T) hK, TK_mrk (T := T) hK, TK_note (T := T) hK, TK_men (T := T) hK, TK_mlab (T := T) hK, TK_gap (T := T) hK, TK_span (T := T) hK, TK_least (T := T) hK, TK_best (T := T) hK, TK_fc (T := T) hK, TK_fk (T := T) hK, TK_fh (T := T) hK, TK_key (T := T) hK, h.1, h.2, TK_np (T := T) hK, TK_pl (T := T) hK, TK_plt (T := T) hK, TK_pg (T := T) hK, TK_plv (T := T) hK, TK_gapb (T := T) hK, TK_hasw (T := T) hK, TK_spc (T := T) hK, TK_wl (T := T) hK, TK_lst (T := T) hK⟩
theorem TK_fiT (hK : TK T) {ki he_ : Int} (h : ((0 ≤ ki ∧ ki ≤ 1) ∧ 1 ≤ he_ ∧ he_ ≤ 40) ∧ T 12 0 0 0 < 5) : TK (fiT T ki he_) := ⟨TK_nb (T := T) hK, TK_kind (T := T) hK, TK_sty (T := T) hK, TK_ind (T := T) hK, TK_side (T := T) hK, TK_dep (T := T) hK, TK_nw (T := T) hK, TK_len (T := T) hK, TK_let (T := T) hK, TK_lab (T := T) hK, TK_mrk (T := T) hK, TK_note (T := T) hK, (fun i j => by have q := TK_men hK i j; show T 7 i j 1 < T 12 0 0 0 + 1; omega), TK_mlab (T := T) hK, TK_gap (T := T) hK, TK_span (T := T) hK, TK_least (T := T) hK, TK_best (T := T) hK, (by have q := TK_fc hK; show 0 ≤ T 12 0 0 0 + 1 ∧ T 12 0 0 0 + 1 ≤ 5; omega), (fun j => by have q := TK_fk hK j; show 0 ≤ (if j = T 12 0 0 0 then ki else T 13 j 0 0) ∧ (if j = T 12 0 0 0 then ki else T 13 j 0 0) ≤ 1; split <;> omega), (fun j => by have q := TK_fh hK j; show 0 ≤ (if j = T 12 0 0 0 then he_ else T 14 j 0 0) ∧ (if j = T 12 0 0 0 then he_ else T 14 j 0 0) ≤ 40; split <;> omega), TK_key (T := T) hK, TK_wid (T := T) hK, TK_hei (T := T) hK, TK_np (T := T) hK, TK_pl (T := T) hK, TK_plt (T := T) hK, TK_pg (T := T) hK, TK_plv (T := T) hK, TK_gapb (T := T) hK, TK_hasw (T := T) hK, TK_spc (T := T) hK, TK_wl (T := T) hK, TK_lst (T := T) hK⟩
end TKC

theorem mw_92 : (Jvm.Cond.fieldLink "Galleyforge" (229 : Nat) "Galleyforge$Text" "keys" "[I") ∈ gt := gt_at 162 (by decide +kernel) (by decide +kernel)
theorem dX11_key_0 : decode cX11_key 0 = .ok (.iload_n 1, 1) := by decide +kernel
theorem dX11_key_1 : decode cX11_key 1 = .ok (.invokestatic 224, 3) := by decide +kernel
theorem dX11_key_4 : decode cX11_key 4 = .ok (.iload_n 2, 1) := by decide +kernel
theorem dX11_key_5 : decode cX11_key 5 = .ok (.ifCond .lt 10, 3) := by decide +kernel
theorem dX11_key_8 : decode cX11_key 8 = .ok (.iload_n 2, 1) := by decide +kernel
theorem dX11_key_9 : decode cX11_key 9 = .ok (.sipush 999, 3) := by decide +kernel
theorem dX11_key_12 : decode cX11_key 12 = .ok (.if_icmp .le 13, 3) := by decide +kernel
theorem dX11_key_15 : decode cX11_key 15 = .ok (.new 72, 3) := by decide +kernel
theorem dX11_key_18 : decode cX11_key 18 = .ok (.dup, 1) := by decide +kernel
theorem dX11_key_19 : decode cX11_key 19 = .ok (.ldc 227, 2) := by decide +kernel
theorem dX11_key_21 : decode cX11_key 21 = .ok (.invokespecial 76, 3) := by decide +kernel
theorem dX11_key_24 : decode cX11_key 24 = .ok (.athrow, 1) := by decide +kernel
theorem dX11_key_25 : decode cX11_key 25 = .ok (.aload_n 0, 1) := by decide +kernel
theorem dX11_key_26 : decode cX11_key 26 = .ok (.getfield 12, 3) := by decide +kernel
theorem dX11_key_29 : decode cX11_key 29 = .ok (.getfield 229, 3) := by decide +kernel
theorem dX11_key_32 : decode cX11_key 32 = .ok (.iload_n 1, 1) := by decide +kernel
theorem dX11_key_33 : decode cX11_key 33 = .ok (.iaload, 1) := by decide +kernel
theorem dX11_key_34 : decode cX11_key 34 = .ok (.istore_n 3, 1) := by decide +kernel
theorem dX11_key_35 : decode cX11_key 35 = .ok (.aload_n 0, 1) := by decide +kernel
theorem dX11_key_36 : decode cX11_key 36 = .ok (.getfield 12, 3) := by decide +kernel
theorem dX11_key_39 : decode cX11_key 39 = .ok (.getfield 229, 3) := by decide +kernel
theorem dX11_key_42 : decode cX11_key 42 = .ok (.iload_n 1, 1) := by decide +kernel
theorem dX11_key_43 : decode cX11_key 43 = .ok (.iload_n 2, 1) := by decide +kernel
theorem dX11_key_44 : decode cX11_key 44 = .ok (.iastore, 1) := by decide +kernel
theorem dX11_key_45 : decode cX11_key 45 = .ok (.iload_n 3, 1) := by decide +kernel
theorem dX11_key_46 : decode cX11_key 46 = .ok (.ireturn, 1) := by decide +kernel
set_option maxHeartbeats 4000000 in
set_option maxRecDepth 100000 in
theorem k_key (l : Launch) (dC : Nat → ClassId) (dI : Nat → Nat → Nat) (k : Nat → ClassId) (hl0 : l.stackTraces = false) (T : Nat → Int → Int → Int → Int) (A : Nat → Int → Int → Nat) (X : Nat → Int → Int → Int) (tl : va_W) (G : Nat → Int → Nat) (Mc : Nat → Int → Int) (Y : Nat → Int → Nat) (O : Nat → Nat) (L : Int → Nat → Int → Int) (C : Nat → Int → Int) (K : Nat → Int → Int) (cp : Nat) (te : Int) (ky_ : Int) (hPR : PR dI k T A X G Mc Y O L C K cp tl) (hK : TK T) (hKK : KK T K) (hrte : -2147483648 ≤ te ∧ te < 2147483648) (hrky_ : -2147483648 ≤ ky_ ∧ ky_ < 2147483648) : Kx l dC dI k yX11_key (.code yX11_key cX11_key 4 (some .int)) ({ frames := 7, cells := 1, slots := 6, locals := 102 } : Room) [.ref (Y 0 0), .int (iI te), .int (iI ky_)] ([] ++ tl) (fun r w gc gs => (∃ (tl2 : va_W), (PR dI k (kyT T te ky_) A X G Mc Y O L C K cp tl2) ∧ ((0 ≤ te ∧ te ≤ 7) ∧ 0 ≤ ky_ ∧ ky_ ≤ 999) ∧ r = some (.int (iI (T 15 te 0 0))) ∧ w = ([] ++ tl2) ∧ gc = 1 ∧ gs = 6)) (fun E w gc gs => ((¬ (0 ≤ te ∧ te ≤ 7)) ∧ E = "java/lang/IndexOutOfBoundsException" ∧ w = ([] ++ tl) ∧ gc = 1 ∧ gs = 6) ∨ (((0 ≤ te ∧ te ≤ 7) ∧ ¬ (0 ≤ ky_ ∧ ky_ ≤ 999)) ∧ E = "java/lang/IllegalArgumentException" ∧ w = ([] ++ tl) ∧ gc = 1 ∧ gs = 6)) := by
  refine kx_of (by decide) (Nat.le_of_ble_eq_true rfl) ?_
  intro p e s m args below meth c H locs B hr hex ls hl
  have hx := B.1.1
  have hb := B.1.2.1
  have hl : lv_has ls 4 [(0, .ref (Y 0 0)), (1, .int (iI te)), (2, .int (iI ky_))] := hl
  have hT := PR_TI hPR
  have hnb0 := TK_nb hK
  have hcp0 : 512 ≤ cp ∧ cp ≤ 131072 := by have q9 := hPR.2.2.2; unfold cpOk at q9; omega
  refine lv_iload_n hx hb dX11_key_0 rfl (lv_at hl 1 rfl) ?_
  have B := bd_to (ws' := [] ++ ([] ++ tl)) rfl B
  refine k_Sx (rest := []) (wc := []) (wr := ([] ++ tl)) (k_checkTerm l dC dI k hl0 te hrte) B mS_X11_checkTerm mw_1261 hl ⟨Nat.le_of_ble_eq_true rfl, Nat.le_of_ble_eq_true rfl⟩ (Nat.le_of_ble_eq_true rfl) rfl dX11_key_1 ⟨Nat.le_of_ble_eq_true rfl, Nat.le_of_ble_eq_true rfl⟩ (fun E ce q9 w gc gs H locs hp B h1 h2 h3 => ?_) (fun r w gc gs H locs hp B => ?_)
  · skip
    obtain ⟨z_1, rfl, hw9, rfl, rfl⟩ := hp
    rw [hw9] at B; clear hw9
    have B := bd_swap (a := []) (b := tl) (d := []) B
    have B := bd_to (ws' := ([] ++ tl)) rfl B
    exact k_out hex (Or.inl (⟨z_1, rfl, rfl, rfl, rfl⟩)) B h1 h2 h3 ⟨Nat.le_of_ble_eq_true rfl, Nat.le_of_ble_eq_true rfl⟩ ⟨Nat.le_of_ble_eq_true rfl, Nat.le_of_ble_eq_true rfl⟩
  · skip
    obtain ⟨z_2, rfl, hw9, rfl, rfl⟩ := hp
    rw [hw9] at B; clear hw9
    have B := bd_swap (a := []) (b := tl) (d := []) B
    have B := bd_to (ws' := ([] ++ tl)) rfl B
    refine lv_iload_n hx hb dX11_key_4 rfl (lv_at hl 2 rfl) ?_
    refine lv_if_lt (tgt := 15) hx hb dX11_key_5 (by decide) (fun c_3 => ?_) (fun c_3 => ?_)
    · have zc_3 : ky_ < 0 := jlt (a := ky_) (b := 0) (by omega) (by omega) c_3
      exact k_thrG (tx := "key out of range") xE_iae (Or.inr (⟨(by omega), rfl, rfl, rfl, rfl⟩)) ⟨Nat.le_of_ble_eq_true rfl, Nat.le_of_ble_eq_true rfl⟩ hl0 B hex hl (by decide +kernel) dX11_key_15 dX11_key_18 dX11_key_19 dX11_key_21 dX11_key_24 ⟨Nat.le_of_ble_eq_true rfl, Nat.le_of_ble_eq_true rfl, Nat.le_of_ble_eq_true rfl, Nat.le_of_ble_eq_true rfl⟩ ⟨Nat.le_of_ble_eq_true rfl, Nat.le_of_ble_eq_true rfl⟩
    · have zc_3 : 0 ≤ ky_ := jnlt (a := ky_) (b := 0) (by omega) (by omega) c_3
      refine lv_iload_n hx hb dX11_key_8 rfl (lv_at hl 2 rfl) ?_
      refine lv_sipush (v := iI 999) hx hb dX11_key_9 (by decide) ?_
      refine lv_icmp_le (tgt := 25) hx hb dX11_key_12 (by decide) (fun c_4 => ?_) (fun c_4 => ?_)
      · have zc_4 : ky_ ≤ 999 := jle (a := ky_) (b := 999) (by omega) (by omega) c_4
        refine lv_aload_n hx hb dX11_key_25 rfl (lv_at hl 0 rfl) ?_
        obtain ⟨k_5, hk_5⟩ := pk_at (hs := []) (show (((Y 0 0), .inr (11, [.ref (A 50 0 0), .ref (Y 1 0), .ref (Y 2 0), .int (iI (K 0 0)), .ref (Y 3 0)])) : Nat × va_E) ∈ tl from PR_m hPR 0 0 rfl rfl)
        refine x_get (ci := 11) (C := RX11) (T := TX11) (N := 5) (v := .ref (A 50 0 0)) B k_5 hk_5 rfl in_X11 0 (by decide) mw_474 (fun _ h9 => h9) rfl dX11_key_26 ?_
        obtain ⟨k_6, hk_6⟩ := pk_at (hs := []) hT.1.1
        refine x_get (ci := 9) (C := RX9) (T := TX9) (N := 8) (v := .ref (A 55 0 0)) B k_6 hk_6 rfl in_X9 5 (by decide) mw_92 (fun _ h9 => h9) rfl dX11_key_29 ?_
        refine lv_iload_n hx hb dX11_key_32 rfl (lv_at hl 1 rfl) ?_
        obtain ⟨k_7, hk_7⟩ := pk_at (hs := []) hT.1.2.2.2
        refine x_iald' (f := (fun j9 : Int => T 15 j9 0 0)) (z := te) B k_7 hk_7 (by omega) dX11_key_33 ?_
        have z_8 : 0 ≤ (T 15 te 0 0) ∧ (T 15 te 0 0) ≤ 999 := (fun j => TK_key hK j) te
        refine lv_istore_n (lv' := [(3, .int (iI (T 15 te 0 0))), (0, .ref (Y 0 0)), (1, .int (iI te)), (2, .int (iI ky_))]) hx hb dX11_key_34 rfl hl (by decide) rfl (fun ls hl => ?_)
        refine lv_aload_n hx hb dX11_key_35 rfl (lv_at hl 1 rfl) ?_
        obtain ⟨k_9, hk_9⟩ := pk_at (hs := []) (show (((Y 0 0), .inr (11, [.ref (A 50 0 0), .ref (Y 1 0), .ref (Y 2 0), .int (iI (K 0 0)), .ref (Y 3 0)])) : Nat × va_E) ∈ tl from PR_m hPR 0 0 rfl rfl)
        refine x_get (ci := 11) (C := RX11) (T := TX11) (N := 5) (v := .ref (A 50 0 0)) B k_9 hk_9 rfl in_X11 0 (by decide) mw_474 (fun _ h9 => h9) rfl dX11_key_36 ?_
        obtain ⟨k_10, hk_10⟩ := pk_at (hs := []) hT.1.1
        refine x_get (ci := 9) (C := RX9) (T := TX9) (N := 8) (v := .ref (A 55 0 0)) B k_10 hk_10 rfl in_X9 5 (by decide) mw_92 (fun _ h9 => h9) rfl dX11_key_39 ?_
        refine lv_iload_n hx hb dX11_key_42 rfl (lv_at hl 2 rfl) ?_
        refine lv_iload_n hx hb dX11_key_43 rfl (lv_at hl 3 rfl) ?_
        obtain ⟨tr_11, htr_11, btr_11⟩ := PR_he hPR
        have B := bd_perm (List.Perm.append_left [] htr_11) B
        have B := bd_to (ws' := ([((Y 0 0), .inr (11, [.ref (A 50 0 0), .ref (Y 1 0), .ref (Y 2 0), .int (iI (K 0 0)), .ref (Y 3 0)])), ((Y 1 0), .inl (k 3, 2, .inr (.inr (.inr (.inr (fun i9 : Nat => (fun j9 : Int => some (Y 4 j9)) i9)))))), ((Y 2 0), .inl (k 0, 6, .inl (fun i9 : Nat => iI ((K 1) i9)))), ((Y 3 0), .inl (k 0, 5, .inl (fun i9 : Nat => iI ((K 2) i9)))), ((A 50 0 0), .inr (9, [.ref (A 51 0 0), .ref (A 52 0 0), .ref (A 53 0 0), .ref (A 54 0 0), .int (iI (T 12 0 0 0)), .ref (A 55 0 0), .int (iI (T 16 0 0 0)), .int (iI (T 17 0 0 0))])), ((A 53 0 0), .inl (k 0, 5, .inl (fun i9 : Nat => iI ((fun j9 : Int => T 13 j9 0 0) i9)))), ((A 54 0 0), .inl (k 0, 5, .inl (fun i9 : Nat => iI ((fun j9 : Int => T 14 j9 0 0) i9)))), ((A 55 0 0), .inl (k 0, 8, .inl (fun i9 : Nat => iI ((fun j9 : Int => T 15 j9 0 0) i9))))] ++ tr_11)) rfl B
        refine x_iast' (f := (fun j9 : Int => T 15 j9 0 0)) (z := te) (v := ky_) B 7 rfl (by omega) dX11_key_44 (fun H locs B => ?_)
        have B := bd_to (ws' := ([((Y 0 0), .inr (11, [.ref (A 50 0 0), .ref (Y 1 0), .ref (Y 2 0), .int (iI (K 0 0)), .ref (Y 3 0)])), ((Y 1 0), .inl (k 3, 2, .inr (.inr (.inr (.inr (fun i9 : Nat => (fun j9 : Int => some (Y 4 j9)) i9)))))), ((Y 2 0), .inl (k 0, 6, .inl (fun i9 : Nat => iI ((K 1) i9)))), ((Y 3 0), .inl (k 0, 5, .inl (fun i9 : Nat => iI ((K 2) i9)))), ((A 50 0 0), .inr (9, [.ref (A 51 0 0), .ref (A 52 0 0), .ref (A 53 0 0), .ref (A 54 0 0), .int (iI (T 12 0 0 0)), .ref (A 55 0 0), .int (iI (T 16 0 0 0)), .int (iI (T 17 0 0 0))])), ((A 53 0 0), .inl (k 0, 5, .inl (fun i9 : Nat => iI ((fun j9 : Int => T 13 j9 0 0) i9)))), ((A 54 0 0), .inl (k 0, 5, .inl (fun i9 : Nat => iI ((fun j9 : Int => T 14 j9 0 0) i9)))), ((A 55 0 0), .inl (k 0, 8, .inl (fun i9 : Nat => iI ((uz (fun j9 : Int => T 15 j9 0 0) te ky_) i9))))] ++ tr_11)) rfl B
        refine lv_iload_n hx hb dX11_key_45 rfl (lv_at hl 0 rfl) ?_
        have B := bd_to (ws' := ([] ++ ((gCl k A Y K ++ heC k (kyT T te ky_) A) ++ tr_11))) rfl B
        have hPR : PR dI k (kyT T te ky_) A X G Mc Y O L C K cp ((gCl k A Y K ++ heC k (kyT T te ky_) A) ++ tr_11) := btr_11 K (kyT T te ky_) (fun c hc => up_n (by omega))
        have hT := PR_TI hPR
        exact vx_ret (k_iret B hr (⟨((gCl k A Y K ++ heC k (kyT T te ky_) A) ++ tr_11), hPR, (by omega), rfl, rfl, rfl, rfl⟩) ⟨Nat.le_of_ble_eq_true rfl, Nat.le_of_ble_eq_true rfl⟩ ⟨Nat.le_of_ble_eq_true rfl, Nat.le_of_ble_eq_true rfl⟩ dX11_key_46)
      · have zc_4 : 999 < ky_ := jnle (a := ky_) (b := 999) (by omega) (by omega) c_4
        exact k_thrG (tx := "key out of range") xE_iae (Or.inr (⟨(by omega), rfl, rfl, rfl, rfl⟩)) ⟨Nat.le_of_ble_eq_true rfl, Nat.le_of_ble_eq_true rfl⟩ hl0 B hex hl (by decide +kernel) dX11_key_15 dX11_key_18 dX11_key_19 dX11_key_21 dX11_key_24 ⟨Nat.le_of_ble_eq_true rfl, Nat.le_of_ble_eq_true rfl, Nat.le_of_ble_eq_true rfl, Nat.le_of_ble_eq_true rfl⟩ ⟨Nat.le_of_ble_eq_true rfl, Nat.le_of_ble_eq_true rfl⟩

theorem dX11_forgetLayouts_0 : decode cX11_forgetLayouts 0 = .ok (.iconst 0, 1) := by decide +kernel
theorem dX11_forgetLayouts_1 : decode cX11_forgetLayouts 1 = .ok (.istore_n 1, 1) := by decide +kernel
theorem dX11_forgetLayouts_2 : decode cX11_forgetLayouts 2 = .ok (.iload_n 1, 1) := by decide +kernel
theorem dX11_forgetLayouts_3 : decode cX11_forgetLayouts 3 = .ok (.iconst 2, 1) := by decide +kernel
theorem dX11_forgetLayouts_4 : decode cX11_forgetLayouts 4 = .ok (.if_icmp .ge 18, 3) := by decide +kernel
theorem dX11_forgetLayouts_7 : decode cX11_forgetLayouts 7 = .ok (.aload_n 0, 1) := by decide +kernel
theorem dX11_forgetLayouts_8 : decode cX11_forgetLayouts 8 = .ok (.getfield 27, 3) := by decide +kernel
theorem dX11_forgetLayouts_11 : decode cX11_forgetLayouts 11 = .ok (.iload_n 1, 1) := by decide +kernel
theorem dX11_forgetLayouts_12 : decode cX11_forgetLayouts 12 = .ok (.aaload, 1) := by decide +kernel
theorem dX11_forgetLayouts_13 : decode cX11_forgetLayouts 13 = .ok (.invokevirtual 316, 3) := by decide +kernel
theorem dX11_forgetLayouts_16 : decode cX11_forgetLayouts 16 = .ok (.iinc 1 1, 3) := by decide +kernel
theorem dX11_forgetLayouts_19 : decode cX11_forgetLayouts 19 = .ok (.goto (-17), 3) := by decide +kernel
theorem dX11_forgetLayouts_22 : decode cX11_forgetLayouts 22 = .ok (.return_, 1) := by decide +kernel
set_option maxHeartbeats 4000000 in
set_option maxRecDepth 100000 in
theorem k_forgetAll (l : Launch) (dC : Nat → ClassId) (dI : Nat → Nat → Nat) (k : Nat → ClassId) (T : Nat → Int → Int → Int → Int) (A : Nat → Int → Int → Nat) (X : Nat → Int → Int → Int) (tl : va_W) (G : Nat → Int → Nat) (Mc : Nat → Int → Int) (Y : Nat → Int → Nat) (O : Nat → Nat) (L : Int → Nat → Int → Int) (C : Nat → Int → Int) (K : Nat → Int → Int) (cp : Nat) (hPR : PR dI k T A X G Mc Y O L C K cp tl) (hK : TK T) : Kn l dC dI k yX11_forgetLayouts (.code yX11_forgetLayouts cX11_forgetLayouts 2 none) ({ frames := 1, cells := 0, slots := 0, locals := 20 } : Room) [.ref (Y 0 0)] ([] ++ tl) (fun r w gc gs => (∃ (L2 : Int → Nat → Int → Int) (tl2 : va_W), (PR dI k T A X G Mc Y O L2 C K cp tl2) ∧ (∀ u, 0 ≤ u → u ≤ 1 → LF (L2 u)) ∧ r = none ∧ w = ([] ++ tl2) ∧ gc = 0 ∧ gs = 0)) := by
  refine kn_of (by decide) (Nat.le_of_ble_eq_true rfl) ?_
  intro p e s m args below meth c H locs B hr hnm ls hl
  have hx := B.1.1
  have hb := B.1.2.1
  have hl : lv_has ls 2 [(0, .ref (Y 0 0))] := hl
  have hT := PR_TI hPR
  have hnb0 := TK_nb hK
  have hcp0 : 512 ≤ cp ∧ cp ≤ 131072 := by have q9 := hPR.2.2.2; unfold cpOk at q9; omega
  refine lv_iconst (v := iI 0) hx hb dX11_forgetLayouts_0 (by decide) ?_
  refine lv_istore_n (lv' := [(1, .int (iI 0)), (0, .ref (Y 0 0))]) hx hb dX11_forgetLayouts_1 rfl hl (by decide) rfl (fun ls hl => ?_)
  refine lv_iload_n hx hb dX11_forgetLayouts_2 rfl (lv_at hl 0 rfl) ?_
  refine lv_iconst (v := iI 2) hx hb dX11_forgetLayouts_3 (by decide) ?_
  refine lv_icmp_ge (tgt := 22) hx hb dX11_forgetLayouts_4 (by decide) (fun c9 => absurd c9 (by decide)) (fun _ => ?_)
  refine lv_aload_n hx hb dX11_forgetLayouts_7 rfl (lv_at hl 1 rfl) ?_
  obtain ⟨k_1, hk_1⟩ := pk_at (hs := []) (show (((Y 0 0), .inr (11, [.ref (A 50 0 0), .ref (Y 1 0), .ref (Y 2 0), .int (iI (K 0 0)), .ref (Y 3 0)])) : Nat × va_E) ∈ tl from PR_m hPR 0 0 rfl rfl)
  refine x_get (ci := 11) (C := RX11) (T := TX11) (N := 5) (v := .ref (Y 1 0)) B k_1 hk_1 rfl in_X11 1 (by decide) mw_475 (fun _ h9 => h9) rfl dX11_forgetLayouts_8 ?_
  refine lv_iload_n hx hb dX11_forgetLayouts_11 rfl (lv_at hl 0 rfl) ?_
  obtain ⟨k_2, hk_2⟩ := pk_at (hs := []) (show (((Y 1 0), .inl (k 3, 2, .inr (.inr (.inr (.inr (fun i9 : Nat => (fun j9 : Int => some (Y 4 j9)) i9)))))) : Nat × va_E) ∈ tl from PR_m hPR 0 1 rfl rfl)
  refine x_aldq (v := (Y 4 0)) B k_2 hk_2 (iI_in (by omega)) dX11_forgetLayouts_12 ((aldz (f := (fun j9 : Int => some (Y 4 j9))) (z := 0) (by omega)).trans rfl) ?_
  have B := bd_swap (a := []) (b := []) (d := tl) (bd_to rfl B)
  obtain ⟨k_3, hk_3⟩ := pk_at (hs := []) (show (((Y 4 0), .inr (1, [.ref (A 50 0 0), .int (iI 0), .ref (Y 5 0), .ref (Y 60 0), .ref (Y 61 0), .int (iI ((L 0) 0 0)), .int (iI ((L 0) 0 1)), .ref (Y 21 0), .ref (Y 22 0), .ref (Y 23 0), .ref (Y 24 0), .ref (Y 25 0), .ref (Y 26 0), .int (iI ((L 0) 0 2)), .int (iI ((L 0) 0 3)), .int (iI ((L 0) 0 4)), .ref (Y 27 0)])) : Nat × va_E) ∈ tl from PR_ly hPR (show 0 ≤ 0 ∧ 0 ≤ 1 by omega) 0 rfl)
  refine k_V (rest := []) (wc := ([] ++ tl)) (wr := []) (k_forgetP l dC dI k T A X tl G Mc Y O L C K cp 0 hPR hK (by omega)) B mV_X1_forget mw_773 hl (q0 := k_3) (ci := 1) hk_3 rfl rfl ⟨Nat.le_of_ble_eq_true rfl, Nat.le_of_ble_eq_true rfl⟩ (Nat.le_of_ble_eq_true rfl) rfl dX11_forgetLayouts_13 ⟨Nat.le_of_ble_eq_true rfl, Nat.le_of_ble_eq_true rfl⟩ (fun r w gc gs H locs hp B => ?_)
  obtain ⟨L2_4, tl2_5, z_6, z_7, z_8, rfl, hw9, rfl, rfl⟩ := hp
  rw [hw9] at B; clear hw9
  have B := bd_to (ws' := ([] ++ tl2_5)) rfl B
  have hPR : PR dI k T A X G Mc Y O L2_4 C K cp tl2_5 := z_6
  have hT : TI dI k T A X tl2_5 := PR_TI hPR
  refine lv_iinc (v := iI 1) (lv' := [(1, .int (iI 1)), (0, .ref (Y 0 0))]) hx hb dX11_forgetLayouts_16 hl (k := 0) rfl (by decide) (by decide) rfl (fun ls hl => ?_)
  refine lv_goto (tgt := 2) hx hb dX11_forgetLayouts_19 (by decide) ?_
  refine lv_iload_n hx hb dX11_forgetLayouts_2 rfl (lv_at hl 0 rfl) ?_
  refine lv_iconst (v := iI 2) hx hb dX11_forgetLayouts_3 (by decide) ?_
  refine lv_icmp_ge (tgt := 22) hx hb dX11_forgetLayouts_4 (by decide) (fun c9 => absurd c9 (by decide)) (fun _ => ?_)
  refine lv_aload_n hx hb dX11_forgetLayouts_7 rfl (lv_at hl 1 rfl) ?_
  obtain ⟨k_9, hk_9⟩ := pk_at (hs := []) (show (((Y 0 0), .inr (11, [.ref (A 50 0 0), .ref (Y 1 0), .ref (Y 2 0), .int (iI (K 0 0)), .ref (Y 3 0)])) : Nat × va_E) ∈ tl2_5 from PR_m hPR 0 0 rfl rfl)
  refine x_get (ci := 11) (C := RX11) (T := TX11) (N := 5) (v := .ref (Y 1 0)) B k_9 hk_9 rfl in_X11 1 (by decide) mw_475 (fun _ h9 => h9) rfl dX11_forgetLayouts_8 ?_
  refine lv_iload_n hx hb dX11_forgetLayouts_11 rfl (lv_at hl 0 rfl) ?_
  obtain ⟨k_10, hk_10⟩ := pk_at (hs := []) (show (((Y 1 0), .inl (k 3, 2, .inr (.inr (.inr (.inr (fun i9 : Nat => (fun j9 : Int => some (Y 4 j9)) i9)))))) : Nat × va_E) ∈ tl2_5 from PR_m hPR 0 1 rfl rfl)
  refine x_aldq (v := (Y 4 1)) B k_10 hk_10 (iI_in (by omega)) dX11_forgetLayouts_12 ((aldz (f := (fun j9 : Int => some (Y 4 j9))) (z := 1) (by omega)).trans rfl) ?_
  have B := bd_swap (a := []) (b := []) (d := tl2_5) (bd_to rfl B)
  obtain ⟨k_11, hk_11⟩ := pk_at (hs := []) (show (((Y 4 1), .inr (1, [.ref (A 50 0 0), .int (iI 1), .ref (Y 5 0), .ref (Y 60 1), .ref (Y 61 1), .int (iI ((L2_4 1) 0 0)), .int (iI ((L2_4 1) 0 1)), .ref (Y 21 1), .ref (Y 22 1), .ref (Y 23 1), .ref (Y 24 1), .ref (Y 25 1), .ref (Y 26 1), .int (iI ((L2_4 1) 0 2)), .int (iI ((L2_4 1) 0 3)), .int (iI ((L2_4 1) 0 4)), .ref (Y 27 1)])) : Nat × va_E) ∈ tl2_5 from PR_ly hPR (show 0 ≤ 1 ∧ 1 ≤ 1 by omega) 0 rfl)
  refine k_V (rest := []) (wc := ([] ++ tl2_5)) (wr := []) (k_forgetP l dC dI k T A X tl2_5 G Mc Y O L2_4 C K cp 1 z_6 hK (by omega)) B mV_X1_forget mw_773 hl (q0 := k_11) (ci := 1) hk_11 rfl rfl ⟨Nat.le_of_ble_eq_true rfl, Nat.le_of_ble_eq_true rfl⟩ (Nat.le_of_ble_eq_true rfl) rfl dX11_forgetLayouts_13 ⟨Nat.le_of_ble_eq_true rfl, Nat.le_of_ble_eq_true rfl⟩ (fun r w gc gs H locs hp B => ?_)
  obtain ⟨L2_12, tl2_13, z_14, z_15, z_16, rfl, hw9, rfl, rfl⟩ := hp
  rw [hw9] at B; clear hw9
  have B := bd_to (ws' := ([] ++ tl2_13)) rfl B
  have hPR : PR dI k T A X G Mc Y O L2_12 C K cp tl2_13 := z_14
  have hT : TI dI k T A X tl2_13 := PR_TI hPR
  refine lv_iinc (v := iI 2) (lv' := [(1, .int (iI 2)), (0, .ref (Y 0 0))]) hx hb dX11_forgetLayouts_16 hl (k := 0) rfl (by decide) (by decide) rfl (fun ls hl => ?_)
  refine lv_goto (tgt := 2) hx hb dX11_forgetLayouts_19 (by decide) ?_
  refine lv_iload_n hx hb dX11_forgetLayouts_2 rfl (lv_at hl 0 rfl) ?_
  refine lv_iconst (v := iI 2) hx hb dX11_forgetLayouts_3 (by decide) ?_
  refine lv_icmp_ge (tgt := 22) hx hb dX11_forgetLayouts_4 (by decide) (fun _ => ?_) (fun c9 => absurd (by decide) c9)
  exact k_vret B hr (⟨L2_12, tl2_13, hPR, (fun u a9 b9 => by rcases (show u = 0 ∨ u = 1 by omega) with rfl | rfl; (rw [show L2_12 0 = _ from funext (fun c => z_15 0 c (Or.inl (by decide)))]; exact z_8); exact z_16), rfl, rfl, rfl, rfl⟩) ⟨Nat.le_of_ble_eq_true rfl, Nat.le_of_ble_eq_true rfl⟩ ⟨Nat.le_of_ble_eq_true rfl, Nat.le_of_ble_eq_true rfl⟩ dX11_forgetLayouts_22

theorem mw_101 : (Jvm.Cond.fieldLink "Galleyforge" (221 : Nat) "Galleyforge$Text" "height" "I") ∈ gt := gt_at 171 (by decide +kernel) (by decide +kernel)
theorem mw_769 : (Jvm.Cond.methodLink "Galleyforge" (106 : Nat) ({ cls := "Galleyforge", name := "forgetLayouts", desc := "()V" } : Jvm.MethodName)) ∈ gt := gt_at 839 (by decide +kernel) (by decide +kernel)
theorem mw_771 : (Jvm.Cond.instanceMethod ({ cls := "Galleyforge", name := "forgetLayouts", desc := "()V" } : Jvm.MethodName)) ∈ gt := gt_at 841 (by decide +kernel) (by decide +kernel)
theorem mw_772 : (Jvm.Cond.code ({ cls := "Galleyforge", name := "forgetLayouts", desc := "()V" } : Jvm.MethodName) prog_1_method_54_code (2 : Nat) (Option.none : Option Jvm.ClassFile.FieldType)) ∈ gt := gt_at 842 (by decide +kernel) (by decide +kernel)
theorem ms_6 : Cond.selects "Galleyforge" (⟨"Galleyforge", "forgetLayouts", "()V"⟩ : MethodName) (⟨"Galleyforge", "forgetLayouts", "()V"⟩ : MethodName) ∈ gt := gt_at 6 (by decide +kernel) (by decide +kernel)
theorem mV_X11_forgetLayouts : mV yX11_forgetLayouts cX11_forgetLayouts 2 none 0 := ⟨⟨mw_772, mw_1, by decide, by decide, by decide +kernel⟩, mw_771, ms_6⟩
theorem dX11_paper_0 : decode cX11_paper 0 = .ok (.iload_n 1, 1) := by decide +kernel
theorem dX11_paper_1 : decode cX11_paper 1 = .ok (.bipush 30, 2) := by decide +kernel
theorem dX11_paper_3 : decode cX11_paper 3 = .ok (.if_icmp .lt 21, 3) := by decide +kernel
theorem dX11_paper_6 : decode cX11_paper 6 = .ok (.iload_n 1, 1) := by decide +kernel
theorem dX11_paper_7 : decode cX11_paper 7 = .ok (.bipush 120, 2) := by decide +kernel
theorem dX11_paper_9 : decode cX11_paper 9 = .ok (.if_icmp .gt 15, 3) := by decide +kernel
theorem dX11_paper_12 : decode cX11_paper 12 = .ok (.iload_n 2, 1) := by decide +kernel
theorem dX11_paper_13 : decode cX11_paper 13 = .ok (.bipush 6, 2) := by decide +kernel
theorem dX11_paper_15 : decode cX11_paper 15 = .ok (.if_icmp .lt 9, 3) := by decide +kernel
theorem dX11_paper_18 : decode cX11_paper 18 = .ok (.iload_n 2, 1) := by decide +kernel
theorem dX11_paper_19 : decode cX11_paper 19 = .ok (.bipush 40, 2) := by decide +kernel
theorem dX11_paper_21 : decode cX11_paper 21 = .ok (.if_icmp .le 13, 3) := by decide +kernel
theorem dX11_paper_24 : decode cX11_paper 24 = .ok (.new 72, 3) := by decide +kernel
theorem dX11_paper_27 : decode cX11_paper 27 = .ok (.dup, 1) := by decide +kernel
theorem dX11_paper_28 : decode cX11_paper 28 = .ok (.ldc 216, 2) := by decide +kernel
theorem dX11_paper_30 : decode cX11_paper 30 = .ok (.invokespecial 76, 3) := by decide +kernel
theorem dX11_paper_33 : decode cX11_paper 33 = .ok (.athrow, 1) := by decide +kernel
theorem dX11_paper_34 : decode cX11_paper 34 = .ok (.aload_n 0, 1) := by decide +kernel
theorem dX11_paper_35 : decode cX11_paper 35 = .ok (.getfield 12, 3) := by decide +kernel
theorem dX11_paper_38 : decode cX11_paper 38 = .ok (.getfield 218, 3) := by decide +kernel
theorem dX11_paper_41 : decode cX11_paper 41 = .ok (.istore_n 3, 1) := by decide +kernel
theorem dX11_paper_42 : decode cX11_paper 42 = .ok (.aload_n 0, 1) := by decide +kernel
theorem dX11_paper_43 : decode cX11_paper 43 = .ok (.getfield 12, 3) := by decide +kernel
theorem dX11_paper_46 : decode cX11_paper 46 = .ok (.iload_n 1, 1) := by decide +kernel
theorem dX11_paper_47 : decode cX11_paper 47 = .ok (.putfield 218, 3) := by decide +kernel
theorem dX11_paper_50 : decode cX11_paper 50 = .ok (.aload_n 0, 1) := by decide +kernel
theorem dX11_paper_51 : decode cX11_paper 51 = .ok (.getfield 12, 3) := by decide +kernel
theorem dX11_paper_54 : decode cX11_paper 54 = .ok (.iload_n 2, 1) := by decide +kernel
theorem dX11_paper_55 : decode cX11_paper 55 = .ok (.putfield 221, 3) := by decide +kernel
theorem dX11_paper_58 : decode cX11_paper 58 = .ok (.aload_n 0, 1) := by decide +kernel
theorem dX11_paper_59 : decode cX11_paper 59 = .ok (.invokevirtual 106, 3) := by decide +kernel
theorem dX11_paper_62 : decode cX11_paper 62 = .ok (.iload_n 3, 1) := by decide +kernel
theorem dX11_paper_63 : decode cX11_paper 63 = .ok (.ireturn, 1) := by decide +kernel
set_option maxHeartbeats 4000000 in
set_option maxRecDepth 100000 in
theorem k_paper (l : Launch) (dC : Nat → ClassId) (dI : Nat → Nat → Nat) (k : Nat → ClassId) (hl0 : l.stackTraces = false) (T : Nat → Int → Int → Int → Int) (A : Nat → Int → Int → Nat) (X : Nat → Int → Int → Int) (tl : va_W) (G : Nat → Int → Nat) (Mc : Nat → Int → Int) (Y : Nat → Int → Nat) (O : Nat → Nat) (L : Int → Nat → Int → Int) (C : Nat → Int → Int) (K : Nat → Int → Int) (cp : Nat) (wi : Int) (he_ : Int) (hPR : PR dI k T A X G Mc Y O L C K cp tl) (hK : TK T) (hKK : KK T K) (hrwi : -2147483648 ≤ wi ∧ wi < 2147483648) (hrhe_ : -2147483648 ≤ he_ ∧ he_ < 2147483648) : Kx l dC dI k yX11_paper (.code yX11_paper cX11_paper 4 (some .int)) ({ frames := 6, cells := 1, slots := 6, locals := 82 } : Room) [.ref (Y 0 0), .int (iI wi), .int (iI he_)] ([] ++ tl) (fun r w gc gs => (∃ (L2 : Int → Nat → Int → Int) (tl2 : va_W), (PR dI k (paT T wi he_) A X G Mc Y O L2 C K cp tl2) ∧ ((30 ≤ wi ∧ wi ≤ 120) ∧ 6 ≤ he_ ∧ he_ ≤ 40) ∧ (∀ u, 0 ≤ u → u ≤ 1 → LF (L2 u)) ∧ r = some (.int (iI (T 16 0 0 0))) ∧ w = ([] ++ tl2) ∧ gc = 1 ∧ gs = 6)) (fun E w gc gs => ((¬ ((30 ≤ wi ∧ wi ≤ 120) ∧ 6 ≤ he_ ∧ he_ ≤ 40)) ∧ E = "java/lang/IllegalArgumentException" ∧ w = ([] ++ tl) ∧ gc = 1 ∧ gs = 6)) := by
  refine kx_of (by decide) (Nat.le_of_ble_eq_true rfl) ?_
  intro p e s m args below meth c H locs B hr hex ls hl
  have hx := B.1.1
  have hb := B.1.2.1
  have hl : lv_has ls 4 [(0, .ref (Y 0 0)), (1, .int (iI wi)), (2, .int (iI he_))] := hl
  have hT := PR_TI hPR
  have hnb0 := TK_nb hK
  have hcp0 : 512 ≤ cp ∧ cp ≤ 131072 := by have q9 := hPR.2.2.2; unfold cpOk at q9; omega
  refine lv_iload_n hx hb dX11_paper_0 rfl (lv_at hl 1 rfl) ?_
  refine lv_bipush (v := iI 30) hx hb dX11_paper_1 (by decide) ?_
  refine lv_icmp_lt (tgt := 24) hx hb dX11_paper_3 (by decide) (fun c_1 => ?_) (fun c_1 => ?_)
  · have zc_1 : wi < 30 := jlt (a := wi) (b := 30) (by omega) (by omega) c_1
    exact k_thrG (tx := "width or height out of range") xE_iae (⟨(by omega), rfl, rfl, rfl, rfl⟩) ⟨Nat.le_of_ble_eq_true rfl, Nat.le_of_ble_eq_true rfl⟩ hl0 B hex hl (by decide +kernel) dX11_paper_24 dX11_paper_27 dX11_paper_28 dX11_paper_30 dX11_paper_33 ⟨Nat.le_of_ble_eq_true rfl, Nat.le_of_ble_eq_true rfl, Nat.le_of_ble_eq_true rfl, Nat.le_of_ble_eq_true rfl⟩ ⟨Nat.le_of_ble_eq_true rfl, Nat.le_of_ble_eq_true rfl⟩
  · have zc_1 : 30 ≤ wi := jnlt (a := wi) (b := 30) (by omega) (by omega) c_1
    refine lv_iload_n hx hb dX11_paper_6 rfl (lv_at hl 1 rfl) ?_
    refine lv_bipush (v := iI 120) hx hb dX11_paper_7 (by decide) ?_
    refine lv_icmp_gt (tgt := 24) hx hb dX11_paper_9 (by decide) (fun c_2 => ?_) (fun c_2 => ?_)
    · have zc_2 : 120 < wi := jlt (a := 120) (b := wi) (by omega) (by omega) c_2
      exact k_thrG (tx := "width or height out of range") xE_iae (⟨(by omega), rfl, rfl, rfl, rfl⟩) ⟨Nat.le_of_ble_eq_true rfl, Nat.le_of_ble_eq_true rfl⟩ hl0 B hex hl (by decide +kernel) dX11_paper_24 dX11_paper_27 dX11_paper_28 dX11_paper_30 dX11_paper_33 ⟨Nat.le_of_ble_eq_true rfl, Nat.le_of_ble_eq_true rfl, Nat.le_of_ble_eq_true rfl, Nat.le_of_ble_eq_true rfl⟩ ⟨Nat.le_of_ble_eq_true rfl, Nat.le_of_ble_eq_true rfl⟩
    · have zc_2 : wi ≤ 120 := jnlt (a := 120) (b := wi) (by omega) (by omega) c_2
      refine lv_iload_n hx hb dX11_paper_12 rfl (lv_at hl 2 rfl) ?_
      refine lv_bipush (v := iI 6) hx hb dX11_paper_13 (by decide) ?_
      refine lv_icmp_lt (tgt := 24) hx hb dX11_paper_15 (by decide) (fun c_3 => ?_) (fun c_3 => ?_)
      · have zc_3 : he_ < 6 := jlt (a := he_) (b := 6) (by omega) (by omega) c_3
        exact k_thrG (tx := "width or height out of range") xE_iae (⟨(by omega), rfl, rfl, rfl, rfl⟩) ⟨Nat.le_of_ble_eq_true rfl, Nat.le_of_ble_eq_true rfl⟩ hl0 B hex hl (by decide +kernel) dX11_paper_24 dX11_paper_27 dX11_paper_28 dX11_paper_30 dX11_paper_33 ⟨Nat.le_of_ble_eq_true rfl, Nat.le_of_ble_eq_true rfl, Nat.le_of_ble_eq_true rfl, Nat.le_of_ble_eq_true rfl⟩ ⟨Nat.le_of_ble_eq_true rfl, Nat.le_of_ble_eq_true rfl⟩
      · have zc_3 : 6 ≤ he_ := jnlt (a := he_) (b := 6) (by omega) (by omega) c_3
        refine lv_iload_n hx hb dX11_paper_18 rfl (lv_at hl 2 rfl) ?_
        refine lv_bipush (v := iI 40) hx hb dX11_paper_19 (by decide) ?_
        refine lv_icmp_le (tgt := 34) hx hb dX11_paper_21 (by decide) (fun c_4 => ?_) (fun c_4 => ?_)
        · have zc_4 : he_ ≤ 40 := jle (a := he_) (b := 40) (by omega) (by omega) c_4
          refine lv_aload_n hx hb dX11_paper_34 rfl (lv_at hl 0 rfl) ?_
          obtain ⟨k_5, hk_5⟩ := pk_at (hs := []) (show (((Y 0 0), .inr (11, [.ref (A 50 0 0), .ref (Y 1 0), .ref (Y 2 0), .int (iI (K 0 0)), .ref (Y 3 0)])) : Nat × va_E) ∈ tl from PR_m hPR 0 0 rfl rfl)
          refine x_get (ci := 11) (C := RX11) (T := TX11) (N := 5) (v := .ref (A 50 0 0)) B k_5 hk_5 rfl in_X11 0 (by decide) mw_474 (fun _ h9 => h9) rfl dX11_paper_35 ?_
          obtain ⟨k_6, hk_6⟩ := pk_at (hs := []) hT.1.1
          refine x_get (ci := 9) (C := RX9) (T := TX9) (N := 8) (v := .int (iI (T 16 0 0 0))) B k_6 hk_6 rfl in_X9 6 (by decide) mw_97 (fun _ h9 => h9) rfl dX11_paper_38 ?_
          have z_7 : 30 ≤ T 16 0 0 0 ∧ T 16 0 0 0 ≤ 120 := TK_wid hK
          refine lv_istore_n (lv' := [(3, .int (iI (T 16 0 0 0))), (0, .ref (Y 0 0)), (1, .int (iI wi)), (2, .int (iI he_))]) hx hb dX11_paper_41 rfl hl (by decide) rfl (fun ls hl => ?_)
          refine lv_aload_n hx hb dX11_paper_42 rfl (lv_at hl 1 rfl) ?_
          obtain ⟨k_8, hk_8⟩ := pk_at (hs := []) (show (((Y 0 0), .inr (11, [.ref (A 50 0 0), .ref (Y 1 0), .ref (Y 2 0), .int (iI (K 0 0)), .ref (Y 3 0)])) : Nat × va_E) ∈ tl from PR_m hPR 0 0 rfl rfl)
          refine x_get (ci := 11) (C := RX11) (T := TX11) (N := 5) (v := .ref (A 50 0 0)) B k_8 hk_8 rfl in_X11 0 (by decide) mw_474 (fun _ h9 => h9) rfl dX11_paper_43 ?_
          refine lv_iload_n hx hb dX11_paper_46 rfl (lv_at hl 2 rfl) ?_
          obtain ⟨tr_9, htr_9, btr_9⟩ := PR_he hPR
          have B := bd_perm (List.Perm.append_left [] htr_9) B
          have B := bd_to (ws' := ([((Y 0 0), .inr (11, [.ref (A 50 0 0), .ref (Y 1 0), .ref (Y 2 0), .int (iI (K 0 0)), .ref (Y 3 0)])), ((Y 1 0), .inl (k 3, 2, .inr (.inr (.inr (.inr (fun i9 : Nat => (fun j9 : Int => some (Y 4 j9)) i9)))))), ((Y 2 0), .inl (k 0, 6, .inl (fun i9 : Nat => iI ((K 1) i9)))), ((Y 3 0), .inl (k 0, 5, .inl (fun i9 : Nat => iI ((K 2) i9)))), ((A 50 0 0), .inr (9, [.ref (A 51 0 0), .ref (A 52 0 0), .ref (A 53 0 0), .ref (A 54 0 0), .int (iI (T 12 0 0 0)), .ref (A 55 0 0), .int (iI (T 16 0 0 0)), .int (iI (T 17 0 0 0))])), ((A 53 0 0), .inl (k 0, 5, .inl (fun i9 : Nat => iI ((fun j9 : Int => T 13 j9 0 0) i9)))), ((A 54 0 0), .inl (k 0, 5, .inl (fun i9 : Nat => iI ((fun j9 : Int => T 14 j9 0 0) i9)))), ((A 55 0 0), .inl (k 0, 8, .inl (fun i9 : Nat => iI ((fun j9 : Int => T 15 j9 0 0) i9))))] ++ tr_9)) rfl B
          refine x_put (ci := 9) (C := RX9) (T := TX9) (N := 8) (ty := .int) (v := .int (iI wi)) B tyX9_ok nmX9 4 rfl rfl in_X9 6 (by decide) mw_97 (fun _ h9 => h9) rfl (by decide +kernel) rfl rfl (Nat.le_of_ble_eq_true rfl) dX11_paper_47 (fun H locs B => ?_)
          have B := bd_to (ws' := ([((Y 0 0), .inr (11, [.ref (A 50 0 0), .ref (Y 1 0), .ref (Y 2 0), .int (iI (K 0 0)), .ref (Y 3 0)])), ((Y 1 0), .inl (k 3, 2, .inr (.inr (.inr (.inr (fun i9 : Nat => (fun j9 : Int => some (Y 4 j9)) i9)))))), ((Y 2 0), .inl (k 0, 6, .inl (fun i9 : Nat => iI ((K 1) i9)))), ((Y 3 0), .inl (k 0, 5, .inl (fun i9 : Nat => iI ((K 2) i9)))), ((A 50 0 0), .inr (9, [.ref (A 51 0 0), .ref (A 52 0 0), .ref (A 53 0 0), .ref (A 54 0 0), .int (iI (T 12 0 0 0)), .ref (A 55 0 0), .int (iI wi), .int (iI (T 17 0 0 0))])), ((A 53 0 0), .inl (k 0, 5, .inl (fun i9 : Nat => iI ((fun j9 : Int => T 13 j9 0 0) i9)))), ((A 54 0 0), .inl (k 0, 5, .inl (fun i9 : Nat => iI ((fun j9 : Int => T 14 j9 0 0) i9)))), ((A 55 0 0), .inl (k 0, 8, .inl (fun i9 : Nat => iI ((fun j9 : Int => T 15 j9 0 0) i9))))] ++ tr_9)) rfl B
          refine lv_aload_n hx hb dX11_paper_50 rfl (lv_at hl 1 rfl) ?_
          refine x_get (ci := 11) (C := RX11) (T := TX11) (N := 5) (v := .ref (A 50 0 0)) B 0 rfl rfl in_X11 0 (by decide) mw_474 (fun _ h9 => h9) rfl dX11_paper_51 ?_
          refine lv_iload_n hx hb dX11_paper_54 rfl (lv_at hl 3 rfl) ?_
          refine x_put (ci := 9) (C := RX9) (T := TX9) (N := 8) (ty := .int) (v := .int (iI he_)) B tyX9_ok nmX9 4 rfl rfl in_X9 7 (by decide) mw_101 (fun _ h9 => h9) rfl (by decide +kernel) rfl rfl (Nat.le_of_ble_eq_true rfl) dX11_paper_55 (fun H locs B => ?_)
          have B := bd_to (ws' := ([((Y 0 0), .inr (11, [.ref (A 50 0 0), .ref (Y 1 0), .ref (Y 2 0), .int (iI (K 0 0)), .ref (Y 3 0)])), ((Y 1 0), .inl (k 3, 2, .inr (.inr (.inr (.inr (fun i9 : Nat => (fun j9 : Int => some (Y 4 j9)) i9)))))), ((Y 2 0), .inl (k 0, 6, .inl (fun i9 : Nat => iI ((K 1) i9)))), ((Y 3 0), .inl (k 0, 5, .inl (fun i9 : Nat => iI ((K 2) i9)))), ((A 50 0 0), .inr (9, [.ref (A 51 0 0), .ref (A 52 0 0), .ref (A 53 0 0), .ref (A 54 0 0), .int (iI (T 12 0 0 0)), .ref (A 55 0 0), .int (iI wi), .int (iI he_)])), ((A 53 0 0), .inl (k 0, 5, .inl (fun i9 : Nat => iI ((fun j9 : Int => T 13 j9 0 0) i9)))), ((A 54 0 0), .inl (k 0, 5, .inl (fun i9 : Nat => iI ((fun j9 : Int => T 14 j9 0 0) i9)))), ((A 55 0 0), .inl (k 0, 8, .inl (fun i9 : Nat => iI ((fun j9 : Int => T 15 j9 0 0) i9))))] ++ tr_9)) rfl B
          refine lv_aload_n hx hb dX11_paper_58 rfl (lv_at hl 1 rfl) ?_
          have B := bd_to (ws' := ([] ++ ((gCl k A Y K ++ heC k (paT T wi he_) A) ++ tr_9))) rfl B
          have hPR : PR dI k (paT T wi he_) A X G Mc Y O L C K cp ((gCl k A Y K ++ heC k (paT T wi he_) A) ++ tr_9) := btr_9 K (paT T wi he_) (fun c hc => by unfold paT; rw [if_neg (by omega), if_neg (by omega)])
          have hT := PR_TI hPR
          have hK : TK (paT T wi he_) := TK_paT hK (by omega)
          have B := bd_swap (a := []) (b := []) (d := ((gCl k A Y K ++ heC k (paT T wi he_) A) ++ tr_9)) (bd_to rfl B)
          obtain ⟨k_10, hk_10⟩ := pk_at (hs := []) (show (((Y 0 0), .inr (11, [.ref (A 50 0 0), .ref (Y 1 0), .ref (Y 2 0), .int (iI (K 0 0)), .ref (Y 3 0)])) : Nat × va_E) ∈ ((gCl k A Y K ++ heC k (paT T wi he_) A) ++ tr_9) from PR_m hPR 0 0 rfl rfl)
          refine k_V (rest := []) (wc := ([] ++ ((gCl k A Y K ++ heC k (paT T wi he_) A) ++ tr_9))) (wr := []) (k_forgetAll l dC dI k (paT T wi he_) A X ((gCl k A Y K ++ heC k (paT T wi he_) A) ++ tr_9) G Mc Y O L C K cp hPR hK) B mV_X11_forgetLayouts mw_769 hl (q0 := k_10) (ci := 11) hk_10 rfl rfl ⟨Nat.le_of_ble_eq_true rfl, Nat.le_of_ble_eq_true rfl⟩ (Nat.le_of_ble_eq_true rfl) rfl dX11_paper_59 ⟨Nat.le_of_ble_eq_true rfl, Nat.le_of_ble_eq_true rfl⟩ (fun r w gc gs H locs hp B => ?_)
          obtain ⟨L2_11, tl2_12, z_13, z_14, rfl, hw9, rfl, rfl⟩ := hp
          rw [hw9] at B; clear hw9
          have B := bd_to (ws' := ([] ++ tl2_12)) rfl B
          have hPR : PR dI k (paT T wi he_) A X G Mc Y O L2_11 C K cp tl2_12 := z_13
          have hT : TI dI k (paT T wi he_) A X tl2_12 := PR_TI hPR
          refine lv_iload_n hx hb dX11_paper_62 rfl (lv_at hl 0 rfl) ?_
          exact vx_ret (k_iret B hr (⟨L2_11, tl2_12, hPR, (by omega), z_14, rfl, rfl, rfl, rfl⟩) ⟨Nat.le_of_ble_eq_true rfl, Nat.le_of_ble_eq_true rfl⟩ ⟨Nat.le_of_ble_eq_true rfl, Nat.le_of_ble_eq_true rfl⟩ dX11_paper_63)
        · have zc_4 : 40 < he_ := jnle (a := he_) (b := 40) (by omega) (by omega) c_4
          exact k_thrG (tx := "width or height out of range") xE_iae (⟨(by omega), rfl, rfl, rfl, rfl⟩) ⟨Nat.le_of_ble_eq_true rfl, Nat.le_of_ble_eq_true rfl⟩ hl0 B hex hl (by decide +kernel) dX11_paper_24 dX11_paper_27 dX11_paper_28 dX11_paper_30 dX11_paper_33 ⟨Nat.le_of_ble_eq_true rfl, Nat.le_of_ble_eq_true rfl, Nat.le_of_ble_eq_true rfl, Nat.le_of_ble_eq_true rfl⟩ ⟨Nat.le_of_ble_eq_true rfl, Nat.le_of_ble_eq_true rfl⟩

theorem mw_84 : (Jvm.Cond.fieldLink "Galleyforge" (210 : Nat) "Galleyforge$Text" "figureKinds" "[I") ∈ gt := gt_at 154 (by decide +kernel) (by decide +kernel)
theorem mw_88 : (Jvm.Cond.fieldLink "Galleyforge" (213 : Nat) "Galleyforge$Text" "figureHeights" "[I") ∈ gt := gt_at 158 (by decide +kernel) (by decide +kernel)
theorem dX11_figure_0 : decode cX11_figure 0 = .ok (.iload_n 1, 1) := by decide +kernel
theorem dX11_figure_1 : decode cX11_figure 1 = .ok (.ifCond .lt 19, 3) := by decide +kernel
theorem dX11_figure_4 : decode cX11_figure 4 = .ok (.iload_n 1, 1) := by decide +kernel
theorem dX11_figure_5 : decode cX11_figure 5 = .ok (.iconst 2, 1) := by decide +kernel
theorem dX11_figure_6 : decode cX11_figure 6 = .ok (.if_icmp .ge 14, 3) := by decide +kernel
theorem dX11_figure_9 : decode cX11_figure 9 = .ok (.iload_n 2, 1) := by decide +kernel
theorem dX11_figure_10 : decode cX11_figure 10 = .ok (.iconst 1, 1) := by decide +kernel
theorem dX11_figure_11 : decode cX11_figure 11 = .ok (.if_icmp .lt 9, 3) := by decide +kernel
theorem dX11_figure_14 : decode cX11_figure 14 = .ok (.iload_n 2, 1) := by decide +kernel
theorem dX11_figure_15 : decode cX11_figure 15 = .ok (.bipush 40, 2) := by decide +kernel
theorem dX11_figure_17 : decode cX11_figure 17 = .ok (.if_icmp .le 13, 3) := by decide +kernel
theorem dX11_figure_20 : decode cX11_figure 20 = .ok (.new 72, 3) := by decide +kernel
theorem dX11_figure_23 : decode cX11_figure 23 = .ok (.dup, 1) := by decide +kernel
theorem dX11_figure_24 : decode cX11_figure 24 = .ok (.ldc 203, 2) := by decide +kernel
theorem dX11_figure_26 : decode cX11_figure 26 = .ok (.invokespecial 76, 3) := by decide +kernel
theorem dX11_figure_29 : decode cX11_figure 29 = .ok (.athrow, 1) := by decide +kernel
theorem dX11_figure_30 : decode cX11_figure 30 = .ok (.aload_n 0, 1) := by decide +kernel
theorem dX11_figure_31 : decode cX11_figure 31 = .ok (.getfield 12, 3) := by decide +kernel
theorem dX11_figure_34 : decode cX11_figure 34 = .ok (.getfield 205, 3) := by decide +kernel
theorem dX11_figure_37 : decode cX11_figure 37 = .ok (.iconst 5, 1) := by decide +kernel
theorem dX11_figure_38 : decode cX11_figure 38 = .ok (.if_icmp .lt 13, 3) := by decide +kernel
theorem dX11_figure_41 : decode cX11_figure 41 = .ok (.new 58, 3) := by decide +kernel
theorem dX11_figure_44 : decode cX11_figure 44 = .ok (.dup, 1) := by decide +kernel
theorem dX11_figure_45 : decode cX11_figure 45 = .ok (.ldc 208, 2) := by decide +kernel
theorem dX11_figure_47 : decode cX11_figure 47 = .ok (.invokespecial 62, 3) := by decide +kernel
theorem dX11_figure_50 : decode cX11_figure 50 = .ok (.athrow, 1) := by decide +kernel
theorem dX11_figure_51 : decode cX11_figure 51 = .ok (.aload_n 0, 1) := by decide +kernel
theorem dX11_figure_52 : decode cX11_figure 52 = .ok (.getfield 12, 3) := by decide +kernel
theorem dX11_figure_55 : decode cX11_figure 55 = .ok (.getfield 205, 3) := by decide +kernel
theorem dX11_figure_58 : decode cX11_figure 58 = .ok (.istore_n 3, 1) := by decide +kernel
theorem dX11_figure_59 : decode cX11_figure 59 = .ok (.aload_n 0, 1) := by decide +kernel
theorem dX11_figure_60 : decode cX11_figure 60 = .ok (.getfield 12, 3) := by decide +kernel
theorem dX11_figure_63 : decode cX11_figure 63 = .ok (.getfield 210, 3) := by decide +kernel
theorem dX11_figure_66 : decode cX11_figure 66 = .ok (.iload_n 3, 1) := by decide +kernel
theorem dX11_figure_67 : decode cX11_figure 67 = .ok (.iload_n 1, 1) := by decide +kernel
theorem dX11_figure_68 : decode cX11_figure 68 = .ok (.iastore, 1) := by decide +kernel
theorem dX11_figure_69 : decode cX11_figure 69 = .ok (.aload_n 0, 1) := by decide +kernel
theorem dX11_figure_70 : decode cX11_figure 70 = .ok (.getfield 12, 3) := by decide +kernel
theorem dX11_figure_73 : decode cX11_figure 73 = .ok (.getfield 213, 3) := by decide +kernel
theorem dX11_figure_76 : decode cX11_figure 76 = .ok (.iload_n 3, 1) := by decide +kernel
theorem dX11_figure_77 : decode cX11_figure 77 = .ok (.iload_n 2, 1) := by decide +kernel
theorem dX11_figure_78 : decode cX11_figure 78 = .ok (.iastore, 1) := by decide +kernel
theorem dX11_figure_79 : decode cX11_figure 79 = .ok (.aload_n 0, 1) := by decide +kernel
theorem dX11_figure_80 : decode cX11_figure 80 = .ok (.getfield 12, 3) := by decide +kernel
theorem dX11_figure_83 : decode cX11_figure 83 = .ok (.dup, 1) := by decide +kernel
theorem dX11_figure_84 : decode cX11_figure 84 = .ok (.getfield 205, 3) := by decide +kernel
theorem dX11_figure_87 : decode cX11_figure 87 = .ok (.iconst 1, 1) := by decide +kernel
theorem dX11_figure_88 : decode cX11_figure 88 = .ok (.iadd, 1) := by decide +kernel
theorem dX11_figure_89 : decode cX11_figure 89 = .ok (.putfield 205, 3) := by decide +kernel
theorem dX11_figure_92 : decode cX11_figure 92 = .ok (.aload_n 0, 1) := by decide +kernel
theorem dX11_figure_93 : decode cX11_figure 93 = .ok (.invokevirtual 106, 3) := by decide +kernel
theorem dX11_figure_96 : decode cX11_figure 96 = .ok (.iload_n 3, 1) := by decide +kernel
theorem dX11_figure_97 : decode cX11_figure 97 = .ok (.ireturn, 1) := by decide +kernel
set_option maxHeartbeats 4000000 in
set_option maxRecDepth 100000 in
theorem k_figure (l : Launch) (dC : Nat → ClassId) (dI : Nat → Nat → Nat) (k : Nat → ClassId) (hl0 : l.stackTraces = false) (T : Nat → Int → Int → Int → Int) (A : Nat → Int → Int → Nat) (X : Nat → Int → Int → Int) (tl : va_W) (G : Nat → Int → Nat) (Mc : Nat → Int → Int) (Y : Nat → Int → Nat) (O : Nat → Nat) (L : Int → Nat → Int → Int) (C : Nat → Int → Int) (K : Nat → Int → Int) (cp : Nat) (ki : Int) (he_ : Int) (hPR : PR dI k T A X G Mc Y O L C K cp tl) (hK : TK T) (hKK : KK T K) (hrki : -2147483648 ≤ ki ∧ ki < 2147483648) (hrhe_ : -2147483648 ≤ he_ ∧ he_ < 2147483648) : Kx l dC dI k yX11_figure (.code yX11_figure cX11_figure 4 (some .int)) ({ frames := 6, cells := 1, slots := 6, locals := 82 } : Room) [.ref (Y 0 0), .int (iI ki), .int (iI he_)] ([] ++ tl) (fun r w gc gs => (∃ (L2 : Int → Nat → Int → Int) (tl2 : va_W), (PR dI k (fiT T ki he_) A X G Mc Y O L2 C K cp tl2) ∧ (((0 ≤ ki ∧ ki ≤ 1) ∧ 1 ≤ he_ ∧ he_ ≤ 40) ∧ T 12 0 0 0 < 5) ∧ (∀ u, 0 ≤ u → u ≤ 1 → LF (L2 u)) ∧ r = some (.int (iI (T 12 0 0 0))) ∧ w = ([] ++ tl2) ∧ gc = 1 ∧ gs = 6)) (fun E w gc gs => ((¬ ((0 ≤ ki ∧ ki ≤ 1) ∧ 1 ≤ he_ ∧ he_ ≤ 40)) ∧ E = "java/lang/IllegalArgumentException" ∧ w = ([] ++ tl) ∧ gc = 1 ∧ gs = 6) ∨ ((((0 ≤ ki ∧ ki ≤ 1) ∧ 1 ≤ he_ ∧ he_ ≤ 40) ∧ ¬ T 12 0 0 0 < 5) ∧ E = "java/lang/IllegalStateException" ∧ w = ([] ++ tl) ∧ gc = 1 ∧ gs = 6)) := by
  refine kx_of (by decide) (Nat.le_of_ble_eq_true rfl) ?_
  intro p e s m args below meth c H locs B hr hex ls hl
  have hx := B.1.1
  have hb := B.1.2.1
  have hl : lv_has ls 4 [(0, .ref (Y 0 0)), (1, .int (iI ki)), (2, .int (iI he_))] := hl
  have hT := PR_TI hPR
  have hnb0 := TK_nb hK
  have hcp0 : 512 ≤ cp ∧ cp ≤ 131072 := by have q9 := hPR.2.2.2; unfold cpOk at q9; omega
  refine lv_iload_n hx hb dX11_figure_0 rfl (lv_at hl 1 rfl) ?_
  refine lv_if_lt (tgt := 20) hx hb dX11_figure_1 (by decide) (fun c_1 => ?_) (fun c_1 => ?_)
  · have zc_1 : ki < 0 := jlt (a := ki) (b := 0) (by omega) (by omega) c_1
    exact k_thrG (tx := "kind or height out of range") xE_iae (Or.inl (⟨(by omega), rfl, rfl, rfl, rfl⟩)) ⟨Nat.le_of_ble_eq_true rfl, Nat.le_of_ble_eq_true rfl⟩ hl0 B hex hl (by decide +kernel) dX11_figure_20 dX11_figure_23 dX11_figure_24 dX11_figure_26 dX11_figure_29 ⟨Nat.le_of_ble_eq_true rfl, Nat.le_of_ble_eq_true rfl, Nat.le_of_ble_eq_true rfl, Nat.le_of_ble_eq_true rfl⟩ ⟨Nat.le_of_ble_eq_true rfl, Nat.le_of_ble_eq_true rfl⟩
  · have zc_1 : 0 ≤ ki := jnlt (a := ki) (b := 0) (by omega) (by omega) c_1
    refine lv_iload_n hx hb dX11_figure_4 rfl (lv_at hl 1 rfl) ?_
    refine lv_iconst (v := iI 2) hx hb dX11_figure_5 (by decide) ?_
    refine lv_icmp_ge (tgt := 20) hx hb dX11_figure_6 (by decide) (fun c_2 => ?_) (fun c_2 => ?_)
    · have zc_2 : 2 ≤ ki := jle (a := 2) (b := ki) (by omega) (by omega) c_2
      exact k_thrG (tx := "kind or height out of range") xE_iae (Or.inl (⟨(by omega), rfl, rfl, rfl, rfl⟩)) ⟨Nat.le_of_ble_eq_true rfl, Nat.le_of_ble_eq_true rfl⟩ hl0 B hex hl (by decide +kernel) dX11_figure_20 dX11_figure_23 dX11_figure_24 dX11_figure_26 dX11_figure_29 ⟨Nat.le_of_ble_eq_true rfl, Nat.le_of_ble_eq_true rfl, Nat.le_of_ble_eq_true rfl, Nat.le_of_ble_eq_true rfl⟩ ⟨Nat.le_of_ble_eq_true rfl, Nat.le_of_ble_eq_true rfl⟩
    · have zc_2 : ki < 2 := jnle (a := 2) (b := ki) (by omega) (by omega) c_2
      refine lv_iload_n hx hb dX11_figure_9 rfl (lv_at hl 2 rfl) ?_
      refine lv_iconst (v := iI 1) hx hb dX11_figure_10 (by decide) ?_
      refine lv_icmp_lt (tgt := 20) hx hb dX11_figure_11 (by decide) (fun c_3 => ?_) (fun c_3 => ?_)
      · have zc_3 : he_ < 1 := jlt (a := he_) (b := 1) (by omega) (by omega) c_3
        exact k_thrG (tx := "kind or height out of range") xE_iae (Or.inl (⟨(by omega), rfl, rfl, rfl, rfl⟩)) ⟨Nat.le_of_ble_eq_true rfl, Nat.le_of_ble_eq_true rfl⟩ hl0 B hex hl (by decide +kernel) dX11_figure_20 dX11_figure_23 dX11_figure_24 dX11_figure_26 dX11_figure_29 ⟨Nat.le_of_ble_eq_true rfl, Nat.le_of_ble_eq_true rfl, Nat.le_of_ble_eq_true rfl, Nat.le_of_ble_eq_true rfl⟩ ⟨Nat.le_of_ble_eq_true rfl, Nat.le_of_ble_eq_true rfl⟩
      · have zc_3 : 1 ≤ he_ := jnlt (a := he_) (b := 1) (by omega) (by omega) c_3
        refine lv_iload_n hx hb dX11_figure_14 rfl (lv_at hl 2 rfl) ?_
        refine lv_bipush (v := iI 40) hx hb dX11_figure_15 (by decide) ?_
        refine lv_icmp_le (tgt := 30) hx hb dX11_figure_17 (by decide) (fun c_4 => ?_) (fun c_4 => ?_)
        · have zc_4 : he_ ≤ 40 := jle (a := he_) (b := 40) (by omega) (by omega) c_4
          refine lv_aload_n hx hb dX11_figure_30 rfl (lv_at hl 0 rfl) ?_
          obtain ⟨k_5, hk_5⟩ := pk_at (hs := []) (show (((Y 0 0), .inr (11, [.ref (A 50 0 0), .ref (Y 1 0), .ref (Y 2 0), .int (iI (K 0 0)), .ref (Y 3 0)])) : Nat × va_E) ∈ tl from PR_m hPR 0 0 rfl rfl)
          refine x_get (ci := 11) (C := RX11) (T := TX11) (N := 5) (v := .ref (A 50 0 0)) B k_5 hk_5 rfl in_X11 0 (by decide) mw_474 (fun _ h9 => h9) rfl dX11_figure_31 ?_
          obtain ⟨k_6, hk_6⟩ := pk_at (hs := []) hT.1.1
          refine x_get (ci := 9) (C := RX9) (T := TX9) (N := 8) (v := .int (iI (T 12 0 0 0))) B k_6 hk_6 rfl in_X9 4 (by decide) mw_90 (fun _ h9 => h9) rfl dX11_figure_34 ?_
          have z_7 : 0 ≤ T 12 0 0 0 ∧ T 12 0 0 0 ≤ 5 := TK_fc hK
          refine lv_iconst (v := iI 5) hx hb dX11_figure_37 (by decide) ?_
          refine lv_icmp_lt (tgt := 51) hx hb dX11_figure_38 (by decide) (fun c_8 => ?_) (fun c_8 => ?_)
          · have zc_8 : (T 12 0 0 0) < 5 := jlt (a := (T 12 0 0 0)) (b := 5) (by omega) (by omega) c_8
            refine lv_aload_n hx hb dX11_figure_51 rfl (lv_at hl 0 rfl) ?_
            obtain ⟨k_9, hk_9⟩ := pk_at (hs := []) (show (((Y 0 0), .inr (11, [.ref (A 50 0 0), .ref (Y 1 0), .ref (Y 2 0), .int (iI (K 0 0)), .ref (Y 3 0)])) : Nat × va_E) ∈ tl from PR_m hPR 0 0 rfl rfl)
            refine x_get (ci := 11) (C := RX11) (T := TX11) (N := 5) (v := .ref (A 50 0 0)) B k_9 hk_9 rfl in_X11 0 (by decide) mw_474 (fun _ h9 => h9) rfl dX11_figure_52 ?_
            obtain ⟨k_10, hk_10⟩ := pk_at (hs := []) hT.1.1
            refine x_get (ci := 9) (C := RX9) (T := TX9) (N := 8) (v := .int (iI (T 12 0 0 0))) B k_10 hk_10 rfl in_X9 4 (by decide) mw_90 (fun _ h9 => h9) rfl dX11_figure_55 ?_
            have z_11 : 0 ≤ T 12 0 0 0 ∧ T 12 0 0 0 ≤ 5 := TK_fc hK
            refine lv_istore_n (lv' := [(3, .int (iI (T 12 0 0 0))), (0, .ref (Y 0 0)), (1, .int (iI ki)), (2, .int (iI he_))]) hx hb dX11_figure_58 rfl hl (by decide) rfl (fun ls hl => ?_)
            refine lv_aload_n hx hb dX11_figure_59 rfl (lv_at hl 1 rfl) ?_
            obtain ⟨k_12, hk_12⟩ := pk_at (hs := []) (show (((Y 0 0), .inr (11, [.ref (A 50 0 0), .ref (Y 1 0), .ref (Y 2 0), .int (iI (K 0 0)), .ref (Y 3 0)])) : Nat × va_E) ∈ tl from PR_m hPR 0 0 rfl rfl)
            refine x_get (ci := 11) (C := RX11) (T := TX11) (N := 5) (v := .ref (A 50 0 0)) B k_12 hk_12 rfl in_X11 0 (by decide) mw_474 (fun _ h9 => h9) rfl dX11_figure_60 ?_
            obtain ⟨k_13, hk_13⟩ := pk_at (hs := []) hT.1.1
            refine x_get (ci := 9) (C := RX9) (T := TX9) (N := 8) (v := .ref (A 53 0 0)) B k_13 hk_13 rfl in_X9 2 (by decide) mw_84 (fun _ h9 => h9) rfl dX11_figure_63 ?_
            refine lv_iload_n hx hb dX11_figure_66 rfl (lv_at hl 0 rfl) ?_
            refine lv_iload_n hx hb dX11_figure_67 rfl (lv_at hl 2 rfl) ?_
            obtain ⟨tr_14, htr_14, btr_14⟩ := PR_he hPR
            have B := bd_perm (List.Perm.append_left [] htr_14) B
            have B := bd_to (ws' := ([((Y 0 0), .inr (11, [.ref (A 50 0 0), .ref (Y 1 0), .ref (Y 2 0), .int (iI (K 0 0)), .ref (Y 3 0)])), ((Y 1 0), .inl (k 3, 2, .inr (.inr (.inr (.inr (fun i9 : Nat => (fun j9 : Int => some (Y 4 j9)) i9)))))), ((Y 2 0), .inl (k 0, 6, .inl (fun i9 : Nat => iI ((K 1) i9)))), ((Y 3 0), .inl (k 0, 5, .inl (fun i9 : Nat => iI ((K 2) i9)))), ((A 50 0 0), .inr (9, [.ref (A 51 0 0), .ref (A 52 0 0), .ref (A 53 0 0), .ref (A 54 0 0), .int (iI (T 12 0 0 0)), .ref (A 55 0 0), .int (iI (T 16 0 0 0)), .int (iI (T 17 0 0 0))])), ((A 53 0 0), .inl (k 0, 5, .inl (fun i9 : Nat => iI ((fun j9 : Int => T 13 j9 0 0) i9)))), ((A 54 0 0), .inl (k 0, 5, .inl (fun i9 : Nat => iI ((fun j9 : Int => T 14 j9 0 0) i9)))), ((A 55 0 0), .inl (k 0, 8, .inl (fun i9 : Nat => iI ((fun j9 : Int => T 15 j9 0 0) i9))))] ++ tr_14)) rfl B
            refine x_iast' (f := (fun j9 : Int => T 13 j9 0 0)) (z := (T 12 0 0 0)) (v := ki) B 5 rfl (by omega) dX11_figure_68 (fun H locs B => ?_)
            have B := bd_to (ws' := ([((Y 0 0), .inr (11, [.ref (A 50 0 0), .ref (Y 1 0), .ref (Y 2 0), .int (iI (K 0 0)), .ref (Y 3 0)])), ((Y 1 0), .inl (k 3, 2, .inr (.inr (.inr (.inr (fun i9 : Nat => (fun j9 : Int => some (Y 4 j9)) i9)))))), ((Y 2 0), .inl (k 0, 6, .inl (fun i9 : Nat => iI ((K 1) i9)))), ((Y 3 0), .inl (k 0, 5, .inl (fun i9 : Nat => iI ((K 2) i9)))), ((A 50 0 0), .inr (9, [.ref (A 51 0 0), .ref (A 52 0 0), .ref (A 53 0 0), .ref (A 54 0 0), .int (iI (T 12 0 0 0)), .ref (A 55 0 0), .int (iI (T 16 0 0 0)), .int (iI (T 17 0 0 0))])), ((A 53 0 0), .inl (k 0, 5, .inl (fun i9 : Nat => iI ((uz (fun j9 : Int => T 13 j9 0 0) (T 12 0 0 0) ki) i9)))), ((A 54 0 0), .inl (k 0, 5, .inl (fun i9 : Nat => iI ((fun j9 : Int => T 14 j9 0 0) i9)))), ((A 55 0 0), .inl (k 0, 8, .inl (fun i9 : Nat => iI ((fun j9 : Int => T 15 j9 0 0) i9))))] ++ tr_14)) rfl B
            refine lv_aload_n hx hb dX11_figure_69 rfl (lv_at hl 1 rfl) ?_
            refine x_get (ci := 11) (C := RX11) (T := TX11) (N := 5) (v := .ref (A 50 0 0)) B 0 rfl rfl in_X11 0 (by decide) mw_474 (fun _ h9 => h9) rfl dX11_figure_70 ?_
            refine x_get (ci := 9) (C := RX9) (T := TX9) (N := 8) (v := .ref (A 54 0 0)) B 4 rfl rfl in_X9 3 (by decide) mw_88 (fun _ h9 => h9) rfl dX11_figure_73 ?_
            refine lv_iload_n hx hb dX11_figure_76 rfl (lv_at hl 0 rfl) ?_
            refine lv_iload_n hx hb dX11_figure_77 rfl (lv_at hl 3 rfl) ?_
            refine x_iast' (f := (fun j9 : Int => T 14 j9 0 0)) (z := (T 12 0 0 0)) (v := he_) B 6 rfl (by omega) dX11_figure_78 (fun H locs B => ?_)
            have B := bd_to (ws' := ([((Y 0 0), .inr (11, [.ref (A 50 0 0), .ref (Y 1 0), .ref (Y 2 0), .int (iI (K 0 0)), .ref (Y 3 0)])), ((Y 1 0), .inl (k 3, 2, .inr (.inr (.inr (.inr (fun i9 : Nat => (fun j9 : Int => some (Y 4 j9)) i9)))))), ((Y 2 0), .inl (k 0, 6, .inl (fun i9 : Nat => iI ((K 1) i9)))), ((Y 3 0), .inl (k 0, 5, .inl (fun i9 : Nat => iI ((K 2) i9)))), ((A 50 0 0), .inr (9, [.ref (A 51 0 0), .ref (A 52 0 0), .ref (A 53 0 0), .ref (A 54 0 0), .int (iI (T 12 0 0 0)), .ref (A 55 0 0), .int (iI (T 16 0 0 0)), .int (iI (T 17 0 0 0))])), ((A 53 0 0), .inl (k 0, 5, .inl (fun i9 : Nat => iI ((uz (fun j9 : Int => T 13 j9 0 0) (T 12 0 0 0) ki) i9)))), ((A 54 0 0), .inl (k 0, 5, .inl (fun i9 : Nat => iI ((uz (fun j9 : Int => T 14 j9 0 0) (T 12 0 0 0) he_) i9)))), ((A 55 0 0), .inl (k 0, 8, .inl (fun i9 : Nat => iI ((fun j9 : Int => T 15 j9 0 0) i9))))] ++ tr_14)) rfl B
            refine lv_aload_n hx hb dX11_figure_79 rfl (lv_at hl 1 rfl) ?_
            refine x_get (ci := 11) (C := RX11) (T := TX11) (N := 5) (v := .ref (A 50 0 0)) B 0 rfl rfl in_X11 0 (by decide) mw_474 (fun _ h9 => h9) rfl dX11_figure_80 ?_
            refine lv_dup hx hb dX11_figure_83 rfl ?_
            refine x_get (ci := 9) (C := RX9) (T := TX9) (N := 8) (v := .int (iI (T 12 0 0 0))) B 4 rfl rfl in_X9 4 (by decide) mw_90 (fun _ h9 => h9) rfl dX11_figure_84 ?_
            refine lv_iconst (v := iI 1) hx hb dX11_figure_87 (by decide) ?_
            refine y_add hx hb dX11_figure_88 ?_
            refine x_put (ci := 9) (C := RX9) (T := TX9) (N := 8) (ty := .int) (v := .int (iI ((T 12 0 0 0) + 1))) B tyX9_ok nmX9 4 rfl rfl in_X9 4 (by decide) mw_90 (fun _ h9 => h9) rfl (by decide +kernel) rfl rfl (Nat.le_of_ble_eq_true rfl) dX11_figure_89 (fun H locs B => ?_)
            have B := bd_to (ws' := ([((Y 0 0), .inr (11, [.ref (A 50 0 0), .ref (Y 1 0), .ref (Y 2 0), .int (iI (K 0 0)), .ref (Y 3 0)])), ((Y 1 0), .inl (k 3, 2, .inr (.inr (.inr (.inr (fun i9 : Nat => (fun j9 : Int => some (Y 4 j9)) i9)))))), ((Y 2 0), .inl (k 0, 6, .inl (fun i9 : Nat => iI ((K 1) i9)))), ((Y 3 0), .inl (k 0, 5, .inl (fun i9 : Nat => iI ((K 2) i9)))), ((A 50 0 0), .inr (9, [.ref (A 51 0 0), .ref (A 52 0 0), .ref (A 53 0 0), .ref (A 54 0 0), .int (iI ((T 12 0 0 0) + 1)), .ref (A 55 0 0), .int (iI (T 16 0 0 0)), .int (iI (T 17 0 0 0))])), ((A 53 0 0), .inl (k 0, 5, .inl (fun i9 : Nat => iI ((uz (fun j9 : Int => T 13 j9 0 0) (T 12 0 0 0) ki) i9)))), ((A 54 0 0), .inl (k 0, 5, .inl (fun i9 : Nat => iI ((uz (fun j9 : Int => T 14 j9 0 0) (T 12 0 0 0) he_) i9)))), ((A 55 0 0), .inl (k 0, 8, .inl (fun i9 : Nat => iI ((fun j9 : Int => T 15 j9 0 0) i9))))] ++ tr_14)) rfl B
            refine lv_aload_n hx hb dX11_figure_92 rfl (lv_at hl 1 rfl) ?_
            have B := bd_to (ws' := ([] ++ ((gCl k A Y K ++ heC k (fiT T ki he_) A) ++ tr_14))) rfl B
            have hPR : PR dI k (fiT T ki he_) A X G Mc Y O L C K cp ((gCl k A Y K ++ heC k (fiT T ki he_) A) ++ tr_14) := btr_14 K (fiT T ki he_) (fun c hc => by unfold fiT; rw [if_neg (by omega), if_neg (by omega), if_neg (by omega)])
            have hT := PR_TI hPR
            have hK : TK (fiT T ki he_) := TK_fiT hK (by omega)
            have B := bd_swap (a := []) (b := []) (d := ((gCl k A Y K ++ heC k (fiT T ki he_) A) ++ tr_14)) (bd_to rfl B)
            obtain ⟨k_15, hk_15⟩ := pk_at (hs := []) (show (((Y 0 0), .inr (11, [.ref (A 50 0 0), .ref (Y 1 0), .ref (Y 2 0), .int (iI (K 0 0)), .ref (Y 3 0)])) : Nat × va_E) ∈ ((gCl k A Y K ++ heC k (fiT T ki he_) A) ++ tr_14) from PR_m hPR 0 0 rfl rfl)
            refine k_V (rest := []) (wc := ([] ++ ((gCl k A Y K ++ heC k (fiT T ki he_) A) ++ tr_14))) (wr := []) (k_forgetAll l dC dI k (fiT T ki he_) A X ((gCl k A Y K ++ heC k (fiT T ki he_) A) ++ tr_14) G Mc Y O L C K cp hPR hK) B mV_X11_forgetLayouts mw_769 hl (q0 := k_15) (ci := 11) hk_15 rfl rfl ⟨Nat.le_of_ble_eq_true rfl, Nat.le_of_ble_eq_true rfl⟩ (Nat.le_of_ble_eq_true rfl) rfl dX11_figure_93 ⟨Nat.le_of_ble_eq_true rfl, Nat.le_of_ble_eq_true rfl⟩ (fun r w gc gs H locs hp B => ?_)
            obtain ⟨L2_16, tl2_17, z_18, z_19, rfl, hw9, rfl, rfl⟩ := hp
            rw [hw9] at B; clear hw9
            have B := bd_to (ws' := ([] ++ tl2_17)) rfl B
            have hPR : PR dI k (fiT T ki he_) A X G Mc Y O L2_16 C K cp tl2_17 := z_18
            have hT : TI dI k (fiT T ki he_) A X tl2_17 := PR_TI hPR
            refine lv_iload_n hx hb dX11_figure_96 rfl (lv_at hl 0 rfl) ?_
            exact vx_ret (k_iret B hr (⟨L2_16, tl2_17, hPR, (by omega), z_19, rfl, rfl, rfl, rfl⟩) ⟨Nat.le_of_ble_eq_true rfl, Nat.le_of_ble_eq_true rfl⟩ ⟨Nat.le_of_ble_eq_true rfl, Nat.le_of_ble_eq_true rfl⟩ dX11_figure_97)
          · have zc_8 : 5 ≤ (T 12 0 0 0) := jnlt (a := (T 12 0 0 0)) (b := 5) (by omega) (by omega) c_8
            exact k_thrG (tx := "five figures are there") xE_ise (Or.inr (⟨(by omega), rfl, rfl, rfl, rfl⟩)) ⟨Nat.le_of_ble_eq_true rfl, Nat.le_of_ble_eq_true rfl⟩ hl0 B hex hl (by decide +kernel) dX11_figure_41 dX11_figure_44 dX11_figure_45 dX11_figure_47 dX11_figure_50 ⟨Nat.le_of_ble_eq_true rfl, Nat.le_of_ble_eq_true rfl, Nat.le_of_ble_eq_true rfl, Nat.le_of_ble_eq_true rfl⟩ ⟨Nat.le_of_ble_eq_true rfl, Nat.le_of_ble_eq_true rfl⟩
        · have zc_4 : 40 < he_ := jnle (a := he_) (b := 40) (by omega) (by omega) c_4
          exact k_thrG (tx := "kind or height out of range") xE_iae (Or.inl (⟨(by omega), rfl, rfl, rfl, rfl⟩)) ⟨Nat.le_of_ble_eq_true rfl, Nat.le_of_ble_eq_true rfl⟩ hl0 B hex hl (by decide +kernel) dX11_figure_20 dX11_figure_23 dX11_figure_24 dX11_figure_26 dX11_figure_29 ⟨Nat.le_of_ble_eq_true rfl, Nat.le_of_ble_eq_true rfl, Nat.le_of_ble_eq_true rfl, Nat.le_of_ble_eq_true rfl⟩ ⟨Nat.le_of_ble_eq_true rfl, Nat.le_of_ble_eq_true rfl⟩

end
