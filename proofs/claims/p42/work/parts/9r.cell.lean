section
section CE1
variable {dI : Nat → Nat → Nat} {k : Nat → ClassId} {T T' : Nat → Int → Int → Int → Int} {A A' : Nat → Int → Int → Nat} {X X' : Nat → Int → Int → Int} {G G' : Nat → Int → Nat} {Mc Mc' : Nat → Int → Int} {Y : Nat → Int → Nat} {O O' : Nat → Nat} {L L' : Int → Nat → Int → Int} {C C' : Nat → Int → Int} {K K' : Nat → Int → Int} {cp cp' : Nat} {tl tx tx' : va_W} {v : Int}
/-- a cell told -/
def teT (T : Nat → Int → Int → Int → Int) (i cx sn le be : Int) : Nat → Int → Int → Int → Int := fun c j => if (c = 9 ∨ c = 10 ∨ c = 11) ∧ j = i then fun c9 q => if c9 = cx then (if c = 9 then sn else if c = 10 then le else be) else T c i c9 q else T c j
theorem teT_n {i cx sn le be : Int} {c : Nat} (h : c < 9 ∨ 11 < c) : teT T i cx sn le be c = T c := by funext j; exact if_neg (by omega)
theorem teT_9 {i cx sn le be : Int} : teT T i cx sn le be 9 i = fun c9 q => if c9 = cx then sn else T 9 i c9 q := if_pos ⟨Or.inl rfl, rfl⟩
theorem teT_10 {i cx sn le be : Int} : teT T i cx sn le be 10 i = fun c9 q => if c9 = cx then le else T 10 i c9 q := if_pos ⟨Or.inr (Or.inl rfl), rfl⟩
theorem teT_11 {i cx sn le be : Int} : teT T i cx sn le be 11 i = fun c9 q => if c9 = cx then be else T 11 i c9 q := if_pos ⟨Or.inr (Or.inr rfl), rfl⟩
def taR (k : Nat → ClassId) (A : Nat → Int → Int → Nat) (X : Nat → Int → Int → Int) (i : Int) : va_W := [(((A 8 i 3), .inl (k 0, 3, .inl (fun i9 : Nat => iI ((X 3 i) i9)))) : Nat × va_E), (((A 8 i 4), .inl (k 0, 3, .inl (fun i9 : Nat => iI ((X 4 i) i9)))) : Nat × va_E), (((A 8 i 5), .inl (k 0, 3, .inl (fun i9 : Nat => iI ((X 5 i) i9)))) : Nat × va_E), (((A 8 i 6), .inl (k 0, 3, .inl (fun i9 : Nat => iI ((X 6 i) i9)))) : Nat × va_E)]
theorem taC_4 {i : Int} : taC k T A X i = [(((A 7 i 0), .inr (8, [.ref (A 8 i 0), .ref (A 8 i 1), .ref (A 8 i 2), .ref (A 8 i 3), .ref (A 8 i 4), .ref (A 8 i 5), .ref (A 8 i 6)])) : Nat × va_E), (((A 8 i 0), .inl (k 0, 12, .inl (fun i9 : Nat => iI ((fun j9 : Int => T 9 i j9 0) i9)))) : Nat × va_E), (((A 8 i 1), .inl (k 0, 12, .inl (fun i9 : Nat => iI ((fun j9 : Int => T 10 i j9 0) i9)))) : Nat × va_E), (((A 8 i 2), .inl (k 0, 12, .inl (fun i9 : Nat => iI ((fun j9 : Int => T 11 i j9 0) i9)))) : Nat × va_E)] ++ taR k A X i := rfl
theorem taC_te {i cx sn le be : Int} : taC k (teT T i cx sn le be) A X i = [(((A 7 i 0), .inr (8, [.ref (A 8 i 0), .ref (A 8 i 1), .ref (A 8 i 2), .ref (A 8 i 3), .ref (A 8 i 4), .ref (A 8 i 5), .ref (A 8 i 6)])) : Nat × va_E), (((A 8 i 0), .inl (k 0, 12, .inl (fun i9 : Nat => iI ((uz (fun j9 : Int => T 9 i j9 0) cx sn) i9)))) : Nat × va_E), (((A 8 i 1), .inl (k 0, 12, .inl (fun i9 : Nat => iI ((uz (fun j9 : Int => T 10 i j9 0) cx le) i9)))) : Nat × va_E), (((A 8 i 2), .inl (k 0, 12, .inl (fun i9 : Nat => iI ((uz (fun j9 : Int => T 11 i j9 0) cx be) i9)))) : Nat × va_E)] ++ taR k A X i := by
  rw [taC_4, teT_9, teT_10, teT_11]
  rfl
theorem blP_te {i j cx sn le be : Int} : blP k (teT T i cx sn le be) A G Mc j = blP k T A G Mc j := by
  simp only [blP, woC, teT_n (show 1 < 9 ∨ 11 < 1 by omega), teT_n (show 2 < 9 ∨ 11 < 2 by omega), teT_n (show 3 < 9 ∨ 11 < 3 by omega), teT_n (show 4 < 9 ∨ 11 < 4 by omega), teT_n (show 5 < 9 ∨ 11 < 5 by omega), teT_n (show 6 < 9 ∨ 11 < 6 by omega), teT_n (show 7 < 9 ∨ 11 < 7 by omega), teT_n (show 8 < 9 ∨ 11 < 8 by omega)] <;> rfl
end CE1
section TKS
variable {T : Nat → Int → Int → Int → Int}
theorem TK_teT (hK : TK T) {i cx sn le be : Int} (h : (1 ≤ sn ∧ cx % 3 + sn ≤ 3) ∧ 0 ≤ le ∧ le ≤ 60 ∧ le ≤ be ∧ be ≤ 200) : TK (teT T i cx sn le be) := ⟨TK_nb (T := T) hK, TK_kind (T := T) hK, TK_sty (T := T) hK, TK_ind (T := T) hK, TK_side (T := T) hK, TK_dep (T := T) hK, TK_nw (T := T) hK, TK_len (T := T) hK, TK_let (T := T) hK, TK_lab (T := T) hK, TK_mrk (T := T) hK, TK_note (T := T) hK, TK_men (T := T) hK, TK_mlab (T := T) hK, TK_gap (T := T) hK, (fun j c9 => by have q := TK_span hK j c9; by_cases e : j = i; (subst e; rw [teT_9]; dsimp only; split <;> omega); rw [show teT T i cx sn le be 9 j = T 9 j from if_neg (by omega)]; exact q), (fun j c9 => by have q := TK_least hK j c9; by_cases e : j = i; (subst e; rw [teT_10]; dsimp only; split <;> omega); rw [show teT T i cx sn le be 10 j = T 10 j from if_neg (by omega)]; exact q), (fun j c9 => by have q := TK_best hK j c9; by_cases e : j = i; (subst e; rw [teT_11]; dsimp only; split <;> omega); rw [show teT T i cx sn le be 11 j = T 11 j from if_neg (by omega)]; exact q), TK_fc (T := T) hK, TK_fk (T := T) hK, TK_fh (T := T) hK, TK_key (T := T) hK, TK_wid (T := T) hK, TK_hei (T := T) hK, TK_np (T := T) hK, TK_pl (T := T) hK, TK_plt (T := T) hK, TK_pg (T := T) hK, TK_plv (T := T) hK, TK_gapb (T := T) hK, TK_hasw (T := T) hK, (fun j c9 => by have q := TK_spc hK j c9; by_cases e : j = i; (subst e; rw [teT_9]; dsimp only; split; (rename_i g; rw [g]; omega); exact q); rw [show teT T i cx sn le be 9 j = T 9 j from if_neg (by omega)]; exact q), TK_wl (T := T) hK, (fun j c9 => by have q := TK_lst hK j c9; by_cases e : j = i; (subst e; rw [teT_10, teT_11]; dsimp only; split; (omega); exact q); rw [show teT T i cx sn le be 10 j = T 10 j from if_neg (by omega), show teT T i cx sn le be 11 j = T 11 j from if_neg (by omega)]; exact q)⟩
end TKS

theorem k_tellP (l : Launch) (dC : Nat → ClassId) (dI : Nat → Nat → Nat) (k : Nat → ClassId) (T : Nat → Int → Int → Int → Int) (A : Nat → Int → Int → Nat) (X : Nat → Int → Int → Int) (tl : va_W) (G : Nat → Int → Nat) (Mc : Nat → Int → Int) (Y : Nat → Int → Nat) (O : Nat → Nat) (L : Int → Nat → Int → Int) (C : Nat → Int → Int) (K : Nat → Int → Int) (cp : Nat) (i : Int) (ro : Int) (co : Int) (sn : Int) (le : Int) (be : Int) (hPR : PR dI k T A X G Mc Y O L C K cp tl) (hK : TK T) (hi : 0 ≤ i ∧ i < T 0 0 0 0) (hk3 : T 1 i 0 0 = 3) (h1 : 0 ≤ ro ∧ ro ≤ 3 ∧ 0 ≤ co ∧ co ≤ 2) : Kn l dC dI k yX8_tell (.code yX8_tell cX8_tell 7 none) ({ frames := 0, cells := 0, slots := 0, locals := 0 } : Room) [.ref (A 7 i 0), .int (iI ro), .int (iI co), .int (iI sn), .int (iI le), .int (iI be)] ([] ++ tl) (fun r w gc gs => (∃ (tl2 : va_W), (PR dI k (teT T i ((ro * 3) + co) sn le be) A X G Mc Y O L C K cp tl2) ∧ r = none ∧ w = ([] ++ tl2) ∧ gc = 0 ∧ gs = 0)) := by
  obtain ⟨tr, h2, h3⟩ := PR_bk hPR hi
  have K0 := k_tell l dC dI k (A 7 i 0) (A 8 i 0) (A 8 i 1) (A 8 i 2) (A 8 i 3) (A 8 i 4) (A 8 i 5) (A 8 i 6) (fun j9 : Int => T 9 i j9 0) (fun j9 : Int => T 10 i j9 0) (fun j9 : Int => T 11 i j9 0) ro co sn le be h1
  have e0 : ∀ T' : Nat → Int → Int → Int → Int, T' 1 i 0 0 = 3 → blC k T' A X G Mc i = blP k T' A G Mc i ++ taC k T' A X i := fun T' h => by unfold blC; rw [if_pos h]
  have hp : tl.Perm (taC k T A X i ++ (gCl k A Y K ++ (blP k T A G Mc i ++ tr))) := by
    refine h2.trans ?_
    rw [e0 T hk3]
    have h5 := List.perm_append_comm_assoc (gCl k A Y K ++ blP k T A G Mc i) (taC k T A X i) tr
    simpa only [List.append_assoc] using h5
  refine kn_perm (hp.trans (perm_eq (by rw [taC_4, List.append_assoc]))) ?_
  refine kn_post (kn_frame (taR k A X i ++ (gCl k A Y K ++ (blP k T A G Mc i ++ tr))) K0) ?_
  rintro r w gc gs ⟨w1, ⟨hr, hw1, hgc, hgs⟩, hw⟩
  have h6 := h3 K (teT T i ((ro * 3) + co) sn le be) A X G Mc (fun c j hc => if_neg (by omega)) (fun _ _ _ => rfl) (fun _ _ _ => rfl) (fun _ _ _ => rfl) (fun _ _ _ => rfl) (hPR.2.1.2.2 i hi.1 hi.2)
  refine ⟨_, ?_, _, h6, hr, rfl, hgc, hgs⟩
  rw [e0 (teT T i ((ro * 3) + co) sn le be) hk3, taC_te, blP_te, hw, hw1]
  have h5 := List.perm_append_comm_assoc (gCl k A Y K ++ blP k T A G Mc i) (taC k (teT T i ((ro * 3) + co) sn le be) A X i) tr
  rw [taC_te] at h5
  refine List.perm_append_comm.trans ?_
  simp only [List.append_assoc] at h5 ⊢
  exact h5.symm

theorem mw_1229 : (Jvm.Cond.methodLink "Galleyforge" (194 : Nat) ({ cls := "Galleyforge$Table", name := "tell", desc := "(IIIII)V" } : Jvm.MethodName)) ∈ gt := gt_at 1299 (by decide +kernel) (by decide +kernel)
theorem mw_1230 : (Jvm.Cond.instanceMethod ({ cls := "Galleyforge$Table", name := "tell", desc := "(IIIII)V" } : Jvm.MethodName)) ∈ gt := gt_at 1300 (by decide +kernel) (by decide +kernel)
theorem mw_1231 : (Jvm.Cond.selects "Galleyforge$Table" ({ cls := "Galleyforge$Table", name := "tell", desc := "(IIIII)V" } : Jvm.MethodName) ({ cls := "Galleyforge$Table", name := "tell", desc := "(IIIII)V" } : Jvm.MethodName)) ∈ gt := gt_at 1301 (by decide +kernel) (by decide +kernel)
theorem mw_1232 : (Jvm.Cond.code ({ cls := "Galleyforge$Table", name := "tell", desc := "(IIIII)V" } : Jvm.MethodName) prog_10_method_2_code (7 : Nat) (Option.none : Option Jvm.ClassFile.FieldType)) ∈ gt := gt_at 1302 (by decide +kernel) (by decide +kernel)
theorem mV_X8_tell : mV yX8_tell cX8_tell 7 none 5 := ⟨⟨mw_1232, mw_20, by decide, by decide, by decide +kernel⟩, mw_1230, mw_1231⟩
theorem dX11_cell_0 : decode cX11_cell 0 = .ok (.aload_n 0, 1) := by decide +kernel
theorem dX11_cell_1 : decode cX11_cell 1 = .ok (.iload_n 1, 1) := by decide +kernel
theorem dX11_cell_2 : decode cX11_cell 2 = .ok (.invokevirtual 109, 3) := by decide +kernel
theorem dX11_cell_5 : decode cX11_cell 5 = .ok (.astore 7, 2) := by decide +kernel
theorem dX11_cell_7 : decode cX11_cell 7 = .ok (.iload_n 2, 1) := by decide +kernel
theorem dX11_cell_8 : decode cX11_cell 8 = .ok (.ifCond .lt 31, 3) := by decide +kernel
theorem dX11_cell_11 : decode cX11_cell 11 = .ok (.iload_n 2, 1) := by decide +kernel
theorem dX11_cell_12 : decode cX11_cell 12 = .ok (.iconst 4, 1) := by decide +kernel
theorem dX11_cell_13 : decode cX11_cell 13 = .ok (.if_icmp .ge 26, 3) := by decide +kernel
theorem dX11_cell_16 : decode cX11_cell 16 = .ok (.iload_n 3, 1) := by decide +kernel
theorem dX11_cell_17 : decode cX11_cell 17 = .ok (.ifCond .lt 22, 3) := by decide +kernel
theorem dX11_cell_20 : decode cX11_cell 20 = .ok (.iload_n 3, 1) := by decide +kernel
theorem dX11_cell_21 : decode cX11_cell 21 = .ok (.iconst 3, 1) := by decide +kernel
theorem dX11_cell_22 : decode cX11_cell 22 = .ok (.if_icmp .ge 17, 3) := by decide +kernel
theorem dX11_cell_25 : decode cX11_cell 25 = .ok (.iload 4, 2) := by decide +kernel
theorem dX11_cell_27 : decode cX11_cell 27 = .ok (.iconst 1, 1) := by decide +kernel
theorem dX11_cell_28 : decode cX11_cell 28 = .ok (.if_icmp .lt 11, 3) := by decide +kernel
theorem dX11_cell_31 : decode cX11_cell 31 = .ok (.iload 4, 2) := by decide +kernel
theorem dX11_cell_33 : decode cX11_cell 33 = .ok (.iconst 3, 1) := by decide +kernel
theorem dX11_cell_34 : decode cX11_cell 34 = .ok (.iload_n 3, 1) := by decide +kernel
theorem dX11_cell_35 : decode cX11_cell 35 = .ok (.isub, 1) := by decide +kernel
theorem dX11_cell_36 : decode cX11_cell 36 = .ok (.if_icmp .le 13, 3) := by decide +kernel
theorem dX11_cell_39 : decode cX11_cell 39 = .ok (.new 72, 3) := by decide +kernel
theorem dX11_cell_42 : decode cX11_cell 42 = .ok (.dup, 1) := by decide +kernel
theorem dX11_cell_43 : decode cX11_cell 43 = .ok (.ldc 184, 2) := by decide +kernel
theorem dX11_cell_45 : decode cX11_cell 45 = .ok (.invokespecial 76, 3) := by decide +kernel
theorem dX11_cell_48 : decode cX11_cell 48 = .ok (.athrow, 1) := by decide +kernel
theorem dX11_cell_49 : decode cX11_cell 49 = .ok (.iload 5, 2) := by decide +kernel
theorem dX11_cell_51 : decode cX11_cell 51 = .ok (.ifCond .lt 25, 3) := by decide +kernel
theorem dX11_cell_54 : decode cX11_cell 54 = .ok (.iload 5, 2) := by decide +kernel
theorem dX11_cell_56 : decode cX11_cell 56 = .ok (.bipush 60, 2) := by decide +kernel
theorem dX11_cell_58 : decode cX11_cell 58 = .ok (.if_icmp .gt 18, 3) := by decide +kernel
theorem dX11_cell_61 : decode cX11_cell 61 = .ok (.iload 6, 2) := by decide +kernel
theorem dX11_cell_63 : decode cX11_cell 63 = .ok (.iload 5, 2) := by decide +kernel
theorem dX11_cell_65 : decode cX11_cell 65 = .ok (.if_icmp .lt 11, 3) := by decide +kernel
theorem dX11_cell_68 : decode cX11_cell 68 = .ok (.iload 6, 2) := by decide +kernel
theorem dX11_cell_70 : decode cX11_cell 70 = .ok (.sipush 200, 3) := by decide +kernel
theorem dX11_cell_73 : decode cX11_cell 73 = .ok (.if_icmp .le 13, 3) := by decide +kernel
theorem dX11_cell_76 : decode cX11_cell 76 = .ok (.new 72, 3) := by decide +kernel
theorem dX11_cell_79 : decode cX11_cell 79 = .ok (.dup, 1) := by decide +kernel
theorem dX11_cell_80 : decode cX11_cell 80 = .ok (.ldc 186, 2) := by decide +kernel
theorem dX11_cell_82 : decode cX11_cell 82 = .ok (.invokespecial 76, 3) := by decide +kernel
theorem dX11_cell_85 : decode cX11_cell 85 = .ok (.athrow, 1) := by decide +kernel
theorem dX11_cell_86 : decode cX11_cell 86 = .ok (.aload 7, 2) := by decide +kernel
theorem dX11_cell_88 : decode cX11_cell 88 = .ok (.getfield 188, 3) := by decide +kernel
theorem dX11_cell_91 : decode cX11_cell 91 = .ok (.ifnonnull 13, 3) := by decide +kernel
theorem dX11_cell_94 : decode cX11_cell 94 = .ok (.new 58, 3) := by decide +kernel
theorem dX11_cell_97 : decode cX11_cell 97 = .ok (.dup, 1) := by decide +kernel
theorem dX11_cell_98 : decode cX11_cell 98 = .ok (.ldc 192, 2) := by decide +kernel
theorem dX11_cell_100 : decode cX11_cell 100 = .ok (.invokespecial 62, 3) := by decide +kernel
theorem dX11_cell_103 : decode cX11_cell 103 = .ok (.athrow, 1) := by decide +kernel
theorem dX11_cell_104 : decode cX11_cell 104 = .ok (.aload 7, 2) := by decide +kernel
theorem dX11_cell_106 : decode cX11_cell 106 = .ok (.getfield 188, 3) := by decide +kernel
theorem dX11_cell_109 : decode cX11_cell 109 = .ok (.iload_n 2, 1) := by decide +kernel
theorem dX11_cell_110 : decode cX11_cell 110 = .ok (.iload_n 3, 1) := by decide +kernel
theorem dX11_cell_111 : decode cX11_cell 111 = .ok (.iload 4, 2) := by decide +kernel
theorem dX11_cell_113 : decode cX11_cell 113 = .ok (.iload 5, 2) := by decide +kernel
theorem dX11_cell_115 : decode cX11_cell 115 = .ok (.iload 6, 2) := by decide +kernel
theorem dX11_cell_117 : decode cX11_cell 117 = .ok (.invokevirtual 194, 3) := by decide +kernel
theorem dX11_cell_120 : decode cX11_cell 120 = .ok (.aload_n 0, 1) := by decide +kernel
theorem dX11_cell_121 : decode cX11_cell 121 = .ok (.invokevirtual 106, 3) := by decide +kernel
theorem dX11_cell_124 : decode cX11_cell 124 = .ok (.aload 7, 2) := by decide +kernel
theorem dX11_cell_126 : decode cX11_cell 126 = .ok (.getfield 188, 3) := by decide +kernel
theorem dX11_cell_129 : decode cX11_cell 129 = .ok (.invokevirtual 200, 3) := by decide +kernel
theorem dX11_cell_132 : decode cX11_cell 132 = .ok (.ireturn, 1) := by decide +kernel
set_option maxHeartbeats 4000000 in
set_option maxRecDepth 100000 in
theorem k_cell (l : Launch) (dC : Nat → ClassId) (dI : Nat → Nat → Nat) (k : Nat → ClassId) (hl0 : l.stackTraces = false) (T : Nat → Int → Int → Int → Int) (A : Nat → Int → Int → Nat) (X : Nat → Int → Int → Int) (tl : va_W) (G : Nat → Int → Nat) (Mc : Nat → Int → Int) (Y : Nat → Int → Nat) (O : Nat → Nat) (L : Int → Nat → Int → Int) (C : Nat → Int → Int) (K : Nat → Int → Int) (cp : Nat) (pl : Int) (ro : Int) (co : Int) (sn : Int) (le : Int) (be : Int) (hPR : PR dI k T A X G Mc Y O L C K cp tl) (hK : TK T) (hKK : KK T K) (hrpl : -2147483648 ≤ pl ∧ pl < 2147483648) (hrro : -2147483648 ≤ ro ∧ ro < 2147483648) (hrco : -2147483648 ≤ co ∧ co < 2147483648) (hrsn : -2147483648 ≤ sn ∧ sn < 2147483648) (hrle : -2147483648 ≤ le ∧ le < 2147483648) (hrbe : -2147483648 ≤ be ∧ be < 2147483648) : Kx l dC dI k yX11_cell (.code yX11_cell cX11_cell 8 (some .int)) ({ frames := 8, cells := 1, slots := 6, locals := 124 } : Room) [.ref (Y 0 0), .int (iI pl), .int (iI ro), .int (iI co), .int (iI sn), .int (iI le), .int (iI be)] ([] ++ tl) (fun r w gc gs => (∃ (L2 : Int → Nat → Int → Int) (tl2 : va_W), (PR dI k (teT T pl ((ro * 3) + co) sn le be) A X G Mc Y O L2 C K cp tl2) ∧ ((0 ≤ pl ∧ pl < T 0 0 0 0) ∧ ((0 ≤ ro ∧ ro ≤ 3) ∧ (0 ≤ co ∧ co ≤ 2) ∧ 1 ≤ sn ∧ sn ≤ 3 - co) ∧ ((0 ≤ le ∧ le ≤ 60) ∧ le ≤ be ∧ be ≤ 200) ∧ T 1 pl 0 0 = 3) ∧ (∀ u, 0 ≤ u → u ≤ 1 → LF (L2 u)) ∧ r = some (.int (iI (rcT (teT T pl ((ro * 3) + co) sn le be) pl))) ∧ w = ([] ++ tl2) ∧ gc = 1 ∧ gs = 6)) (fun E w gc gs => ((¬ (0 ≤ pl ∧ pl < T 0 0 0 0)) ∧ E = "java/lang/IndexOutOfBoundsException" ∧ w = ([] ++ tl) ∧ gc = 1 ∧ gs = 6) ∨ (((0 ≤ pl ∧ pl < T 0 0 0 0) ∧ ¬ (((0 ≤ ro ∧ ro ≤ 3) ∧ (0 ≤ co ∧ co ≤ 2) ∧ 1 ≤ sn ∧ sn ≤ 3 - co) ∧ ((0 ≤ le ∧ le ≤ 60) ∧ le ≤ be ∧ be ≤ 200))) ∧ E = "java/lang/IllegalArgumentException" ∧ w = ([] ++ tl) ∧ gc = 1 ∧ gs = 6) ∨ (((0 ≤ pl ∧ pl < T 0 0 0 0) ∧ ((0 ≤ ro ∧ ro ≤ 3) ∧ (0 ≤ co ∧ co ≤ 2) ∧ 1 ≤ sn ∧ sn ≤ 3 - co) ∧ ((0 ≤ le ∧ le ≤ 60) ∧ le ≤ be ∧ be ≤ 200) ∧ ¬ T 1 pl 0 0 = 3) ∧ E = "java/lang/IllegalStateException" ∧ w = ([] ++ tl) ∧ gc = 1 ∧ gs = 6)) := by
  refine kx_of (by decide) (Nat.le_of_ble_eq_true rfl) ?_
  intro p e s m args below meth c H locs B hr hex ls hl
  have hx := B.1.1
  have hb := B.1.2.1
  have hl : lv_has ls 8 [(0, .ref (Y 0 0)), (1, .int (iI pl)), (2, .int (iI ro)), (3, .int (iI co)), (4, .int (iI sn)), (5, .int (iI le)), (6, .int (iI be))] := hl
  have hT := PR_TI hPR
  have hnb0 := TK_nb hK
  have hcp0 : 512 ≤ cp ∧ cp ≤ 131072 := by have q9 := hPR.2.2.2; unfold cpOk at q9; omega
  refine lv_aload_n hx hb dX11_cell_0 rfl (lv_at hl 0 rfl) ?_
  refine lv_iload_n hx hb dX11_cell_1 rfl (lv_at hl 1 rfl) ?_
  have B := bd_swap (a := []) (b := []) (d := tl) (bd_to rfl B)
  obtain ⟨k_1, hk_1⟩ := pk_at (hs := []) (show (((Y 0 0), .inr (11, [.ref (A 50 0 0), .ref (Y 1 0), .ref (Y 2 0), .int (iI (K 0 0)), .ref (Y 3 0)])) : Nat × va_E) ∈ tl from PR_m hPR 0 0 rfl rfl)
  refine k_Vx (rest := []) (wc := ([] ++ tl)) (wr := []) (k_blockAt l dC dI k hl0 T A X tl G Mc Y O L C K cp pl hPR hK hrpl) B mV_X11_blockAt mw_784 hl (q0 := k_1) (ci := 11) hk_1 rfl rfl ⟨Nat.le_of_ble_eq_true rfl, Nat.le_of_ble_eq_true rfl⟩ (Nat.le_of_ble_eq_true rfl) rfl dX11_cell_2 ⟨Nat.le_of_ble_eq_true rfl, Nat.le_of_ble_eq_true rfl⟩ (fun E ce q9 w gc gs H locs hp B h1 h2 h3 => ?_) (fun r w gc gs H locs hp B => ?_)
  · skip
    obtain ⟨z_2, rfl, hw9, rfl, rfl⟩ := hp
    rw [hw9] at B; clear hw9
    have B := bd_to (ws' := ([] ++ tl)) rfl B
    exact k_out hex (Or.inl (⟨z_2, rfl, rfl, rfl, rfl⟩)) B h1 h2 h3 ⟨Nat.le_of_ble_eq_true rfl, Nat.le_of_ble_eq_true rfl⟩ ⟨Nat.le_of_ble_eq_true rfl, Nat.le_of_ble_eq_true rfl⟩
  · skip
    obtain ⟨z_3, rfl, hw9, rfl, rfl⟩ := hp
    rw [hw9] at B; clear hw9
    have B := bd_to (ws' := ([] ++ tl)) rfl B
    refine lv_astore (lv' := [(7, .ref (A 0 pl 0)), (0, .ref (Y 0 0)), (1, .int (iI pl)), (2, .int (iI ro)), (3, .int (iI co)), (4, .int (iI sn)), (5, .int (iI le)), (6, .int (iI be))]) hx hb dX11_cell_5 hl (by decide) rfl (fun ls hl => ?_)
    refine lv_iload_n hx hb dX11_cell_7 rfl (lv_at hl 3 rfl) ?_
    refine lv_if_lt (tgt := 39) hx hb dX11_cell_8 (by decide) (fun c_4 => ?_) (fun c_4 => ?_)
    · have zc_4 : ro < 0 := jlt (a := ro) (b := 0) (by omega) (by omega) c_4
      exact k_thrG (tx := "no such cell") xE_iae (Or.inr (Or.inl (⟨(by omega), rfl, rfl, rfl, rfl⟩))) ⟨Nat.le_of_ble_eq_true rfl, Nat.le_of_ble_eq_true rfl⟩ hl0 B hex hl (by decide +kernel) dX11_cell_39 dX11_cell_42 dX11_cell_43 dX11_cell_45 dX11_cell_48 ⟨Nat.le_of_ble_eq_true rfl, Nat.le_of_ble_eq_true rfl, Nat.le_of_ble_eq_true rfl, Nat.le_of_ble_eq_true rfl⟩ ⟨Nat.le_of_ble_eq_true rfl, Nat.le_of_ble_eq_true rfl⟩
    · have zc_4 : 0 ≤ ro := jnlt (a := ro) (b := 0) (by omega) (by omega) c_4
      refine lv_iload_n hx hb dX11_cell_11 rfl (lv_at hl 3 rfl) ?_
      refine lv_iconst (v := iI 4) hx hb dX11_cell_12 (by decide) ?_
      refine lv_icmp_ge (tgt := 39) hx hb dX11_cell_13 (by decide) (fun c_5 => ?_) (fun c_5 => ?_)
      · have zc_5 : 4 ≤ ro := jle (a := 4) (b := ro) (by omega) (by omega) c_5
        exact k_thrG (tx := "no such cell") xE_iae (Or.inr (Or.inl (⟨(by omega), rfl, rfl, rfl, rfl⟩))) ⟨Nat.le_of_ble_eq_true rfl, Nat.le_of_ble_eq_true rfl⟩ hl0 B hex hl (by decide +kernel) dX11_cell_39 dX11_cell_42 dX11_cell_43 dX11_cell_45 dX11_cell_48 ⟨Nat.le_of_ble_eq_true rfl, Nat.le_of_ble_eq_true rfl, Nat.le_of_ble_eq_true rfl, Nat.le_of_ble_eq_true rfl⟩ ⟨Nat.le_of_ble_eq_true rfl, Nat.le_of_ble_eq_true rfl⟩
      · have zc_5 : ro < 4 := jnle (a := 4) (b := ro) (by omega) (by omega) c_5
        refine lv_iload_n hx hb dX11_cell_16 rfl (lv_at hl 4 rfl) ?_
        refine lv_if_lt (tgt := 39) hx hb dX11_cell_17 (by decide) (fun c_6 => ?_) (fun c_6 => ?_)
        · have zc_6 : co < 0 := jlt (a := co) (b := 0) (by omega) (by omega) c_6
          exact k_thrG (tx := "no such cell") xE_iae (Or.inr (Or.inl (⟨(by omega), rfl, rfl, rfl, rfl⟩))) ⟨Nat.le_of_ble_eq_true rfl, Nat.le_of_ble_eq_true rfl⟩ hl0 B hex hl (by decide +kernel) dX11_cell_39 dX11_cell_42 dX11_cell_43 dX11_cell_45 dX11_cell_48 ⟨Nat.le_of_ble_eq_true rfl, Nat.le_of_ble_eq_true rfl, Nat.le_of_ble_eq_true rfl, Nat.le_of_ble_eq_true rfl⟩ ⟨Nat.le_of_ble_eq_true rfl, Nat.le_of_ble_eq_true rfl⟩
        · have zc_6 : 0 ≤ co := jnlt (a := co) (b := 0) (by omega) (by omega) c_6
          refine lv_iload_n hx hb dX11_cell_20 rfl (lv_at hl 4 rfl) ?_
          refine lv_iconst (v := iI 3) hx hb dX11_cell_21 (by decide) ?_
          refine lv_icmp_ge (tgt := 39) hx hb dX11_cell_22 (by decide) (fun c_7 => ?_) (fun c_7 => ?_)
          · have zc_7 : 3 ≤ co := jle (a := 3) (b := co) (by omega) (by omega) c_7
            exact k_thrG (tx := "no such cell") xE_iae (Or.inr (Or.inl (⟨(by omega), rfl, rfl, rfl, rfl⟩))) ⟨Nat.le_of_ble_eq_true rfl, Nat.le_of_ble_eq_true rfl⟩ hl0 B hex hl (by decide +kernel) dX11_cell_39 dX11_cell_42 dX11_cell_43 dX11_cell_45 dX11_cell_48 ⟨Nat.le_of_ble_eq_true rfl, Nat.le_of_ble_eq_true rfl, Nat.le_of_ble_eq_true rfl, Nat.le_of_ble_eq_true rfl⟩ ⟨Nat.le_of_ble_eq_true rfl, Nat.le_of_ble_eq_true rfl⟩
          · have zc_7 : co < 3 := jnle (a := 3) (b := co) (by omega) (by omega) c_7
            refine lv_iload hx hb dX11_cell_25 (lv_at hl 5 rfl) ?_
            refine lv_iconst (v := iI 1) hx hb dX11_cell_27 (by decide) ?_
            refine lv_icmp_lt (tgt := 39) hx hb dX11_cell_28 (by decide) (fun c_8 => ?_) (fun c_8 => ?_)
            · have zc_8 : sn < 1 := jlt (a := sn) (b := 1) (by omega) (by omega) c_8
              exact k_thrG (tx := "no such cell") xE_iae (Or.inr (Or.inl (⟨(by omega), rfl, rfl, rfl, rfl⟩))) ⟨Nat.le_of_ble_eq_true rfl, Nat.le_of_ble_eq_true rfl⟩ hl0 B hex hl (by decide +kernel) dX11_cell_39 dX11_cell_42 dX11_cell_43 dX11_cell_45 dX11_cell_48 ⟨Nat.le_of_ble_eq_true rfl, Nat.le_of_ble_eq_true rfl, Nat.le_of_ble_eq_true rfl, Nat.le_of_ble_eq_true rfl⟩ ⟨Nat.le_of_ble_eq_true rfl, Nat.le_of_ble_eq_true rfl⟩
            · have zc_8 : 1 ≤ sn := jnlt (a := sn) (b := 1) (by omega) (by omega) c_8
              refine lv_iload hx hb dX11_cell_31 (lv_at hl 5 rfl) ?_
              refine lv_iconst (v := iI 3) hx hb dX11_cell_33 (by decide) ?_
              refine lv_iload_n hx hb dX11_cell_34 rfl (lv_at hl 4 rfl) ?_
              refine y_sub hx hb dX11_cell_35 ?_
              refine lv_icmp_le (tgt := 49) hx hb dX11_cell_36 (by decide) (fun c_9 => ?_) (fun c_9 => ?_)
              · have zc_9 : sn ≤ (3 - co) := jle (a := sn) (b := (3 - co)) (by omega) (by omega) c_9
                refine lv_iload hx hb dX11_cell_49 (lv_at hl 6 rfl) ?_
                refine lv_if_lt (tgt := 76) hx hb dX11_cell_51 (by decide) (fun c_10 => ?_) (fun c_10 => ?_)
                · have zc_10 : le < 0 := jlt (a := le) (b := 0) (by omega) (by omega) c_10
                  exact k_thrG (tx := "width out of range") xE_iae (Or.inr (Or.inl (⟨(by omega), rfl, rfl, rfl, rfl⟩))) ⟨Nat.le_of_ble_eq_true rfl, Nat.le_of_ble_eq_true rfl⟩ hl0 B hex hl (by decide +kernel) dX11_cell_76 dX11_cell_79 dX11_cell_80 dX11_cell_82 dX11_cell_85 ⟨Nat.le_of_ble_eq_true rfl, Nat.le_of_ble_eq_true rfl, Nat.le_of_ble_eq_true rfl, Nat.le_of_ble_eq_true rfl⟩ ⟨Nat.le_of_ble_eq_true rfl, Nat.le_of_ble_eq_true rfl⟩
                · have zc_10 : 0 ≤ le := jnlt (a := le) (b := 0) (by omega) (by omega) c_10
                  refine lv_iload hx hb dX11_cell_54 (lv_at hl 6 rfl) ?_
                  refine lv_bipush (v := iI 60) hx hb dX11_cell_56 (by decide) ?_
                  refine lv_icmp_gt (tgt := 76) hx hb dX11_cell_58 (by decide) (fun c_11 => ?_) (fun c_11 => ?_)
                  · have zc_11 : 60 < le := jlt (a := 60) (b := le) (by omega) (by omega) c_11
                    exact k_thrG (tx := "width out of range") xE_iae (Or.inr (Or.inl (⟨(by omega), rfl, rfl, rfl, rfl⟩))) ⟨Nat.le_of_ble_eq_true rfl, Nat.le_of_ble_eq_true rfl⟩ hl0 B hex hl (by decide +kernel) dX11_cell_76 dX11_cell_79 dX11_cell_80 dX11_cell_82 dX11_cell_85 ⟨Nat.le_of_ble_eq_true rfl, Nat.le_of_ble_eq_true rfl, Nat.le_of_ble_eq_true rfl, Nat.le_of_ble_eq_true rfl⟩ ⟨Nat.le_of_ble_eq_true rfl, Nat.le_of_ble_eq_true rfl⟩
                  · have zc_11 : le ≤ 60 := jnlt (a := 60) (b := le) (by omega) (by omega) c_11
                    refine lv_iload hx hb dX11_cell_61 (lv_at hl 7 rfl) ?_
                    refine lv_iload hx hb dX11_cell_63 (lv_at hl 6 rfl) ?_
                    refine lv_icmp_lt (tgt := 76) hx hb dX11_cell_65 (by decide) (fun c_12 => ?_) (fun c_12 => ?_)
                    · have zc_12 : be < le := jlt (a := be) (b := le) (by omega) (by omega) c_12
                      exact k_thrG (tx := "width out of range") xE_iae (Or.inr (Or.inl (⟨(by omega), rfl, rfl, rfl, rfl⟩))) ⟨Nat.le_of_ble_eq_true rfl, Nat.le_of_ble_eq_true rfl⟩ hl0 B hex hl (by decide +kernel) dX11_cell_76 dX11_cell_79 dX11_cell_80 dX11_cell_82 dX11_cell_85 ⟨Nat.le_of_ble_eq_true rfl, Nat.le_of_ble_eq_true rfl, Nat.le_of_ble_eq_true rfl, Nat.le_of_ble_eq_true rfl⟩ ⟨Nat.le_of_ble_eq_true rfl, Nat.le_of_ble_eq_true rfl⟩
                    · have zc_12 : le ≤ be := jnlt (a := be) (b := le) (by omega) (by omega) c_12
                      refine lv_iload hx hb dX11_cell_68 (lv_at hl 7 rfl) ?_
                      refine lv_sipush (v := iI 200) hx hb dX11_cell_70 (by decide) ?_
                      refine lv_icmp_le (tgt := 86) hx hb dX11_cell_73 (by decide) (fun c_13 => ?_) (fun c_13 => ?_)
                      · have zc_13 : be ≤ 200 := jle (a := be) (b := 200) (by omega) (by omega) c_13
                        refine lv_aload hx hb dX11_cell_86 (lv_at hl 0 rfl) ?_
                        obtain ⟨k_14, hk_14⟩ := pk_at (hs := []) (hT.2.2.2.1 pl (by omega) (by omega)).1
                        refine x_get (ci := 0) (C := RX0) (T := TX0) (N := 4) (v := va_rf (if T 1 pl 0 0 = 3 then some (A 7 pl 0) else none)) B k_14 hk_14 rfl in_X0 3 (by decide) mw_1187 (fun _ h9 => h9) rfl dX11_cell_88 ?_
                        by_cases zc_15 : T 1 pl 0 0 = 3
                        · refine lv_setv (y := .ref (A 7 pl 0)) (by rw [if_pos zc_15]; rfl) ?_
                          refine lv_ifnonnull (tgt := 104) hx hb dX11_cell_91 (by decide) ?_
                          refine lv_aload hx hb dX11_cell_104 (lv_at hl 0 rfl) ?_
                          obtain ⟨k_16, hk_16⟩ := pk_at (hs := []) (hT.2.2.2.1 pl (by omega) (by omega)).1
                          refine x_get (ci := 0) (C := RX0) (T := TX0) (N := 4) (v := va_rf (if T 1 pl 0 0 = 3 then some (A 7 pl 0) else none)) B k_16 hk_16 rfl in_X0 3 (by decide) mw_1187 (fun _ h9 => h9) rfl dX11_cell_106 ?_
                          refine lv_setv (y := .ref (A 7 pl 0)) (by rw [if_pos zc_15]; rfl) ?_
                          refine lv_iload_n hx hb dX11_cell_109 rfl (lv_at hl 3 rfl) ?_
                          refine lv_iload_n hx hb dX11_cell_110 rfl (lv_at hl 4 rfl) ?_
                          refine lv_iload hx hb dX11_cell_111 (lv_at hl 5 rfl) ?_
                          refine lv_iload hx hb dX11_cell_113 (lv_at hl 6 rfl) ?_
                          refine lv_iload hx hb dX11_cell_115 (lv_at hl 7 rfl) ?_
                          have B := bd_swap (a := []) (b := []) (d := tl) (bd_to rfl B)
                          obtain ⟨k_17, hk_17⟩ := pk_at (hs := []) (hT.2.2.2.2.2.1 pl (by omega) (by omega) (by omega)).1
                          refine k_V (rest := []) (wc := ([] ++ tl)) (wr := []) (k_tellP l dC dI k T A X tl G Mc Y O L C K cp pl ro co sn le be hPR hK (by omega) zc_15 (by omega)) B mV_X8_tell mw_1229 hl (q0 := k_17) (ci := 8) hk_17 rfl rfl ⟨Nat.le_of_ble_eq_true rfl, Nat.le_of_ble_eq_true rfl⟩ (Nat.le_of_ble_eq_true rfl) rfl dX11_cell_117 ⟨Nat.le_of_ble_eq_true rfl, Nat.le_of_ble_eq_true rfl⟩ (fun r w gc gs H locs hp B => ?_)
                          obtain ⟨tl2_18, z_19, rfl, hw9, rfl, rfl⟩ := hp
                          rw [hw9] at B; clear hw9
                          have B := bd_to (ws' := ([] ++ tl2_18)) rfl B
                          have hPR : PR dI k (teT T pl ((ro * 3) + co) sn le be) A X G Mc Y O L C K cp tl2_18 := z_19
                          have hT : TI dI k (teT T pl ((ro * 3) + co) sn le be) A X tl2_18 := PR_TI hPR
                          refine lv_aload_n hx hb dX11_cell_120 rfl (lv_at hl 1 rfl) ?_
                          have B := bd_swap (a := []) (b := []) (d := tl2_18) (bd_to rfl B)
                          obtain ⟨k_20, hk_20⟩ := pk_at (hs := []) (show (((Y 0 0), .inr (11, [.ref (A 50 0 0), .ref (Y 1 0), .ref (Y 2 0), .int (iI (K 0 0)), .ref (Y 3 0)])) : Nat × va_E) ∈ tl2_18 from (show (((Y 0 0), .inr (11, [.ref (A 50 0 0), .ref (Y 1 0), .ref (Y 2 0), .int (iI (K 0 0)), .ref (Y 3 0)])) : Nat × va_E) ∈ tl2_18 from PR_m hPR 0 0 rfl rfl))
                          refine k_V (rest := []) (wc := ([] ++ tl2_18)) (wr := []) (k_forgetAll l dC dI k (teT T pl ((ro * 3) + co) sn le be) A X tl2_18 G Mc Y O L C K cp z_19 (TK_teT hK (by omega))) B mV_X11_forgetLayouts mw_769 hl (q0 := k_20) (ci := 11) hk_20 rfl rfl ⟨Nat.le_of_ble_eq_true rfl, Nat.le_of_ble_eq_true rfl⟩ (Nat.le_of_ble_eq_true rfl) rfl dX11_cell_121 ⟨Nat.le_of_ble_eq_true rfl, Nat.le_of_ble_eq_true rfl⟩ (fun r w gc gs H locs hp B => ?_)
                          obtain ⟨L2_21, tl2_22, z_23, z_24, rfl, hw9, rfl, rfl⟩ := hp
                          rw [hw9] at B; clear hw9
                          have B := bd_to (ws' := ([] ++ tl2_22)) rfl B
                          have hPR : PR dI k (teT T pl ((ro * 3) + co) sn le be) A X G Mc Y O L2_21 C K cp tl2_22 := z_23
                          have hT : TI dI k (teT T pl ((ro * 3) + co) sn le be) A X tl2_22 := PR_TI hPR
                          refine lv_aload hx hb dX11_cell_124 (lv_at hl 0 rfl) ?_
                          obtain ⟨k_25, hk_25⟩ := pk_at (hs := []) (show (((A 0 pl 0), .inr (0, [.int (iI (T 1 pl 0 0)), .ref (A 1 pl 0), .ref (A 2 pl 0), va_rf (if T 1 pl 0 0 = 3 then some (A 7 pl 0) else none)])) : Nat × va_E) ∈ tl2_22 from (hT.2.2.2.1 pl (show 0 ≤ pl by omega) (show pl < T 0 0 0 0 by omega)).1)
                          refine x_get (ci := 0) (C := RX0) (T := TX0) (N := 4) (v := va_rf (if T 1 pl 0 0 = 3 then some (A 7 pl 0) else none)) B k_25 hk_25 rfl in_X0 3 (by decide) mw_1187 (fun _ h9 => h9) rfl dX11_cell_126 ?_
                          refine lv_setv (y := .ref (A 7 pl 0)) (by rw [if_pos zc_15]; rfl) ?_
                          have B := bd_swap (a := []) (b := []) (d := tl2_22) (bd_to rfl B)
                          obtain ⟨k_26, hk_26⟩ := pk_at (hs := []) (show (((A 7 pl 0), .inr (8, [.ref (A 8 pl 0), .ref (A 8 pl 1), .ref (A 8 pl 2), .ref (A 8 pl 3), .ref (A 8 pl 4), .ref (A 8 pl 5), .ref (A 8 pl 6)])) : Nat × va_E) ∈ tl2_22 from (hT.2.2.2.2.2.1 pl (show 0 ≤ pl by omega) (show pl < T 0 0 0 0 by omega) (show T 1 pl 0 0 = 3 by omega)).1)
                          refine k_V (rest := []) (wc := ([] ++ tl2_22)) (wr := []) (k_rowCountP l dC dI k (teT T pl ((ro * 3) + co) sn le be) A X tl2_22 G Mc Y O L2_21 C K cp pl z_23 (TK_teT hK (by omega)) (show 0 ≤ pl ∧ pl < T 0 0 0 0 by omega) (show T 1 pl 0 0 = 3 by omega)) B mV_X8_rowCount mw_1233 hl (q0 := k_26) (ci := 8) hk_26 rfl rfl ⟨Nat.le_of_ble_eq_true rfl, Nat.le_of_ble_eq_true rfl⟩ (Nat.le_of_ble_eq_true rfl) rfl dX11_cell_129 ⟨Nat.le_of_ble_eq_true rfl, Nat.le_of_ble_eq_true rfl⟩ (fun r w gc gs H locs hp B => ?_)
                          obtain ⟨z_27, rfl, hw9, rfl, rfl⟩ := hp
                          rw [hw9] at B; clear hw9
                          have B := bd_to (ws' := ([] ++ tl2_22)) rfl B
                          exact vx_ret (k_iret B hr (⟨L2_21, tl2_22, hPR, (by omega), z_24, rfl, rfl, rfl, rfl⟩) ⟨Nat.le_of_ble_eq_true rfl, Nat.le_of_ble_eq_true rfl⟩ ⟨Nat.le_of_ble_eq_true rfl, Nat.le_of_ble_eq_true rfl⟩ dX11_cell_132)
                        · refine lv_setv (y := .null) (by rw [if_neg zc_15]; rfl) ?_
                          refine lv_ifnonnullN hx hb dX11_cell_91 ?_
                          exact k_thrG (tx := "no table") xE_ise (Or.inr (Or.inr (⟨(by omega), rfl, rfl, rfl, rfl⟩))) ⟨Nat.le_of_ble_eq_true rfl, Nat.le_of_ble_eq_true rfl⟩ hl0 B hex hl (by decide +kernel) dX11_cell_94 dX11_cell_97 dX11_cell_98 dX11_cell_100 dX11_cell_103 ⟨Nat.le_of_ble_eq_true rfl, Nat.le_of_ble_eq_true rfl, Nat.le_of_ble_eq_true rfl, Nat.le_of_ble_eq_true rfl⟩ ⟨Nat.le_of_ble_eq_true rfl, Nat.le_of_ble_eq_true rfl⟩
                      · have zc_13 : 200 < be := jnle (a := be) (b := 200) (by omega) (by omega) c_13
                        exact k_thrG (tx := "width out of range") xE_iae (Or.inr (Or.inl (⟨(by omega), rfl, rfl, rfl, rfl⟩))) ⟨Nat.le_of_ble_eq_true rfl, Nat.le_of_ble_eq_true rfl⟩ hl0 B hex hl (by decide +kernel) dX11_cell_76 dX11_cell_79 dX11_cell_80 dX11_cell_82 dX11_cell_85 ⟨Nat.le_of_ble_eq_true rfl, Nat.le_of_ble_eq_true rfl, Nat.le_of_ble_eq_true rfl, Nat.le_of_ble_eq_true rfl⟩ ⟨Nat.le_of_ble_eq_true rfl, Nat.le_of_ble_eq_true rfl⟩
              · have zc_9 : (3 - co) < sn := jnle (a := sn) (b := (3 - co)) (by omega) (by omega) c_9
                exact k_thrG (tx := "no such cell") xE_iae (Or.inr (Or.inl (⟨(by omega), rfl, rfl, rfl, rfl⟩))) ⟨Nat.le_of_ble_eq_true rfl, Nat.le_of_ble_eq_true rfl⟩ hl0 B hex hl (by decide +kernel) dX11_cell_39 dX11_cell_42 dX11_cell_43 dX11_cell_45 dX11_cell_48 ⟨Nat.le_of_ble_eq_true rfl, Nat.le_of_ble_eq_true rfl, Nat.le_of_ble_eq_true rfl, Nat.le_of_ble_eq_true rfl⟩ ⟨Nat.le_of_ble_eq_true rfl, Nat.le_of_ble_eq_true rfl⟩

end
