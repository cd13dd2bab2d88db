section
/-- the text with other numbers in one code -/
def up1 (T : Nat → Int → Int → Int → Int) (c0 : Nat) (f : Int → Int → Int → Int) : Nat → Int → Int → Int → Int := fun c => if c = c0 then f else T c
section UP
variable {T : Nat → Int → Int → Int → Int} {f : Int → Int → Int → Int} {v dg : Int} {c0 c : Nat}
theorem up_s : up1 T c0 f c0 = f := if_pos rfl
theorem up_n (h : c ≠ c0) : up1 T c0 f c = T c := if_neg h
theorem u15_0 : up1 T 15 f 0 = T 0 := rfl
theorem u15_1 : up1 T 15 f 1 = T 1 := rfl
theorem u15_2 : up1 T 15 f 2 = T 2 := rfl
theorem u15_3 : up1 T 15 f 3 = T 3 := rfl
theorem u15_4 : up1 T 15 f 4 = T 4 := rfl
theorem u15_5 : up1 T 15 f 5 = T 5 := rfl
theorem u15_6 : up1 T 15 f 6 = T 6 := rfl
theorem u15_7 : up1 T 15 f 7 = T 7 := rfl
theorem u15_8 : up1 T 15 f 8 = T 8 := rfl
theorem u15_9 : up1 T 15 f 9 = T 9 := rfl
theorem u15_10 : up1 T 15 f 10 = T 10 := rfl
theorem u15_11 : up1 T 15 f 11 = T 11 := rfl
theorem u15_12 : up1 T 15 f 12 = T 12 := rfl
theorem u15_13 : up1 T 15 f 13 = T 13 := rfl
theorem u15_14 : up1 T 15 f 14 = T 14 := rfl
theorem u15_16 : up1 T 15 f 16 = T 16 := rfl
theorem u15_17 : up1 T 15 f 17 = T 17 := rfl
theorem u15_18 : up1 T 15 f 18 = T 18 := rfl
theorem u15_19 : up1 T 15 f 19 = T 19 := rfl
theorem u15_20 : up1 T 15 f 20 = T 20 := rfl
theorem u15_21 : up1 T 15 f 21 = T 21 := rfl
theorem u15_22 : up1 T 15 f 22 = T 22 := rfl
theorem u15_23 : up1 T 15 f 23 = T 23 := rfl
end UP

section KEY
variable {T : Nat → Int → Int → Int → Int} {f : Int → Int → Int → Int}
theorem k15_wdZ : wdZ (up1 T 15 f) = wdZ T := by
  funext b0 b1
  simp only [wdZ, u15_0, u15_1, u15_2, u15_3, u15_4, u15_5, u15_6, u15_7, u15_8, u15_9, u15_10, u15_11, u15_12, u15_13, u15_14, u15_16, u15_17, u15_18, u15_19, u15_20, u15_21, u15_22, u15_23] <;> first | with_reducible rfl | (congr; done) | (congr 1; done) | rfl
theorem k15_nwZ : nwZ (up1 T 15 f) = nwZ T := by
  funext b0 b1
  simp only [nwZ, u15_0, u15_1, u15_2, u15_3, u15_4, u15_5, u15_6, u15_7, u15_8, u15_9, u15_10, u15_11, u15_12, u15_13, u15_14, u15_16, u15_17, u15_18, u15_19, u15_20, u15_21, u15_22, u15_23] <;> first | with_reducible rfl | (congr; done) | (congr 1; done) | rfl
theorem k15_dpZ : dpZ (up1 T 15 f) = dpZ T := by
  funext b0
  simp only [dpZ, u15_0, u15_1, u15_2, u15_3, u15_4, u15_5, u15_6, u15_7, u15_8, u15_9, u15_10, u15_11, u15_12, u15_13, u15_14, u15_16, u15_17, u15_18, u15_19, u15_20, u15_21, u15_22, u15_23] <;> first | with_reducible rfl | (congr; done) | (congr 1; done) | rfl
theorem k15_ltP : ltP (up1 T 15 f) = ltP T := by
  funext b0 b1 b2 b3 b4
  funext q
  induction q with
  | zero => first | rfl | (simp only [ltP, u15_0, u15_1, u15_2, u15_3, u15_4, u15_5, u15_6, u15_7, u15_8, u15_9, u15_10, u15_11, u15_12, u15_13, u15_14, u15_16, u15_17, u15_18, u15_19, u15_20, u15_21, u15_22, u15_23])
  | succ q ih => simp only [ltP, ih, u15_0, u15_1, u15_2, u15_3, u15_4, u15_5, u15_6, u15_7, u15_8, u15_9, u15_10, u15_11, u15_12, u15_13, u15_14, u15_16, u15_17, u15_18, u15_19, u15_20, u15_21, u15_22, u15_23] <;> first | with_reducible rfl | (congr; done) | (congr 1; done) | rfl
theorem k15_woP : woP (up1 T 15 f) = woP T := by
  funext b0 b1 b2 b3
  simp only [woP, u15_0, u15_1, u15_2, u15_3, u15_4, u15_5, u15_6, u15_7, u15_8, u15_9, u15_10, u15_11, u15_12, u15_13, u15_14, u15_16, u15_17, u15_18, u15_19, u15_20, u15_21, u15_22, u15_23, k15_ltP] <;> first | with_reducible rfl | (congr; done) | (congr 1; done) | rfl
theorem k15_plP : plP (up1 T 15 f) = plP T := by
  funext b0 b1 b2
  funext q
  induction q with
  | zero => first | rfl | (simp only [plP, u15_0, u15_1, u15_2, u15_3, u15_4, u15_5, u15_6, u15_7, u15_8, u15_9, u15_10, u15_11, u15_12, u15_13, u15_14, u15_16, u15_17, u15_18, u15_19, u15_20, u15_21, u15_22, u15_23, thW, k15_woP])
  | succ q ih => simp only [plP, ih, u15_0, u15_1, u15_2, u15_3, u15_4, u15_5, u15_6, u15_7, u15_8, u15_9, u15_10, u15_11, u15_12, u15_13, u15_14, u15_16, u15_17, u15_18, u15_19, u15_20, u15_21, u15_22, u15_23, thW, k15_woP] <;> first | with_reducible rfl | (congr; done) | (congr 1; done) | rfl
theorem k15_tkP : tkP (up1 T 15 f) = tkP T := by
  funext b0 b1 b2
  simp only [tkP, u15_0, u15_1, u15_2, u15_3, u15_4, u15_5, u15_6, u15_7, u15_8, u15_9, u15_10, u15_11, u15_12, u15_13, u15_14, u15_16, u15_17, u15_18, u15_19, u15_20, u15_21, u15_22, u15_23, thB, k15_plP] <;> first | with_reducible rfl | (congr; done) | (congr 1; done) | rfl
theorem k15_tpS : tpS (up1 T 15 f) = tpS T := by
  funext b0 b1
  funext q
  induction q with
  | zero => first | rfl | (simp only [tpS, u15_0, u15_1, u15_2, u15_3, u15_4, u15_5, u15_6, u15_7, u15_8, u15_9, u15_10, u15_11, u15_12, u15_13, u15_14, u15_16, u15_17, u15_18, u15_19, u15_20, u15_21, u15_22, u15_23])
  | succ q ih => simp only [tpS, ih, u15_0, u15_1, u15_2, u15_3, u15_4, u15_5, u15_6, u15_7, u15_8, u15_9, u15_10, u15_11, u15_12, u15_13, u15_14, u15_16, u15_17, u15_18, u15_19, u15_20, u15_21, u15_22, u15_23] <;> first | with_reducible rfl | (congr; done) | (congr 1; done) | rfl
theorem k15_btS : btS (up1 T 15 f) = btS T := by
  funext b0 b1 b2 b3 b4
  funext q
  induction q with
  | zero => first | rfl | (simp only [btS, u15_0, u15_1, u15_2, u15_3, u15_4, u15_5, u15_6, u15_7, u15_8, u15_9, u15_10, u15_11, u15_12, u15_13, u15_14, u15_16, u15_17, u15_18, u15_19, u15_20, u15_21, u15_22, u15_23])
  | succ q ih => simp only [btS, ih, u15_0, u15_1, u15_2, u15_3, u15_4, u15_5, u15_6, u15_7, u15_8, u15_9, u15_10, u15_11, u15_12, u15_13, u15_14, u15_16, u15_17, u15_18, u15_19, u15_20, u15_21, u15_22, u15_23] <;> first | with_reducible rfl | (congr; done) | (congr 1; done) | rfl
theorem k15_clN : clN (up1 T 15 f) = clN T := by
  funext b0 b1 b2
  simp only [clN, u15_0, u15_1, u15_2, u15_3, u15_4, u15_5, u15_6, u15_7, u15_8, u15_9, u15_10, u15_11, u15_12, u15_13, u15_14, u15_16, u15_17, u15_18, u15_19, u15_20, u15_21, u15_22, u15_23] <;> first | with_reducible rfl | (congr; done) | (congr 1; done) | rfl
theorem k15_clU : clU (up1 T 15 f) = clU T := by
  funext b0 b1 b2
  simp only [clU, u15_0, u15_1, u15_2, u15_3, u15_4, u15_5, u15_6, u15_7, u15_8, u15_9, u15_10, u15_11, u15_12, u15_13, u15_14, u15_16, u15_17, u15_18, u15_19, u15_20, u15_21, u15_22, u15_23, k15_clN] <;> first | with_reducible rfl | (congr; done) | (congr 1; done) | rfl
theorem k15_pcZ : pcZ (up1 T 15 f) = pcZ T := by
  funext b0 b1
  simp only [pcZ, u15_0, u15_1, u15_2, u15_3, u15_4, u15_5, u15_6, u15_7, u15_8, u15_9, u15_10, u15_11, u15_12, u15_13, u15_14, u15_16, u15_17, u15_18, u15_19, u15_20, u15_21, u15_22, u15_23] <;> first | with_reducible rfl | (congr; done) | (congr 1; done) | rfl
theorem k15_csZ : csZ (up1 T 15 f) = csZ T := by
  funext b0 b1 b2 b3
  simp only [csZ, u15_0, u15_1, u15_2, u15_3, u15_4, u15_5, u15_6, u15_7, u15_8, u15_9, u15_10, u15_11, u15_12, u15_13, u15_14, u15_16, u15_17, u15_18, u15_19, u15_20, u15_21, u15_22, u15_23, k15_pcZ] <;> first | with_reducible rfl | (congr; done) | (congr 1; done) | rfl
theorem k15_waF : waF (up1 T 15 f) = waF T := by
  funext b0
  funext q
  induction q with
  | zero => first | rfl | (funext x1 x2; simp only [waF, u15_0, u15_1, u15_2, u15_3, u15_4, u15_5, u15_6, u15_7, u15_8, u15_9, u15_10, u15_11, u15_12, u15_13, u15_14, u15_16, u15_17, u15_18, u15_19, u15_20, u15_21, u15_22, u15_23])
  | succ q ih => funext x1 x2; simp only [waF, ih, u15_0, u15_1, u15_2, u15_3, u15_4, u15_5, u15_6, u15_7, u15_8, u15_9, u15_10, u15_11, u15_12, u15_13, u15_14, u15_16, u15_17, u15_18, u15_19, u15_20, u15_21, u15_22, u15_23] <;> first | with_reducible rfl | (congr; done) | (congr 1; done) | rfl
theorem k15_waZ : waZ (up1 T 15 f) = waZ T := by
  funext b0 b1
  simp only [waZ, u15_0, u15_1, u15_2, u15_3, u15_4, u15_5, u15_6, u15_7, u15_8, u15_9, u15_10, u15_11, u15_12, u15_13, u15_14, u15_16, u15_17, u15_18, u15_19, u15_20, u15_21, u15_22, u15_23, k15_waF] <;> first | with_reducible rfl | (congr; done) | (congr 1; done) | rfl
theorem k15_fbF : fbF (up1 T 15 f) = fbF T := by
  funext b0 b1
  funext q
  induction q with
  | zero => first | rfl | (funext x1 x2 x3; simp only [fbF, u15_0, u15_1, u15_2, u15_3, u15_4, u15_5, u15_6, u15_7, u15_8, u15_9, u15_10, u15_11, u15_12, u15_13, u15_14, u15_16, u15_17, u15_18, u15_19, u15_20, u15_21, u15_22, u15_23])
  | succ q ih => funext x1 x2 x3; simp only [fbF, ih, u15_0, u15_1, u15_2, u15_3, u15_4, u15_5, u15_6, u15_7, u15_8, u15_9, u15_10, u15_11, u15_12, u15_13, u15_14, u15_16, u15_17, u15_18, u15_19, u15_20, u15_21, u15_22, u15_23] <;> first | with_reducible rfl | (congr; done) | (congr 1; done) | rfl
theorem k15_fbZ : fbZ (up1 T 15 f) = fbZ T := by
  funext b0 b1
  simp only [fbZ, u15_0, u15_1, u15_2, u15_3, u15_4, u15_5, u15_6, u15_7, u15_8, u15_9, u15_10, u15_11, u15_12, u15_13, u15_14, u15_16, u15_17, u15_18, u15_19, u15_20, u15_21, u15_22, u15_23, k15_fbF] <;> first | with_reducible rfl | (congr; done) | (congr 1; done) | rfl
theorem k15_pbF : pbF (up1 T 15 f) = pbF T := by
  funext b0
  funext q
  induction q with
  | zero => first | rfl | (funext x1 x2; simp only [pbF, u15_0, u15_1, u15_2, u15_3, u15_4, u15_5, u15_6, u15_7, u15_8, u15_9, u15_10, u15_11, u15_12, u15_13, u15_14, u15_16, u15_17, u15_18, u15_19, u15_20, u15_21, u15_22, u15_23, k15_fbZ])
  | succ q ih => funext x1 x2; simp only [pbF, ih, u15_0, u15_1, u15_2, u15_3, u15_4, u15_5, u15_6, u15_7, u15_8, u15_9, u15_10, u15_11, u15_12, u15_13, u15_14, u15_16, u15_17, u15_18, u15_19, u15_20, u15_21, u15_22, u15_23, k15_fbZ] <;> first | with_reducible rfl | (congr; done) | (congr 1; done) | rfl
theorem k15_pbZ : pbZ (up1 T 15 f) = pbZ T := by
  funext b0 b1 b2
  simp only [pbZ, u15_0, u15_1, u15_2, u15_3, u15_4, u15_5, u15_6, u15_7, u15_8, u15_9, u15_10, u15_11, u15_12, u15_13, u15_14, u15_16, u15_17, u15_18, u15_19, u15_20, u15_21, u15_22, u15_23, k15_pbF] <;> first | with_reducible rfl | (congr; done) | (congr 1; done) | rfl
theorem k15_pgH : pgH (up1 T 15 f) = pgH T := by
  funext b0 b1 b2 b3
  simp only [pgH, u15_0, u15_1, u15_2, u15_3, u15_4, u15_5, u15_6, u15_7, u15_8, u15_9, u15_10, u15_11, u15_12, u15_13, u15_14, u15_16, u15_17, u15_18, u15_19, u15_20, u15_21, u15_22, u15_23, tpZ, k15_tpS] <;> first | with_reducible rfl | (congr; done) | (congr 1; done) | rfl
theorem k15_rfF : rfF (up1 T 15 f) = rfF T := by
  funext b0 b1 b2 b3
  funext q
  induction q with
  | zero => first | rfl | (funext x1 x2; simp only [rfF, u15_0, u15_1, u15_2, u15_3, u15_4, u15_5, u15_6, u15_7, u15_8, u15_9, u15_10, u15_11, u15_12, u15_13, u15_14, u15_16, u15_17, u15_18, u15_19, u15_20, u15_21, u15_22, u15_23, k15_waZ, k15_pgH, pgE, pgY, k15_clN, pgX, pgK, tpZ, k15_tpS, btZ, k15_btS, k15_clU])
  | succ q ih => funext x1 x2; simp only [rfF, ih, u15_0, u15_1, u15_2, u15_3, u15_4, u15_5, u15_6, u15_7, u15_8, u15_9, u15_10, u15_11, u15_12, u15_13, u15_14, u15_16, u15_17, u15_18, u15_19, u15_20, u15_21, u15_22, u15_23, k15_waZ, k15_pgH, pgE, pgY, k15_clN, pgX, pgK, tpZ, k15_tpS, btZ, k15_btS, k15_clU] <;> first | with_reducible rfl | (congr; done) | (congr 1; done) | rfl
theorem k15_rfZ : rfZ (up1 T 15 f) = rfZ T := by
  funext b0 b1 b2 b3 b4 x0 x1
  simp only [rfZ, u15_0, u15_1, u15_2, u15_3, u15_4, u15_5, u15_6, u15_7, u15_8, u15_9, u15_10, u15_11, u15_12, u15_13, u15_14, u15_16, u15_17, u15_18, u15_19, u15_20, u15_21, u15_22, u15_23, k15_rfF] <;> first | with_reducible rfl | (congr; done) | (congr 1; done) | rfl
theorem k15_weZ : weZ (up1 T 15 f) = weZ T := by
  funext b0 b1 b2 b3 b4 b5 b6 b7 x0 x1
  simp only [weZ, u15_0, u15_1, u15_2, u15_3, u15_4, u15_5, u15_6, u15_7, u15_8, u15_9, u15_10, u15_11, u15_12, u15_13, u15_14, u15_16, u15_17, u15_18, u15_19, u15_20, u15_21, u15_22, u15_23, k15_waZ, k15_pbZ] <;> first | with_reducible rfl | (congr; done) | (congr 1; done) | rfl
theorem k15_chF : chF (up1 T 15 f) = chF T := by
  funext b0 b1 b2 b3 b4
  funext q
  induction q with
  | zero => first | rfl | (funext x1 x2; simp only [chF, u15_0, u15_1, u15_2, u15_3, u15_4, u15_5, u15_6, u15_7, u15_8, u15_9, u15_10, u15_11, u15_12, u15_13, u15_14, u15_16, u15_17, u15_18, u15_19, u15_20, u15_21, u15_22, u15_23, k15_pgH, pgE, pgY, k15_clN, pgX, pgK, tpZ, k15_tpS, btZ, k15_btS, k15_clU, pgC, k15_csZ, k15_weZ])
  | succ q ih => funext x1 x2; simp only [chF, ih, u15_0, u15_1, u15_2, u15_3, u15_4, u15_5, u15_6, u15_7, u15_8, u15_9, u15_10, u15_11, u15_12, u15_13, u15_14, u15_16, u15_17, u15_18, u15_19, u15_20, u15_21, u15_22, u15_23, k15_pgH, pgE, pgY, k15_clN, pgX, pgK, tpZ, k15_tpS, btZ, k15_btS, k15_clU, pgC, k15_csZ, k15_weZ] <;> first | with_reducible rfl | (congr; done) | (congr 1; done) | rfl
theorem k15_chZ : chZ (up1 T 15 f) = chZ T := by
  funext b0 b1 b2 b3 b4 b5 x0 x1
  simp only [chZ, u15_0, u15_1, u15_2, u15_3, u15_4, u15_5, u15_6, u15_7, u15_8, u15_9, u15_10, u15_11, u15_12, u15_13, u15_14, u15_16, u15_17, u15_18, u15_19, u15_20, u15_21, u15_22, u15_23, k15_chF] <;> first | with_reducible rfl | (congr; done) | (congr 1; done) | rfl
theorem k15_plS : plS (up1 T 15 f) = plS T := by
  funext b0 b1 b2 b3
  funext q
  induction q with
  | zero => first | rfl | (simp only [plS, u15_0, u15_1, u15_2, u15_3, u15_4, u15_5, u15_6, u15_7, u15_8, u15_9, u15_10, u15_11, u15_12, u15_13, u15_14, u15_16, u15_17, u15_18, u15_19, u15_20, u15_21, u15_22, u15_23])
  | succ q ih => simp only [plS, ih, u15_0, u15_1, u15_2, u15_3, u15_4, u15_5, u15_6, u15_7, u15_8, u15_9, u15_10, u15_11, u15_12, u15_13, u15_14, u15_16, u15_17, u15_18, u15_19, u15_20, u15_21, u15_22, u15_23] <;> first | with_reducible rfl | (congr; done) | (congr 1; done) | rfl
theorem k15_ppZ : ppZ (up1 T 15 f) = ppZ T := by
  funext b0 b1 b2 b3 b4 b5 b6 b7 x0 x1
  simp only [ppZ, u15_0, u15_1, u15_2, u15_3, u15_4, u15_5, u15_6, u15_7, u15_8, u15_9, u15_10, u15_11, u15_12, u15_13, u15_14, u15_16, u15_17, u15_18, u15_19, u15_20, u15_21, u15_22, u15_23, plZ, k15_plS] <;> first | with_reducible rfl | (congr; done) | (congr 1; done) | rfl
theorem k15_pfQ : pfQ (up1 T 15 f) = pfQ T := by
  funext b0 b1 b2 x0 x1
  simp only [pfQ, u15_0, u15_1, u15_2, u15_3, u15_4, u15_5, u15_6, u15_7, u15_8, u15_9, u15_10, u15_11, u15_12, u15_13, u15_14, u15_16, u15_17, u15_18, u15_19, u15_20, u15_21, u15_22, u15_23, plZ, k15_plS] <;> first | with_reducible rfl | (congr; done) | (congr 1; done) | rfl
theorem k15_pfZ : pfZ (up1 T 15 f) = pfZ T := by
  funext b0 b1 b2 x0 x1
  simp only [pfZ, u15_0, u15_1, u15_2, u15_3, u15_4, u15_5, u15_6, u15_7, u15_8, u15_9, u15_10, u15_11, u15_12, u15_13, u15_14, u15_16, u15_17, u15_18, u15_19, u15_20, u15_21, u15_22, u15_23, k15_pfQ] <;> first | with_reducible rfl | (congr; done) | (congr 1; done) | rfl
theorem k15_paS : paS (up1 T 15 f) = paS T := by
  funext b0 b1 b2
  funext q
  induction q with
  | zero => first | rfl | (simp only [paS, u15_0, u15_1, u15_2, u15_3, u15_4, u15_5, u15_6, u15_7, u15_8, u15_9, u15_10, u15_11, u15_12, u15_13, u15_14, u15_16, u15_17, u15_18, u15_19, u15_20, u15_21, u15_22, u15_23, k15_pfZ])
  | succ q ih => simp only [paS, ih, u15_0, u15_1, u15_2, u15_3, u15_4, u15_5, u15_6, u15_7, u15_8, u15_9, u15_10, u15_11, u15_12, u15_13, u15_14, u15_16, u15_17, u15_18, u15_19, u15_20, u15_21, u15_22, u15_23, k15_pfZ] <;> first | with_reducible rfl | (congr; done) | (congr 1; done) | rfl
theorem k15_bhF : bhF (up1 T 15 f) = bhF T := by
  funext b0
  funext q
  induction q with
  | zero => first | rfl | (funext x1 x2; simp only [bhF, u15_0, u15_1, u15_2, u15_3, u15_4, u15_5, u15_6, u15_7, u15_8, u15_9, u15_10, u15_11, u15_12, u15_13, u15_14, u15_16, u15_17, u15_18, u15_19, u15_20, u15_21, u15_22, u15_23, k15_fbZ, k15_pfZ])
  | succ q ih => funext x1 x2; simp only [bhF, ih, u15_0, u15_1, u15_2, u15_3, u15_4, u15_5, u15_6, u15_7, u15_8, u15_9, u15_10, u15_11, u15_12, u15_13, u15_14, u15_16, u15_17, u15_18, u15_19, u15_20, u15_21, u15_22, u15_23, k15_fbZ, k15_pfZ] <;> first | with_reducible rfl | (congr; done) | (congr 1; done) | rfl
theorem k15_bnF : bnF (up1 T 15 f) = bnF T := by
  funext b0
  funext q
  induction q with
  | zero => first | rfl | (funext x1 x2; simp only [bnF, u15_0, u15_1, u15_2, u15_3, u15_4, u15_5, u15_6, u15_7, u15_8, u15_9, u15_10, u15_11, u15_12, u15_13, u15_14, u15_16, u15_17, u15_18, u15_19, u15_20, u15_21, u15_22, u15_23])
  | succ q ih => funext x1 x2; simp only [bnF, ih, u15_0, u15_1, u15_2, u15_3, u15_4, u15_5, u15_6, u15_7, u15_8, u15_9, u15_10, u15_11, u15_12, u15_13, u15_14, u15_16, u15_17, u15_18, u15_19, u15_20, u15_21, u15_22, u15_23] <;> first | with_reducible rfl | (congr; done) | (congr 1; done) | rfl
theorem k15_lyP : lyP (up1 T 15 f) = lyP T := by
  funext b0 b1 b2 b3 b4 b5 x0 x1
  simp only [lyP, u15_0, u15_1, u15_2, u15_3, u15_4, u15_5, u15_6, u15_7, u15_8, u15_9, u15_10, u15_11, u15_12, u15_13, u15_14, u15_16, u15_17, u15_18, u15_19, u15_20, u15_21, u15_22, u15_23, tpZ, k15_tpS, pgN, k15_clN, k15_pgH, pgK, btZ, k15_btS, k15_clU, pgC, k15_csZ, pgY, k15_ppZ] <;> first | with_reducible rfl | (congr; done) | (congr 1; done) | rfl
theorem k15_lyF : lyF (up1 T 15 f) = lyF T := by
  funext b0 b1
  funext q
  induction q with
  | zero => first | rfl | (funext x1 x2 x3 x4; simp only [lyF, u15_0, u15_1, u15_2, u15_3, u15_4, u15_5, u15_6, u15_7, u15_8, u15_9, u15_10, u15_11, u15_12, u15_13, u15_14, u15_16, u15_17, u15_18, u15_19, u15_20, u15_21, u15_22, u15_23, k15_waZ, pgY, k15_clN, k15_pgH, pgX, pgK, tpZ, k15_tpS, btZ, k15_btS, k15_clU, paZ, k15_paS, k15_lyP])
  | succ q ih => funext x1 x2 x3 x4; simp only [lyF, ih, u15_0, u15_1, u15_2, u15_3, u15_4, u15_5, u15_6, u15_7, u15_8, u15_9, u15_10, u15_11, u15_12, u15_13, u15_14, u15_16, u15_17, u15_18, u15_19, u15_20, u15_21, u15_22, u15_23, k15_waZ, pgY, k15_clN, k15_pgH, pgX, pgK, tpZ, k15_tpS, btZ, k15_btS, k15_clU, paZ, k15_paS, k15_lyP] <;> first | with_reducible rfl | (congr; done) | (congr 1; done) | rfl
theorem k15_lyZ : lyZ (up1 T 15 f) = lyZ T := by
  funext b0 b1 b2 x0 x1
  simp only [lyZ, u15_0, u15_1, u15_2, u15_3, u15_4, u15_5, u15_6, u15_7, u15_8, u15_9, u15_10, u15_11, u15_12, u15_13, u15_14, u15_16, u15_17, u15_18, u15_19, u15_20, u15_21, u15_22, u15_23, k15_bhF, k15_bnF, k15_lyF] <;> first | with_reducible rfl | (congr; done) | (congr 1; done) | rfl
theorem k15_fwC : fwC (up1 T 15 f) = fwC T := by
  funext b0 b1
  funext q
  induction q with
  | zero => first | rfl | (funext x1 x2; simp only [fwC, u15_0, u15_1, u15_2, u15_3, u15_4, u15_5, u15_6, u15_7, u15_8, u15_9, u15_10, u15_11, u15_12, u15_13, u15_14, u15_16, u15_17, u15_18, u15_19, u15_20, u15_21, u15_22, u15_23, k15_rfZ])
  | succ q ih => funext x1 x2; simp only [fwC, ih, u15_0, u15_1, u15_2, u15_3, u15_4, u15_5, u15_6, u15_7, u15_8, u15_9, u15_10, u15_11, u15_12, u15_13, u15_14, u15_16, u15_17, u15_18, u15_19, u15_20, u15_21, u15_22, u15_23, k15_rfZ] <;> first | with_reducible rfl | (congr; done) | (congr 1; done) | rfl
theorem k15_fwA : fwA (up1 T 15 f) = fwA T := by
  funext b0
  funext q
  induction q with
  | zero => first | rfl | (simp only [fwA, u15_0, u15_1, u15_2, u15_3, u15_4, u15_5, u15_6, u15_7, u15_8, u15_9, u15_10, u15_11, u15_12, u15_13, u15_14, u15_16, u15_17, u15_18, u15_19, u15_20, u15_21, u15_22, u15_23, k15_fwC])
  | succ q ih => simp only [fwA, ih, u15_0, u15_1, u15_2, u15_3, u15_4, u15_5, u15_6, u15_7, u15_8, u15_9, u15_10, u15_11, u15_12, u15_13, u15_14, u15_16, u15_17, u15_18, u15_19, u15_20, u15_21, u15_22, u15_23, k15_fwC] <;> first | with_reducible rfl | (congr; done) | (congr 1; done) | rfl
theorem k15_bwC : bwC (up1 T 15 f) = bwC T := by
  funext b0 b1
  funext q
  induction q with
  | zero => first | rfl | (funext x1 x2; simp only [bwC, u15_0, u15_1, u15_2, u15_3, u15_4, u15_5, u15_6, u15_7, u15_8, u15_9, u15_10, u15_11, u15_12, u15_13, u15_14, u15_16, u15_17, u15_18, u15_19, u15_20, u15_21, u15_22, u15_23, k15_chZ])
  | succ q ih => funext x1 x2; simp only [bwC, ih, u15_0, u15_1, u15_2, u15_3, u15_4, u15_5, u15_6, u15_7, u15_8, u15_9, u15_10, u15_11, u15_12, u15_13, u15_14, u15_16, u15_17, u15_18, u15_19, u15_20, u15_21, u15_22, u15_23, k15_chZ] <;> first | with_reducible rfl | (congr; done) | (congr 1; done) | rfl
theorem k15_bwA : bwA (up1 T 15 f) = bwA T := by
  funext b0 b1
  funext q
  induction q with
  | zero => first | rfl | (simp only [bwA, u15_0, u15_1, u15_2, u15_3, u15_4, u15_5, u15_6, u15_7, u15_8, u15_9, u15_10, u15_11, u15_12, u15_13, u15_14, u15_16, u15_17, u15_18, u15_19, u15_20, u15_21, u15_22, u15_23, k15_bwC])
  | succ q ih => simp only [bwA, ih, u15_0, u15_1, u15_2, u15_3, u15_4, u15_5, u15_6, u15_7, u15_8, u15_9, u15_10, u15_11, u15_12, u15_13, u15_14, u15_16, u15_17, u15_18, u15_19, u15_20, u15_21, u15_22, u15_23, k15_bwC] <;> first | with_reducible rfl | (congr; done) | (congr 1; done) | rfl
theorem k15_mkZ : mkZ (up1 T 15 f) = mkZ T := by
  funext b0 x0 x1
  simp only [mkZ, u15_0, u15_1, u15_2, u15_3, u15_4, u15_5, u15_6, u15_7, u15_8, u15_9, u15_10, u15_11, u15_12, u15_13, u15_14, u15_16, u15_17, u15_18, u15_19, u15_20, u15_21, u15_22, u15_23, k15_lyZ, k15_fwA, k15_bwA] <;> first | with_reducible rfl | (congr; done) | (congr 1; done) | rfl
theorem k15_htT : htT (up1 T 15 f) = htT T := by
  funext b0 b1
  simp only [htT, u15_0, u15_1, u15_2, u15_3, u15_4, u15_5, u15_6, u15_7, u15_8, u15_9, u15_10, u15_11, u15_12, u15_13, u15_14, u15_16, u15_17, u15_18, u15_19, u15_20, u15_21, u15_22, u15_23] <;> first | with_reducible rfl | (congr; done) | (congr 1; done) | rfl
theorem k15_atQ : atQ (up1 T 15 f) = atQ T := by
  funext b0 b1
  funext q
  induction q with
  | zero => first | rfl | (simp only [atQ, u15_0, u15_1, u15_2, u15_3, u15_4, u15_5, u15_6, u15_7, u15_8, u15_9, u15_10, u15_11, u15_12, u15_13, u15_14, u15_16, u15_17, u15_18, u15_19, u15_20, u15_21, u15_22, u15_23, k15_htT])
  | succ q ih => simp only [atQ, ih, u15_0, u15_1, u15_2, u15_3, u15_4, u15_5, u15_6, u15_7, u15_8, u15_9, u15_10, u15_11, u15_12, u15_13, u15_14, u15_16, u15_17, u15_18, u15_19, u15_20, u15_21, u15_22, u15_23, k15_htT] <;> first | with_reducible rfl | (congr; done) | (congr 1; done) | rfl
theorem k15_abQ : abQ (up1 T 15 f) = abQ T := by
  funext b0 b1 b2 b3 b4 x0 x1
  simp only [abQ, u15_0, u15_1, u15_2, u15_3, u15_4, u15_5, u15_6, u15_7, u15_8, u15_9, u15_10, u15_11, u15_12, u15_13, u15_14, u15_16, u15_17, u15_18, u15_19, u15_20, u15_21, u15_22, u15_23, k15_atQ, rcT] <;> first | with_reducible rfl | (congr; done) | (congr 1; done) | rfl
theorem k15_ctW : ctW (up1 T 15 f) = ctW T := by
  funext b0 b1 b2
  funext q
  induction q with
  | zero => first | rfl | (simp only [ctW, u15_0, u15_1, u15_2, u15_3, u15_4, u15_5, u15_6, u15_7, u15_8, u15_9, u15_10, u15_11, u15_12, u15_13, u15_14, u15_16, u15_17, u15_18, u15_19, u15_20, u15_21, u15_22, u15_23, thW])
  | succ q ih => simp only [ctW, ih, u15_0, u15_1, u15_2, u15_3, u15_4, u15_5, u15_6, u15_7, u15_8, u15_9, u15_10, u15_11, u15_12, u15_13, u15_14, u15_16, u15_17, u15_18, u15_19, u15_20, u15_21, u15_22, u15_23, thW] <;> first | with_reducible rfl | (congr; done) | (congr 1; done) | rfl
theorem k15_ctB : ctB (up1 T 15 f) = ctB T := by
  funext b0
  funext q
  induction q with
  | zero => first | rfl | (simp only [ctB, u15_0, u15_1, u15_2, u15_3, u15_4, u15_5, u15_6, u15_7, u15_8, u15_9, u15_10, u15_11, u15_12, u15_13, u15_14, u15_16, u15_17, u15_18, u15_19, u15_20, u15_21, u15_22, u15_23, thB, k15_ctW])
  | succ q ih => simp only [ctB, ih, u15_0, u15_1, u15_2, u15_3, u15_4, u15_5, u15_6, u15_7, u15_8, u15_9, u15_10, u15_11, u15_12, u15_13, u15_14, u15_16, u15_17, u15_18, u15_19, u15_20, u15_21, u15_22, u15_23, thB, k15_ctW] <;> first | with_reducible rfl | (congr; done) | (congr 1; done) | rfl
theorem k15_mkQ : mkQ (up1 T 15 f) = mkQ T := by
  funext b0 b1 b2 b3 b4 x0 x1
  simp only [mkQ, u15_0, u15_1, u15_2, u15_3, u15_4, u15_5, u15_6, u15_7, u15_8, u15_9, u15_10, u15_11, u15_12, u15_13, u15_14, u15_16, u15_17, u15_18, u15_19, u15_20, u15_21, u15_22, u15_23, mkP] <;> first | with_reducible rfl | (congr; done) | (congr 1; done) | rfl
theorem k15_roZ : roZ (up1 T 15 f) = roZ T := by
  funext b0 b1 b2 b3
  simp only [roZ, u15_0, u15_1, u15_2, u15_3, u15_4, u15_5, u15_6, u15_7, u15_8, u15_9, u15_10, u15_11, u15_12, u15_13, u15_14, u15_16, u15_17, u15_18, u15_19, u15_20, u15_21, u15_22, u15_23] <;> first | with_reducible rfl | (congr; done) | (congr 1; done) | rfl
theorem k15_pwW : pwW (up1 T 15 f) = pwW T := by
  funext b0 b1 b2 b3 b4
  funext q
  induction q with
  | zero => first | rfl | (simp only [pwW, u15_0, u15_1, u15_2, u15_3, u15_4, u15_5, u15_6, u15_7, u15_8, u15_9, u15_10, u15_11, u15_12, u15_13, u15_14, u15_16, u15_17, u15_18, u15_19, u15_20, u15_21, u15_22, u15_23, thW, k15_mkQ, k15_roZ])
  | succ q ih => simp only [pwW, ih, u15_0, u15_1, u15_2, u15_3, u15_4, u15_5, u15_6, u15_7, u15_8, u15_9, u15_10, u15_11, u15_12, u15_13, u15_14, u15_16, u15_17, u15_18, u15_19, u15_20, u15_21, u15_22, u15_23, thW, k15_mkQ, k15_roZ] <;> first | with_reducible rfl | (congr; done) | (congr 1; done) | rfl
theorem k15_pwB : pwB (up1 T 15 f) = pwB T := by
  funext b0 b1 b2
  funext q
  induction q with
  | zero => first | rfl | (simp only [pwB, u15_0, u15_1, u15_2, u15_3, u15_4, u15_5, u15_6, u15_7, u15_8, u15_9, u15_10, u15_11, u15_12, u15_13, u15_14, u15_16, u15_17, u15_18, u15_19, u15_20, u15_21, u15_22, u15_23, k15_pwW])
  | succ q ih => simp only [pwB, ih, u15_0, u15_1, u15_2, u15_3, u15_4, u15_5, u15_6, u15_7, u15_8, u15_9, u15_10, u15_11, u15_12, u15_13, u15_14, u15_16, u15_17, u15_18, u15_19, u15_20, u15_21, u15_22, u15_23, k15_pwW] <;> first | with_reducible rfl | (congr; done) | (congr 1; done) | rfl
theorem k15_rwQ : rwQ (up1 T 15 f) = rwQ T := by
  funext b0 b1 b2 b3 b4 b5 x0 x1
  simp only [rwQ, u15_0, u15_1, u15_2, u15_3, u15_4, u15_5, u15_6, u15_7, u15_8, u15_9, u15_10, u15_11, u15_12, u15_13, u15_14, u15_16, u15_17, u15_18, u15_19, u15_20, u15_21, u15_22, u15_23, thB, k15_abQ] <;> first | with_reducible rfl | (congr; done) | (congr 1; done) | rfl
theorem k15_rwB : rwB (up1 T 15 f) = rwB T := by
  funext b0 b1 b2 b3
  funext q
  induction q with
  | zero => first | rfl | (simp only [rwB, u15_0, u15_1, u15_2, u15_3, u15_4, u15_5, u15_6, u15_7, u15_8, u15_9, u15_10, u15_11, u15_12, u15_13, u15_14, u15_16, u15_17, u15_18, u15_19, u15_20, u15_21, u15_22, u15_23, k15_rwQ])
  | succ q ih => simp only [rwB, ih, u15_0, u15_1, u15_2, u15_3, u15_4, u15_5, u15_6, u15_7, u15_8, u15_9, u15_10, u15_11, u15_12, u15_13, u15_14, u15_16, u15_17, u15_18, u15_19, u15_20, u15_21, u15_22, u15_23, k15_rwQ] <;> first | with_reducible rfl | (congr; done) | (congr 1; done) | rfl
theorem k15_moZ : moZ (up1 T 15 f) = moZ T := by
  funext b0 b1 b2 x0 x1
  simp only [moZ, u15_0, u15_1, u15_2, u15_3, u15_4, u15_5, u15_6, u15_7, u15_8, u15_9, u15_10, u15_11, u15_12, u15_13, u15_14, u15_16, u15_17, u15_18, u15_19, u15_20, u15_21, u15_22, u15_23, htB, k15_ctB, pwA, k15_pwB, rwA, k15_rwB] <;> first | with_reducible rfl | (congr; done) | (congr 1; done) | rfl
theorem k15_bwc : bwc (up1 T 15 f) = bwc T := by
  funext b0 b1 b2 b3 b4 b5
  simp only [bwc, u15_0, u15_1, u15_2, u15_3, u15_4, u15_5, u15_6, u15_7, u15_8, u15_9, u15_10, u15_11, u15_12, u15_13, u15_14, u15_16, u15_17, u15_18, u15_19, u15_20, u15_21, u15_22, u15_23, k15_wdZ, k15_nwZ, k15_dpZ, k15_tkP] <;> first | with_reducible rfl | (congr; done) | (congr 1; done) | rfl
theorem k15_clc : clc (up1 T 15 f) = clc T := by
  funext b0 b1 b2 b3 b4 b5
  simp only [clc, u15_0, u15_1, u15_2, u15_3, u15_4, u15_5, u15_6, u15_7, u15_8, u15_9, u15_10, u15_11, u15_12, u15_13, u15_14, u15_16, u15_17, u15_18, u15_19, u15_20, u15_21, u15_22, u15_23, k15_wdZ, k15_nwZ, k15_dpZ, k15_tkP] <;> first | with_reducible rfl | (congr; done) | (congr 1; done) | rfl
theorem k15_lnC : lnC (up1 T 15 f) = lnC T := by
  funext b0 b1 b2
  funext q
  induction q with
  | zero => first | rfl | (simp only [lnC, u15_0, u15_1, u15_2, u15_3, u15_4, u15_5, u15_6, u15_7, u15_8, u15_9, u15_10, u15_11, u15_12, u15_13, u15_14, u15_16, u15_17, u15_18, u15_19, u15_20, u15_21, u15_22, u15_23, k15_dpZ, k15_bwc, k15_clc])
  | succ q ih => simp only [lnC, ih, u15_0, u15_1, u15_2, u15_3, u15_4, u15_5, u15_6, u15_7, u15_8, u15_9, u15_10, u15_11, u15_12, u15_13, u15_14, u15_16, u15_17, u15_18, u15_19, u15_20, u15_21, u15_22, u15_23, k15_dpZ, k15_bwc, k15_clc] <;> first | with_reducible rfl | (congr; done) | (congr 1; done) | rfl
theorem k15_lcF : lcF (up1 T 15 f) = lcF T := by
  funext b0 b1 b2
  funext q
  induction q with
  | zero => first | rfl | (funext x1; simp only [lcF, u15_0, u15_1, u15_2, u15_3, u15_4, u15_5, u15_6, u15_7, u15_8, u15_9, u15_10, u15_11, u15_12, u15_13, u15_14, u15_16, u15_17, u15_18, u15_19, u15_20, u15_21, u15_22, u15_23, k15_tkP, k15_lnC])
  | succ q ih => funext x1; simp only [lcF, ih, u15_0, u15_1, u15_2, u15_3, u15_4, u15_5, u15_6, u15_7, u15_8, u15_9, u15_10, u15_11, u15_12, u15_13, u15_14, u15_16, u15_17, u15_18, u15_19, u15_20, u15_21, u15_22, u15_23, k15_tkP, k15_lnC] <;> first | with_reducible rfl | (congr; done) | (congr 1; done) | rfl
theorem k15_LCz : LCz (up1 T 15 f) = LCz T := by
  funext b0 b1 b2
  simp only [LCz, u15_0, u15_1, u15_2, u15_3, u15_4, u15_5, u15_6, u15_7, u15_8, u15_9, u15_10, u15_11, u15_12, u15_13, u15_14, u15_16, u15_17, u15_18, u15_19, u15_20, u15_21, u15_22, u15_23, k15_lcF] <;> first | with_reducible rfl | (congr; done) | (congr 1; done) | rfl
theorem k15_wlS : wlS (up1 T 15 f) = wlS T := by
  funext b0 b1 b2 b3
  funext q
  induction q with
  | zero => first | rfl | (funext x1; simp only [wlS, u15_0, u15_1, u15_2, u15_3, u15_4, u15_5, u15_6, u15_7, u15_8, u15_9, u15_10, u15_11, u15_12, u15_13, u15_14, u15_16, u15_17, u15_18, u15_19, u15_20, u15_21, u15_22, u15_23, k15_tkP, k15_lnC])
  | succ q ih => funext x1; simp only [wlS, ih, u15_0, u15_1, u15_2, u15_3, u15_4, u15_5, u15_6, u15_7, u15_8, u15_9, u15_10, u15_11, u15_12, u15_13, u15_14, u15_16, u15_17, u15_18, u15_19, u15_20, u15_21, u15_22, u15_23, k15_tkP, k15_lnC] <;> first | with_reducible rfl | (congr; done) | (congr 1; done) | rfl
theorem k15_LDz : LDz (up1 T 15 f) = LDz T := by
  funext b0 b1 b2
  simp only [LDz, u15_0, u15_1, u15_2, u15_3, u15_4, u15_5, u15_6, u15_7, u15_8, u15_9, u15_10, u15_11, u15_12, u15_13, u15_14, u15_16, u15_17, u15_18, u15_19, u15_20, u15_21, u15_22, u15_23, k15_tkP, k15_bwc] <;> first | with_reducible rfl | (congr; done) | (congr 1; done) | rfl
theorem k15_LEz : LEz (up1 T 15 f) = LEz T := by
  funext b0 b1 b2 b3
  simp only [LEz, u15_0, u15_1, u15_2, u15_3, u15_4, u15_5, u15_6, u15_7, u15_8, u15_9, u15_10, u15_11, u15_12, u15_13, u15_14, u15_16, u15_17, u15_18, u15_19, u15_20, u15_21, u15_22, u15_23, k15_tkP, k15_lnC] <;> first | with_reducible rfl | (congr; done) | (congr 1; done) | rfl
theorem k15_LKz : LKz (up1 T 15 f) = LKz T := by
  funext b0 b1 b2 b3
  simp only [LKz, u15_0, u15_1, u15_2, u15_3, u15_4, u15_5, u15_6, u15_7, u15_8, u15_9, u15_10, u15_11, u15_12, u15_13, u15_14, u15_16, u15_17, u15_18, u15_19, u15_20, u15_21, u15_22, u15_23, k15_lnC] <;> first | with_reducible rfl | (congr; done) | (congr 1; done) | rfl
theorem k15_WLz : WLz (up1 T 15 f) = WLz T := by
  funext b0 b1 b2
  simp only [WLz, u15_0, u15_1, u15_2, u15_3, u15_4, u15_5, u15_6, u15_7, u15_8, u15_9, u15_10, u15_11, u15_12, u15_13, u15_14, u15_16, u15_17, u15_18, u15_19, u15_20, u15_21, u15_22, u15_23, k15_LCz, k15_wlS] <;> first | with_reducible rfl | (congr; done) | (congr 1; done) | rfl
theorem k15_LyA : LyA (up1 T 15 f) = LyA T := by
  funext b0 b1 b2 b3 b4 b5 b6 b7
  simp only [LyA, u15_0, u15_1, u15_2, u15_3, u15_4, u15_5, u15_6, u15_7, u15_8, u15_9, u15_10, u15_11, u15_12, u15_13, u15_14, u15_16, u15_17, u15_18, u15_19, u15_20, u15_21, u15_22, u15_23, thB, thW, k15_LCz, k15_LDz, k15_LEz, k15_LKz, k15_WLz] <;> first | with_reducible rfl | (congr; done) | (congr 1; done) | rfl
theorem k15_rd1 : rd1 (up1 T 15 f) = rd1 T := by
  funext b0 b1 b2 b3 b4 b5
  simp only [rd1, u15_0, u15_1, u15_2, u15_3, u15_4, u15_5, u15_6, u15_7, u15_8, u15_9, u15_10, u15_11, u15_12, u15_13, u15_14, u15_16, u15_17, u15_18, u15_19, u15_20, u15_21, u15_22, u15_23, k15_mkZ, moC, k15_moZ, k15_LCz, k15_WLz] <;> first | with_reducible rfl | (congr; done) | (congr 1; done) | rfl
theorem k15_rdS : rdS (up1 T 15 f) = rdS T := by
  funext b0
  funext q
  induction q with
  | zero => first | rfl | (simp only [rdS, u15_0, u15_1, u15_2, u15_3, u15_4, u15_5, u15_6, u15_7, u15_8, u15_9, u15_10, u15_11, u15_12, u15_13, u15_14, u15_16, u15_17, u15_18, u15_19, u15_20, u15_21, u15_22, u15_23, k15_rd1])
  | succ q ih => simp only [rdS, ih, u15_0, u15_1, u15_2, u15_3, u15_4, u15_5, u15_6, u15_7, u15_8, u15_9, u15_10, u15_11, u15_12, u15_13, u15_14, u15_16, u15_17, u15_18, u15_19, u15_20, u15_21, u15_22, u15_23, k15_rd1] <;> first | with_reducible rfl | (congr; done) | (congr 1; done) | rfl
theorem k15_dgN : dgN (up1 T 15 f) = dgN T := by
  funext b0
  simp only [dgN, u15_0, u15_1, u15_2, u15_3, u15_4, u15_5, u15_6, u15_7, u15_8, u15_9, u15_10, u15_11, u15_12, u15_13, u15_14, u15_16, u15_17, u15_18, u15_19, u15_20, u15_21, u15_22, u15_23, k15_rdS] <;> first | with_reducible rfl | (congr; done) | (congr 1; done) | rfl
theorem k15_rnN : rnN (up1 T 15 f) = rnN T := by
  funext b0
  simp only [rnN, u15_0, u15_1, u15_2, u15_3, u15_4, u15_5, u15_6, u15_7, u15_8, u15_9, u15_10, u15_11, u15_12, u15_13, u15_14, u15_16, u15_17, u15_18, u15_19, u15_20, u15_21, u15_22, u15_23, k15_rdS] <;> first | with_reducible rfl | (congr; done) | (congr 1; done) | rfl
theorem k15_stN : stN (up1 T 15 f) = stN T := by
  funext b0
  simp only [stN, u15_0, u15_1, u15_2, u15_3, u15_4, u15_5, u15_6, u15_7, u15_8, u15_9, u15_10, u15_11, u15_12, u15_13, u15_14, u15_16, u15_17, u15_18, u15_19, u15_20, u15_21, u15_22, u15_23, k15_rdS] <;> first | with_reducible rfl | (congr; done) | (congr 1; done) | rfl
theorem k15_LR : LR (up1 T 15 f) = LR T := by
  funext b0 b1 b2
  simp only [LR, u15_0, u15_1, u15_2, u15_3, u15_4, u15_5, u15_6, u15_7, u15_8, u15_9, u15_10, u15_11, u15_12, u15_13, u15_14, u15_16, u15_17, u15_18, u15_19, u15_20, u15_21, u15_22, u15_23, k15_mkZ, moC, k15_moZ, k15_LCz, k15_WLz, k15_LyA] <;> first | with_reducible rfl | (congr; done) | (congr 1; done) | rfl
theorem k15_LD : LD (up1 T 15 f) = LD T := by
  funext b0 b1
  simp only [LD, u15_0, u15_1, u15_2, u15_3, u15_4, u15_5, u15_6, u15_7, u15_8, u15_9, u15_10, u15_11, u15_12, u15_13, u15_14, u15_16, u15_17, u15_18, u15_19, u15_20, u15_21, u15_22, u15_23, k15_dgN, k15_rnN, k15_stN, k15_LR] <;> first | with_reducible rfl | (congr; done) | (congr 1; done) | rfl
theorem k15_LSq : LSq (up1 T 15 f) = LSq T := by
  funext b0 b1
  simp only [LSq, u15_0, u15_1, u15_2, u15_3, u15_4, u15_5, u15_6, u15_7, u15_8, u15_9, u15_10, u15_11, u15_12, u15_13, u15_14, u15_16, u15_17, u15_18, u15_19, u15_20, u15_21, u15_22, u15_23, k15_LD] <;> first | with_reducible rfl | (congr; done) | (congr 1; done) | rfl
end KEY

end
