section
/-- places: how many; word, gap, width, words up to each -/
abbrev P5 : Type := Int × (Int → Int) × (Int → Int) × (Int → Int) × (Int → Int)
def P0 : P5 := (0, fun _ => 0, fun _ => 0, fun _ => 0, fun _ => 0)
def adP (s : P5) (at_ gp up ah : Int) : P5 := (s.1 + 1, uz s.2.1 (s.1 + 1) at_, uz s.2.2.1 (s.1 + 1) gp, uz s.2.2.2.1 (s.1 + 1) up, uz s.2.2.2.2 (s.1 + 1) ah)
/-- the letters of a word -/
def ltP (T : Nat → Int → Int → Int → Int) (i j : Int) (s : P5) (u0 w0 : Int) : Nat → P5 × Int
  | 0 => (s, u0)
  | q + 1 => (if bAnd (bShr (T 8 i j 0) (q : Int)) 1 = 1 then adP (ltP T i j s u0 w0 q).1 j (q : Int) (ltP T i j s u0 w0 q).2 w0 else (ltP T i j s u0 w0 q).1, (ltP T i j s u0 w0 q).2 + LWz (T 5 i j (q : Int)))
def woP (T : Nat → Int → Int → Int → Int) (i j dg : Int) (s : P5) : P5 :=
  adP (ltP T i j s (s.2.2.2.1 s.1) (s.2.2.2.2 s.1) (T 4 i j 0).toNat).1 j 0 (if T 6 i j 0 = -1 then (ltP T i j s (s.2.2.2.1 s.1) (s.2.2.2.2 s.1) (T 4 i j 0).toNat).2 else (ltP T i j s (s.2.2.2.1 s.1) (s.2.2.2.2 s.1) (T 4 i j 0).toNat).2 + 3 * bAnd (bShr dg (2 * T 6 i j 0)) 3) (s.2.2.2.2 s.1 + 1)
def plP (T : Nat → Int → Int → Int → Int) (i v dg : Int) : Nat → P5
  | 0 => P0
  | a + 1 => if thW T i (a : Int) v then woP T i (a : Int) dg (plP T i v dg a) else plP T i v dg a
def tkP (T : Nat → Int → Int → Int → Int) (i v dg : Int) : P5 := if (T 1 i 0 0 = 0 ∨ T 1 i 0 0 = 2) ∧ thB T i v then plP T i v dg (T 3 i 0 0).toNat else P0
/-- arrays that hold these places -/
def AgP (n : Int) (fa fg fw fo : Int → Int) (s : P5) : Prop := n = s.1 ∧ ∀ j : Int, 0 ≤ j → j ≤ n → fa j = s.2.1 j ∧ fg j = s.2.2.1 j ∧ fw j = s.2.2.2.1 j ∧ fo j = s.2.2.2.2 j
theorem AgP_ad {n at_ gp up ah : Int} {fa fg fw fo : Int → Int} {s : P5} (h : AgP n fa fg fw fo s) (_ : 0 ≤ n) : AgP (n + 1) (uz fa (n + 1) at_) (uz fg (n + 1) gp) (uz fw (n + 1) up) (uz fo (n + 1) ah) (adP s at_ gp up ah) := by
  obtain ⟨h1, h2⟩ := h
  subst h1
  refine ⟨rfl, fun j g1 g2 => ?_⟩
  by_cases e : j = s.1 + 1
  · subst e
    simp only [adP, uz_s, and_self]
  · have q := h2 j g1 (by omega)
    simp only [adP]
    rw [uz_n e, uz_n e, uz_n e, uz_n e, uz_n e, uz_n e, uz_n e, uz_n e]
    exact q
theorem ltP_s {T : Nat → Int → Int → Int → Int} {i j u0 w0 q : Int} {s : P5} (hq : 0 ≤ q) : ltP T i j s u0 w0 (q + 1).toNat = (if bAnd (bShr (T 8 i j 0) q) 1 = 1 then adP (ltP T i j s u0 w0 q.toNat).1 j q (ltP T i j s u0 w0 q.toNat).2 w0 else (ltP T i j s u0 w0 q.toNat).1, (ltP T i j s u0 w0 q.toNat).2 + LWz (T 5 i j q)) := by
  rw [show (q + 1).toNat = q.toNat + 1 by omega]
  simp only [ltP]
  rw [show ((q.toNat : Nat) : Int) = q by omega]
theorem plP_s {T : Nat → Int → Int → Int → Int} {i v dg a : Int} (ha : 0 ≤ a) : plP T i v dg (a + 1).toNat = if thW T i a v then woP T i a dg (plP T i v dg a.toNat) else plP T i v dg a.toNat := by
  rw [show (a + 1).toNat = a.toNat + 1 by omega]
  simp only [plP]
  rw [show ((a.toNat : Nat) : Int) = a by omega]

theorem mw_822 : (Jvm.Cond.fieldLink "Galleyforge$Lines" (94 : Nat) "Galleyforge$Word" "letters" "[I") ∈ gt := gt_at 892 (by decide +kernel) (by decide +kernel)
theorem mw_825 : (Jvm.Cond.fieldLink "Galleyforge$Lines" (107 : Nat) "Galleyforge$Word" "label" "I") ∈ gt := gt_at 895 (by decide +kernel) (by decide +kernel)
theorem mw_830 : (Jvm.Cond.fieldLink "Galleyforge$Lines" (97 : Nat) "Galleyforge$Word" "gapSet" "I") ∈ gt := gt_at 900 (by decide +kernel) (by decide +kernel)
theorem mw_1404 : (Jvm.Cond.methodLink "Galleyforge$Lines" (100 : Nat) ({ cls := "Galleyforge$Lines", name := "addPlace", desc := "(IIII)V" } : Jvm.MethodName)) ∈ gt := gt_at 1474 (by decide +kernel) (by decide +kernel)
theorem mw_1406 : (Jvm.Cond.instanceMethod ({ cls := "Galleyforge$Lines", name := "addPlace", desc := "(IIII)V" } : Jvm.MethodName)) ∈ gt := gt_at 1476 (by decide +kernel) (by decide +kernel)
theorem mw_1407 : (Jvm.Cond.code ({ cls := "Galleyforge$Lines", name := "addPlace", desc := "(IIII)V" } : Jvm.MethodName) prog_4_method_5_code (5 : Nat) (Option.none : Option Jvm.ClassFile.FieldType)) ∈ gt := gt_at 1477 (by decide +kernel) (by decide +kernel)
theorem ms_22 : Cond.selects "Galleyforge$Lines" (⟨"Galleyforge$Lines", "addPlace", "(IIII)V"⟩ : MethodName) (⟨"Galleyforge$Lines", "addPlace", "(IIII)V"⟩ : MethodName) ∈ gt := gt_at 22 (by decide +kernel) (by decide +kernel)
theorem mV_X2_addPlace : mV yX2_addPlace cX2_addPlace 5 none 4 := ⟨⟨mw_1407, mw_6, by decide, by decide, by decide +kernel⟩, mw_1406, ms_22⟩
theorem dX2_addWord_0 : decode cX2_addWord 0 = .ok (.aload_n 0, 1) := by decide +kernel
theorem dX2_addWord_1 : decode cX2_addWord 1 = .ok (.getfield 18, 3) := by decide +kernel
theorem dX2_addWord_4 : decode cX2_addWord 4 = .ok (.aload_n 0, 1) := by decide +kernel
theorem dX2_addWord_5 : decode cX2_addWord 5 = .ok (.getfield 34, 3) := by decide +kernel
theorem dX2_addWord_8 : decode cX2_addWord 8 = .ok (.iaload, 1) := by decide +kernel
theorem dX2_addWord_9 : decode cX2_addWord 9 = .ok (.istore 4, 2) := by decide +kernel
theorem dX2_addWord_11 : decode cX2_addWord 11 = .ok (.aload_n 0, 1) := by decide +kernel
theorem dX2_addWord_12 : decode cX2_addWord 12 = .ok (.getfield 21, 3) := by decide +kernel
theorem dX2_addWord_15 : decode cX2_addWord 15 = .ok (.aload_n 0, 1) := by decide +kernel
theorem dX2_addWord_16 : decode cX2_addWord 16 = .ok (.getfield 34, 3) := by decide +kernel
theorem dX2_addWord_19 : decode cX2_addWord 19 = .ok (.iaload, 1) := by decide +kernel
theorem dX2_addWord_20 : decode cX2_addWord 20 = .ok (.istore 5, 2) := by decide +kernel
theorem dX2_addWord_22 : decode cX2_addWord 22 = .ok (.iconst 0, 1) := by decide +kernel
theorem dX2_addWord_23 : decode cX2_addWord 23 = .ok (.istore 6, 2) := by decide +kernel
theorem dX2_addWord_25 : decode cX2_addWord 25 = .ok (.iload 6, 2) := by decide +kernel
theorem dX2_addWord_27 : decode cX2_addWord 27 = .ok (.aload_n 1, 1) := by decide +kernel
theorem dX2_addWord_28 : decode cX2_addWord 28 = .ok (.getfield 94, 3) := by decide +kernel
theorem dX2_addWord_31 : decode cX2_addWord 31 = .ok (.arraylength, 1) := by decide +kernel
theorem dX2_addWord_32 : decode cX2_addWord 32 = .ok (.if_icmp .ge 49, 3) := by decide +kernel
theorem dX2_addWord_35 : decode cX2_addWord 35 = .ok (.aload_n 1, 1) := by decide +kernel
theorem dX2_addWord_36 : decode cX2_addWord 36 = .ok (.getfield 97, 3) := by decide +kernel
theorem dX2_addWord_39 : decode cX2_addWord 39 = .ok (.iload 6, 2) := by decide +kernel
theorem dX2_addWord_41 : decode cX2_addWord 41 = .ok (.ishr, 1) := by decide +kernel
theorem dX2_addWord_42 : decode cX2_addWord 42 = .ok (.iconst 1, 1) := by decide +kernel
theorem dX2_addWord_43 : decode cX2_addWord 43 = .ok (.iand, 1) := by decide +kernel
theorem dX2_addWord_44 : decode cX2_addWord 44 = .ok (.iconst 1, 1) := by decide +kernel
theorem dX2_addWord_45 : decode cX2_addWord 45 = .ok (.if_icmp .ne 14, 3) := by decide +kernel
theorem dX2_addWord_48 : decode cX2_addWord 48 = .ok (.aload_n 0, 1) := by decide +kernel
theorem dX2_addWord_49 : decode cX2_addWord 49 = .ok (.iload_n 2, 1) := by decide +kernel
theorem dX2_addWord_50 : decode cX2_addWord 50 = .ok (.iload 6, 2) := by decide +kernel
theorem dX2_addWord_52 : decode cX2_addWord 52 = .ok (.iload 4, 2) := by decide +kernel
theorem dX2_addWord_54 : decode cX2_addWord 54 = .ok (.iload 5, 2) := by decide +kernel
theorem dX2_addWord_56 : decode cX2_addWord 56 = .ok (.invokevirtual 100, 3) := by decide +kernel
theorem dX2_addWord_59 : decode cX2_addWord 59 = .ok (.iload 4, 2) := by decide +kernel
theorem dX2_addWord_61 : decode cX2_addWord 61 = .ok (.getstatic 104, 3) := by decide +kernel
theorem dX2_addWord_64 : decode cX2_addWord 64 = .ok (.aload_n 1, 1) := by decide +kernel
theorem dX2_addWord_65 : decode cX2_addWord 65 = .ok (.getfield 94, 3) := by decide +kernel
theorem dX2_addWord_68 : decode cX2_addWord 68 = .ok (.iload 6, 2) := by decide +kernel
theorem dX2_addWord_70 : decode cX2_addWord 70 = .ok (.iaload, 1) := by decide +kernel
theorem dX2_addWord_71 : decode cX2_addWord 71 = .ok (.iaload, 1) := by decide +kernel
theorem dX2_addWord_72 : decode cX2_addWord 72 = .ok (.iadd, 1) := by decide +kernel
theorem dX2_addWord_73 : decode cX2_addWord 73 = .ok (.istore 4, 2) := by decide +kernel
theorem dX2_addWord_75 : decode cX2_addWord 75 = .ok (.iinc 6 1, 3) := by decide +kernel
theorem dX2_addWord_78 : decode cX2_addWord 78 = .ok (.goto (-53), 3) := by decide +kernel
theorem dX2_addWord_81 : decode cX2_addWord 81 = .ok (.aload_n 1, 1) := by decide +kernel
theorem dX2_addWord_82 : decode cX2_addWord 82 = .ok (.getfield 107, 3) := by decide +kernel
theorem dX2_addWord_85 : decode cX2_addWord 85 = .ok (.iconst (-1), 1) := by decide +kernel
theorem dX2_addWord_86 : decode cX2_addWord 86 = .ok (.if_icmp .eq 20, 3) := by decide +kernel
theorem dX2_addWord_89 : decode cX2_addWord 89 = .ok (.iload 4, 2) := by decide +kernel
theorem dX2_addWord_91 : decode cX2_addWord 91 = .ok (.iconst 3, 1) := by decide +kernel
theorem dX2_addWord_92 : decode cX2_addWord 92 = .ok (.iload_n 3, 1) := by decide +kernel
theorem dX2_addWord_93 : decode cX2_addWord 93 = .ok (.iconst 2, 1) := by decide +kernel
theorem dX2_addWord_94 : decode cX2_addWord 94 = .ok (.aload_n 1, 1) := by decide +kernel
theorem dX2_addWord_95 : decode cX2_addWord 95 = .ok (.getfield 107, 3) := by decide +kernel
theorem dX2_addWord_98 : decode cX2_addWord 98 = .ok (.imul, 1) := by decide +kernel
theorem dX2_addWord_99 : decode cX2_addWord 99 = .ok (.ishr, 1) := by decide +kernel
theorem dX2_addWord_100 : decode cX2_addWord 100 = .ok (.iconst 3, 1) := by decide +kernel
theorem dX2_addWord_101 : decode cX2_addWord 101 = .ok (.iand, 1) := by decide +kernel
theorem dX2_addWord_102 : decode cX2_addWord 102 = .ok (.imul, 1) := by decide +kernel
theorem dX2_addWord_103 : decode cX2_addWord 103 = .ok (.iadd, 1) := by decide +kernel
theorem dX2_addWord_104 : decode cX2_addWord 104 = .ok (.istore 4, 2) := by decide +kernel
theorem dX2_addWord_106 : decode cX2_addWord 106 = .ok (.aload_n 0, 1) := by decide +kernel
theorem dX2_addWord_107 : decode cX2_addWord 107 = .ok (.iload_n 2, 1) := by decide +kernel
theorem dX2_addWord_108 : decode cX2_addWord 108 = .ok (.iconst 0, 1) := by decide +kernel
theorem dX2_addWord_109 : decode cX2_addWord 109 = .ok (.iload 4, 2) := by decide +kernel
theorem dX2_addWord_111 : decode cX2_addWord 111 = .ok (.iload 5, 2) := by decide +kernel
theorem dX2_addWord_113 : decode cX2_addWord 113 = .ok (.iconst 1, 1) := by decide +kernel
theorem dX2_addWord_114 : decode cX2_addWord 114 = .ok (.iadd, 1) := by decide +kernel
theorem dX2_addWord_115 : decode cX2_addWord 115 = .ok (.invokevirtual 100, 3) := by decide +kernel
theorem dX2_addWord_118 : decode cX2_addWord 118 = .ok (.return_, 1) := by decide +kernel
set_option maxHeartbeats 4000000 in
set_option maxRecDepth 100000 in
theorem k_addWord (l : Launch) (dC : Nat → ClassId) (dI : Nat → Nat → Nat) (k : Nat → ClassId) (ln : Nat) (wa : Nat) (ga : Nat) (wt : Nat) (wo : Nat) (bD : Nat) (bL : Nat) (bE : Nat) (n : Int) (wd : Int) (nw : Int) (dp : Int) (sd : Int) (cl : Int) (T : Nat → Int → Int → Int → Int) (A : Nat → Int → Int → Nat) (X : Nat → Int → Int → Int) (tl : va_W) (fa : Int → Int) (fg : Int → Int) (fw : Int → Int) (fo : Int → Int) (sP : P5) (i : Int) (j : Int) (dg : Int) (hT : TI dI k T A X tl) (hK : TK T) (hi : 0 ≤ i ∧ i < T 0 0 0 0) (hj : 0 ≤ j ∧ j < T 3 i 0 0) (ha : Bd 0 11 fa) (hg : Bd 0 5 fg) (hw : Bd 0 2000 fw) (ho : Bd 0 12 fo) (hAg : AgP n fa fg fw fo sP) (h1 : 0 ≤ n ∧ n ≤ 44 ∧ 0 ≤ fw n ∧ fw n ≤ 396 ∧ 0 ≤ fo n ∧ fo n ≤ 11 ∧ j ≤ 11) (h2 : 0 ≤ dg ∧ dg < 4096) : Kn l dC dI k yX2_addWord (.code yX2_addWord cX2_addWord 7 none) ({ frames := 1, cells := 0, slots := 0, locals := 24 } : Room) [.ref ln, .ref (A 4 i j), .int (iI j), .int (iI dg)] ([(ln, .inr (2, [.int (iI n), .ref wa, .ref ga, .ref wt, .ref wo, .int (iI wd), .int (iI nw), .int (iI dp), .int (iI sd), .int (iI cl), .ref bD, .ref bL, .ref bE])), (wa, .inl (k 0, 49, .inl (fun i9 : Nat => iI (fa i9)))), (ga, .inl (k 0, 49, .inl (fun i9 : Nat => iI (fg i9)))), (wt, .inl (k 0, 49, .inl (fun i9 : Nat => iI (fw i9)))), (wo, .inl (k 0, 49, .inl (fun i9 : Nat => iI (fo i9))))] ++ tl) (fun r w gc gs => (∃ (nn : Int) (va : Int → Int) (vg : Int → Int) (vw : Int → Int) (vo : Int → Int), (AgP nn va vg vw vo (woP T i j dg sP)) ∧ (n < nn ∧ nn ≤ n + 4 ∧ 0 ≤ vw nn ∧ vw nn ≤ fw n + 36 ∧ vo nn = fo n + 1) ∧ (Bd 0 11 va) ∧ (Bd 0 5 vg) ∧ (Bd 0 2000 vw) ∧ (Bd 0 12 vo) ∧ r = none ∧ w = ([(ln, .inr (2, [.int (iI nn), .ref wa, .ref ga, .ref wt, .ref wo, .int (iI wd), .int (iI nw), .int (iI dp), .int (iI sd), .int (iI cl), .ref bD, .ref bL, .ref bE])), (wa, .inl (k 0, 49, .inl (fun i9 : Nat => iI (va i9)))), (ga, .inl (k 0, 49, .inl (fun i9 : Nat => iI (vg i9)))), (wt, .inl (k 0, 49, .inl (fun i9 : Nat => iI (vw i9)))), (wo, .inl (k 0, 49, .inl (fun i9 : Nat => iI (vo i9))))] ++ tl) ∧ gc = 0 ∧ gs = 0)) := by
  refine kn_of (by decide) (Nat.le_of_ble_eq_true rfl) ?_
  intro p e s m args below meth c H locs B hr hnm ls hl
  have hx := B.1.1
  have hb := B.1.2.1
  have hl : lv_has ls 7 [(0, .ref ln), (1, .ref (A 4 i j)), (2, .int (iI j)), (3, .int (iI dg))] := hl
  have e1 : fw n = (sP.2.2.2.1 sP.1) := by have q9 := hAg.2 n (by omega) (by omega); rw [q9.2.2.1, hAg.1]
  have e2 : fo n = (sP.2.2.2.2 sP.1) := by have q9 := hAg.2 n (by omega) (by omega); rw [q9.2.2.2, hAg.1]
  have hlen := TK_len hK i j
  have hwl := TK_wl hK i j
  refine lv_aload_n hx hb dX2_addWord_0 rfl (lv_at hl 0 rfl) ?_
  refine x_get (ci := 2) (C := RX2) (T := TX2) (N := 13) (v := .ref wt) B 0 rfl rfl in_X2 3 (by decide) mw_132 (fun _ h9 => h9) rfl dX2_addWord_1 ?_
  refine lv_aload_n hx hb dX2_addWord_4 rfl (lv_at hl 0 rfl) ?_
  refine x_get (ci := 2) (C := RX2) (T := TX2) (N := 13) (v := .int (iI n)) B 0 rfl rfl in_X2 0 (by decide) mw_126 (fun _ h9 => h9) rfl dX2_addWord_5 ?_
  refine x_iald' (f := fw) (z := n) B 3 rfl (by omega) dX2_addWord_8 ?_
  have z_1 : 0 ≤ (fw n) ∧ (fw n) ≤ 2000 := hw n
  refine lv_istore (lv' := [(4, .int (iI (fw n))), (0, .ref ln), (1, .ref (A 4 i j)), (2, .int (iI j)), (3, .int (iI dg))]) hx hb dX2_addWord_9 hl (by decide) rfl (fun ls hl => ?_)
  refine lv_aload_n hx hb dX2_addWord_11 rfl (lv_at hl 1 rfl) ?_
  refine x_get (ci := 2) (C := RX2) (T := TX2) (N := 13) (v := .ref wo) B 0 rfl rfl in_X2 4 (by decide) mw_133 (fun _ h9 => h9) rfl dX2_addWord_12 ?_
  refine lv_aload_n hx hb dX2_addWord_15 rfl (lv_at hl 1 rfl) ?_
  refine x_get (ci := 2) (C := RX2) (T := TX2) (N := 13) (v := .int (iI n)) B 0 rfl rfl in_X2 0 (by decide) mw_126 (fun _ h9 => h9) rfl dX2_addWord_16 ?_
  refine x_iald' (f := fo) (z := n) B 4 rfl (by omega) dX2_addWord_19 ?_
  have z_2 : 0 ≤ (fo n) ∧ (fo n) ≤ 12 := ho n
  refine lv_istore (lv' := [(5, .int (iI (fo n))), (4, .int (iI (fw n))), (0, .ref ln), (1, .ref (A 4 i j)), (2, .int (iI j)), (3, .int (iI dg))]) hx hb dX2_addWord_20 hl (by decide) rfl (fun ls hl => ?_)
  refine lv_iconst (v := iI 0) hx hb dX2_addWord_22 (by decide) ?_
  refine lv_istore (lv' := [(6, .int (iI 0)), (5, .int (iI (fo n))), (4, .int (iI (fw n))), (0, .ref ln), (1, .ref (A 4 i j)), (2, .int (iI j)), (3, .int (iI dg))]) hx hb dX2_addWord_23 hl (by decide) rfl (fun ls hl => ?_)
  refine k_loop (σ := Int × Int × Int × (Int → Int) × (Int → Int) × (Int → Int) × (Int → Int)) B (fun g9 : Int × Int × Int × (Int → Int) × (Int → Int) × (Int → Int) × (Int → Int) => (0 ≤ g9.1 ∧ g9.1 ≤ T 4 i j 0 ∧ n ≤ g9.2.2.1 ∧ g9.2.2.1 ≤ n + 3 ∧ g9.2.2.1 ≤ n + max 0 (g9.1 - 2) ∧ fw n ≤ g9.2.1 ∧ g9.2.1 ≤ fw n + 6 * g9.1) ∧ (g9.2.1 = (ltP T i j sP (sP.2.2.2.1 sP.1) (sP.2.2.2.2 sP.1) (Int.toNat g9.1)).2) ∧ (AgP g9.2.2.1 g9.2.2.2.1 g9.2.2.2.2.1 g9.2.2.2.2.2.1 g9.2.2.2.2.2.2 (ltP T i j sP (sP.2.2.2.1 sP.1) (sP.2.2.2.2 sP.1) (Int.toNat g9.1)).1) ∧ (Bd 0 11 g9.2.2.2.1) ∧ (Bd 0 5 g9.2.2.2.2.1) ∧ (Bd 0 2000 g9.2.2.2.2.2.1) ∧ (Bd 0 12 g9.2.2.2.2.2.2)) (fun g9 : Int × Int × Int × (Int → Int) × (Int → Int) × (Int → Int) × (Int → Int) => (7 - g9.1).toNat) (fun g9 : Int × Int × Int × (Int → Int) × (Int → Int) × (Int → Int) × (Int → Int) => [(6, .int (iI g9.1)), (5, .int (iI (fo n))), (4, .int (iI g9.2.1)), (0, .ref ln), (1, .ref (A 4 i j)), (2, .int (iI j)), (3, .int (iI dg))]) (fun g9 : Int × Int × Int × (Int → Int) × (Int → Int) × (Int → Int) × (Int → Int) => ([(ln, .inr (2, [.int (iI g9.2.2.1), .ref wa, .ref ga, .ref wt, .ref wo, .int (iI wd), .int (iI nw), .int (iI dp), .int (iI sd), .int (iI cl), .ref bD, .ref bL, .ref bE])), (wa, .inl (k 0, 49, .inl (fun i9 : Nat => iI (g9.2.2.2.1 i9)))), (ga, .inl (k 0, 49, .inl (fun i9 : Nat => iI (g9.2.2.2.2.1 i9)))), (wt, .inl (k 0, 49, .inl (fun i9 : Nat => iI (g9.2.2.2.2.2.1 i9)))), (wo, .inl (k 0, 49, .inl (fun i9 : Nat => iI (g9.2.2.2.2.2.2 i9))))] ++ tl)) ?_ (0, (fw n), n, fa, fg, fw, fo) ⟨(show 0 ≤ 0 ∧ 0 ≤ T 4 i j 0 ∧ n ≤ n ∧ n ≤ n + 3 ∧ n ≤ n + max 0 (0 - 2) ∧ fw n ≤ (fw n) ∧ (fw n) ≤ fw n + 6 * 0 from (by omega)), (show (fw n) = (ltP T i j sP (sP.2.2.2.1 sP.1) (sP.2.2.2.2 sP.1) (Int.toNat 0)).2 from e1), (show AgP n fa fg fw fo (ltP T i j sP (sP.2.2.2.1 sP.1) (sP.2.2.2.2 sP.1) (Int.toNat 0)).1 from hAg), (show Bd 0 11 fa from ha), (show Bd 0 5 fg from hg), (show Bd 0 2000 fw from hw), (show Bd 0 12 fo from ho)⟩ ls H locs (lv_sub hl [0, 1, 2, 3, 4, 5, 6] rfl) (bd_to rfl B)
  clear hl B
  rintro ⟨q, up, nn, va, vg, vw, vo⟩ ⟨hq, hup, hAq, bA, bG, bW, bO⟩ ih_3 ls H locs hl B
  have hq : 0 ≤ q ∧ q ≤ T 4 i j 0 ∧ n ≤ nn ∧ nn ≤ n + 3 ∧ nn ≤ n + max 0 (q - 2) ∧ fw n ≤ up ∧ up ≤ fw n + 6 * q := hq
  have hup : up = (ltP T i j sP (sP.2.2.2.1 sP.1) (sP.2.2.2.2 sP.1) (Int.toNat q)).2 := hup
  have hAq : AgP nn va vg vw vo (ltP T i j sP (sP.2.2.2.1 sP.1) (sP.2.2.2.2 sP.1) (Int.toNat q)).1 := hAq
  have bA : Bd 0 11 va := bA
  have bG : Bd 0 5 vg := bG
  have bW : Bd 0 2000 vw := bW
  have bO : Bd 0 12 vo := bO
  have hl : lv_has ls 7 [(6, .int (iI q)), (5, .int (iI (fo n))), (4, .int (iI up)), (0, .ref ln), (1, .ref (A 4 i j)), (2, .int (iI j)), (3, .int (iI dg))] := hl
  have B := bd_to (ws' := ([(ln, .inr (2, [.int (iI nn), .ref wa, .ref ga, .ref wt, .ref wo, .int (iI wd), .int (iI nw), .int (iI dp), .int (iI sd), .int (iI cl), .ref bD, .ref bL, .ref bE])), (wa, .inl (k 0, 49, .inl (fun i9 : Nat => iI (va i9)))), (ga, .inl (k 0, 49, .inl (fun i9 : Nat => iI (vg i9)))), (wt, .inl (k 0, 49, .inl (fun i9 : Nat => iI (vw i9)))), (wo, .inl (k 0, 49, .inl (fun i9 : Nat => iI (vo i9))))] ++ tl)) rfl B
  refine lv_iload hx hb dX2_addWord_25 (lv_at hl 0 rfl) ?_
  refine lv_aload_n hx hb dX2_addWord_27 rfl (lv_at hl 4 rfl) ?_
  obtain ⟨k_4, hk_4⟩ := pk_at (hs := [(ln, .inr (2, [.int (iI nn), .ref wa, .ref ga, .ref wt, .ref wo, .int (iI wd), .int (iI nw), .int (iI dp), .int (iI sd), .int (iI cl), .ref bD, .ref bL, .ref bE])), (wa, .inl (k 0, 49, .inl (fun i9 : Nat => iI (va i9)))), (ga, .inl (k 0, 49, .inl (fun i9 : Nat => iI (vg i9)))), (wt, .inl (k 0, 49, .inl (fun i9 : Nat => iI (vw i9)))), (wo, .inl (k 0, 49, .inl (fun i9 : Nat => iI (vo i9))))]) (hT.2.2.2.2.1 i j (by omega) (by omega) (by omega) (by omega)).1
  refine x_get (ci := 10) (C := RX10) (T := TX10) (N := 4) (v := .ref (A 5 i j)) B k_4 hk_4 rfl in_X10 0 (by decide) mw_822 (fun _ h9 => h9) rfl dX2_addWord_28 ?_
  obtain ⟨k_5, hk_5⟩ := pk_at (hs := [(ln, .inr (2, [.int (iI nn), .ref wa, .ref ga, .ref wt, .ref wo, .int (iI wd), .int (iI nw), .int (iI dp), .int (iI sd), .int (iI cl), .ref bD, .ref bL, .ref bE])), (wa, .inl (k 0, 49, .inl (fun i9 : Nat => iI (va i9)))), (ga, .inl (k 0, 49, .inl (fun i9 : Nat => iI (vg i9)))), (wt, .inl (k 0, 49, .inl (fun i9 : Nat => iI (vw i9)))), (wo, .inl (k 0, 49, .inl (fun i9 : Nat => iI (vo i9))))]) (hT.2.2.2.2.1 i j (by omega) (by omega) (by omega) (by omega)).2.1
  refine x_alen' B k_5 0 hk_5 rfl dX2_addWord_31 ?_
  refine lv_icmp_ge (tgt := 81) hx hb dX2_addWord_32 (by decide) (fun c_6 => ?_) (fun c_6 => ?_)
  · have zc_6 : ((Int.toNat (T 4 i j 0)) : Int) ≤ q := jle (a := ((Int.toNat (T 4 i j 0)) : Int)) (b := q) (by omega) (by omega) c_6
    refine lv_aload_n hx hb dX2_addWord_81 rfl (lv_at hl 4 rfl) ?_
    obtain ⟨k_7, hk_7⟩ := pk_at (hs := [(ln, .inr (2, [.int (iI nn), .ref wa, .ref ga, .ref wt, .ref wo, .int (iI wd), .int (iI nw), .int (iI dp), .int (iI sd), .int (iI cl), .ref bD, .ref bL, .ref bE])), (wa, .inl (k 0, 49, .inl (fun i9 : Nat => iI (va i9)))), (ga, .inl (k 0, 49, .inl (fun i9 : Nat => iI (vg i9)))), (wt, .inl (k 0, 49, .inl (fun i9 : Nat => iI (vw i9)))), (wo, .inl (k 0, 49, .inl (fun i9 : Nat => iI (vo i9))))]) (hT.2.2.2.2.1 i j (by omega) (by omega) (by omega) (by omega)).1
    refine x_get (ci := 10) (C := RX10) (T := TX10) (N := 4) (v := .int (iI (T 6 i j 0))) B k_7 hk_7 rfl in_X10 1 (by decide) mw_825 (fun _ h9 => h9) rfl dX2_addWord_82 ?_
    have z_8 : -1 ≤ T 6 i j 0 ∧ T 6 i j 0 ≤ 5 := TK_lab hK i j
    refine lv_iconst (v := iI (-1)) hx hb dX2_addWord_85 (by decide) ?_
    refine lv_icmp_eq (tgt := 106) hx hb dX2_addWord_86 (by decide) (fun c_9 => ?_) (fun c_9 => ?_)
    · have zc_9 : (T 6 i j 0) = (-1) := jeq (a := (T 6 i j 0)) (b := (-1)) (by omega) (by omega) c_9
      refine lv_aload_n hx hb dX2_addWord_106 rfl (lv_at hl 3 rfl) ?_
      refine lv_iload_n hx hb dX2_addWord_107 rfl (lv_at hl 5 rfl) ?_
      refine lv_iconst (v := iI 0) hx hb dX2_addWord_108 (by decide) ?_
      refine lv_iload hx hb dX2_addWord_109 (lv_at hl 2 rfl) ?_
      refine lv_iload hx hb dX2_addWord_111 (lv_at hl 1 rfl) ?_
      refine lv_iconst (v := iI 1) hx hb dX2_addWord_113 (by decide) ?_
      refine y_add hx hb dX2_addWord_114 ?_
      have B := bd_to (ws' := [(ln, .inr (2, [.int (iI nn), .ref wa, .ref ga, .ref wt, .ref wo, .int (iI wd), .int (iI nw), .int (iI dp), .int (iI sd), .int (iI cl), .ref bD, .ref bL, .ref bE])), (wa, .inl (k 0, 49, .inl (fun i9 : Nat => iI (va i9)))), (ga, .inl (k 0, 49, .inl (fun i9 : Nat => iI (vg i9)))), (wt, .inl (k 0, 49, .inl (fun i9 : Nat => iI (vw i9)))), (wo, .inl (k 0, 49, .inl (fun i9 : Nat => iI (vo i9))))] ++ ([] ++ tl)) rfl B
      refine k_V (rest := []) (wc := [(ln, .inr (2, [.int (iI nn), .ref wa, .ref ga, .ref wt, .ref wo, .int (iI wd), .int (iI nw), .int (iI dp), .int (iI sd), .int (iI cl), .ref bD, .ref bL, .ref bE])), (wa, .inl (k 0, 49, .inl (fun i9 : Nat => iI (va i9)))), (ga, .inl (k 0, 49, .inl (fun i9 : Nat => iI (vg i9)))), (wt, .inl (k 0, 49, .inl (fun i9 : Nat => iI (vw i9)))), (wo, .inl (k 0, 49, .inl (fun i9 : Nat => iI (vo i9))))]) (wr := ([] ++ tl)) (k_addPlace l dC dI k ln wa ga wt wo bD bL bE nn wd nw dp sd cl va vg vw vo j 0 up ((fo n) + 1) bA bG bW bO (by omega) (by omega)) B mV_X2_addPlace mw_1404 hl (q0 := 0) rfl rfl rfl ⟨Nat.le_of_ble_eq_true rfl, Nat.le_of_ble_eq_true rfl⟩ (Nat.le_of_ble_eq_true rfl) rfl dX2_addWord_115 ⟨Nat.le_of_ble_eq_true rfl, Nat.le_of_ble_eq_true rfl⟩ (fun r w gc gs H locs hp B => ?_)
      obtain ⟨z_10, z_11, z_12, z_13, z_14, rfl, hw9, rfl, rfl⟩ := hp
      rw [hw9] at B; clear hw9
      have B := bd_swap (a := []) (b := tl) (d := [(ln, .inr (2, [.int (iI (nn + 1)), .ref wa, .ref ga, .ref wt, .ref wo, .int (iI wd), .int (iI nw), .int (iI dp), .int (iI sd), .int (iI cl), .ref bD, .ref bL, .ref bE])), (wa, .inl (k 0, 49, .inl (fun i9 : Nat => iI ((uz va (nn + 1) j) i9)))), (ga, .inl (k 0, 49, .inl (fun i9 : Nat => iI ((uz vg (nn + 1) 0) i9)))), (wt, .inl (k 0, 49, .inl (fun i9 : Nat => iI ((uz vw (nn + 1) up) i9)))), (wo, .inl (k 0, 49, .inl (fun i9 : Nat => iI ((uz vo (nn + 1) ((fo n) + 1)) i9))))]) B
      have B := bd_to (ws' := ([(ln, .inr (2, [.int (iI (nn + 1)), .ref wa, .ref ga, .ref wt, .ref wo, .int (iI wd), .int (iI nw), .int (iI dp), .int (iI sd), .int (iI cl), .ref bD, .ref bL, .ref bE])), (wa, .inl (k 0, 49, .inl (fun i9 : Nat => iI ((uz va (nn + 1) j) i9)))), (ga, .inl (k 0, 49, .inl (fun i9 : Nat => iI ((uz vg (nn + 1) 0) i9)))), (wt, .inl (k 0, 49, .inl (fun i9 : Nat => iI ((uz vw (nn + 1) up) i9)))), (wo, .inl (k 0, 49, .inl (fun i9 : Nat => iI ((uz vo (nn + 1) ((fo n) + 1)) i9))))] ++ tl)) rfl B
      exact k_vret B hr (⟨(nn + 1), (uz va (nn + 1) j), (uz vg (nn + 1) 0), (uz vw (nn + 1) up), (uz vo (nn + 1) ((fo n) + 1)), (by unfold woP; rw [if_pos zc_9]; rw [show (Int.toNat (T 4 i j 0)) = (Int.toNat q) by omega, ← hup, e2]; exact AgP_ad hAq (by omega)), ⟨by omega, by omega, by rw [uz_s]; omega, by rw [uz_s]; omega, uz_s⟩, z_11, z_12, z_13, z_14, rfl, rfl, rfl, rfl⟩) ⟨Nat.le_of_ble_eq_true rfl, Nat.le_of_ble_eq_true rfl⟩ ⟨Nat.le_of_ble_eq_true rfl, Nat.le_of_ble_eq_true rfl⟩ dX2_addWord_118
    · have zc_9 : (T 6 i j 0) ≠ (-1) := jne (a := (T 6 i j 0)) (b := (-1)) (by omega) (by omega) c_9
      refine lv_iload hx hb dX2_addWord_89 (lv_at hl 2 rfl) ?_
      refine lv_iconst (v := iI 3) hx hb dX2_addWord_91 (by decide) ?_
      refine lv_iload_n hx hb dX2_addWord_92 rfl (lv_at hl 6 rfl) ?_
      refine lv_iconst (v := iI 2) hx hb dX2_addWord_93 (by decide) ?_
      refine lv_aload_n hx hb dX2_addWord_94 rfl (lv_at hl 4 rfl) ?_
      obtain ⟨k_15, hk_15⟩ := pk_at (hs := [(ln, .inr (2, [.int (iI nn), .ref wa, .ref ga, .ref wt, .ref wo, .int (iI wd), .int (iI nw), .int (iI dp), .int (iI sd), .int (iI cl), .ref bD, .ref bL, .ref bE])), (wa, .inl (k 0, 49, .inl (fun i9 : Nat => iI (va i9)))), (ga, .inl (k 0, 49, .inl (fun i9 : Nat => iI (vg i9)))), (wt, .inl (k 0, 49, .inl (fun i9 : Nat => iI (vw i9)))), (wo, .inl (k 0, 49, .inl (fun i9 : Nat => iI (vo i9))))]) (hT.2.2.2.2.1 i j (by omega) (by omega) (by omega) (by omega)).1
      refine x_get (ci := 10) (C := RX10) (T := TX10) (N := 4) (v := .int (iI (T 6 i j 0))) B k_15 hk_15 rfl in_X10 1 (by decide) mw_825 (fun _ h9 => h9) rfl dX2_addWord_95 ?_
      have z_16 : -1 ≤ T 6 i j 0 ∧ T 6 i j 0 ≤ 5 := TK_lab hK i j
      refine y_mul hx hb dX2_addWord_98 ?_
      refine y_shr hx hb (a := dg) (b := (2 * (T 6 i j 0))) (by omega) (by omega) dX2_addWord_99 ?_
      have z_17 : 0 ≤ (bShr dg (2 * (T 6 i j 0))) ∧ (bShr dg (2 * (T 6 i j 0))) ≤ dg := bShr_le (by omega)
      refine lv_iconst (v := iI 3) hx hb dX2_addWord_100 (by decide) ?_
      refine y_and hx hb (a := (bShr dg (2 * (T 6 i j 0)))) (b := 3) (by omega) (by omega) dX2_addWord_101 ?_
      have z_18 : 0 ≤ (bAnd (bShr dg (2 * (T 6 i j 0))) 3) ∧ (bAnd (bShr dg (2 * (T 6 i j 0))) 3) ≤ (bShr dg (2 * (T 6 i j 0))) := bAnd_le (by omega)
      have z_19 : 0 ≤ (bAnd (bShr dg (2 * (T 6 i j 0))) 3) ∧ (bAnd (bShr dg (2 * (T 6 i j 0))) 3) ≤ 3 := bAnd_le' (by omega)
      refine y_mul hx hb dX2_addWord_102 ?_
      refine y_add hx hb dX2_addWord_103 ?_
      refine lv_istore (lv' := [(4, .int (iI (up + (3 * (bAnd (bShr dg (2 * (T 6 i j 0))) 3))))), (6, .int (iI q)), (5, .int (iI (fo n))), (0, .ref ln), (1, .ref (A 4 i j)), (2, .int (iI j)), (3, .int (iI dg))]) hx hb dX2_addWord_104 hl (by decide) rfl (fun ls hl => ?_)
      refine lv_aload_n hx hb dX2_addWord_106 rfl (lv_at hl 3 rfl) ?_
      refine lv_iload_n hx hb dX2_addWord_107 rfl (lv_at hl 5 rfl) ?_
      refine lv_iconst (v := iI 0) hx hb dX2_addWord_108 (by decide) ?_
      refine lv_iload hx hb dX2_addWord_109 (lv_at hl 0 rfl) ?_
      refine lv_iload hx hb dX2_addWord_111 (lv_at hl 2 rfl) ?_
      refine lv_iconst (v := iI 1) hx hb dX2_addWord_113 (by decide) ?_
      refine y_add hx hb dX2_addWord_114 ?_
      have B := bd_to (ws' := [(ln, .inr (2, [.int (iI nn), .ref wa, .ref ga, .ref wt, .ref wo, .int (iI wd), .int (iI nw), .int (iI dp), .int (iI sd), .int (iI cl), .ref bD, .ref bL, .ref bE])), (wa, .inl (k 0, 49, .inl (fun i9 : Nat => iI (va i9)))), (ga, .inl (k 0, 49, .inl (fun i9 : Nat => iI (vg i9)))), (wt, .inl (k 0, 49, .inl (fun i9 : Nat => iI (vw i9)))), (wo, .inl (k 0, 49, .inl (fun i9 : Nat => iI (vo i9))))] ++ ([] ++ tl)) rfl B
      refine k_V (rest := []) (wc := [(ln, .inr (2, [.int (iI nn), .ref wa, .ref ga, .ref wt, .ref wo, .int (iI wd), .int (iI nw), .int (iI dp), .int (iI sd), .int (iI cl), .ref bD, .ref bL, .ref bE])), (wa, .inl (k 0, 49, .inl (fun i9 : Nat => iI (va i9)))), (ga, .inl (k 0, 49, .inl (fun i9 : Nat => iI (vg i9)))), (wt, .inl (k 0, 49, .inl (fun i9 : Nat => iI (vw i9)))), (wo, .inl (k 0, 49, .inl (fun i9 : Nat => iI (vo i9))))]) (wr := ([] ++ tl)) (k_addPlace l dC dI k ln wa ga wt wo bD bL bE nn wd nw dp sd cl va vg vw vo j 0 (up + (3 * (bAnd (bShr dg (2 * (T 6 i j 0))) 3))) ((fo n) + 1) bA bG bW bO (by omega) (by omega)) B mV_X2_addPlace mw_1404 hl (q0 := 0) rfl rfl rfl ⟨Nat.le_of_ble_eq_true rfl, Nat.le_of_ble_eq_true rfl⟩ (Nat.le_of_ble_eq_true rfl) rfl dX2_addWord_115 ⟨Nat.le_of_ble_eq_true rfl, Nat.le_of_ble_eq_true rfl⟩ (fun r w gc gs H locs hp B => ?_)
      obtain ⟨z_20, z_21, z_22, z_23, z_24, rfl, hw9, rfl, rfl⟩ := hp
      rw [hw9] at B; clear hw9
      have B := bd_swap (a := []) (b := tl) (d := [(ln, .inr (2, [.int (iI (nn + 1)), .ref wa, .ref ga, .ref wt, .ref wo, .int (iI wd), .int (iI nw), .int (iI dp), .int (iI sd), .int (iI cl), .ref bD, .ref bL, .ref bE])), (wa, .inl (k 0, 49, .inl (fun i9 : Nat => iI ((uz va (nn + 1) j) i9)))), (ga, .inl (k 0, 49, .inl (fun i9 : Nat => iI ((uz vg (nn + 1) 0) i9)))), (wt, .inl (k 0, 49, .inl (fun i9 : Nat => iI ((uz vw (nn + 1) (up + (3 * (bAnd (bShr dg (2 * (T 6 i j 0))) 3)))) i9)))), (wo, .inl (k 0, 49, .inl (fun i9 : Nat => iI ((uz vo (nn + 1) ((fo n) + 1)) i9))))]) B
      have B := bd_to (ws' := ([(ln, .inr (2, [.int (iI (nn + 1)), .ref wa, .ref ga, .ref wt, .ref wo, .int (iI wd), .int (iI nw), .int (iI dp), .int (iI sd), .int (iI cl), .ref bD, .ref bL, .ref bE])), (wa, .inl (k 0, 49, .inl (fun i9 : Nat => iI ((uz va (nn + 1) j) i9)))), (ga, .inl (k 0, 49, .inl (fun i9 : Nat => iI ((uz vg (nn + 1) 0) i9)))), (wt, .inl (k 0, 49, .inl (fun i9 : Nat => iI ((uz vw (nn + 1) (up + (3 * (bAnd (bShr dg (2 * (T 6 i j 0))) 3)))) i9)))), (wo, .inl (k 0, 49, .inl (fun i9 : Nat => iI ((uz vo (nn + 1) ((fo n) + 1)) i9))))] ++ tl)) rfl B
      exact k_vret B hr (⟨(nn + 1), (uz va (nn + 1) j), (uz vg (nn + 1) 0), (uz vw (nn + 1) (up + (3 * (bAnd (bShr dg (2 * (T 6 i j 0))) 3)))), (uz vo (nn + 1) ((fo n) + 1)), (by unfold woP; rw [if_neg zc_9]; rw [show (Int.toNat (T 4 i j 0)) = (Int.toNat q) by omega, ← hup, e2]; exact AgP_ad hAq (by omega)), ⟨by omega, by omega, by rw [uz_s]; omega, by rw [uz_s]; omega, uz_s⟩, z_21, z_22, z_23, z_24, rfl, rfl, rfl, rfl⟩) ⟨Nat.le_of_ble_eq_true rfl, Nat.le_of_ble_eq_true rfl⟩ ⟨Nat.le_of_ble_eq_true rfl, Nat.le_of_ble_eq_true rfl⟩ dX2_addWord_118
  · have zc_6 : q < ((Int.toNat (T 4 i j 0)) : Int) := jnle (a := ((Int.toNat (T 4 i j 0)) : Int)) (b := q) (by omega) (by omega) c_6
    refine lv_aload_n hx hb dX2_addWord_35 rfl (lv_at hl 4 rfl) ?_
    obtain ⟨k_25, hk_25⟩ := pk_at (hs := [(ln, .inr (2, [.int (iI nn), .ref wa, .ref ga, .ref wt, .ref wo, .int (iI wd), .int (iI nw), .int (iI dp), .int (iI sd), .int (iI cl), .ref bD, .ref bL, .ref bE])), (wa, .inl (k 0, 49, .inl (fun i9 : Nat => iI (va i9)))), (ga, .inl (k 0, 49, .inl (fun i9 : Nat => iI (vg i9)))), (wt, .inl (k 0, 49, .inl (fun i9 : Nat => iI (vw i9)))), (wo, .inl (k 0, 49, .inl (fun i9 : Nat => iI (vo i9))))]) (hT.2.2.2.2.1 i j (by omega) (by omega) (by omega) (by omega)).1
    refine x_get (ci := 10) (C := RX10) (T := TX10) (N := 4) (v := .int (iI (T 8 i j 0))) B k_25 hk_25 rfl in_X10 3 (by decide) mw_830 (fun _ h9 => h9) rfl dX2_addWord_36 ?_
    have z_26 : 0 ≤ T 8 i j 0 ∧ T 8 i j 0 < 64 := TK_gap hK i j
    refine lv_iload hx hb dX2_addWord_39 (lv_at hl 0 rfl) ?_
    refine y_shr hx hb (a := (T 8 i j 0)) (b := q) (by omega) (by omega) dX2_addWord_41 ?_
    have z_27 : 0 ≤ (bShr (T 8 i j 0) q) ∧ (bShr (T 8 i j 0) q) ≤ (T 8 i j 0) := bShr_le (by omega)
    refine lv_iconst (v := iI 1) hx hb dX2_addWord_42 (by decide) ?_
    refine y_and hx hb (a := (bShr (T 8 i j 0) q)) (b := 1) (by omega) (by omega) dX2_addWord_43 ?_
    have z_28 : 0 ≤ (bAnd (bShr (T 8 i j 0) q) 1) ∧ (bAnd (bShr (T 8 i j 0) q) 1) ≤ (bShr (T 8 i j 0) q) := bAnd_le (by omega)
    have z_29 : 0 ≤ (bAnd (bShr (T 8 i j 0) q) 1) ∧ (bAnd (bShr (T 8 i j 0) q) 1) ≤ 1 := bAnd_le' (by omega)
    refine lv_iconst (v := iI 1) hx hb dX2_addWord_44 (by decide) ?_
    refine lv_icmp_ne (tgt := 59) hx hb dX2_addWord_45 (by decide) (fun c_30 => ?_) (fun c_30 => ?_)
    · have zc_30 : (bAnd (bShr (T 8 i j 0) q) 1) ≠ 1 := jne (a := (bAnd (bShr (T 8 i j 0) q) 1)) (b := 1) (by omega) (by omega) c_30
      refine lv_iload hx hb dX2_addWord_59 (lv_at hl 2 rfl) ?_
      obtain ⟨lw, hlw1, hlw2⟩ := B.2.1.2.2.2.2.1
      refine va_getsN hx hb hlw1 B.2.2.2.2.2 B.1.2.2.2.1 (va_Nw.use rfl B.2.1.2.1.2.2.1) (fun _ h9 => h9) dX2_addWord_61 ?_
      refine lv_aload_n hx hb dX2_addWord_64 rfl (lv_at hl 4 rfl) ?_
      obtain ⟨k_31, hk_31⟩ := pk_at (hs := [(ln, .inr (2, [.int (iI nn), .ref wa, .ref ga, .ref wt, .ref wo, .int (iI wd), .int (iI nw), .int (iI dp), .int (iI sd), .int (iI cl), .ref bD, .ref bL, .ref bE])), (wa, .inl (k 0, 49, .inl (fun i9 : Nat => iI (va i9)))), (ga, .inl (k 0, 49, .inl (fun i9 : Nat => iI (vg i9)))), (wt, .inl (k 0, 49, .inl (fun i9 : Nat => iI (vw i9)))), (wo, .inl (k 0, 49, .inl (fun i9 : Nat => iI (vo i9))))]) (hT.2.2.2.2.1 i j (by omega) (by omega) (by omega) (by omega)).1
      refine x_get (ci := 10) (C := RX10) (T := TX10) (N := 4) (v := .ref (A 5 i j)) B k_31 hk_31 rfl in_X10 0 (by decide) mw_822 (fun _ h9 => h9) rfl dX2_addWord_65 ?_
      refine lv_iload hx hb dX2_addWord_68 (lv_at hl 0 rfl) ?_
      obtain ⟨k_32, hk_32⟩ := pk_at (hs := [(ln, .inr (2, [.int (iI nn), .ref wa, .ref ga, .ref wt, .ref wo, .int (iI wd), .int (iI nw), .int (iI dp), .int (iI sd), .int (iI cl), .ref bD, .ref bL, .ref bE])), (wa, .inl (k 0, 49, .inl (fun i9 : Nat => iI (va i9)))), (ga, .inl (k 0, 49, .inl (fun i9 : Nat => iI (vg i9)))), (wt, .inl (k 0, 49, .inl (fun i9 : Nat => iI (vw i9)))), (wo, .inl (k 0, 49, .inl (fun i9 : Nat => iI (vo i9))))]) (hT.2.2.2.2.1 i j (by omega) (by omega) (by omega) (by omega)).2.1
      refine x_iald' (f := (fun j9 : Int => T 5 i j j9)) (z := q) B k_32 hk_32 (by omega) dX2_addWord_70 ?_
      have z_33 : 0 ≤ (T 5 i j q) ∧ (T 5 i j q) ≤ 3 := (fun q => TK_let hK i j q) q
      refine x_lw B hlw2 (z := (T 5 i j q)) (by omega) dX2_addWord_71 ?_
      have z_34 : 2 ≤ (LWz (T 5 i j q)) ∧ (LWz (T 5 i j q)) ≤ 6 := LWz_in _
      refine y_add hx hb dX2_addWord_72 ?_
      refine lv_istore (lv' := [(4, .int (iI (up + (LWz (T 5 i j q))))), (6, .int (iI q)), (5, .int (iI (fo n))), (0, .ref ln), (1, .ref (A 4 i j)), (2, .int (iI j)), (3, .int (iI dg))]) hx hb dX2_addWord_73 hl (by decide) rfl (fun ls hl => ?_)
      refine lv_iinc (v := iI (q + 1)) (lv' := [(6, .int (iI (q + 1))), (4, .int (iI (up + (LWz (T 5 i j q))))), (5, .int (iI (fo n))), (0, .ref ln), (1, .ref (A 4 i j)), (2, .int (iI j)), (3, .int (iI dg))]) hx hb dX2_addWord_75 hl (k := 1) rfl (iI_add _ _) (by decide) rfl (fun ls hl => ?_)
      refine lv_goto (tgt := 25) hx hb dX2_addWord_78 (by decide) ?_
      exact ih_3 ((q + 1), (up + (LWz (T 5 i j q))), nn, va, vg, vw, vo) ⟨(show 0 ≤ (q + 1) ∧ (q + 1) ≤ T 4 i j 0 ∧ n ≤ nn ∧ nn ≤ n + 3 ∧ nn ≤ n + max 0 ((q + 1) - 2) ∧ fw n ≤ (up + (LWz (T 5 i j q))) ∧ (up + (LWz (T 5 i j q))) ≤ fw n + 6 * (q + 1) from (by omega)), (show (up + (LWz (T 5 i j q))) = (ltP T i j sP (sP.2.2.2.1 sP.1) (sP.2.2.2.2 sP.1) (Int.toNat (q + 1))).2 from (by rw [ltP_s (by omega)]; show _ = _ + _; rw [← hup])), (show AgP nn va vg vw vo (ltP T i j sP (sP.2.2.2.1 sP.1) (sP.2.2.2.2 sP.1) (Int.toNat (q + 1))).1 from (by rw [ltP_s (by omega), if_neg zc_30]; exact hAq)), (show Bd 0 11 va from bA), (show Bd 0 5 vg from bG), (show Bd 0 2000 vw from bW), (show Bd 0 12 vo from bO)⟩ (by first | omega | (dsimp only; omega)) _ _ _ (lv_sub hl [0, 2, 1, 3, 4, 5, 6] rfl) (bd_to rfl B)
    · have zc_30 : (bAnd (bShr (T 8 i j 0) q) 1) = 1 := jeq (a := (bAnd (bShr (T 8 i j 0) q) 1)) (b := 1) (by omega) (by omega) c_30
      have z_35 : 2 ≤ q ∧ q ≤ 4 := by have := TK_gapb hK i j q (by omega) zc_30; omega
      refine lv_aload_n hx hb dX2_addWord_48 rfl (lv_at hl 3 rfl) ?_
      refine lv_iload_n hx hb dX2_addWord_49 rfl (lv_at hl 5 rfl) ?_
      refine lv_iload hx hb dX2_addWord_50 (lv_at hl 0 rfl) ?_
      refine lv_iload hx hb dX2_addWord_52 (lv_at hl 2 rfl) ?_
      refine lv_iload hx hb dX2_addWord_54 (lv_at hl 1 rfl) ?_
      have B := bd_to (ws' := [(ln, .inr (2, [.int (iI nn), .ref wa, .ref ga, .ref wt, .ref wo, .int (iI wd), .int (iI nw), .int (iI dp), .int (iI sd), .int (iI cl), .ref bD, .ref bL, .ref bE])), (wa, .inl (k 0, 49, .inl (fun i9 : Nat => iI (va i9)))), (ga, .inl (k 0, 49, .inl (fun i9 : Nat => iI (vg i9)))), (wt, .inl (k 0, 49, .inl (fun i9 : Nat => iI (vw i9)))), (wo, .inl (k 0, 49, .inl (fun i9 : Nat => iI (vo i9))))] ++ ([] ++ tl)) rfl B
      refine k_V (rest := []) (wc := [(ln, .inr (2, [.int (iI nn), .ref wa, .ref ga, .ref wt, .ref wo, .int (iI wd), .int (iI nw), .int (iI dp), .int (iI sd), .int (iI cl), .ref bD, .ref bL, .ref bE])), (wa, .inl (k 0, 49, .inl (fun i9 : Nat => iI (va i9)))), (ga, .inl (k 0, 49, .inl (fun i9 : Nat => iI (vg i9)))), (wt, .inl (k 0, 49, .inl (fun i9 : Nat => iI (vw i9)))), (wo, .inl (k 0, 49, .inl (fun i9 : Nat => iI (vo i9))))]) (wr := ([] ++ tl)) (k_addPlace l dC dI k ln wa ga wt wo bD bL bE nn wd nw dp sd cl va vg vw vo j q up (fo n) bA bG bW bO (by omega) (by omega)) B mV_X2_addPlace mw_1404 hl (q0 := 0) rfl rfl rfl ⟨Nat.le_of_ble_eq_true rfl, Nat.le_of_ble_eq_true rfl⟩ (Nat.le_of_ble_eq_true rfl) rfl dX2_addWord_56 ⟨Nat.le_of_ble_eq_true rfl, Nat.le_of_ble_eq_true rfl⟩ (fun r w gc gs H locs hp B => ?_)
      obtain ⟨z_36, z_37, z_38, z_39, z_40, rfl, hw9, rfl, rfl⟩ := hp
      rw [hw9] at B; clear hw9
      have B := bd_swap (a := []) (b := tl) (d := [(ln, .inr (2, [.int (iI (nn + 1)), .ref wa, .ref ga, .ref wt, .ref wo, .int (iI wd), .int (iI nw), .int (iI dp), .int (iI sd), .int (iI cl), .ref bD, .ref bL, .ref bE])), (wa, .inl (k 0, 49, .inl (fun i9 : Nat => iI ((uz va (nn + 1) j) i9)))), (ga, .inl (k 0, 49, .inl (fun i9 : Nat => iI ((uz vg (nn + 1) q) i9)))), (wt, .inl (k 0, 49, .inl (fun i9 : Nat => iI ((uz vw (nn + 1) up) i9)))), (wo, .inl (k 0, 49, .inl (fun i9 : Nat => iI ((uz vo (nn + 1) (fo n)) i9))))]) B
      have B := bd_to (ws' := ([(ln, .inr (2, [.int (iI (nn + 1)), .ref wa, .ref ga, .ref wt, .ref wo, .int (iI wd), .int (iI nw), .int (iI dp), .int (iI sd), .int (iI cl), .ref bD, .ref bL, .ref bE])), (wa, .inl (k 0, 49, .inl (fun i9 : Nat => iI ((uz va (nn + 1) j) i9)))), (ga, .inl (k 0, 49, .inl (fun i9 : Nat => iI ((uz vg (nn + 1) q) i9)))), (wt, .inl (k 0, 49, .inl (fun i9 : Nat => iI ((uz vw (nn + 1) up) i9)))), (wo, .inl (k 0, 49, .inl (fun i9 : Nat => iI ((uz vo (nn + 1) (fo n)) i9))))] ++ tl)) rfl B
      refine lv_iload hx hb dX2_addWord_59 (lv_at hl 2 rfl) ?_
      obtain ⟨lw, hlw1, hlw2⟩ := B.2.1.2.2.2.2.1
      refine va_getsN hx hb hlw1 B.2.2.2.2.2 B.1.2.2.2.1 (va_Nw.use rfl B.2.1.2.1.2.2.1) (fun _ h9 => h9) dX2_addWord_61 ?_
      refine lv_aload_n hx hb dX2_addWord_64 rfl (lv_at hl 4 rfl) ?_
      obtain ⟨k_41, hk_41⟩ := pk_at (hs := [(ln, .inr (2, [.int (iI (nn + 1)), .ref wa, .ref ga, .ref wt, .ref wo, .int (iI wd), .int (iI nw), .int (iI dp), .int (iI sd), .int (iI cl), .ref bD, .ref bL, .ref bE])), (wa, .inl (k 0, 49, .inl (fun i9 : Nat => iI ((uz va (nn + 1) j) i9)))), (ga, .inl (k 0, 49, .inl (fun i9 : Nat => iI ((uz vg (nn + 1) q) i9)))), (wt, .inl (k 0, 49, .inl (fun i9 : Nat => iI ((uz vw (nn + 1) up) i9)))), (wo, .inl (k 0, 49, .inl (fun i9 : Nat => iI ((uz vo (nn + 1) (fo n)) i9))))]) (hT.2.2.2.2.1 i j (by omega) (by omega) (by omega) (by omega)).1
      refine x_get (ci := 10) (C := RX10) (T := TX10) (N := 4) (v := .ref (A 5 i j)) B k_41 hk_41 rfl in_X10 0 (by decide) mw_822 (fun _ h9 => h9) rfl dX2_addWord_65 ?_
      refine lv_iload hx hb dX2_addWord_68 (lv_at hl 0 rfl) ?_
      obtain ⟨k_42, hk_42⟩ := pk_at (hs := [(ln, .inr (2, [.int (iI (nn + 1)), .ref wa, .ref ga, .ref wt, .ref wo, .int (iI wd), .int (iI nw), .int (iI dp), .int (iI sd), .int (iI cl), .ref bD, .ref bL, .ref bE])), (wa, .inl (k 0, 49, .inl (fun i9 : Nat => iI ((uz va (nn + 1) j) i9)))), (ga, .inl (k 0, 49, .inl (fun i9 : Nat => iI ((uz vg (nn + 1) q) i9)))), (wt, .inl (k 0, 49, .inl (fun i9 : Nat => iI ((uz vw (nn + 1) up) i9)))), (wo, .inl (k 0, 49, .inl (fun i9 : Nat => iI ((uz vo (nn + 1) (fo n)) i9))))]) (hT.2.2.2.2.1 i j (by omega) (by omega) (by omega) (by omega)).2.1
      refine x_iald' (f := (fun j9 : Int => T 5 i j j9)) (z := q) B k_42 hk_42 (by omega) dX2_addWord_70 ?_
      have z_43 : 0 ≤ (T 5 i j q) ∧ (T 5 i j q) ≤ 3 := (fun q => TK_let hK i j q) q
      refine x_lw B hlw2 (z := (T 5 i j q)) (by omega) dX2_addWord_71 ?_
      have z_44 : 2 ≤ (LWz (T 5 i j q)) ∧ (LWz (T 5 i j q)) ≤ 6 := LWz_in _
      refine y_add hx hb dX2_addWord_72 ?_
      refine lv_istore (lv' := [(4, .int (iI (up + (LWz (T 5 i j q))))), (6, .int (iI q)), (5, .int (iI (fo n))), (0, .ref ln), (1, .ref (A 4 i j)), (2, .int (iI j)), (3, .int (iI dg))]) hx hb dX2_addWord_73 hl (by decide) rfl (fun ls hl => ?_)
      refine lv_iinc (v := iI (q + 1)) (lv' := [(6, .int (iI (q + 1))), (4, .int (iI (up + (LWz (T 5 i j q))))), (5, .int (iI (fo n))), (0, .ref ln), (1, .ref (A 4 i j)), (2, .int (iI j)), (3, .int (iI dg))]) hx hb dX2_addWord_75 hl (k := 1) rfl (iI_add _ _) (by decide) rfl (fun ls hl => ?_)
      refine lv_goto (tgt := 25) hx hb dX2_addWord_78 (by decide) ?_
      exact ih_3 ((q + 1), (up + (LWz (T 5 i j q))), (nn + 1), (uz va (nn + 1) j), (uz vg (nn + 1) q), (uz vw (nn + 1) up), (uz vo (nn + 1) (fo n))) ⟨(show 0 ≤ (q + 1) ∧ (q + 1) ≤ T 4 i j 0 ∧ n ≤ (nn + 1) ∧ (nn + 1) ≤ n + 3 ∧ (nn + 1) ≤ n + max 0 ((q + 1) - 2) ∧ fw n ≤ (up + (LWz (T 5 i j q))) ∧ (up + (LWz (T 5 i j q))) ≤ fw n + 6 * (q + 1) from (by omega)), (show (up + (LWz (T 5 i j q))) = (ltP T i j sP (sP.2.2.2.1 sP.1) (sP.2.2.2.2 sP.1) (Int.toNat (q + 1))).2 from (by rw [ltP_s (by omega)]; show _ = _ + _; rw [← hup])), (show AgP (nn + 1) (uz va (nn + 1) j) (uz vg (nn + 1) q) (uz vw (nn + 1) up) (uz vo (nn + 1) (fo n)) (ltP T i j sP (sP.2.2.2.1 sP.1) (sP.2.2.2.2 sP.1) (Int.toNat (q + 1))).1 from (by rw [ltP_s (by omega), if_pos zc_30]; rw [← hup, e2]; exact AgP_ad hAq (by omega))), (show Bd 0 11 (uz va (nn + 1) j) from z_37), (show Bd 0 5 (uz vg (nn + 1) q) from z_38), (show Bd 0 2000 (uz vw (nn + 1) up) from z_39), (show Bd 0 12 (uz vo (nn + 1) (fo n)) from z_40)⟩ (by first | omega | (dsimp only; omega)) _ _ _ (lv_sub hl [0, 2, 1, 3, 4, 5, 6] rfl) (bd_to rfl B)

theorem mw_33 : (Jvm.Cond.initialized "Galleyforge$Word") ∈ gt := gt_at 103 (by decide +kernel) (by decide +kernel)
theorem mw_638 : (Jvm.Cond.instanceMethod ({ cls := "java/util/ArrayList", name := "size", desc := "()I" } : Jvm.MethodName)) ∈ gt := gt_at 708 (by decide +kernel) (by decide +kernel)
theorem mw_639 : (Jvm.Cond.selects "java/util/ArrayList" ({ cls := "java/util/ArrayList", name := "size", desc := "()I" } : Jvm.MethodName) ({ cls := "java/util/ArrayList", name := "size", desc := "()I" } : Jvm.MethodName)) ∈ gt := gt_at 709 (by decide +kernel) (by decide +kernel)
theorem mw_640 : (Jvm.Cond.code ({ cls := "java/util/ArrayList", name := "size", desc := "()I" } : Jvm.MethodName) prog_40_method_8_code (1 : Nat) (Option.some Jvm.ClassFile.FieldType.int)) ∈ gt := gt_at 710 (by decide +kernel) (by decide +kernel)
theorem mw_741 : (Jvm.Cond.instanceMethod ({ cls := "java/util/ArrayList", name := "get", desc := "(I)Ljava/lang/Object;" } : Jvm.MethodName)) ∈ gt := gt_at 811 (by decide +kernel) (by decide +kernel)
theorem mw_742 : (Jvm.Cond.selects "java/util/ArrayList" ({ cls := "java/util/ArrayList", name := "get", desc := "(I)Ljava/lang/Object;" } : Jvm.MethodName) ({ cls := "java/util/ArrayList", name := "get", desc := "(I)Ljava/lang/Object;" } : Jvm.MethodName)) ∈ gt := gt_at 812 (by decide +kernel) (by decide +kernel)
theorem mw_743 : (Jvm.Cond.code ({ cls := "java/util/ArrayList", name := "get", desc := "(I)Ljava/lang/Object;" } : Jvm.MethodName) prog_40_method_20_code (2 : Nat) (Option.some (Jvm.ClassFile.FieldType.object "java/lang/Object"))) ∈ gt := gt_at 813 (by decide +kernel) (by decide +kernel)
theorem mw_1181 : (Jvm.Cond.fieldLink "Galleyforge$Lines" (52 : Nat) "Galleyforge$Block" "words" "Ljava/util/ArrayList;") ∈ gt := gt_at 1251 (by decide +kernel) (by decide +kernel)
theorem mw_1292 : (Jvm.Cond.instanceMethod ({ cls := "Galleyforge$Block", name := "isThere", desc := "(I)Z" } : Jvm.MethodName)) ∈ gt := gt_at 1362 (by decide +kernel) (by decide +kernel)
theorem mw_1293 : (Jvm.Cond.selects "Galleyforge$Block" ({ cls := "Galleyforge$Block", name := "isThere", desc := "(I)Z" } : Jvm.MethodName) ({ cls := "Galleyforge$Block", name := "isThere", desc := "(I)Z" } : Jvm.MethodName)) ∈ gt := gt_at 1363 (by decide +kernel) (by decide +kernel)
theorem mw_1294 : (Jvm.Cond.code ({ cls := "Galleyforge$Block", name := "isThere", desc := "(I)Z" } : Jvm.MethodName) prog_2_method_2_code (2 : Nat) (Option.some Jvm.ClassFile.FieldType.boolean)) ∈ gt := gt_at 1364 (by decide +kernel) (by decide +kernel)
theorem mw_1386 : (Jvm.Cond.methodLink "Galleyforge$Lines" (38 : Nat) ({ cls := "Galleyforge$Lines", name := "setWidths", desc := "(LGalleyforge$Block;I)V" } : Jvm.MethodName)) ∈ gt := gt_at 1456 (by decide +kernel) (by decide +kernel)
theorem mw_1388 : (Jvm.Cond.instanceMethod ({ cls := "Galleyforge$Lines", name := "setWidths", desc := "(LGalleyforge$Block;I)V" } : Jvm.MethodName)) ∈ gt := gt_at 1458 (by decide +kernel) (by decide +kernel)
theorem mw_1389 : (Jvm.Cond.code ({ cls := "Galleyforge$Lines", name := "setWidths", desc := "(LGalleyforge$Block;I)V" } : Jvm.MethodName) prog_4_method_3_code (3 : Nat) (Option.none : Option Jvm.ClassFile.FieldType)) ∈ gt := gt_at 1459 (by decide +kernel) (by decide +kernel)
theorem mw_1391 : (Jvm.Cond.methodLink "Galleyforge$Lines" (42 : Nat) ({ cls := "Galleyforge$Block", name := "hasLines", desc := "()Z" } : Jvm.MethodName)) ∈ gt := gt_at 1461 (by decide +kernel) (by decide +kernel)
theorem mw_1392 : (Jvm.Cond.methodLink "Galleyforge$Lines" (48 : Nat) ({ cls := "Galleyforge$Block", name := "isThere", desc := "(I)Z" } : Jvm.MethodName)) ∈ gt := gt_at 1462 (by decide +kernel) (by decide +kernel)
theorem mw_1393 : (Jvm.Cond.methodLink "Galleyforge$Lines" (56 : Nat) ({ cls := "java/util/ArrayList", name := "size", desc := "()I" } : Jvm.MethodName)) ∈ gt := gt_at 1463 (by decide +kernel) (by decide +kernel)
theorem mw_1394 : (Jvm.Cond.methodLink "Galleyforge$Lines" (62 : Nat) ({ cls := "java/util/ArrayList", name := "get", desc := "(I)Ljava/lang/Object;" } : Jvm.MethodName)) ∈ gt := gt_at 1464 (by decide +kernel) (by decide +kernel)
theorem mw_1395 : (Jvm.Cond.classLink "Galleyforge$Lines" (66 : Nat) "Galleyforge$Word") ∈ gt := gt_at 1465 (by decide +kernel) (by decide +kernel)
theorem mw_1396 : (Jvm.Cond.methodLink "Galleyforge$Lines" (68 : Nat) ({ cls := "Galleyforge$Word", name := "isThere", desc := "(I)Z" } : Jvm.MethodName)) ∈ gt := gt_at 1466 (by decide +kernel) (by decide +kernel)
theorem mw_1397 : (Jvm.Cond.instanceMethod ({ cls := "Galleyforge$Word", name := "isThere", desc := "(I)Z" } : Jvm.MethodName)) ∈ gt := gt_at 1467 (by decide +kernel) (by decide +kernel)
theorem mw_1398 : (Jvm.Cond.selects "Galleyforge$Word" ({ cls := "Galleyforge$Word", name := "isThere", desc := "(I)Z" } : Jvm.MethodName) ({ cls := "Galleyforge$Word", name := "isThere", desc := "(I)Z" } : Jvm.MethodName)) ∈ gt := gt_at 1468 (by decide +kernel) (by decide +kernel)
theorem mw_1399 : (Jvm.Cond.code ({ cls := "Galleyforge$Word", name := "isThere", desc := "(I)Z" } : Jvm.MethodName) prog_12_method_2_code (2 : Nat) (Option.some Jvm.ClassFile.FieldType.boolean)) ∈ gt := gt_at 1469 (by decide +kernel) (by decide +kernel)
theorem mw_1400 : (Jvm.Cond.methodLink "Galleyforge$Lines" (69 : Nat) ({ cls := "Galleyforge$Lines", name := "addWord", desc := "(LGalleyforge$Word;II)V" } : Jvm.MethodName)) ∈ gt := gt_at 1470 (by decide +kernel) (by decide +kernel)
theorem mw_1402 : (Jvm.Cond.instanceMethod ({ cls := "Galleyforge$Lines", name := "addWord", desc := "(LGalleyforge$Word;II)V" } : Jvm.MethodName)) ∈ gt := gt_at 1472 (by decide +kernel) (by decide +kernel)
theorem mw_1403 : (Jvm.Cond.code ({ cls := "Galleyforge$Lines", name := "addWord", desc := "(LGalleyforge$Word;II)V" } : Jvm.MethodName) prog_4_method_4_code (7 : Nat) (Option.none : Option Jvm.ClassFile.FieldType)) ∈ gt := gt_at 1473 (by decide +kernel) (by decide +kernel)
theorem mV_Jx4a65c_get_915e3 : mV yJx4a65c_get_915e3 cJx4a65c_get_915e3 2 (some (.object "java/lang/Object")) 1 := ⟨⟨mw_743, mw_5, by decide, by decide, by decide +kernel⟩, mw_741, mw_742⟩
theorem mV_Jx4a65c_size_8abf5 : mV yJx4a65c_size_8abf5 cJx4a65c_size_8abf5 1 (some .int) 0 := ⟨⟨mw_640, mw_5, by decide, by decide, by decide +kernel⟩, mw_638, mw_639⟩
theorem mV_X0_isThere : mV yX0_isThere cX0_isThere 2 (some .boolean) 1 := ⟨⟨mw_1294, mw_19, by decide, by decide, by decide +kernel⟩, mw_1292, mw_1293⟩
theorem mV_X10_isThere : mV yX10_isThere cX10_isThere 2 (some .boolean) 1 := ⟨⟨mw_1399, mw_33, by decide, by decide, by decide +kernel⟩, mw_1397, mw_1398⟩
theorem ms_21 : Cond.selects "Galleyforge$Lines" (⟨"Galleyforge$Lines", "addWord", "(LGalleyforge$Word;II)V"⟩ : MethodName) (⟨"Galleyforge$Lines", "addWord", "(LGalleyforge$Word;II)V"⟩ : MethodName) ∈ gt := gt_at 21 (by decide +kernel) (by decide +kernel)
theorem mV_X2_addWord : mV yX2_addWord cX2_addWord 7 none 3 := ⟨⟨mw_1403, mw_6, by decide, by decide, by decide +kernel⟩, mw_1402, ms_21⟩
theorem ms_20 : Cond.selects "Galleyforge$Lines" (⟨"Galleyforge$Lines", "setWidths", "(LGalleyforge$Block;I)V"⟩ : MethodName) (⟨"Galleyforge$Lines", "setWidths", "(LGalleyforge$Block;I)V"⟩ : MethodName) ∈ gt := gt_at 20 (by decide +kernel) (by decide +kernel)
theorem mV_X2_setWidths : mV yX2_setWidths cX2_setWidths 3 none 2 := ⟨⟨mw_1389, mw_6, by decide, by decide, by decide +kernel⟩, mw_1388, ms_20⟩
theorem dX2_takeUp_0 : decode cX2_takeUp 0 = .ok (.aload_n 0, 1) := by decide +kernel
theorem dX2_takeUp_1 : decode cX2_takeUp 1 = .ok (.iconst 0, 1) := by decide +kernel
theorem dX2_takeUp_2 : decode cX2_takeUp 2 = .ok (.putfield 34, 3) := by decide +kernel
theorem dX2_takeUp_5 : decode cX2_takeUp 5 = .ok (.aload_n 0, 1) := by decide +kernel
theorem dX2_takeUp_6 : decode cX2_takeUp 6 = .ok (.aload_n 1, 1) := by decide +kernel
theorem dX2_takeUp_7 : decode cX2_takeUp 7 = .ok (.iload_n 3, 1) := by decide +kernel
theorem dX2_takeUp_8 : decode cX2_takeUp 8 = .ok (.invokevirtual 38, 3) := by decide +kernel
theorem dX2_takeUp_11 : decode cX2_takeUp 11 = .ok (.aload_n 1, 1) := by decide +kernel
theorem dX2_takeUp_12 : decode cX2_takeUp 12 = .ok (.invokevirtual 42, 3) := by decide +kernel
theorem dX2_takeUp_15 : decode cX2_takeUp 15 = .ok (.ifCond .eq 11, 3) := by decide +kernel
theorem dX2_takeUp_18 : decode cX2_takeUp 18 = .ok (.aload_n 1, 1) := by decide +kernel
theorem dX2_takeUp_19 : decode cX2_takeUp 19 = .ok (.iload_n 2, 1) := by decide +kernel
theorem dX2_takeUp_20 : decode cX2_takeUp 20 = .ok (.invokevirtual 48, 3) := by decide +kernel
theorem dX2_takeUp_23 : decode cX2_takeUp 23 = .ok (.ifCond .ne 4, 3) := by decide +kernel
theorem dX2_takeUp_26 : decode cX2_takeUp 26 = .ok (.return_, 1) := by decide +kernel
theorem dX2_takeUp_27 : decode cX2_takeUp 27 = .ok (.iconst 0, 1) := by decide +kernel
theorem dX2_takeUp_28 : decode cX2_takeUp 28 = .ok (.istore 5, 2) := by decide +kernel
theorem dX2_takeUp_30 : decode cX2_takeUp 30 = .ok (.iload 5, 2) := by decide +kernel
theorem dX2_takeUp_32 : decode cX2_takeUp 32 = .ok (.aload_n 1, 1) := by decide +kernel
theorem dX2_takeUp_33 : decode cX2_takeUp 33 = .ok (.getfield 52, 3) := by decide +kernel
theorem dX2_takeUp_36 : decode cX2_takeUp 36 = .ok (.invokevirtual 56, 3) := by decide +kernel
theorem dX2_takeUp_39 : decode cX2_takeUp 39 = .ok (.if_icmp .ge 42, 3) := by decide +kernel
theorem dX2_takeUp_42 : decode cX2_takeUp 42 = .ok (.aload_n 1, 1) := by decide +kernel
theorem dX2_takeUp_43 : decode cX2_takeUp 43 = .ok (.getfield 52, 3) := by decide +kernel
theorem dX2_takeUp_46 : decode cX2_takeUp 46 = .ok (.iload 5, 2) := by decide +kernel
theorem dX2_takeUp_48 : decode cX2_takeUp 48 = .ok (.invokevirtual 62, 3) := by decide +kernel
theorem dX2_takeUp_51 : decode cX2_takeUp 51 = .ok (.checkcast 66, 3) := by decide +kernel
theorem dX2_takeUp_54 : decode cX2_takeUp 54 = .ok (.astore 6, 2) := by decide +kernel
theorem dX2_takeUp_56 : decode cX2_takeUp 56 = .ok (.aload 6, 2) := by decide +kernel
theorem dX2_takeUp_58 : decode cX2_takeUp 58 = .ok (.iload_n 2, 1) := by decide +kernel
theorem dX2_takeUp_59 : decode cX2_takeUp 59 = .ok (.invokevirtual 68, 3) := by decide +kernel
theorem dX2_takeUp_62 : decode cX2_takeUp 62 = .ok (.ifCond .eq 13, 3) := by decide +kernel
theorem dX2_takeUp_65 : decode cX2_takeUp 65 = .ok (.aload_n 0, 1) := by decide +kernel
theorem dX2_takeUp_66 : decode cX2_takeUp 66 = .ok (.aload 6, 2) := by decide +kernel
theorem dX2_takeUp_68 : decode cX2_takeUp 68 = .ok (.iload 5, 2) := by decide +kernel
theorem dX2_takeUp_70 : decode cX2_takeUp 70 = .ok (.iload 4, 2) := by decide +kernel
theorem dX2_takeUp_72 : decode cX2_takeUp 72 = .ok (.invokevirtual 69, 3) := by decide +kernel
theorem dX2_takeUp_75 : decode cX2_takeUp 75 = .ok (.iinc 5 1, 3) := by decide +kernel
theorem dX2_takeUp_78 : decode cX2_takeUp 78 = .ok (.goto (-48), 3) := by decide +kernel
theorem dX2_takeUp_81 : decode cX2_takeUp 81 = .ok (.return_, 1) := by decide +kernel
set_option maxHeartbeats 4000000 in
set_option maxRecDepth 100000 in
theorem k_takeUp (l : Launch) (dC : Nat → ClassId) (dI : Nat → Nat → Nat) (k : Nat → ClassId) (ln : Nat) (wa : Nat) (ga : Nat) (wt : Nat) (wo : Nat) (bD : Nat) (bL : Nat) (bE : Nat) (n : Int) (wd : Int) (nw : Int) (dp : Int) (sd : Int) (cl : Int) (T : Nat → Int → Int → Int → Int) (A : Nat → Int → Int → Nat) (X : Nat → Int → Int → Int) (tl : va_W) (fa : Int → Int) (fg : Int → Int) (fw : Int → Int) (fo : Int → Int) (i : Int) (v : Int) (pw : Int) (dg : Int) (hT : TI dI k T A X tl) (hK : TK T) (hi : 0 ≤ i ∧ i < T 0 0 0 0) (ha : Bd 0 11 fa) (hg : Bd 0 5 fg) (hw : Bd 0 2000 fw) (ho : Bd 0 12 fo) (h0 : AgP 0 fa fg fw fo P0) (h1 : 0 ≤ v ∧ v ≤ 1 ∧ 30 ≤ pw ∧ pw ≤ 120) (h2 : 0 ≤ dg ∧ dg < 4096) : Kn l dC dI k yX2_takeUp (.code yX2_takeUp cX2_takeUp 7 none) ({ frames := 3, cells := 0, slots := 0, locals := 64 } : Room) [.ref ln, .ref (A 0 i 0), .int (iI v), .int (iI pw), .int (iI dg)] ([(ln, .inr (2, [.int (iI n), .ref wa, .ref ga, .ref wt, .ref wo, .int (iI wd), .int (iI nw), .int (iI dp), .int (iI sd), .int (iI cl), .ref bD, .ref bL, .ref bE])), (wa, .inl (k 0, 49, .inl (fun i9 : Nat => iI (fa i9)))), (ga, .inl (k 0, 49, .inl (fun i9 : Nat => iI (fg i9)))), (wt, .inl (k 0, 49, .inl (fun i9 : Nat => iI (fw i9)))), (wo, .inl (k 0, 49, .inl (fun i9 : Nat => iI (fo i9))))] ++ tl) (fun r w gc gs => (∃ (nn : Int) (va : Int → Int) (vg : Int → Int) (vw : Int → Int) (vo : Int → Int), (AgP nn va vg vw vo (tkP T i v dg)) ∧ (0 ≤ nn ∧ nn ≤ 48) ∧ (Bd 0 11 va) ∧ (Bd 0 5 vg) ∧ (Bd 0 2000 vw) ∧ (Bd 0 12 vo) ∧ r = none ∧ w = ([(ln, .inr (2, [.int (iI nn), .ref wa, .ref ga, .ref wt, .ref wo, .int (iI (wdZ T i pw)), .int (iI (nwZ T i pw)), .int (iI (dpZ T i)), .int (iI sd), .int (iI cl), .ref bD, .ref bL, .ref bE])), (wa, .inl (k 0, 49, .inl (fun i9 : Nat => iI (va i9)))), (ga, .inl (k 0, 49, .inl (fun i9 : Nat => iI (vg i9)))), (wt, .inl (k 0, 49, .inl (fun i9 : Nat => iI (vw i9)))), (wo, .inl (k 0, 49, .inl (fun i9 : Nat => iI (vo i9))))] ++ tl) ∧ gc = 0 ∧ gs = 0)) := by
  refine kn_of (by decide) (Nat.le_of_ble_eq_true rfl) ?_
  intro p e s m args below meth c H locs B hr hnm ls hl
  have hx := B.1.1
  have hb := B.1.2.1
  have hl : lv_has ls 7 [(0, .ref ln), (1, .ref (A 0 i 0)), (2, .int (iI v)), (3, .int (iI pw)), (4, .int (iI dg))] := hl
  refine lv_aload_n hx hb dX2_takeUp_0 rfl (lv_at hl 0 rfl) ?_
  refine lv_iconst (v := iI 0) hx hb dX2_takeUp_1 (by decide) ?_
  refine x_put (ci := 2) (C := RX2) (T := TX2) (N := 13) (ty := .int) (v := .int (iI 0)) B tyX2_ok nmX2 0 rfl rfl in_X2 0 (by decide) mw_126 (fun _ h9 => h9) rfl (by decide +kernel) rfl rfl (Nat.le_of_ble_eq_true rfl) dX2_takeUp_2 (fun H locs B => ?_)
  have B := bd_to (ws' := ([(ln, .inr (2, [.int (iI 0), .ref wa, .ref ga, .ref wt, .ref wo, .int (iI wd), .int (iI nw), .int (iI dp), .int (iI sd), .int (iI cl), .ref bD, .ref bL, .ref bE])), (wa, .inl (k 0, 49, .inl (fun i9 : Nat => iI (fa i9)))), (ga, .inl (k 0, 49, .inl (fun i9 : Nat => iI (fg i9)))), (wt, .inl (k 0, 49, .inl (fun i9 : Nat => iI (fw i9)))), (wo, .inl (k 0, 49, .inl (fun i9 : Nat => iI (fo i9))))] ++ tl)) rfl B
  refine lv_aload_n hx hb dX2_takeUp_5 rfl (lv_at hl 0 rfl) ?_
  refine lv_aload_n hx hb dX2_takeUp_6 rfl (lv_at hl 1 rfl) ?_
  refine lv_iload_n hx hb dX2_takeUp_7 rfl (lv_at hl 3 rfl) ?_
  have B := bd_swap (a := [(ln, .inr (2, [.int (iI 0), .ref wa, .ref ga, .ref wt, .ref wo, .int (iI wd), .int (iI nw), .int (iI dp), .int (iI sd), .int (iI cl), .ref bD, .ref bL, .ref bE]))]) (b := [(wa, .inl (k 0, 49, .inl (fun i9 : Nat => iI (fa i9)))), (ga, .inl (k 0, 49, .inl (fun i9 : Nat => iI (fg i9)))), (wt, .inl (k 0, 49, .inl (fun i9 : Nat => iI (fw i9)))), (wo, .inl (k 0, 49, .inl (fun i9 : Nat => iI (fo i9))))]) (d := tl) (bd_to rfl B)
  refine k_V (rest := []) (wc := ([(ln, .inr (2, [.int (iI 0), .ref wa, .ref ga, .ref wt, .ref wo, .int (iI wd), .int (iI nw), .int (iI dp), .int (iI sd), .int (iI cl), .ref bD, .ref bL, .ref bE]))] ++ tl)) (wr := [(wa, .inl (k 0, 49, .inl (fun i9 : Nat => iI (fa i9)))), (ga, .inl (k 0, 49, .inl (fun i9 : Nat => iI (fg i9)))), (wt, .inl (k 0, 49, .inl (fun i9 : Nat => iI (fw i9)))), (wo, .inl (k 0, 49, .inl (fun i9 : Nat => iI (fo i9))))]) (k_setWidths l dC dI k ln wa ga wt wo bD bL bE 0 wd nw dp sd cl T A X tl i pw hT hK hi (by omega)) B mV_X2_setWidths mw_1386 hl (q0 := 0) rfl rfl rfl ⟨Nat.le_of_ble_eq_true rfl, Nat.le_of_ble_eq_true rfl⟩ (Nat.le_of_ble_eq_true rfl) rfl dX2_takeUp_8 ⟨Nat.le_of_ble_eq_true rfl, Nat.le_of_ble_eq_true rfl⟩ (fun r w gc gs H locs hp B => ?_)
  obtain ⟨rfl, hw9, rfl, rfl⟩ := hp
  rw [hw9] at B; clear hw9
  have B := bd_to (ws' := ([(wa, .inl (k 0, 49, .inl (fun i9 : Nat => iI (fa i9)))), (ga, .inl (k 0, 49, .inl (fun i9 : Nat => iI (fg i9)))), (wt, .inl (k 0, 49, .inl (fun i9 : Nat => iI (fw i9)))), (wo, .inl (k 0, 49, .inl (fun i9 : Nat => iI (fo i9)))), (ln, .inr (2, [.int (iI 0), .ref wa, .ref ga, .ref wt, .ref wo, .int (iI (wdZ T i pw)), .int (iI (nwZ T i pw)), .int (iI (dpZ T i)), .int (iI sd), .int (iI cl), .ref bD, .ref bL, .ref bE]))] ++ tl)) rfl B
  refine lv_aload_n hx hb dX2_takeUp_11 rfl (lv_at hl 1 rfl) ?_
  have B := bd_swap (a := []) (b := [(wa, .inl (k 0, 49, .inl (fun i9 : Nat => iI (fa i9)))), (ga, .inl (k 0, 49, .inl (fun i9 : Nat => iI (fg i9)))), (wt, .inl (k 0, 49, .inl (fun i9 : Nat => iI (fw i9)))), (wo, .inl (k 0, 49, .inl (fun i9 : Nat => iI (fo i9)))), (ln, .inr (2, [.int (iI 0), .ref wa, .ref ga, .ref wt, .ref wo, .int (iI (wdZ T i pw)), .int (iI (nwZ T i pw)), .int (iI (dpZ T i)), .int (iI sd), .int (iI cl), .ref bD, .ref bL, .ref bE]))]) (d := tl) (bd_to rfl B)
  obtain ⟨k_1, hk_1⟩ := pk_at (hs := []) (hT.2.2.2.1 i (by omega) (by omega)).1
  refine k_V (rest := []) (wc := ([] ++ tl)) (wr := [(wa, .inl (k 0, 49, .inl (fun i9 : Nat => iI (fa i9)))), (ga, .inl (k 0, 49, .inl (fun i9 : Nat => iI (fg i9)))), (wt, .inl (k 0, 49, .inl (fun i9 : Nat => iI (fw i9)))), (wo, .inl (k 0, 49, .inl (fun i9 : Nat => iI (fo i9)))), (ln, .inr (2, [.int (iI 0), .ref wa, .ref ga, .ref wt, .ref wo, .int (iI (wdZ T i pw)), .int (iI (nwZ T i pw)), .int (iI (dpZ T i)), .int (iI sd), .int (iI cl), .ref bD, .ref bL, .ref bE]))]) (k_hasLines l dC dI k T A X tl i hT hK hi) B mV_X0_hasLines mw_1391 hl (q0 := k_1) (ci := 0) hk_1 rfl rfl ⟨Nat.le_of_ble_eq_true rfl, Nat.le_of_ble_eq_true rfl⟩ (Nat.le_of_ble_eq_true rfl) rfl dX2_takeUp_12 ⟨Nat.le_of_ble_eq_true rfl, Nat.le_of_ble_eq_true rfl⟩ (fun r w gc gs H locs hp B => ?_)
  rcases hp with ⟨z_2, rfl, hw9, rfl, rfl⟩ | ⟨z_3, rfl, hw9, rfl, rfl⟩
  · skip
    rw [hw9] at B; clear hw9
    have B := bd_to (ws' := ([(wa, .inl (k 0, 49, .inl (fun i9 : Nat => iI (fa i9)))), (ga, .inl (k 0, 49, .inl (fun i9 : Nat => iI (fg i9)))), (wt, .inl (k 0, 49, .inl (fun i9 : Nat => iI (fw i9)))), (wo, .inl (k 0, 49, .inl (fun i9 : Nat => iI (fo i9)))), (ln, .inr (2, [.int (iI 0), .ref wa, .ref ga, .ref wt, .ref wo, .int (iI (wdZ T i pw)), .int (iI (nwZ T i pw)), .int (iI (dpZ T i)), .int (iI sd), .int (iI cl), .ref bD, .ref bL, .ref bE]))] ++ tl)) rfl B
    refine lv_if_eq (tgt := 26) hx hb dX2_takeUp_15 (by decide) (fun c9 => absurd c9 (by decide)) (fun _ => ?_)
    refine lv_aload_n hx hb dX2_takeUp_18 rfl (lv_at hl 1 rfl) ?_
    refine lv_iload_n hx hb dX2_takeUp_19 rfl (lv_at hl 2 rfl) ?_
    have B := bd_swap (a := []) (b := [(wa, .inl (k 0, 49, .inl (fun i9 : Nat => iI (fa i9)))), (ga, .inl (k 0, 49, .inl (fun i9 : Nat => iI (fg i9)))), (wt, .inl (k 0, 49, .inl (fun i9 : Nat => iI (fw i9)))), (wo, .inl (k 0, 49, .inl (fun i9 : Nat => iI (fo i9)))), (ln, .inr (2, [.int (iI 0), .ref wa, .ref ga, .ref wt, .ref wo, .int (iI (wdZ T i pw)), .int (iI (nwZ T i pw)), .int (iI (dpZ T i)), .int (iI sd), .int (iI cl), .ref bD, .ref bL, .ref bE]))]) (d := tl) (bd_to rfl B)
    obtain ⟨k_4, hk_4⟩ := pk_at (hs := []) (hT.2.2.2.1 i (by omega) (by omega)).1
    refine k_V (rest := []) (wc := ([] ++ tl)) (wr := [(wa, .inl (k 0, 49, .inl (fun i9 : Nat => iI (fa i9)))), (ga, .inl (k 0, 49, .inl (fun i9 : Nat => iI (fg i9)))), (wt, .inl (k 0, 49, .inl (fun i9 : Nat => iI (fw i9)))), (wo, .inl (k 0, 49, .inl (fun i9 : Nat => iI (fo i9)))), (ln, .inr (2, [.int (iI 0), .ref wa, .ref ga, .ref wt, .ref wo, .int (iI (wdZ T i pw)), .int (iI (nwZ T i pw)), .int (iI (dpZ T i)), .int (iI sd), .int (iI cl), .ref bD, .ref bL, .ref bE]))]) (k_thB l dC dI k T A X tl i v hT hK hi (by omega)) B mV_X0_isThere mw_1392 hl (q0 := k_4) (ci := 0) hk_4 rfl rfl ⟨Nat.le_of_ble_eq_true rfl, Nat.le_of_ble_eq_true rfl⟩ (Nat.le_of_ble_eq_true rfl) rfl dX2_takeUp_20 ⟨Nat.le_of_ble_eq_true rfl, Nat.le_of_ble_eq_true rfl⟩ (fun r w gc gs H locs hp B => ?_)
    rcases hp with ⟨z_5, rfl, hw9, rfl, rfl⟩ | ⟨z_6, rfl, hw9, rfl, rfl⟩
    · skip
      rw [hw9] at B; clear hw9
      have B := bd_to (ws' := ([(wa, .inl (k 0, 49, .inl (fun i9 : Nat => iI (fa i9)))), (ga, .inl (k 0, 49, .inl (fun i9 : Nat => iI (fg i9)))), (wt, .inl (k 0, 49, .inl (fun i9 : Nat => iI (fw i9)))), (wo, .inl (k 0, 49, .inl (fun i9 : Nat => iI (fo i9)))), (ln, .inr (2, [.int (iI 0), .ref wa, .ref ga, .ref wt, .ref wo, .int (iI (wdZ T i pw)), .int (iI (nwZ T i pw)), .int (iI (dpZ T i)), .int (iI sd), .int (iI cl), .ref bD, .ref bL, .ref bE]))] ++ tl)) rfl B
      refine lv_if_ne (tgt := 27) hx hb dX2_takeUp_23 (by decide) (fun _ => ?_) (fun c9 => absurd c9 (by decide))
      refine lv_iconst (v := iI 0) hx hb dX2_takeUp_27 (by decide) ?_
      refine lv_istore (lv' := [(5, .int (iI 0)), (0, .ref ln), (1, .ref (A 0 i 0)), (2, .int (iI v)), (3, .int (iI pw)), (4, .int (iI dg))]) hx hb dX2_takeUp_28 hl (by decide) rfl (fun ls hl => ?_)
      refine k_loop (σ := Int × Int × (Int → Int) × (Int → Int) × (Int → Int) × (Int → Int)) B (fun g9 : Int × Int × (Int → Int) × (Int → Int) × (Int → Int) × (Int → Int) => (0 ≤ g9.1 ∧ g9.1 ≤ T 3 i 0 0 ∧ T 3 i 0 0 ≤ 12 ∧ 0 ≤ g9.2.1 ∧ g9.2.1 ≤ 4 * g9.1 ∧ 0 ≤ g9.2.2.2.2.1 g9.2.1 ∧ g9.2.2.2.2.1 g9.2.1 ≤ 36 * g9.1 ∧ 0 ≤ g9.2.2.2.2.2 g9.2.1 ∧ g9.2.2.2.2.2 g9.2.1 ≤ g9.1) ∧ (AgP g9.2.1 g9.2.2.1 g9.2.2.2.1 g9.2.2.2.2.1 g9.2.2.2.2.2 (plP T i v dg (Int.toNat g9.1))) ∧ (Bd 0 11 g9.2.2.1) ∧ (Bd 0 5 g9.2.2.2.1) ∧ (Bd 0 2000 g9.2.2.2.2.1) ∧ (Bd 0 12 g9.2.2.2.2.2)) (fun g9 : Int × Int × (Int → Int) × (Int → Int) × (Int → Int) × (Int → Int) => (13 - g9.1).toNat) (fun g9 : Int × Int × (Int → Int) × (Int → Int) × (Int → Int) × (Int → Int) => [(5, .int (iI g9.1)), (0, .ref ln), (1, .ref (A 0 i 0)), (2, .int (iI v)), (3, .int (iI pw)), (4, .int (iI dg))]) (fun g9 : Int × Int × (Int → Int) × (Int → Int) × (Int → Int) × (Int → Int) => ([(wa, .inl (k 0, 49, .inl (fun i9 : Nat => iI (g9.2.2.1 i9)))), (ga, .inl (k 0, 49, .inl (fun i9 : Nat => iI (g9.2.2.2.1 i9)))), (wt, .inl (k 0, 49, .inl (fun i9 : Nat => iI (g9.2.2.2.2.1 i9)))), (wo, .inl (k 0, 49, .inl (fun i9 : Nat => iI (g9.2.2.2.2.2 i9)))), (ln, .inr (2, [.int (iI g9.2.1), .ref wa, .ref ga, .ref wt, .ref wo, .int (iI (wdZ T i pw)), .int (iI (nwZ T i pw)), .int (iI (dpZ T i)), .int (iI sd), .int (iI cl), .ref bD, .ref bL, .ref bE]))] ++ tl)) ?_ (0, 0, fa, fg, fw, fo) ⟨(show 0 ≤ 0 ∧ 0 ≤ T 3 i 0 0 ∧ T 3 i 0 0 ≤ 12 ∧ 0 ≤ 0 ∧ 0 ≤ 4 * 0 ∧ 0 ≤ fw 0 ∧ fw 0 ≤ 36 * 0 ∧ 0 ≤ fo 0 ∧ fo 0 ≤ 0 from (by have q9 := TK_nw hK i; have q8 := (h0.2 0 (by omega) (by omega)).2.2; have e9 : fw 0 = 0 := q8.1; have e8 : fo 0 = 0 := q8.2; omega)), (show AgP 0 fa fg fw fo (plP T i v dg (Int.toNat 0)) from h0), (show Bd 0 11 fa from ha), (show Bd 0 5 fg from hg), (show Bd 0 2000 fw from hw), (show Bd 0 12 fo from ho)⟩ ls H locs (lv_sub hl [0, 1, 2, 3, 4, 5] rfl) (bd_to rfl B)
      clear hl B
      rintro ⟨a9, nn, va, vg, vw, vo⟩ ⟨ha9, hAq, bA, bG, bW, bO⟩ ih_7 ls H locs hl B
      have ha9 : 0 ≤ a9 ∧ a9 ≤ T 3 i 0 0 ∧ T 3 i 0 0 ≤ 12 ∧ 0 ≤ nn ∧ nn ≤ 4 * a9 ∧ 0 ≤ vw nn ∧ vw nn ≤ 36 * a9 ∧ 0 ≤ vo nn ∧ vo nn ≤ a9 := ha9
      have hAq : AgP nn va vg vw vo (plP T i v dg (Int.toNat a9)) := hAq
      have bA : Bd 0 11 va := bA
      have bG : Bd 0 5 vg := bG
      have bW : Bd 0 2000 vw := bW
      have bO : Bd 0 12 vo := bO
      have hl : lv_has ls 7 [(5, .int (iI a9)), (0, .ref ln), (1, .ref (A 0 i 0)), (2, .int (iI v)), (3, .int (iI pw)), (4, .int (iI dg))] := hl
      have B := bd_to (ws' := ([(wa, .inl (k 0, 49, .inl (fun i9 : Nat => iI (va i9)))), (ga, .inl (k 0, 49, .inl (fun i9 : Nat => iI (vg i9)))), (wt, .inl (k 0, 49, .inl (fun i9 : Nat => iI (vw i9)))), (wo, .inl (k 0, 49, .inl (fun i9 : Nat => iI (vo i9)))), (ln, .inr (2, [.int (iI nn), .ref wa, .ref ga, .ref wt, .ref wo, .int (iI (wdZ T i pw)), .int (iI (nwZ T i pw)), .int (iI (dpZ T i)), .int (iI sd), .int (iI cl), .ref bD, .ref bL, .ref bE]))] ++ tl)) rfl B
      refine lv_iload hx hb dX2_takeUp_30 (lv_at hl 0 rfl) ?_
      refine lv_aload_n hx hb dX2_takeUp_32 rfl (lv_at hl 2 rfl) ?_
      obtain ⟨k_8, hk_8⟩ := pk_at (hs := [(wa, .inl (k 0, 49, .inl (fun i9 : Nat => iI (va i9)))), (ga, .inl (k 0, 49, .inl (fun i9 : Nat => iI (vg i9)))), (wt, .inl (k 0, 49, .inl (fun i9 : Nat => iI (vw i9)))), (wo, .inl (k 0, 49, .inl (fun i9 : Nat => iI (vo i9)))), (ln, .inr (2, [.int (iI nn), .ref wa, .ref ga, .ref wt, .ref wo, .int (iI (wdZ T i pw)), .int (iI (nwZ T i pw)), .int (iI (dpZ T i)), .int (iI sd), .int (iI cl), .ref bD, .ref bL, .ref bE]))]) (hT.2.2.2.1 i (by omega) (by omega)).1
      refine x_get (ci := 0) (C := RX0) (T := TX0) (N := 4) (v := .ref (A 2 i 0)) B k_8 hk_8 rfl in_X0 2 (by decide) mw_1181 (fun _ h9 => h9) rfl dX2_takeUp_33 ?_
      have B := bd_swap (a := []) (b := [(wa, .inl (k 0, 49, .inl (fun i9 : Nat => iI (va i9)))), (ga, .inl (k 0, 49, .inl (fun i9 : Nat => iI (vg i9)))), (wt, .inl (k 0, 49, .inl (fun i9 : Nat => iI (vw i9)))), (wo, .inl (k 0, 49, .inl (fun i9 : Nat => iI (vo i9)))), (ln, .inr (2, [.int (iI nn), .ref wa, .ref ga, .ref wt, .ref wo, .int (iI (wdZ T i pw)), .int (iI (nwZ T i pw)), .int (iI (dpZ T i)), .int (iI sd), .int (iI cl), .ref bD, .ref bL, .ref bE]))]) (d := tl) (bd_to rfl B)
      obtain ⟨k_9, fk_9, hk_9⟩ := LI_at (hs := []) (hT.2.2.2.1 i (by omega) (by omega)).2.2
      refine k_V (rest := [.int (iI a9)]) (wc := ([] ++ tl)) (wr := [(wa, .inl (k 0, 49, .inl (fun i9 : Nat => iI (va i9)))), (ga, .inl (k 0, 49, .inl (fun i9 : Nat => iI (vg i9)))), (wt, .inl (k 0, 49, .inl (fun i9 : Nat => iI (vw i9)))), (wo, .inl (k 0, 49, .inl (fun i9 : Nat => iI (vo i9)))), (ln, .inr (2, [.int (iI nn), .ref wa, .ref ga, .ref wt, .ref wo, .int (iI (wdZ T i pw)), .int (iI (nwZ T i pw)), .int (iI (dpZ T i)), .int (iI sd), .int (iI cl), .ref bD, .ref bL, .ref bE]))]) (k_sizeW l dC dI k T A X tl i hT hK hi) B mV_Jx4a65c_size_8abf5 mw_1393 hl (q0 := k_9) (ci := 12) hk_9 rfl rfl ⟨Nat.le_of_ble_eq_true rfl, Nat.le_of_ble_eq_true rfl⟩ (Nat.le_of_ble_eq_true rfl) rfl dX2_takeUp_36 ⟨Nat.le_of_ble_eq_true rfl, Nat.le_of_ble_eq_true rfl⟩ (fun r w gc gs H locs hp B => ?_)
      obtain ⟨z_10, rfl, hw9, rfl, rfl⟩ := hp
      rw [hw9] at B; clear hw9
      have B := bd_to (ws' := ([(wa, .inl (k 0, 49, .inl (fun i9 : Nat => iI (va i9)))), (ga, .inl (k 0, 49, .inl (fun i9 : Nat => iI (vg i9)))), (wt, .inl (k 0, 49, .inl (fun i9 : Nat => iI (vw i9)))), (wo, .inl (k 0, 49, .inl (fun i9 : Nat => iI (vo i9)))), (ln, .inr (2, [.int (iI nn), .ref wa, .ref ga, .ref wt, .ref wo, .int (iI (wdZ T i pw)), .int (iI (nwZ T i pw)), .int (iI (dpZ T i)), .int (iI sd), .int (iI cl), .ref bD, .ref bL, .ref bE]))] ++ tl)) rfl B
      refine lv_icmp_ge (tgt := 81) hx hb dX2_takeUp_39 (by decide) (fun c_11 => ?_) (fun c_11 => ?_)
      · have zc_11 : (T 3 i 0 0) ≤ a9 := jle (a := (T 3 i 0 0)) (b := a9) (by omega) (by omega) c_11
        have B := bd_pick (hs := [(wa, .inl (k 0, 49, .inl (fun i9 : Nat => iI (va i9)))), (ga, .inl (k 0, 49, .inl (fun i9 : Nat => iI (vg i9)))), (wt, .inl (k 0, 49, .inl (fun i9 : Nat => iI (vw i9)))), (wo, .inl (k 0, 49, .inl (fun i9 : Nat => iI (vo i9)))), (ln, .inr (2, [.int (iI nn), .ref wa, .ref ga, .ref wt, .ref wo, .int (iI (wdZ T i pw)), .int (iI (nwZ T i pw)), .int (iI (dpZ T i)), .int (iI sd), .int (iI cl), .ref bD, .ref bL, .ref bE]))]) (ws' := [(ln, .inr (2, [.int (iI nn), .ref wa, .ref ga, .ref wt, .ref wo, .int (iI (wdZ T i pw)), .int (iI (nwZ T i pw)), .int (iI (dpZ T i)), .int (iI sd), .int (iI cl), .ref bD, .ref bL, .ref bE])), (wa, .inl (k 0, 49, .inl (fun i9 : Nat => iI (va i9)))), (ga, .inl (k 0, 49, .inl (fun i9 : Nat => iI (vg i9)))), (wt, .inl (k 0, 49, .inl (fun i9 : Nat => iI (vw i9)))), (wo, .inl (k 0, 49, .inl (fun i9 : Nat => iI (vo i9))))]) (tl := tl) [4, 0, 1, 2, 3] (by decide) rfl B
        exact k_vret B hr (⟨nn, va, vg, vw, vo, (by rw [show tkP T i v dg = plP T i v dg (T 3 i 0 0).toNat from if_pos ⟨z_2, z_5⟩, show (T 3 i 0 0).toNat = Int.toNat a9 by omega]; exact hAq), (by omega), bA, bG, bW, bO, rfl, rfl, rfl, rfl⟩) ⟨Nat.le_of_ble_eq_true rfl, Nat.le_of_ble_eq_true rfl⟩ ⟨Nat.le_of_ble_eq_true rfl, Nat.le_of_ble_eq_true rfl⟩ dX2_takeUp_81
      · have zc_11 : a9 < (T 3 i 0 0) := jnle (a := (T 3 i 0 0)) (b := a9) (by omega) (by omega) c_11
        refine lv_aload_n hx hb dX2_takeUp_42 rfl (lv_at hl 2 rfl) ?_
        obtain ⟨k_12, hk_12⟩ := pk_at (hs := [(wa, .inl (k 0, 49, .inl (fun i9 : Nat => iI (va i9)))), (ga, .inl (k 0, 49, .inl (fun i9 : Nat => iI (vg i9)))), (wt, .inl (k 0, 49, .inl (fun i9 : Nat => iI (vw i9)))), (wo, .inl (k 0, 49, .inl (fun i9 : Nat => iI (vo i9)))), (ln, .inr (2, [.int (iI nn), .ref wa, .ref ga, .ref wt, .ref wo, .int (iI (wdZ T i pw)), .int (iI (nwZ T i pw)), .int (iI (dpZ T i)), .int (iI sd), .int (iI cl), .ref bD, .ref bL, .ref bE]))]) (hT.2.2.2.1 i (by omega) (by omega)).1
        refine x_get (ci := 0) (C := RX0) (T := TX0) (N := 4) (v := .ref (A 2 i 0)) B k_12 hk_12 rfl in_X0 2 (by decide) mw_1181 (fun _ h9 => h9) rfl dX2_takeUp_43 ?_
        refine lv_iload hx hb dX2_takeUp_46 (lv_at hl 0 rfl) ?_
        have B := bd_swap (a := []) (b := [(wa, .inl (k 0, 49, .inl (fun i9 : Nat => iI (va i9)))), (ga, .inl (k 0, 49, .inl (fun i9 : Nat => iI (vg i9)))), (wt, .inl (k 0, 49, .inl (fun i9 : Nat => iI (vw i9)))), (wo, .inl (k 0, 49, .inl (fun i9 : Nat => iI (vo i9)))), (ln, .inr (2, [.int (iI nn), .ref wa, .ref ga, .ref wt, .ref wo, .int (iI (wdZ T i pw)), .int (iI (nwZ T i pw)), .int (iI (dpZ T i)), .int (iI sd), .int (iI cl), .ref bD, .ref bL, .ref bE]))]) (d := tl) (bd_to rfl B)
        obtain ⟨k_13, fk_13, hk_13⟩ := LI_at (hs := []) (hT.2.2.2.1 i (by omega) (by omega)).2.2
        refine k_V (rest := []) (wc := ([] ++ tl)) (wr := [(wa, .inl (k 0, 49, .inl (fun i9 : Nat => iI (va i9)))), (ga, .inl (k 0, 49, .inl (fun i9 : Nat => iI (vg i9)))), (wt, .inl (k 0, 49, .inl (fun i9 : Nat => iI (vw i9)))), (wo, .inl (k 0, 49, .inl (fun i9 : Nat => iI (vo i9)))), (ln, .inr (2, [.int (iI nn), .ref wa, .ref ga, .ref wt, .ref wo, .int (iI (wdZ T i pw)), .int (iI (nwZ T i pw)), .int (iI (dpZ T i)), .int (iI sd), .int (iI cl), .ref bD, .ref bL, .ref bE]))]) (k_getW l dC dI k T A X tl i a9 hT hK hi (by omega)) B mV_Jx4a65c_get_915e3 mw_1394 hl (q0 := k_13) (ci := 12) hk_13 rfl rfl ⟨Nat.le_of_ble_eq_true rfl, Nat.le_of_ble_eq_true rfl⟩ (Nat.le_of_ble_eq_true rfl) rfl dX2_takeUp_48 ⟨Nat.le_of_ble_eq_true rfl, Nat.le_of_ble_eq_true rfl⟩ (fun r w gc gs H locs hp B => ?_)
        obtain ⟨rfl, hw9, rfl, rfl⟩ := hp
        rw [hw9] at B; clear hw9
        have B := bd_to (ws' := ([(wa, .inl (k 0, 49, .inl (fun i9 : Nat => iI (va i9)))), (ga, .inl (k 0, 49, .inl (fun i9 : Nat => iI (vg i9)))), (wt, .inl (k 0, 49, .inl (fun i9 : Nat => iI (vw i9)))), (wo, .inl (k 0, 49, .inl (fun i9 : Nat => iI (vo i9)))), (ln, .inr (2, [.int (iI nn), .ref wa, .ref ga, .ref wt, .ref wo, .int (iI (wdZ T i pw)), .int (iI (nwZ T i pw)), .int (iI (dpZ T i)), .int (iI sd), .int (iI cl), .ref bD, .ref bL, .ref bE]))] ++ tl)) rfl B
        obtain ⟨k_14, hk_14⟩ := pk_at (hs := [(wa, .inl (k 0, 49, .inl (fun i9 : Nat => iI (va i9)))), (ga, .inl (k 0, 49, .inl (fun i9 : Nat => iI (vg i9)))), (wt, .inl (k 0, 49, .inl (fun i9 : Nat => iI (vw i9)))), (wo, .inl (k 0, 49, .inl (fun i9 : Nat => iI (vo i9)))), (ln, .inr (2, [.int (iI nn), .ref wa, .ref ga, .ref wt, .ref wo, .int (iI (wdZ T i pw)), .int (iI (nwZ T i pw)), .int (iI (dpZ T i)), .int (iI sd), .int (iI cl), .ref bD, .ref bL, .ref bE]))]) (hT.2.2.2.2.1 i a9 (by omega) (by omega) (by omega) (by omega)).1
        refine x_cast (ci := 10) (C := RX10) (T := TX10) (N := 4) B k_14 hk_14 rfl mw_1395 dX2_takeUp_51 ?_
        refine lv_astore (lv' := [(6, .ref (A 4 i a9)), (5, .int (iI a9)), (0, .ref ln), (1, .ref (A 0 i 0)), (2, .int (iI v)), (3, .int (iI pw)), (4, .int (iI dg))]) hx hb dX2_takeUp_54 hl (by decide) rfl (fun ls hl => ?_)
        refine lv_aload hx hb dX2_takeUp_56 (lv_at hl 0 rfl) ?_
        refine lv_iload_n hx hb dX2_takeUp_58 rfl (lv_at hl 4 rfl) ?_
        have B := bd_swap (a := []) (b := [(wa, .inl (k 0, 49, .inl (fun i9 : Nat => iI (va i9)))), (ga, .inl (k 0, 49, .inl (fun i9 : Nat => iI (vg i9)))), (wt, .inl (k 0, 49, .inl (fun i9 : Nat => iI (vw i9)))), (wo, .inl (k 0, 49, .inl (fun i9 : Nat => iI (vo i9)))), (ln, .inr (2, [.int (iI nn), .ref wa, .ref ga, .ref wt, .ref wo, .int (iI (wdZ T i pw)), .int (iI (nwZ T i pw)), .int (iI (dpZ T i)), .int (iI sd), .int (iI cl), .ref bD, .ref bL, .ref bE]))]) (d := tl) (bd_to rfl B)
        obtain ⟨k_15, hk_15⟩ := pk_at (hs := []) (hT.2.2.2.2.1 i a9 (by omega) (by omega) (by omega) (by omega)).1
        refine k_V (rest := []) (wc := ([] ++ tl)) (wr := [(wa, .inl (k 0, 49, .inl (fun i9 : Nat => iI (va i9)))), (ga, .inl (k 0, 49, .inl (fun i9 : Nat => iI (vg i9)))), (wt, .inl (k 0, 49, .inl (fun i9 : Nat => iI (vw i9)))), (wo, .inl (k 0, 49, .inl (fun i9 : Nat => iI (vo i9)))), (ln, .inr (2, [.int (iI nn), .ref wa, .ref ga, .ref wt, .ref wo, .int (iI (wdZ T i pw)), .int (iI (nwZ T i pw)), .int (iI (dpZ T i)), .int (iI sd), .int (iI cl), .ref bD, .ref bL, .ref bE]))]) (k_thW l dC dI k T A X tl i a9 v hT hK hi (by omega) (by omega)) B mV_X10_isThere mw_1396 hl (q0 := k_15) (ci := 10) hk_15 rfl rfl ⟨Nat.le_of_ble_eq_true rfl, Nat.le_of_ble_eq_true rfl⟩ (Nat.le_of_ble_eq_true rfl) rfl dX2_takeUp_59 ⟨Nat.le_of_ble_eq_true rfl, Nat.le_of_ble_eq_true rfl⟩ (fun r w gc gs H locs hp B => ?_)
        rcases hp with ⟨z_16, rfl, hw9, rfl, rfl⟩ | ⟨z_17, rfl, hw9, rfl, rfl⟩
        · skip
          rw [hw9] at B; clear hw9
          have B := bd_to (ws' := ([(wa, .inl (k 0, 49, .inl (fun i9 : Nat => iI (va i9)))), (ga, .inl (k 0, 49, .inl (fun i9 : Nat => iI (vg i9)))), (wt, .inl (k 0, 49, .inl (fun i9 : Nat => iI (vw i9)))), (wo, .inl (k 0, 49, .inl (fun i9 : Nat => iI (vo i9)))), (ln, .inr (2, [.int (iI nn), .ref wa, .ref ga, .ref wt, .ref wo, .int (iI (wdZ T i pw)), .int (iI (nwZ T i pw)), .int (iI (dpZ T i)), .int (iI sd), .int (iI cl), .ref bD, .ref bL, .ref bE]))] ++ tl)) rfl B
          refine lv_if_eq (tgt := 75) hx hb dX2_takeUp_62 (by decide) (fun c9 => absurd c9 (by decide)) (fun _ => ?_)
          refine lv_aload_n hx hb dX2_takeUp_65 rfl (lv_at hl 2 rfl) ?_
          refine lv_aload hx hb dX2_takeUp_66 (lv_at hl 0 rfl) ?_
          refine lv_iload hx hb dX2_takeUp_68 (lv_at hl 1 rfl) ?_
          refine lv_iload hx hb dX2_takeUp_70 (lv_at hl 6 rfl) ?_
          have B := bd_pick (hs := [(wa, .inl (k 0, 49, .inl (fun i9 : Nat => iI (va i9)))), (ga, .inl (k 0, 49, .inl (fun i9 : Nat => iI (vg i9)))), (wt, .inl (k 0, 49, .inl (fun i9 : Nat => iI (vw i9)))), (wo, .inl (k 0, 49, .inl (fun i9 : Nat => iI (vo i9)))), (ln, .inr (2, [.int (iI nn), .ref wa, .ref ga, .ref wt, .ref wo, .int (iI (wdZ T i pw)), .int (iI (nwZ T i pw)), .int (iI (dpZ T i)), .int (iI sd), .int (iI cl), .ref bD, .ref bL, .ref bE]))]) (ws' := [(ln, .inr (2, [.int (iI nn), .ref wa, .ref ga, .ref wt, .ref wo, .int (iI (wdZ T i pw)), .int (iI (nwZ T i pw)), .int (iI (dpZ T i)), .int (iI sd), .int (iI cl), .ref bD, .ref bL, .ref bE])), (wa, .inl (k 0, 49, .inl (fun i9 : Nat => iI (va i9)))), (ga, .inl (k 0, 49, .inl (fun i9 : Nat => iI (vg i9)))), (wt, .inl (k 0, 49, .inl (fun i9 : Nat => iI (vw i9)))), (wo, .inl (k 0, 49, .inl (fun i9 : Nat => iI (vo i9))))]) (tl := tl) [4, 0, 1, 2, 3] (by decide) rfl B
          have B := bd_swap (a := [(ln, .inr (2, [.int (iI nn), .ref wa, .ref ga, .ref wt, .ref wo, .int (iI (wdZ T i pw)), .int (iI (nwZ T i pw)), .int (iI (dpZ T i)), .int (iI sd), .int (iI cl), .ref bD, .ref bL, .ref bE])), (wa, .inl (k 0, 49, .inl (fun i9 : Nat => iI (va i9)))), (ga, .inl (k 0, 49, .inl (fun i9 : Nat => iI (vg i9)))), (wt, .inl (k 0, 49, .inl (fun i9 : Nat => iI (vw i9)))), (wo, .inl (k 0, 49, .inl (fun i9 : Nat => iI (vo i9))))]) (b := []) (d := tl) (bd_to rfl B)
          refine k_V (rest := []) (wc := ([(ln, .inr (2, [.int (iI nn), .ref wa, .ref ga, .ref wt, .ref wo, .int (iI (wdZ T i pw)), .int (iI (nwZ T i pw)), .int (iI (dpZ T i)), .int (iI sd), .int (iI cl), .ref bD, .ref bL, .ref bE])), (wa, .inl (k 0, 49, .inl (fun i9 : Nat => iI (va i9)))), (ga, .inl (k 0, 49, .inl (fun i9 : Nat => iI (vg i9)))), (wt, .inl (k 0, 49, .inl (fun i9 : Nat => iI (vw i9)))), (wo, .inl (k 0, 49, .inl (fun i9 : Nat => iI (vo i9))))] ++ tl)) (wr := []) (k_addWord l dC dI k ln wa ga wt wo bD bL bE nn (wdZ T i pw) (nwZ T i pw) (dpZ T i) sd cl T A X tl va vg vw vo (plP T i v dg (Int.toNat a9)) i a9 dg hT hK hi (by omega) bA bG bW bO hAq (by omega) h2) B mV_X2_addWord mw_1400 hl (q0 := 0) rfl rfl rfl ⟨Nat.le_of_ble_eq_true rfl, Nat.le_of_ble_eq_true rfl⟩ (Nat.le_of_ble_eq_true rfl) rfl dX2_takeUp_72 ⟨Nat.le_of_ble_eq_true rfl, Nat.le_of_ble_eq_true rfl⟩ (fun r w gc gs H locs hp B => ?_)
          obtain ⟨nn_18, va_19, vg_20, vw_21, vo_22, z_23, z_24, z_25, z_26, z_27, z_28, rfl, hw9, rfl, rfl⟩ := hp
          rw [hw9] at B; clear hw9
          have B := bd_to (ws' := ([(ln, .inr (2, [.int (iI nn_18), .ref wa, .ref ga, .ref wt, .ref wo, .int (iI (wdZ T i pw)), .int (iI (nwZ T i pw)), .int (iI (dpZ T i)), .int (iI sd), .int (iI cl), .ref bD, .ref bL, .ref bE])), (wa, .inl (k 0, 49, .inl (fun i9 : Nat => iI (va_19 i9)))), (ga, .inl (k 0, 49, .inl (fun i9 : Nat => iI (vg_20 i9)))), (wt, .inl (k 0, 49, .inl (fun i9 : Nat => iI (vw_21 i9)))), (wo, .inl (k 0, 49, .inl (fun i9 : Nat => iI (vo_22 i9))))] ++ tl)) rfl B
          refine lv_iinc (v := iI (a9 + 1)) (lv' := [(5, .int (iI (a9 + 1))), (6, .ref (A 4 i a9)), (0, .ref ln), (1, .ref (A 0 i 0)), (2, .int (iI v)), (3, .int (iI pw)), (4, .int (iI dg))]) hx hb dX2_takeUp_75 hl (k := 1) rfl (iI_add _ _) (by decide) rfl (fun ls hl => ?_)
          refine lv_goto (tgt := 30) hx hb dX2_takeUp_78 (by decide) ?_
          have B := bd_pick (ws' := [(wa, .inl (k 0, 49, .inl (fun i9 : Nat => iI (va_19 i9)))), (ga, .inl (k 0, 49, .inl (fun i9 : Nat => iI (vg_20 i9)))), (wt, .inl (k 0, 49, .inl (fun i9 : Nat => iI (vw_21 i9)))), (wo, .inl (k 0, 49, .inl (fun i9 : Nat => iI (vo_22 i9)))), (ln, .inr (2, [.int (iI nn_18), .ref wa, .ref ga, .ref wt, .ref wo, .int (iI (wdZ T i pw)), .int (iI (nwZ T i pw)), .int (iI (dpZ T i)), .int (iI sd), .int (iI cl), .ref bD, .ref bL, .ref bE]))]) (tl := tl) [1, 2, 3, 4, 0] (by decide) rfl B
          exact ih_7 ((a9 + 1), nn_18, va_19, vg_20, vw_21, vo_22) ⟨(show 0 ≤ (a9 + 1) ∧ (a9 + 1) ≤ T 3 i 0 0 ∧ T 3 i 0 0 ≤ 12 ∧ 0 ≤ nn_18 ∧ nn_18 ≤ 4 * (a9 + 1) ∧ 0 ≤ vw_21 nn_18 ∧ vw_21 nn_18 ≤ 36 * (a9 + 1) ∧ 0 ≤ vo_22 nn_18 ∧ vo_22 nn_18 ≤ (a9 + 1) from (by omega)), (show AgP nn_18 va_19 vg_20 vw_21 vo_22 (plP T i v dg (Int.toNat (a9 + 1))) from (by rw [plP_s (by omega), if_pos z_16]; exact z_23)), (show Bd 0 11 va_19 from z_25), (show Bd 0 5 vg_20 from z_26), (show Bd 0 2000 vw_21 from z_27), (show Bd 0 12 vo_22 from z_28)⟩ (by first | omega | (dsimp only; omega)) _ _ _ (lv_sub hl [0, 2, 3, 4, 5, 6] rfl) (bd_to rfl B)
        · skip
          rw [hw9] at B; clear hw9
          have B := bd_to (ws' := ([(wa, .inl (k 0, 49, .inl (fun i9 : Nat => iI (va i9)))), (ga, .inl (k 0, 49, .inl (fun i9 : Nat => iI (vg i9)))), (wt, .inl (k 0, 49, .inl (fun i9 : Nat => iI (vw i9)))), (wo, .inl (k 0, 49, .inl (fun i9 : Nat => iI (vo i9)))), (ln, .inr (2, [.int (iI nn), .ref wa, .ref ga, .ref wt, .ref wo, .int (iI (wdZ T i pw)), .int (iI (nwZ T i pw)), .int (iI (dpZ T i)), .int (iI sd), .int (iI cl), .ref bD, .ref bL, .ref bE]))] ++ tl)) rfl B
          refine lv_if_eq (tgt := 75) hx hb dX2_takeUp_62 (by decide) (fun _ => ?_) (fun c9 => absurd (by decide) c9)
          refine lv_iinc (v := iI (a9 + 1)) (lv' := [(5, .int (iI (a9 + 1))), (6, .ref (A 4 i a9)), (0, .ref ln), (1, .ref (A 0 i 0)), (2, .int (iI v)), (3, .int (iI pw)), (4, .int (iI dg))]) hx hb dX2_takeUp_75 hl (k := 1) rfl (iI_add _ _) (by decide) rfl (fun ls hl => ?_)
          refine lv_goto (tgt := 30) hx hb dX2_takeUp_78 (by decide) ?_
          exact ih_7 ((a9 + 1), nn, va, vg, vw, vo) ⟨(show 0 ≤ (a9 + 1) ∧ (a9 + 1) ≤ T 3 i 0 0 ∧ T 3 i 0 0 ≤ 12 ∧ 0 ≤ nn ∧ nn ≤ 4 * (a9 + 1) ∧ 0 ≤ vw nn ∧ vw nn ≤ 36 * (a9 + 1) ∧ 0 ≤ vo nn ∧ vo nn ≤ (a9 + 1) from (by omega)), (show AgP nn va vg vw vo (plP T i v dg (Int.toNat (a9 + 1))) from (by rw [plP_s (by omega), if_neg z_17]; exact hAq)), (show Bd 0 11 va from bA), (show Bd 0 5 vg from bG), (show Bd 0 2000 vw from bW), (show Bd 0 12 vo from bO)⟩ (by first | omega | (dsimp only; omega)) _ _ _ (lv_sub hl [0, 2, 3, 4, 5, 6] rfl) (bd_to rfl B)
    · skip
      rw [hw9] at B; clear hw9
      have B := bd_to (ws' := ([(wa, .inl (k 0, 49, .inl (fun i9 : Nat => iI (fa i9)))), (ga, .inl (k 0, 49, .inl (fun i9 : Nat => iI (fg i9)))), (wt, .inl (k 0, 49, .inl (fun i9 : Nat => iI (fw i9)))), (wo, .inl (k 0, 49, .inl (fun i9 : Nat => iI (fo i9)))), (ln, .inr (2, [.int (iI 0), .ref wa, .ref ga, .ref wt, .ref wo, .int (iI (wdZ T i pw)), .int (iI (nwZ T i pw)), .int (iI (dpZ T i)), .int (iI sd), .int (iI cl), .ref bD, .ref bL, .ref bE]))] ++ tl)) rfl B
      refine lv_if_ne (tgt := 27) hx hb dX2_takeUp_23 (by decide) (fun c9 => absurd c9 (by decide)) (fun _ => ?_)
      have B := bd_pick (hs := [(wa, .inl (k 0, 49, .inl (fun i9 : Nat => iI (fa i9)))), (ga, .inl (k 0, 49, .inl (fun i9 : Nat => iI (fg i9)))), (wt, .inl (k 0, 49, .inl (fun i9 : Nat => iI (fw i9)))), (wo, .inl (k 0, 49, .inl (fun i9 : Nat => iI (fo i9)))), (ln, .inr (2, [.int (iI 0), .ref wa, .ref ga, .ref wt, .ref wo, .int (iI (wdZ T i pw)), .int (iI (nwZ T i pw)), .int (iI (dpZ T i)), .int (iI sd), .int (iI cl), .ref bD, .ref bL, .ref bE]))]) (ws' := [(ln, .inr (2, [.int (iI 0), .ref wa, .ref ga, .ref wt, .ref wo, .int (iI (wdZ T i pw)), .int (iI (nwZ T i pw)), .int (iI (dpZ T i)), .int (iI sd), .int (iI cl), .ref bD, .ref bL, .ref bE])), (wa, .inl (k 0, 49, .inl (fun i9 : Nat => iI (fa i9)))), (ga, .inl (k 0, 49, .inl (fun i9 : Nat => iI (fg i9)))), (wt, .inl (k 0, 49, .inl (fun i9 : Nat => iI (fw i9)))), (wo, .inl (k 0, 49, .inl (fun i9 : Nat => iI (fo i9))))]) (tl := tl) [4, 0, 1, 2, 3] (by decide) rfl B
      exact k_vret B hr (⟨0, fa, fg, fw, fo, (by rw [show tkP T i v dg = P0 from if_neg (fun q9 => by first | exact absurd q9.1 (by assumption) | exact absurd q9.2 (by assumption))]; exact h0), (by omega), (by omega), (by omega), (by omega), (by omega), rfl, rfl, rfl, rfl⟩) ⟨Nat.le_of_ble_eq_true rfl, Nat.le_of_ble_eq_true rfl⟩ ⟨Nat.le_of_ble_eq_true rfl, Nat.le_of_ble_eq_true rfl⟩ dX2_takeUp_26
  · skip
    rw [hw9] at B; clear hw9
    have B := bd_to (ws' := ([(wa, .inl (k 0, 49, .inl (fun i9 : Nat => iI (fa i9)))), (ga, .inl (k 0, 49, .inl (fun i9 : Nat => iI (fg i9)))), (wt, .inl (k 0, 49, .inl (fun i9 : Nat => iI (fw i9)))), (wo, .inl (k 0, 49, .inl (fun i9 : Nat => iI (fo i9)))), (ln, .inr (2, [.int (iI 0), .ref wa, .ref ga, .ref wt, .ref wo, .int (iI (wdZ T i pw)), .int (iI (nwZ T i pw)), .int (iI (dpZ T i)), .int (iI sd), .int (iI cl), .ref bD, .ref bL, .ref bE]))] ++ tl)) rfl B
    refine lv_if_eq (tgt := 26) hx hb dX2_takeUp_15 (by decide) (fun _ => ?_) (fun c9 => absurd (by decide) c9)
    have B := bd_pick (hs := [(wa, .inl (k 0, 49, .inl (fun i9 : Nat => iI (fa i9)))), (ga, .inl (k 0, 49, .inl (fun i9 : Nat => iI (fg i9)))), (wt, .inl (k 0, 49, .inl (fun i9 : Nat => iI (fw i9)))), (wo, .inl (k 0, 49, .inl (fun i9 : Nat => iI (fo i9)))), (ln, .inr (2, [.int (iI 0), .ref wa, .ref ga, .ref wt, .ref wo, .int (iI (wdZ T i pw)), .int (iI (nwZ T i pw)), .int (iI (dpZ T i)), .int (iI sd), .int (iI cl), .ref bD, .ref bL, .ref bE]))]) (ws' := [(ln, .inr (2, [.int (iI 0), .ref wa, .ref ga, .ref wt, .ref wo, .int (iI (wdZ T i pw)), .int (iI (nwZ T i pw)), .int (iI (dpZ T i)), .int (iI sd), .int (iI cl), .ref bD, .ref bL, .ref bE])), (wa, .inl (k 0, 49, .inl (fun i9 : Nat => iI (fa i9)))), (ga, .inl (k 0, 49, .inl (fun i9 : Nat => iI (fg i9)))), (wt, .inl (k 0, 49, .inl (fun i9 : Nat => iI (fw i9)))), (wo, .inl (k 0, 49, .inl (fun i9 : Nat => iI (fo i9))))]) (tl := tl) [4, 0, 1, 2, 3] (by decide) rfl B
    exact k_vret B hr (⟨0, fa, fg, fw, fo, (by rw [show tkP T i v dg = P0 from if_neg (fun q9 => by first | exact absurd q9.1 (by assumption) | exact absurd q9.2 (by assumption))]; exact h0), (by omega), (by omega), (by omega), (by omega), (by omega), rfl, rfl, rfl, rfl⟩) ⟨Nat.le_of_ble_eq_true rfl, Nat.le_of_ble_eq_true rfl⟩ ⟨Nat.le_of_ble_eq_true rfl, Nat.le_of_ble_eq_true rfl⟩ dX2_takeUp_26

end
