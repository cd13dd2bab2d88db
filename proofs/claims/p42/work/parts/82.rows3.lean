section
/-- headings, terms that are there, how many terms: of the first j words of a block; of the first i blocks -/
def ctW (T : Nat → Int → Int → Int → Int) (v i : Int) (s : (Int → Int) × Int) : Nat → (Int → Int) × Int
  | 0 => s
  | j + 1 => if thW T i (j : Int) v then (ctF (ctW T v i s j).1 (T 7 i (j : Int) 3), ctN (ctW T v i s j).1 (T 7 i (j : Int) 3) (ctW T v i s j).2) else ctW T v i s j
def ctB (T : Nat → Int → Int → Int → Int) (v : Int) : Nat → Int × (Int → Int) × Int
  | 0 => (0, fun _ => 0, 0)
  | i + 1 => if thB T (i : Int) v then ((ctB T v i).1 + (if T 1 (i : Int) 0 0 = 1 then 1 else 0), ctW T v (i : Int) (ctB T v i).2 (T 3 (i : Int) 0 0).toNat) else ctB T v i
/-- how many of the first k terms are there -/
def cnF (f : Int → Int) : Nat → Int
  | 0 => 0
  | k + 1 => cnF f k + (if f (k : Int) = 0 then 0 else 1)
section CT1
variable {T : Nat → Int → Int → Int → Int} {v i q : Int} {s : (Int → Int) × Int} {f : Int → Int}
theorem ctW_s (h : 0 ≤ q) : ctW T v i s (Int.toNat (q + 1)) = if thW T i q v then (ctF (ctW T v i s (Int.toNat q)).1 (T 7 i q 3), ctN (ctW T v i s (Int.toNat q)).1 (T 7 i q 3) (ctW T v i s (Int.toNat q)).2) else ctW T v i s (Int.toNat q) := by
  rw [show Int.toNat (q + 1) = Int.toNat q + 1 by omega]
  simp only [ctW]
  rw [show ((Int.toNat q : Nat) : Int) = q by omega]
theorem ctB_s (h : 0 ≤ q) : ctB T v (Int.toNat (q + 1)) = if thB T q v then ((ctB T v (Int.toNat q)).1 + (if T 1 q 0 0 = 1 then 1 else 0), ctW T v q (ctB T v (Int.toNat q)).2 (T 3 q 0 0).toNat) else ctB T v (Int.toNat q) := by
  rw [show Int.toNat (q + 1) = Int.toNat q + 1 by omega]
  simp only [ctB]
  rw [show ((Int.toNat q : Nat) : Int) = q by omega]
theorem cnF_in : ∀ k : Nat, 0 ≤ cnF f k ∧ cnF f k ≤ k
  | 0 => by simp only [cnF]; omega
  | k + 1 => by
    have := cnF_in k
    simp only [cnF]
    split <;> omega
theorem cnF_uz {z : Int} (h : f z = 0) : ∀ k : Nat, cnF (uz f z 1) k = cnF f k + (if 0 ≤ z ∧ z < (k : Int) then 1 else 0)
  | 0 => by
    simp only [cnF]
    rw [if_neg (by omega)]
    rfl
  | k + 1 => by
    simp only [cnF]
    rw [cnF_uz h k]
    by_cases e : (k : Int) = z
    · rw [show uz f z 1 (k : Int) = 1 by rw [e]; exact uz_s, show f (k : Int) = 0 by rw [e]; exact h, if_neg (show ¬ (1 : Int) = 0 by omega), if_pos (show (0 : Int) = 0 from rfl)]
      split <;> split <;> omega
    · rw [uz_n e]
      generalize (if f (k : Int) = 0 then (0 : Int) else 1) = x
      split <;> split <;> omega
theorem ct_cn {n : Int} (hz : i = -1 ∨ (0 ≤ i ∧ i < 8)) (h : n = cnF f 8) : ctN f i n = cnF (ctF f i) 8 := by
  unfold ctN ctF
  by_cases e : i = -1
  · rw [if_pos e, if_pos e]; exact h
  · rw [if_neg e, if_neg e]
    by_cases e2 : f i = 0
    · rw [if_pos e2, if_pos e2, cnF_uz e2, if_pos (by omega), h]
    · rw [if_neg e2, if_neg e2]; exact h
theorem ct_Bd {z : Int} (h : Bd 0 1 f) : Bd 0 1 (ctF f z) := by
  unfold ctF
  split
  · exact h
  · split
    · exact Bd_uz h (by omega)
    · exact h
theorem ct_ag {g : Int → Int} {z n : Int} (hz : z = -1 ∨ (0 ≤ z ∧ z < 8)) (h : ∀ j, 0 ≤ j → j < 8 → f j = g j) : (∀ j, 0 ≤ j → j < 8 → ctF f z j = ctF g z j) ∧ ctN f z n = ctN g z n := by
  unfold ctF ctN
  by_cases e : z = -1
  · rw [if_pos e, if_pos e, if_pos e, if_pos e]; exact ⟨h, rfl⟩
  · rw [if_neg e, if_neg e, if_neg e, if_neg e, h z (by omega) (by omega)]
    by_cases e2 : g z = 0
    · simp only [if_pos e2]
      refine ⟨fun j a b => ?_, trivial⟩
      by_cases e3 : j = z
      · rw [e3, uz_s, uz_s]
      · rw [uz_n e3, uz_n e3]; exact h j a b
    · simp only [if_neg e2]; exact ⟨h, trivial⟩
end CT1

theorem mw_76 : (Jvm.Cond.fieldLink "Galleyforge$Rows" (63 : Nat) "Galleyforge$Text" "blocks" "Ljava/util/ArrayList;") ∈ gt := gt_at 146 (by decide +kernel) (by decide +kernel)
theorem mw_827 : (Jvm.Cond.fieldLink "Galleyforge$Rows" (129 : Nat) "Galleyforge$Word" "marks" "[I") ∈ gt := gt_at 897 (by decide +kernel) (by decide +kernel)
theorem mw_1182 : (Jvm.Cond.fieldLink "Galleyforge$Rows" (123 : Nat) "Galleyforge$Block" "words" "Ljava/util/ArrayList;") ∈ gt := gt_at 1252 (by decide +kernel) (by decide +kernel)
theorem mw_1470 : (Jvm.Cond.methodLink "Galleyforge$Rows" (117 : Nat) ({ cls := "Galleyforge$Rows", name := "forgetTerms", desc := "()V" } : Jvm.MethodName)) ∈ gt := gt_at 1540 (by decide +kernel) (by decide +kernel)
theorem mw_1472 : (Jvm.Cond.instanceMethod ({ cls := "Galleyforge$Rows", name := "forgetTerms", desc := "()V" } : Jvm.MethodName)) ∈ gt := gt_at 1542 (by decide +kernel) (by decide +kernel)
theorem mw_1473 : (Jvm.Cond.code ({ cls := "Galleyforge$Rows", name := "forgetTerms", desc := "()V" } : Jvm.MethodName) prog_8_method_4_code (2 : Nat) (Option.none : Option Jvm.ClassFile.FieldType)) ∈ gt := gt_at 1543 (by decide +kernel) (by decide +kernel)
theorem mw_1474 : (Jvm.Cond.methodLink "Galleyforge$Rows" (68 : Nat) ({ cls := "java/util/ArrayList", name := "size", desc := "()I" } : Jvm.MethodName)) ∈ gt := gt_at 1544 (by decide +kernel) (by decide +kernel)
theorem mw_1475 : (Jvm.Cond.methodLink "Galleyforge$Rows" (74 : Nat) ({ cls := "java/util/ArrayList", name := "get", desc := "(I)Ljava/lang/Object;" } : Jvm.MethodName)) ∈ gt := gt_at 1545 (by decide +kernel) (by decide +kernel)
theorem mw_1476 : (Jvm.Cond.classLink "Galleyforge$Rows" (78 : Nat) "Galleyforge$Block") ∈ gt := gt_at 1546 (by decide +kernel) (by decide +kernel)
theorem mw_1477 : (Jvm.Cond.methodLink "Galleyforge$Rows" (93 : Nat) ({ cls := "Galleyforge$Block", name := "isThere", desc := "(I)Z" } : Jvm.MethodName)) ∈ gt := gt_at 1547 (by decide +kernel) (by decide +kernel)
theorem mw_1478 : (Jvm.Cond.classLink "Galleyforge$Rows" (126 : Nat) "Galleyforge$Word") ∈ gt := gt_at 1548 (by decide +kernel) (by decide +kernel)
theorem mw_1479 : (Jvm.Cond.methodLink "Galleyforge$Rows" (128 : Nat) ({ cls := "Galleyforge$Word", name := "isThere", desc := "(I)Z" } : Jvm.MethodName)) ∈ gt := gt_at 1549 (by decide +kernel) (by decide +kernel)
theorem mw_1480 : (Jvm.Cond.methodLink "Galleyforge$Rows" (132 : Nat) ({ cls := "Galleyforge$Rows", name := "countTerm", desc := "(I)V" } : Jvm.MethodName)) ∈ gt := gt_at 1550 (by decide +kernel) (by decide +kernel)
theorem mw_1482 : (Jvm.Cond.instanceMethod ({ cls := "Galleyforge$Rows", name := "countTerm", desc := "(I)V" } : Jvm.MethodName)) ∈ gt := gt_at 1552 (by decide +kernel) (by decide +kernel)
theorem mw_1483 : (Jvm.Cond.code ({ cls := "Galleyforge$Rows", name := "countTerm", desc := "(I)V" } : Jvm.MethodName) prog_8_method_5_code (2 : Nat) (Option.none : Option Jvm.ClassFile.FieldType)) ∈ gt := gt_at 1553 (by decide +kernel) (by decide +kernel)
theorem ms_34 : Cond.selects "Galleyforge$Rows" (⟨"Galleyforge$Rows", "countTerm", "(I)V"⟩ : MethodName) (⟨"Galleyforge$Rows", "countTerm", "(I)V"⟩ : MethodName) ∈ gt := gt_at 34 (by decide +kernel) (by decide +kernel)
theorem mV_X6_countTerm : mV yX6_countTerm cX6_countTerm 2 none 1 := ⟨⟨mw_1483, mw_9, by decide, by decide, by decide +kernel⟩, mw_1482, ms_34⟩
theorem ms_33 : Cond.selects "Galleyforge$Rows" (⟨"Galleyforge$Rows", "forgetTerms", "()V"⟩ : MethodName) (⟨"Galleyforge$Rows", "forgetTerms", "()V"⟩ : MethodName) ∈ gt := gt_at 33 (by decide +kernel) (by decide +kernel)
theorem mV_X6_forgetTerms : mV yX6_forgetTerms cX6_forgetTerms 2 none 0 := ⟨⟨mw_1473, mw_9, by decide, by decide, by decide +kernel⟩, mw_1472, ms_33⟩
theorem dX6_countHeadingsAndTerms_0 : decode cX6_countHeadingsAndTerms 0 = .ok (.aload_n 0, 1) := by decide +kernel
theorem dX6_countHeadingsAndTerms_1 : decode cX6_countHeadingsAndTerms 1 = .ok (.iconst 0, 1) := by decide +kernel
theorem dX6_countHeadingsAndTerms_2 : decode cX6_countHeadingsAndTerms 2 = .ok (.putfield 111, 3) := by decide +kernel
theorem dX6_countHeadingsAndTerms_5 : decode cX6_countHeadingsAndTerms 5 = .ok (.aload_n 0, 1) := by decide +kernel
theorem dX6_countHeadingsAndTerms_6 : decode cX6_countHeadingsAndTerms 6 = .ok (.iconst 0, 1) := by decide +kernel
theorem dX6_countHeadingsAndTerms_7 : decode cX6_countHeadingsAndTerms 7 = .ok (.putfield 114, 3) := by decide +kernel
theorem dX6_countHeadingsAndTerms_10 : decode cX6_countHeadingsAndTerms 10 = .ok (.aload_n 0, 1) := by decide +kernel
theorem dX6_countHeadingsAndTerms_11 : decode cX6_countHeadingsAndTerms 11 = .ok (.invokevirtual 117, 3) := by decide +kernel
theorem dX6_countHeadingsAndTerms_14 : decode cX6_countHeadingsAndTerms 14 = .ok (.iconst 0, 1) := by decide +kernel
theorem dX6_countHeadingsAndTerms_15 : decode cX6_countHeadingsAndTerms 15 = .ok (.istore_n 3, 1) := by decide +kernel
theorem dX6_countHeadingsAndTerms_16 : decode cX6_countHeadingsAndTerms 16 = .ok (.iload_n 3, 1) := by decide +kernel
theorem dX6_countHeadingsAndTerms_17 : decode cX6_countHeadingsAndTerms 17 = .ok (.aload_n 1, 1) := by decide +kernel
theorem dX6_countHeadingsAndTerms_18 : decode cX6_countHeadingsAndTerms 18 = .ok (.getfield 63, 3) := by decide +kernel
theorem dX6_countHeadingsAndTerms_21 : decode cX6_countHeadingsAndTerms 21 = .ok (.invokevirtual 68, 3) := by decide +kernel
theorem dX6_countHeadingsAndTerms_24 : decode cX6_countHeadingsAndTerms 24 = .ok (.if_icmp .ge 114, 3) := by decide +kernel
theorem dX6_countHeadingsAndTerms_27 : decode cX6_countHeadingsAndTerms 27 = .ok (.aload_n 1, 1) := by decide +kernel
theorem dX6_countHeadingsAndTerms_28 : decode cX6_countHeadingsAndTerms 28 = .ok (.getfield 63, 3) := by decide +kernel
theorem dX6_countHeadingsAndTerms_31 : decode cX6_countHeadingsAndTerms 31 = .ok (.iload_n 3, 1) := by decide +kernel
theorem dX6_countHeadingsAndTerms_32 : decode cX6_countHeadingsAndTerms 32 = .ok (.invokevirtual 74, 3) := by decide +kernel
theorem dX6_countHeadingsAndTerms_35 : decode cX6_countHeadingsAndTerms 35 = .ok (.checkcast 78, 3) := by decide +kernel
theorem dX6_countHeadingsAndTerms_38 : decode cX6_countHeadingsAndTerms 38 = .ok (.astore 4, 2) := by decide +kernel
theorem dX6_countHeadingsAndTerms_40 : decode cX6_countHeadingsAndTerms 40 = .ok (.aload 4, 2) := by decide +kernel
theorem dX6_countHeadingsAndTerms_42 : decode cX6_countHeadingsAndTerms 42 = .ok (.iload_n 2, 1) := by decide +kernel
theorem dX6_countHeadingsAndTerms_43 : decode cX6_countHeadingsAndTerms 43 = .ok (.invokevirtual 93, 3) := by decide +kernel
theorem dX6_countHeadingsAndTerms_46 : decode cX6_countHeadingsAndTerms 46 = .ok (.ifCond .ne 6, 3) := by decide +kernel
theorem dX6_countHeadingsAndTerms_49 : decode cX6_countHeadingsAndTerms 49 = .ok (.goto 83, 3) := by decide +kernel
theorem dX6_countHeadingsAndTerms_52 : decode cX6_countHeadingsAndTerms 52 = .ok (.aload_n 0, 1) := by decide +kernel
theorem dX6_countHeadingsAndTerms_53 : decode cX6_countHeadingsAndTerms 53 = .ok (.dup, 1) := by decide +kernel
theorem dX6_countHeadingsAndTerms_54 : decode cX6_countHeadingsAndTerms 54 = .ok (.getfield 111, 3) := by decide +kernel
theorem dX6_countHeadingsAndTerms_57 : decode cX6_countHeadingsAndTerms 57 = .ok (.aload 4, 2) := by decide +kernel
theorem dX6_countHeadingsAndTerms_59 : decode cX6_countHeadingsAndTerms 59 = .ok (.getfield 120, 3) := by decide +kernel
theorem dX6_countHeadingsAndTerms_62 : decode cX6_countHeadingsAndTerms 62 = .ok (.iconst 1, 1) := by decide +kernel
theorem dX6_countHeadingsAndTerms_63 : decode cX6_countHeadingsAndTerms 63 = .ok (.if_icmp .ne 7, 3) := by decide +kernel
theorem dX6_countHeadingsAndTerms_66 : decode cX6_countHeadingsAndTerms 66 = .ok (.iconst 1, 1) := by decide +kernel
theorem dX6_countHeadingsAndTerms_67 : decode cX6_countHeadingsAndTerms 67 = .ok (.goto 4, 3) := by decide +kernel
theorem dX6_countHeadingsAndTerms_70 : decode cX6_countHeadingsAndTerms 70 = .ok (.iconst 0, 1) := by decide +kernel
theorem dX6_countHeadingsAndTerms_71 : decode cX6_countHeadingsAndTerms 71 = .ok (.iadd, 1) := by decide +kernel
theorem dX6_countHeadingsAndTerms_72 : decode cX6_countHeadingsAndTerms 72 = .ok (.putfield 111, 3) := by decide +kernel
theorem dX6_countHeadingsAndTerms_75 : decode cX6_countHeadingsAndTerms 75 = .ok (.iconst 0, 1) := by decide +kernel
theorem dX6_countHeadingsAndTerms_76 : decode cX6_countHeadingsAndTerms 76 = .ok (.istore 5, 2) := by decide +kernel
theorem dX6_countHeadingsAndTerms_78 : decode cX6_countHeadingsAndTerms 78 = .ok (.iload 5, 2) := by decide +kernel
theorem dX6_countHeadingsAndTerms_80 : decode cX6_countHeadingsAndTerms 80 = .ok (.aload 4, 2) := by decide +kernel
theorem dX6_countHeadingsAndTerms_82 : decode cX6_countHeadingsAndTerms 82 = .ok (.getfield 123, 3) := by decide +kernel
theorem dX6_countHeadingsAndTerms_85 : decode cX6_countHeadingsAndTerms 85 = .ok (.invokevirtual 68, 3) := by decide +kernel
theorem dX6_countHeadingsAndTerms_88 : decode cX6_countHeadingsAndTerms 88 = .ok (.if_icmp .ge 44, 3) := by decide +kernel
theorem dX6_countHeadingsAndTerms_91 : decode cX6_countHeadingsAndTerms 91 = .ok (.aload 4, 2) := by decide +kernel
theorem dX6_countHeadingsAndTerms_93 : decode cX6_countHeadingsAndTerms 93 = .ok (.getfield 123, 3) := by decide +kernel
theorem dX6_countHeadingsAndTerms_96 : decode cX6_countHeadingsAndTerms 96 = .ok (.iload 5, 2) := by decide +kernel
theorem dX6_countHeadingsAndTerms_98 : decode cX6_countHeadingsAndTerms 98 = .ok (.invokevirtual 74, 3) := by decide +kernel
theorem dX6_countHeadingsAndTerms_101 : decode cX6_countHeadingsAndTerms 101 = .ok (.checkcast 126, 3) := by decide +kernel
theorem dX6_countHeadingsAndTerms_104 : decode cX6_countHeadingsAndTerms 104 = .ok (.astore 6, 2) := by decide +kernel
theorem dX6_countHeadingsAndTerms_106 : decode cX6_countHeadingsAndTerms 106 = .ok (.aload 6, 2) := by decide +kernel
theorem dX6_countHeadingsAndTerms_108 : decode cX6_countHeadingsAndTerms 108 = .ok (.iload_n 2, 1) := by decide +kernel
theorem dX6_countHeadingsAndTerms_109 : decode cX6_countHeadingsAndTerms 109 = .ok (.invokevirtual 128, 3) := by decide +kernel
theorem dX6_countHeadingsAndTerms_112 : decode cX6_countHeadingsAndTerms 112 = .ok (.ifCond .eq 14, 3) := by decide +kernel
theorem dX6_countHeadingsAndTerms_115 : decode cX6_countHeadingsAndTerms 115 = .ok (.aload_n 0, 1) := by decide +kernel
theorem dX6_countHeadingsAndTerms_116 : decode cX6_countHeadingsAndTerms 116 = .ok (.aload 6, 2) := by decide +kernel
theorem dX6_countHeadingsAndTerms_118 : decode cX6_countHeadingsAndTerms 118 = .ok (.getfield 129, 3) := by decide +kernel
theorem dX6_countHeadingsAndTerms_121 : decode cX6_countHeadingsAndTerms 121 = .ok (.iconst 3, 1) := by decide +kernel
theorem dX6_countHeadingsAndTerms_122 : decode cX6_countHeadingsAndTerms 122 = .ok (.iaload, 1) := by decide +kernel
theorem dX6_countHeadingsAndTerms_123 : decode cX6_countHeadingsAndTerms 123 = .ok (.invokevirtual 132, 3) := by decide +kernel
theorem dX6_countHeadingsAndTerms_126 : decode cX6_countHeadingsAndTerms 126 = .ok (.iinc 5 1, 3) := by decide +kernel
theorem dX6_countHeadingsAndTerms_129 : decode cX6_countHeadingsAndTerms 129 = .ok (.goto (-51), 3) := by decide +kernel
theorem dX6_countHeadingsAndTerms_132 : decode cX6_countHeadingsAndTerms 132 = .ok (.iinc 3 1, 3) := by decide +kernel
theorem dX6_countHeadingsAndTerms_135 : decode cX6_countHeadingsAndTerms 135 = .ok (.goto (-119), 3) := by decide +kernel
theorem dX6_countHeadingsAndTerms_138 : decode cX6_countHeadingsAndTerms 138 = .ok (.return_, 1) := by decide +kernel
set_option maxHeartbeats 4000000 in
set_option maxRecDepth 100000 in
theorem k_countHT (l : Launch) (dC : Nat → ClassId) (dI : Nat → Nat → Nat) (k : Nat → ClassId) (rw : Nat) (w1 : Nat) (w2 : Nat) (w3 : Nat) (w4 : Nat) (w5 : Nat) (w6 : Nat) (w7 : Nat) (w8 : Nat) (w9 : Nat) (w10 : Nat) (w11 : Nat) (w14 : Nat) (w15 : Nat) (w16 : Nat) (n : Int) (hn : Int) (tn : Int) (fn : Int) (v11 : Int → Int) (T : Nat → Int → Int → Int → Int) (A : Nat → Int → Int → Nat) (X : Nat → Int → Int → Int) (tl : va_W) (v : Int) (hT : TI dI k T A X tl) (hK : TK T) (hv11 : Bd 0 1 v11) (hv : 0 ≤ v ∧ v ≤ 1) : Kn l dC dI k yX6_countHeadingsAndTerms (.code yX6_countHeadingsAndTerms cX6_countHeadingsAndTerms 7 none) ({ frames := 3, cells := 0, slots := 0, locals := 64 } : Room) [.ref rw, .ref (A 50 0 0), .int (iI v)] ([(rw, .inr (6, [.int (iI n), .ref w1, .ref w2, .ref w3, .ref w4, .ref w5, .ref w6, .ref w7, .ref w8, .ref w9, .ref w10, .ref w11, .int (iI hn), .int (iI tn), .ref w14, .ref w15, .ref w16, .int (iI fn)])), (w11, .inl (k 1, 8, .inl (fun i9 : Nat => iI (v11 i9))))] ++ tl) (fun r w gc gs => (∃ (hn2 : Int) (tn2 : Int) (u2 : Int → Int), (hn2 = (ctB T v (Int.toNat (T 0 0 0 0))).1 ∧ tn2 = (ctB T v (Int.toNat (T 0 0 0 0))).2.2) ∧ (∀ j, 0 ≤ j → j < 8 → u2 j = (ctB T v (Int.toNat (T 0 0 0 0))).2.1 j) ∧ (0 ≤ hn2 ∧ hn2 ≤ 16 ∧ 0 ≤ tn2 ∧ tn2 ≤ 8) ∧ (Bd 0 1 u2) ∧ r = none ∧ w = ([(rw, .inr (6, [.int (iI n), .ref w1, .ref w2, .ref w3, .ref w4, .ref w5, .ref w6, .ref w7, .ref w8, .ref w9, .ref w10, .ref w11, .int (iI hn2), .int (iI tn2), .ref w14, .ref w15, .ref w16, .int (iI fn)])), (w11, .inl (k 1, 8, .inl (fun i9 : Nat => iI (u2 i9))))] ++ tl) ∧ gc = 0 ∧ gs = 0)) := by
  refine kn_of (by decide) (Nat.le_of_ble_eq_true rfl) ?_
  intro p e s m args below meth c H locs B hr hnm ls hl
  have hx := B.1.1
  have hb := B.1.2.1
  have hl : lv_has ls 7 [(0, .ref rw), (1, .ref (A 50 0 0)), (2, .int (iI v))] := hl
  refine lv_aload_n hx hb dX6_countHeadingsAndTerms_0 rfl (lv_at hl 0 rfl) ?_
  refine lv_iconst (v := iI 0) hx hb dX6_countHeadingsAndTerms_1 (by decide) ?_
  refine x_put (ci := 6) (C := RX6) (T := TX6) (N := 18) (ty := .int) (v := .int (iI 0)) B tyX6_ok nmX6 0 rfl rfl in_X6 12 (by decide) mw_252 (fun _ h9 => h9) rfl (by decide +kernel) rfl rfl (Nat.le_of_ble_eq_true rfl) dX6_countHeadingsAndTerms_2 (fun H locs B => ?_)
  have B := bd_to (ws' := ([(rw, .inr (6, [.int (iI n), .ref w1, .ref w2, .ref w3, .ref w4, .ref w5, .ref w6, .ref w7, .ref w8, .ref w9, .ref w10, .ref w11, .int (iI 0), .int (iI tn), .ref w14, .ref w15, .ref w16, .int (iI fn)])), (w11, .inl (k 1, 8, .inl (fun i9 : Nat => iI (v11 i9))))] ++ tl)) rfl B
  refine lv_aload_n hx hb dX6_countHeadingsAndTerms_5 rfl (lv_at hl 0 rfl) ?_
  refine lv_iconst (v := iI 0) hx hb dX6_countHeadingsAndTerms_6 (by decide) ?_
  refine x_put (ci := 6) (C := RX6) (T := TX6) (N := 18) (ty := .int) (v := .int (iI 0)) B tyX6_ok nmX6 0 rfl rfl in_X6 13 (by decide) mw_253 (fun _ h9 => h9) rfl (by decide +kernel) rfl rfl (Nat.le_of_ble_eq_true rfl) dX6_countHeadingsAndTerms_7 (fun H locs B => ?_)
  have B := bd_to (ws' := ([(rw, .inr (6, [.int (iI n), .ref w1, .ref w2, .ref w3, .ref w4, .ref w5, .ref w6, .ref w7, .ref w8, .ref w9, .ref w10, .ref w11, .int (iI 0), .int (iI 0), .ref w14, .ref w15, .ref w16, .int (iI fn)])), (w11, .inl (k 1, 8, .inl (fun i9 : Nat => iI (v11 i9))))] ++ tl)) rfl B
  refine lv_aload_n hx hb dX6_countHeadingsAndTerms_10 rfl (lv_at hl 0 rfl) ?_
  have B := bd_to (ws' := [(rw, .inr (6, [.int (iI n), .ref w1, .ref w2, .ref w3, .ref w4, .ref w5, .ref w6, .ref w7, .ref w8, .ref w9, .ref w10, .ref w11, .int (iI 0), .int (iI 0), .ref w14, .ref w15, .ref w16, .int (iI fn)])), (w11, .inl (k 1, 8, .inl (fun i9 : Nat => iI (v11 i9))))] ++ ([] ++ tl)) rfl B
  refine k_V (rest := []) (wc := [(rw, .inr (6, [.int (iI n), .ref w1, .ref w2, .ref w3, .ref w4, .ref w5, .ref w6, .ref w7, .ref w8, .ref w9, .ref w10, .ref w11, .int (iI 0), .int (iI 0), .ref w14, .ref w15, .ref w16, .int (iI fn)])), (w11, .inl (k 1, 8, .inl (fun i9 : Nat => iI (v11 i9))))]) (wr := ([] ++ tl)) (k_forgetTerms l dC dI k rw w1 w2 w3 w4 w5 w6 w7 w8 w9 w10 w11 w14 w15 w16 n 0 0 fn v11 hv11) B mV_X6_forgetTerms mw_1470 hl (q0 := 0) rfl rfl rfl ⟨Nat.le_of_ble_eq_true rfl, Nat.le_of_ble_eq_true rfl⟩ (Nat.le_of_ble_eq_true rfl) rfl dX6_countHeadingsAndTerms_11 ⟨Nat.le_of_ble_eq_true rfl, Nat.le_of_ble_eq_true rfl⟩ (fun r w gc gs H locs hp B => ?_)
  obtain ⟨rfl, hw9, rfl, rfl⟩ := hp
  rw [hw9] at B; clear hw9
  have B := bd_swap (a := []) (b := tl) (d := [(rw, .inr (6, [.int (iI n), .ref w1, .ref w2, .ref w3, .ref w4, .ref w5, .ref w6, .ref w7, .ref w8, .ref w9, .ref w10, .ref w11, .int (iI 0), .int (iI 0), .ref w14, .ref w15, .ref w16, .int (iI fn)])), (w11, .inl (k 1, 8, .inl (fun i9 : Nat => iI ((fil v11 0 8 0) i9))))]) B
  have B := bd_to (ws' := ([(rw, .inr (6, [.int (iI n), .ref w1, .ref w2, .ref w3, .ref w4, .ref w5, .ref w6, .ref w7, .ref w8, .ref w9, .ref w10, .ref w11, .int (iI 0), .int (iI 0), .ref w14, .ref w15, .ref w16, .int (iI fn)])), (w11, .inl (k 1, 8, .inl (fun i9 : Nat => iI ((fil v11 0 8 0) i9))))] ++ tl)) rfl B
  refine lv_iconst (v := iI 0) hx hb dX6_countHeadingsAndTerms_14 (by decide) ?_
  refine lv_istore_n (lv' := [(3, .int (iI 0)), (0, .ref rw), (1, .ref (A 50 0 0)), (2, .int (iI v))]) hx hb dX6_countHeadingsAndTerms_15 rfl hl (by decide) rfl (fun ls hl => ?_)
  refine k_loop (σ := Int × Int × Int × (Int → Int)) B (fun g9 : Int × Int × Int × (Int → Int) => (0 ≤ g9.1 ∧ g9.1 ≤ T 0 0 0 0 ∧ T 0 0 0 0 ≤ 16 ∧ 0 ≤ g9.2.1 ∧ g9.2.1 ≤ g9.1) ∧ (g9.2.1 = (ctB T v (Int.toNat g9.1)).1 ∧ g9.2.2.1 = (ctB T v (Int.toNat g9.1)).2.2 ∧ ∀ j, 0 ≤ j → j < 8 → g9.2.2.2 j = (ctB T v (Int.toNat g9.1)).2.1 j) ∧ (Bd 0 1 g9.2.2.2) ∧ (g9.2.2.1 = cnF g9.2.2.2 8)) (fun g9 : Int × Int × Int × (Int → Int) => (T 0 0 0 0 - g9.1).toNat) (fun g9 : Int × Int × Int × (Int → Int) => [(3, .int (iI g9.1)), (0, .ref rw), (1, .ref (A 50 0 0)), (2, .int (iI v))]) (fun g9 : Int × Int × Int × (Int → Int) => ([(rw, .inr (6, [.int (iI n), .ref w1, .ref w2, .ref w3, .ref w4, .ref w5, .ref w6, .ref w7, .ref w8, .ref w9, .ref w10, .ref w11, .int (iI g9.2.1), .int (iI g9.2.2.1), .ref w14, .ref w15, .ref w16, .int (iI fn)])), (w11, .inl (k 1, 8, .inl (fun i9 : Nat => iI (g9.2.2.2 i9))))] ++ tl)) ?_ (0, 0, 0, (fil v11 0 8 0)) ⟨(show 0 ≤ 0 ∧ 0 ≤ T 0 0 0 0 ∧ T 0 0 0 0 ≤ 16 ∧ 0 ≤ 0 ∧ 0 ≤ 0 from (by have q9 := TK_nb hK; omega)), (show 0 = (ctB T v (Int.toNat 0)).1 ∧ 0 = (ctB T v (Int.toNat 0)).2.2 ∧ ∀ j, 0 ≤ j → j < 8 → (fil v11 0 8 0) j = (ctB T v (Int.toNat 0)).2.1 j from ⟨rfl, rfl, fun j a9 b9 => fil_in (by omega)⟩), (show Bd 0 1 (fil v11 0 8 0) from (fil_Bd hv11 (by omega))), (show 0 = cnF (fil v11 0 8 0) 8 from (by have e9 : cnF (fil v11 0 8 0) 8 = 0 := (by simp only [cnF, fil]; rfl); rw [e9]))⟩ ls H locs (lv_sub hl [0, 1, 2, 3] rfl) (bd_to rfl B)
  clear hl B
  rintro ⟨pq, h9_, t9_, u11⟩ ⟨hk, hct, hv11, hcn⟩ ih_1 ls H locs hl B
  have hk : 0 ≤ pq ∧ pq ≤ T 0 0 0 0 ∧ T 0 0 0 0 ≤ 16 ∧ 0 ≤ h9_ ∧ h9_ ≤ pq := hk
  have hct : h9_ = (ctB T v (Int.toNat pq)).1 ∧ t9_ = (ctB T v (Int.toNat pq)).2.2 ∧ ∀ j, 0 ≤ j → j < 8 → u11 j = (ctB T v (Int.toNat pq)).2.1 j := hct
  have hv11 : Bd 0 1 u11 := hv11
  have hcn : t9_ = cnF u11 8 := hcn
  have hl : lv_has ls 7 [(3, .int (iI pq)), (0, .ref rw), (1, .ref (A 50 0 0)), (2, .int (iI v))] := hl
  have B := bd_to (ws' := ([(rw, .inr (6, [.int (iI n), .ref w1, .ref w2, .ref w3, .ref w4, .ref w5, .ref w6, .ref w7, .ref w8, .ref w9, .ref w10, .ref w11, .int (iI h9_), .int (iI t9_), .ref w14, .ref w15, .ref w16, .int (iI fn)])), (w11, .inl (k 1, 8, .inl (fun i9 : Nat => iI (u11 i9))))] ++ tl)) rfl B
  refine lv_iload_n hx hb dX6_countHeadingsAndTerms_16 rfl (lv_at hl 0 rfl) ?_
  refine lv_aload_n hx hb dX6_countHeadingsAndTerms_17 rfl (lv_at hl 2 rfl) ?_
  obtain ⟨k_2, hk_2⟩ := pk_at (hs := [(rw, .inr (6, [.int (iI n), .ref w1, .ref w2, .ref w3, .ref w4, .ref w5, .ref w6, .ref w7, .ref w8, .ref w9, .ref w10, .ref w11, .int (iI h9_), .int (iI t9_), .ref w14, .ref w15, .ref w16, .int (iI fn)])), (w11, .inl (k 1, 8, .inl (fun i9 : Nat => iI (u11 i9))))]) hT.1.1
  refine x_get (ci := 9) (C := RX9) (T := TX9) (N := 8) (v := .ref (A 51 0 0)) B k_2 hk_2 rfl in_X9 0 (by decide) mw_76 (fun _ h9 => h9) rfl dX6_countHeadingsAndTerms_18 ?_
  have B := bd_swap (a := []) (b := [(rw, .inr (6, [.int (iI n), .ref w1, .ref w2, .ref w3, .ref w4, .ref w5, .ref w6, .ref w7, .ref w8, .ref w9, .ref w10, .ref w11, .int (iI h9_), .int (iI t9_), .ref w14, .ref w15, .ref w16, .int (iI fn)])), (w11, .inl (k 1, 8, .inl (fun i9 : Nat => iI (u11 i9))))]) (d := tl) (bd_to rfl B)
  obtain ⟨k_3, fk_3, hk_3⟩ := LI_at (hs := []) hT.2.1
  refine k_V (rest := [.int (iI pq)]) (wc := ([] ++ tl)) (wr := [(rw, .inr (6, [.int (iI n), .ref w1, .ref w2, .ref w3, .ref w4, .ref w5, .ref w6, .ref w7, .ref w8, .ref w9, .ref w10, .ref w11, .int (iI h9_), .int (iI t9_), .ref w14, .ref w15, .ref w16, .int (iI fn)])), (w11, .inl (k 1, 8, .inl (fun i9 : Nat => iI (u11 i9))))]) (k_sizeB l dC dI k T A X tl hT hK) B mV_Jx4a65c_size_8abf5 mw_1474 hl (q0 := k_3) (ci := 12) hk_3 rfl rfl ⟨Nat.le_of_ble_eq_true rfl, Nat.le_of_ble_eq_true rfl⟩ (Nat.le_of_ble_eq_true rfl) rfl dX6_countHeadingsAndTerms_21 ⟨Nat.le_of_ble_eq_true rfl, Nat.le_of_ble_eq_true rfl⟩ (fun r w gc gs H locs hp B => ?_)
  obtain ⟨z_4, rfl, hw9, rfl, rfl⟩ := hp
  rw [hw9] at B; clear hw9
  have B := bd_to (ws' := ([(rw, .inr (6, [.int (iI n), .ref w1, .ref w2, .ref w3, .ref w4, .ref w5, .ref w6, .ref w7, .ref w8, .ref w9, .ref w10, .ref w11, .int (iI h9_), .int (iI t9_), .ref w14, .ref w15, .ref w16, .int (iI fn)])), (w11, .inl (k 1, 8, .inl (fun i9 : Nat => iI (u11 i9))))] ++ tl)) rfl B
  refine lv_icmp_ge (tgt := 138) hx hb dX6_countHeadingsAndTerms_24 (by decide) (fun c_5 => ?_) (fun c_5 => ?_)
  · have zc_5 : (T 0 0 0 0) ≤ pq := jle (a := (T 0 0 0 0)) (b := pq) (by omega) (by omega) c_5
    exact k_vret B hr (⟨h9_, t9_, u11, (by rw [show T 0 0 0 0 = pq by omega]; exact ⟨hct.1, hct.2.1⟩), (by rw [show T 0 0 0 0 = pq by omega]; exact hct.2.2), (by have q9 := cnF_in (f := u11) 8; omega), hv11, rfl, rfl, rfl, rfl⟩) ⟨Nat.le_of_ble_eq_true rfl, Nat.le_of_ble_eq_true rfl⟩ ⟨Nat.le_of_ble_eq_true rfl, Nat.le_of_ble_eq_true rfl⟩ dX6_countHeadingsAndTerms_138
  · have zc_5 : pq < (T 0 0 0 0) := jnle (a := (T 0 0 0 0)) (b := pq) (by omega) (by omega) c_5
    refine lv_aload_n hx hb dX6_countHeadingsAndTerms_27 rfl (lv_at hl 2 rfl) ?_
    obtain ⟨k_6, hk_6⟩ := pk_at (hs := [(rw, .inr (6, [.int (iI n), .ref w1, .ref w2, .ref w3, .ref w4, .ref w5, .ref w6, .ref w7, .ref w8, .ref w9, .ref w10, .ref w11, .int (iI h9_), .int (iI t9_), .ref w14, .ref w15, .ref w16, .int (iI fn)])), (w11, .inl (k 1, 8, .inl (fun i9 : Nat => iI (u11 i9))))]) hT.1.1
    refine x_get (ci := 9) (C := RX9) (T := TX9) (N := 8) (v := .ref (A 51 0 0)) B k_6 hk_6 rfl in_X9 0 (by decide) mw_76 (fun _ h9 => h9) rfl dX6_countHeadingsAndTerms_28 ?_
    refine lv_iload_n hx hb dX6_countHeadingsAndTerms_31 rfl (lv_at hl 0 rfl) ?_
    have B := bd_swap (a := []) (b := [(rw, .inr (6, [.int (iI n), .ref w1, .ref w2, .ref w3, .ref w4, .ref w5, .ref w6, .ref w7, .ref w8, .ref w9, .ref w10, .ref w11, .int (iI h9_), .int (iI t9_), .ref w14, .ref w15, .ref w16, .int (iI fn)])), (w11, .inl (k 1, 8, .inl (fun i9 : Nat => iI (u11 i9))))]) (d := tl) (bd_to rfl B)
    obtain ⟨k_7, fk_7, hk_7⟩ := LI_at (hs := []) hT.2.1
    refine k_V (rest := []) (wc := ([] ++ tl)) (wr := [(rw, .inr (6, [.int (iI n), .ref w1, .ref w2, .ref w3, .ref w4, .ref w5, .ref w6, .ref w7, .ref w8, .ref w9, .ref w10, .ref w11, .int (iI h9_), .int (iI t9_), .ref w14, .ref w15, .ref w16, .int (iI fn)])), (w11, .inl (k 1, 8, .inl (fun i9 : Nat => iI (u11 i9))))]) (k_getB l dC dI k T A X tl pq hT hK (by omega)) B mV_Jx4a65c_get_915e3 mw_1475 hl (q0 := k_7) (ci := 12) hk_7 rfl rfl ⟨Nat.le_of_ble_eq_true rfl, Nat.le_of_ble_eq_true rfl⟩ (Nat.le_of_ble_eq_true rfl) rfl dX6_countHeadingsAndTerms_32 ⟨Nat.le_of_ble_eq_true rfl, Nat.le_of_ble_eq_true rfl⟩ (fun r w gc gs H locs hp B => ?_)
    obtain ⟨rfl, hw9, rfl, rfl⟩ := hp
    rw [hw9] at B; clear hw9
    have B := bd_to (ws' := ([(rw, .inr (6, [.int (iI n), .ref w1, .ref w2, .ref w3, .ref w4, .ref w5, .ref w6, .ref w7, .ref w8, .ref w9, .ref w10, .ref w11, .int (iI h9_), .int (iI t9_), .ref w14, .ref w15, .ref w16, .int (iI fn)])), (w11, .inl (k 1, 8, .inl (fun i9 : Nat => iI (u11 i9))))] ++ tl)) rfl B
    obtain ⟨k_8, hk_8⟩ := pk_at (hs := [(rw, .inr (6, [.int (iI n), .ref w1, .ref w2, .ref w3, .ref w4, .ref w5, .ref w6, .ref w7, .ref w8, .ref w9, .ref w10, .ref w11, .int (iI h9_), .int (iI t9_), .ref w14, .ref w15, .ref w16, .int (iI fn)])), (w11, .inl (k 1, 8, .inl (fun i9 : Nat => iI (u11 i9))))]) (hT.2.2.2.1 pq (by omega) (by omega)).1
    refine x_cast (ci := 0) (C := RX0) (T := TX0) (N := 4) B k_8 hk_8 rfl mw_1476 dX6_countHeadingsAndTerms_35 ?_
    refine lv_astore (lv' := [(4, .ref (A 0 pq 0)), (3, .int (iI pq)), (0, .ref rw), (1, .ref (A 50 0 0)), (2, .int (iI v))]) hx hb dX6_countHeadingsAndTerms_38 hl (by decide) rfl (fun ls hl => ?_)
    refine lv_aload hx hb dX6_countHeadingsAndTerms_40 (lv_at hl 0 rfl) ?_
    refine lv_iload_n hx hb dX6_countHeadingsAndTerms_42 rfl (lv_at hl 4 rfl) ?_
    have B := bd_swap (a := []) (b := [(rw, .inr (6, [.int (iI n), .ref w1, .ref w2, .ref w3, .ref w4, .ref w5, .ref w6, .ref w7, .ref w8, .ref w9, .ref w10, .ref w11, .int (iI h9_), .int (iI t9_), .ref w14, .ref w15, .ref w16, .int (iI fn)])), (w11, .inl (k 1, 8, .inl (fun i9 : Nat => iI (u11 i9))))]) (d := tl) (bd_to rfl B)
    obtain ⟨k_9, hk_9⟩ := pk_at (hs := []) (hT.2.2.2.1 pq (by omega) (by omega)).1
    refine k_V (rest := []) (wc := ([] ++ tl)) (wr := [(rw, .inr (6, [.int (iI n), .ref w1, .ref w2, .ref w3, .ref w4, .ref w5, .ref w6, .ref w7, .ref w8, .ref w9, .ref w10, .ref w11, .int (iI h9_), .int (iI t9_), .ref w14, .ref w15, .ref w16, .int (iI fn)])), (w11, .inl (k 1, 8, .inl (fun i9 : Nat => iI (u11 i9))))]) (k_thB l dC dI k T A X tl pq v hT hK (by omega) hv) B mV_X0_isThere mw_1477 hl (q0 := k_9) (ci := 0) hk_9 rfl rfl ⟨Nat.le_of_ble_eq_true rfl, Nat.le_of_ble_eq_true rfl⟩ (Nat.le_of_ble_eq_true rfl) rfl dX6_countHeadingsAndTerms_43 ⟨Nat.le_of_ble_eq_true rfl, Nat.le_of_ble_eq_true rfl⟩ (fun r w gc gs H locs hp B => ?_)
    rcases hp with ⟨z_10, rfl, hw9, rfl, rfl⟩ | ⟨z_11, rfl, hw9, rfl, rfl⟩
    · skip
      rw [hw9] at B; clear hw9
      have B := bd_to (ws' := ([(rw, .inr (6, [.int (iI n), .ref w1, .ref w2, .ref w3, .ref w4, .ref w5, .ref w6, .ref w7, .ref w8, .ref w9, .ref w10, .ref w11, .int (iI h9_), .int (iI t9_), .ref w14, .ref w15, .ref w16, .int (iI fn)])), (w11, .inl (k 1, 8, .inl (fun i9 : Nat => iI (u11 i9))))] ++ tl)) rfl B
      refine lv_if_ne (tgt := 52) hx hb dX6_countHeadingsAndTerms_46 (by decide) (fun _ => ?_) (fun c9 => absurd c9 (by decide))
      refine lv_aload_n hx hb dX6_countHeadingsAndTerms_52 rfl (lv_at hl 2 rfl) ?_
      refine lv_dup hx hb dX6_countHeadingsAndTerms_53 rfl ?_
      refine x_get (ci := 6) (C := RX6) (T := TX6) (N := 18) (v := .int (iI h9_)) B 0 rfl rfl in_X6 12 (by decide) mw_252 (fun _ h9 => h9) rfl dX6_countHeadingsAndTerms_54 ?_
      refine lv_aload hx hb dX6_countHeadingsAndTerms_57 (lv_at hl 0 rfl) ?_
      obtain ⟨k_12, hk_12⟩ := pk_at (hs := [(rw, .inr (6, [.int (iI n), .ref w1, .ref w2, .ref w3, .ref w4, .ref w5, .ref w6, .ref w7, .ref w8, .ref w9, .ref w10, .ref w11, .int (iI h9_), .int (iI t9_), .ref w14, .ref w15, .ref w16, .int (iI fn)])), (w11, .inl (k 1, 8, .inl (fun i9 : Nat => iI (u11 i9))))]) (hT.2.2.2.1 pq (by omega) (by omega)).1
      refine x_get (ci := 0) (C := RX0) (T := TX0) (N := 4) (v := .int (iI (T 1 pq 0 0))) B k_12 hk_12 rfl in_X0 0 (by decide) mw_1168 (fun _ h9 => h9) rfl dX6_countHeadingsAndTerms_59 ?_
      have z_13 : 0 ≤ T 1 pq 0 0 ∧ T 1 pq 0 0 ≤ 6 := TK_kind hK pq
      refine lv_iconst (v := iI 1) hx hb dX6_countHeadingsAndTerms_62 (by decide) ?_
      refine lv_icmp_ne (tgt := 70) hx hb dX6_countHeadingsAndTerms_63 (by decide) (fun c_14 => ?_) (fun c_14 => ?_)
      · have zc_14 : (T 1 pq 0 0) ≠ 1 := jne (a := (T 1 pq 0 0)) (b := 1) (by omega) (by omega) c_14
        refine lv_iconst (v := iI 0) hx hb dX6_countHeadingsAndTerms_70 (by decide) ?_
        refine y_add hx hb dX6_countHeadingsAndTerms_71 ?_
        refine x_put (ci := 6) (C := RX6) (T := TX6) (N := 18) (ty := .int) (v := .int (iI (h9_ + 0))) B tyX6_ok nmX6 0 rfl rfl in_X6 12 (by decide) mw_252 (fun _ h9 => h9) rfl (by decide +kernel) rfl rfl (Nat.le_of_ble_eq_true rfl) dX6_countHeadingsAndTerms_72 (fun H locs B => ?_)
        have B := bd_to (ws' := ([(rw, .inr (6, [.int (iI n), .ref w1, .ref w2, .ref w3, .ref w4, .ref w5, .ref w6, .ref w7, .ref w8, .ref w9, .ref w10, .ref w11, .int (iI (h9_ + 0)), .int (iI t9_), .ref w14, .ref w15, .ref w16, .int (iI fn)])), (w11, .inl (k 1, 8, .inl (fun i9 : Nat => iI (u11 i9))))] ++ tl)) rfl B
        refine lv_iconst (v := iI 0) hx hb dX6_countHeadingsAndTerms_75 (by decide) ?_
        refine lv_istore (lv' := [(5, .int (iI 0)), (4, .ref (A 0 pq 0)), (3, .int (iI pq)), (0, .ref rw), (1, .ref (A 50 0 0)), (2, .int (iI v))]) hx hb dX6_countHeadingsAndTerms_76 hl (by decide) rfl (fun ls hl => ?_)
        refine k_loop (σ := Int × Int × (Int → Int)) B (fun g9 : Int × Int × (Int → Int) => (0 ≤ g9.1 ∧ g9.1 ≤ T 3 pq 0 0 ∧ T 3 pq 0 0 ≤ 12) ∧ (g9.2.1 = (ctW T v pq (ctB T v (Int.toNat pq)).2 (Int.toNat g9.1)).2 ∧ ∀ j, 0 ≤ j → j < 8 → g9.2.2 j = (ctW T v pq (ctB T v (Int.toNat pq)).2 (Int.toNat g9.1)).1 j) ∧ (Bd 0 1 g9.2.2) ∧ (g9.2.1 = cnF g9.2.2 8)) (fun g9 : Int × Int × (Int → Int) => (T 3 pq 0 0 - g9.1).toNat) (fun g9 : Int × Int × (Int → Int) => [(5, .int (iI g9.1)), (4, .ref (A 0 pq 0)), (3, .int (iI pq)), (0, .ref rw), (1, .ref (A 50 0 0)), (2, .int (iI v))]) (fun g9 : Int × Int × (Int → Int) => ([(rw, .inr (6, [.int (iI n), .ref w1, .ref w2, .ref w3, .ref w4, .ref w5, .ref w6, .ref w7, .ref w8, .ref w9, .ref w10, .ref w11, .int (iI (h9_ + 0)), .int (iI g9.2.1), .ref w14, .ref w15, .ref w16, .int (iI fn)])), (w11, .inl (k 1, 8, .inl (fun i9 : Nat => iI (g9.2.2 i9))))] ++ tl)) ?_ (0, t9_, u11) ⟨(show 0 ≤ 0 ∧ 0 ≤ T 3 pq 0 0 ∧ T 3 pq 0 0 ≤ 12 from (by have q9 := TK_nw hK pq; omega)), (show t9_ = (ctW T v pq (ctB T v (Int.toNat pq)).2 (Int.toNat 0)).2 ∧ ∀ j, 0 ≤ j → j < 8 → u11 j = (ctW T v pq (ctB T v (Int.toNat pq)).2 (Int.toNat 0)).1 j from ⟨hct.2.1, hct.2.2⟩), (show Bd 0 1 u11 from hv11), (show t9_ = cnF u11 8 from hcn)⟩ ls H locs (lv_sub hl [0, 1, 2, 3, 4, 5] rfl) (bd_to rfl B)
        clear hl B
        rintro ⟨aw, t8_, x11⟩ ⟨ha, hcw, hv11, hcn⟩ ih_15 ls H locs hl B
        have ha : 0 ≤ aw ∧ aw ≤ T 3 pq 0 0 ∧ T 3 pq 0 0 ≤ 12 := ha
        have hcw : t8_ = (ctW T v pq (ctB T v (Int.toNat pq)).2 (Int.toNat aw)).2 ∧ ∀ j, 0 ≤ j → j < 8 → x11 j = (ctW T v pq (ctB T v (Int.toNat pq)).2 (Int.toNat aw)).1 j := hcw
        have hv11 : Bd 0 1 x11 := hv11
        have hcn : t8_ = cnF x11 8 := hcn
        have hl : lv_has ls 7 [(5, .int (iI aw)), (4, .ref (A 0 pq 0)), (3, .int (iI pq)), (0, .ref rw), (1, .ref (A 50 0 0)), (2, .int (iI v))] := hl
        have B := bd_to (ws' := ([(rw, .inr (6, [.int (iI n), .ref w1, .ref w2, .ref w3, .ref w4, .ref w5, .ref w6, .ref w7, .ref w8, .ref w9, .ref w10, .ref w11, .int (iI (h9_ + 0)), .int (iI t8_), .ref w14, .ref w15, .ref w16, .int (iI fn)])), (w11, .inl (k 1, 8, .inl (fun i9 : Nat => iI (x11 i9))))] ++ tl)) rfl B
        refine lv_iload hx hb dX6_countHeadingsAndTerms_78 (lv_at hl 0 rfl) ?_
        refine lv_aload hx hb dX6_countHeadingsAndTerms_80 (lv_at hl 1 rfl) ?_
        obtain ⟨k_16, hk_16⟩ := pk_at (hs := [(rw, .inr (6, [.int (iI n), .ref w1, .ref w2, .ref w3, .ref w4, .ref w5, .ref w6, .ref w7, .ref w8, .ref w9, .ref w10, .ref w11, .int (iI (h9_ + 0)), .int (iI t8_), .ref w14, .ref w15, .ref w16, .int (iI fn)])), (w11, .inl (k 1, 8, .inl (fun i9 : Nat => iI (x11 i9))))]) (hT.2.2.2.1 pq (by omega) (by omega)).1
        refine x_get (ci := 0) (C := RX0) (T := TX0) (N := 4) (v := .ref (A 2 pq 0)) B k_16 hk_16 rfl in_X0 2 (by decide) mw_1182 (fun _ h9 => h9) rfl dX6_countHeadingsAndTerms_82 ?_
        have B := bd_swap (a := []) (b := [(rw, .inr (6, [.int (iI n), .ref w1, .ref w2, .ref w3, .ref w4, .ref w5, .ref w6, .ref w7, .ref w8, .ref w9, .ref w10, .ref w11, .int (iI (h9_ + 0)), .int (iI t8_), .ref w14, .ref w15, .ref w16, .int (iI fn)])), (w11, .inl (k 1, 8, .inl (fun i9 : Nat => iI (x11 i9))))]) (d := tl) (bd_to rfl B)
        obtain ⟨k_17, fk_17, hk_17⟩ := LI_at (hs := []) (hT.2.2.2.1 pq (by omega) (by omega)).2.2
        refine k_V (rest := [.int (iI aw)]) (wc := ([] ++ tl)) (wr := [(rw, .inr (6, [.int (iI n), .ref w1, .ref w2, .ref w3, .ref w4, .ref w5, .ref w6, .ref w7, .ref w8, .ref w9, .ref w10, .ref w11, .int (iI (h9_ + 0)), .int (iI t8_), .ref w14, .ref w15, .ref w16, .int (iI fn)])), (w11, .inl (k 1, 8, .inl (fun i9 : Nat => iI (x11 i9))))]) (k_sizeW l dC dI k T A X tl pq hT hK (by omega)) B mV_Jx4a65c_size_8abf5 mw_1474 hl (q0 := k_17) (ci := 12) hk_17 rfl rfl ⟨Nat.le_of_ble_eq_true rfl, Nat.le_of_ble_eq_true rfl⟩ (Nat.le_of_ble_eq_true rfl) rfl dX6_countHeadingsAndTerms_85 ⟨Nat.le_of_ble_eq_true rfl, Nat.le_of_ble_eq_true rfl⟩ (fun r w gc gs H locs hp B => ?_)
        obtain ⟨z_18, rfl, hw9, rfl, rfl⟩ := hp
        rw [hw9] at B; clear hw9
        have B := bd_to (ws' := ([(rw, .inr (6, [.int (iI n), .ref w1, .ref w2, .ref w3, .ref w4, .ref w5, .ref w6, .ref w7, .ref w8, .ref w9, .ref w10, .ref w11, .int (iI (h9_ + 0)), .int (iI t8_), .ref w14, .ref w15, .ref w16, .int (iI fn)])), (w11, .inl (k 1, 8, .inl (fun i9 : Nat => iI (x11 i9))))] ++ tl)) rfl B
        refine lv_icmp_ge (tgt := 132) hx hb dX6_countHeadingsAndTerms_88 (by decide) (fun c_19 => ?_) (fun c_19 => ?_)
        · have zc_19 : (T 3 pq 0 0) ≤ aw := jle (a := (T 3 pq 0 0)) (b := aw) (by omega) (by omega) c_19
          refine lv_iinc (v := iI (pq + 1)) (lv' := [(3, .int (iI (pq + 1))), (5, .int (iI aw)), (4, .ref (A 0 pq 0)), (0, .ref rw), (1, .ref (A 50 0 0)), (2, .int (iI v))]) hx hb dX6_countHeadingsAndTerms_132 hl (k := 2) rfl (iI_add _ _) (by decide) rfl (fun ls hl => ?_)
          refine lv_goto (tgt := 16) hx hb dX6_countHeadingsAndTerms_135 (by decide) ?_
          exact ih_1 ((pq + 1), (h9_ + 0), t8_, x11) ⟨(show 0 ≤ (pq + 1) ∧ (pq + 1) ≤ T 0 0 0 0 ∧ T 0 0 0 0 ≤ 16 ∧ 0 ≤ (h9_ + 0) ∧ (h9_ + 0) ≤ (pq + 1) from (by omega)), (show (h9_ + 0) = (ctB T v (Int.toNat (pq + 1))).1 ∧ t8_ = (ctB T v (Int.toNat (pq + 1))).2.2 ∧ ∀ j, 0 ≤ j → j < 8 → x11 j = (ctB T v (Int.toNat (pq + 1))).2.1 j from (by rw [ctB_s (by omega), if_pos z_10]; exact ⟨(by show h9_ + 0 = (ctB T v (Int.toNat pq)).1 + (if T 1 pq 0 0 = 1 then 1 else 0); rw [← hct.1]; split <;> omega), (by rw [show (T 3 pq 0 0).toNat = Int.toNat aw by omega]; exact hcw.1), (by rw [show (T 3 pq 0 0).toNat = Int.toNat aw by omega]; exact hcw.2)⟩)), (show Bd 0 1 x11 from hv11), (show t8_ = cnF x11 8 from hcn)⟩ (by first | omega | (dsimp only; omega)) _ _ _ (lv_sub hl [0, 3, 4, 5] rfl) (bd_to rfl B)
        · have zc_19 : aw < (T 3 pq 0 0) := jnle (a := (T 3 pq 0 0)) (b := aw) (by omega) (by omega) c_19
          refine lv_aload hx hb dX6_countHeadingsAndTerms_91 (lv_at hl 1 rfl) ?_
          obtain ⟨k_20, hk_20⟩ := pk_at (hs := [(rw, .inr (6, [.int (iI n), .ref w1, .ref w2, .ref w3, .ref w4, .ref w5, .ref w6, .ref w7, .ref w8, .ref w9, .ref w10, .ref w11, .int (iI (h9_ + 0)), .int (iI t8_), .ref w14, .ref w15, .ref w16, .int (iI fn)])), (w11, .inl (k 1, 8, .inl (fun i9 : Nat => iI (x11 i9))))]) (hT.2.2.2.1 pq (by omega) (by omega)).1
          refine x_get (ci := 0) (C := RX0) (T := TX0) (N := 4) (v := .ref (A 2 pq 0)) B k_20 hk_20 rfl in_X0 2 (by decide) mw_1182 (fun _ h9 => h9) rfl dX6_countHeadingsAndTerms_93 ?_
          refine lv_iload hx hb dX6_countHeadingsAndTerms_96 (lv_at hl 0 rfl) ?_
          have B := bd_swap (a := []) (b := [(rw, .inr (6, [.int (iI n), .ref w1, .ref w2, .ref w3, .ref w4, .ref w5, .ref w6, .ref w7, .ref w8, .ref w9, .ref w10, .ref w11, .int (iI (h9_ + 0)), .int (iI t8_), .ref w14, .ref w15, .ref w16, .int (iI fn)])), (w11, .inl (k 1, 8, .inl (fun i9 : Nat => iI (x11 i9))))]) (d := tl) (bd_to rfl B)
          obtain ⟨k_21, fk_21, hk_21⟩ := LI_at (hs := []) (hT.2.2.2.1 pq (by omega) (by omega)).2.2
          refine k_V (rest := []) (wc := ([] ++ tl)) (wr := [(rw, .inr (6, [.int (iI n), .ref w1, .ref w2, .ref w3, .ref w4, .ref w5, .ref w6, .ref w7, .ref w8, .ref w9, .ref w10, .ref w11, .int (iI (h9_ + 0)), .int (iI t8_), .ref w14, .ref w15, .ref w16, .int (iI fn)])), (w11, .inl (k 1, 8, .inl (fun i9 : Nat => iI (x11 i9))))]) (k_getW l dC dI k T A X tl pq aw hT hK (by omega) (by omega)) B mV_Jx4a65c_get_915e3 mw_1475 hl (q0 := k_21) (ci := 12) hk_21 rfl rfl ⟨Nat.le_of_ble_eq_true rfl, Nat.le_of_ble_eq_true rfl⟩ (Nat.le_of_ble_eq_true rfl) rfl dX6_countHeadingsAndTerms_98 ⟨Nat.le_of_ble_eq_true rfl, Nat.le_of_ble_eq_true rfl⟩ (fun r w gc gs H locs hp B => ?_)
          obtain ⟨rfl, hw9, rfl, rfl⟩ := hp
          rw [hw9] at B; clear hw9
          have B := bd_to (ws' := ([(rw, .inr (6, [.int (iI n), .ref w1, .ref w2, .ref w3, .ref w4, .ref w5, .ref w6, .ref w7, .ref w8, .ref w9, .ref w10, .ref w11, .int (iI (h9_ + 0)), .int (iI t8_), .ref w14, .ref w15, .ref w16, .int (iI fn)])), (w11, .inl (k 1, 8, .inl (fun i9 : Nat => iI (x11 i9))))] ++ tl)) rfl B
          obtain ⟨k_22, hk_22⟩ := pk_at (hs := [(rw, .inr (6, [.int (iI n), .ref w1, .ref w2, .ref w3, .ref w4, .ref w5, .ref w6, .ref w7, .ref w8, .ref w9, .ref w10, .ref w11, .int (iI (h9_ + 0)), .int (iI t8_), .ref w14, .ref w15, .ref w16, .int (iI fn)])), (w11, .inl (k 1, 8, .inl (fun i9 : Nat => iI (x11 i9))))]) (hT.2.2.2.2.1 pq aw (by omega) (by omega) (by omega) (by omega)).1
          refine x_cast (ci := 10) (C := RX10) (T := TX10) (N := 4) B k_22 hk_22 rfl mw_1478 dX6_countHeadingsAndTerms_101 ?_
          refine lv_astore (lv' := [(6, .ref (A 4 pq aw)), (5, .int (iI aw)), (4, .ref (A 0 pq 0)), (3, .int (iI pq)), (0, .ref rw), (1, .ref (A 50 0 0)), (2, .int (iI v))]) hx hb dX6_countHeadingsAndTerms_104 hl (by decide) rfl (fun ls hl => ?_)
          refine lv_aload hx hb dX6_countHeadingsAndTerms_106 (lv_at hl 0 rfl) ?_
          refine lv_iload_n hx hb dX6_countHeadingsAndTerms_108 rfl (lv_at hl 6 rfl) ?_
          have B := bd_swap (a := []) (b := [(rw, .inr (6, [.int (iI n), .ref w1, .ref w2, .ref w3, .ref w4, .ref w5, .ref w6, .ref w7, .ref w8, .ref w9, .ref w10, .ref w11, .int (iI (h9_ + 0)), .int (iI t8_), .ref w14, .ref w15, .ref w16, .int (iI fn)])), (w11, .inl (k 1, 8, .inl (fun i9 : Nat => iI (x11 i9))))]) (d := tl) (bd_to rfl B)
          obtain ⟨k_23, hk_23⟩ := pk_at (hs := []) (hT.2.2.2.2.1 pq aw (by omega) (by omega) (by omega) (by omega)).1
          refine k_V (rest := []) (wc := ([] ++ tl)) (wr := [(rw, .inr (6, [.int (iI n), .ref w1, .ref w2, .ref w3, .ref w4, .ref w5, .ref w6, .ref w7, .ref w8, .ref w9, .ref w10, .ref w11, .int (iI (h9_ + 0)), .int (iI t8_), .ref w14, .ref w15, .ref w16, .int (iI fn)])), (w11, .inl (k 1, 8, .inl (fun i9 : Nat => iI (x11 i9))))]) (k_thW l dC dI k T A X tl pq aw v hT hK (by omega) (by omega) hv) B mV_X10_isThere mw_1479 hl (q0 := k_23) (ci := 10) hk_23 rfl rfl ⟨Nat.le_of_ble_eq_true rfl, Nat.le_of_ble_eq_true rfl⟩ (Nat.le_of_ble_eq_true rfl) rfl dX6_countHeadingsAndTerms_109 ⟨Nat.le_of_ble_eq_true rfl, Nat.le_of_ble_eq_true rfl⟩ (fun r w gc gs H locs hp B => ?_)
          rcases hp with ⟨z_24, rfl, hw9, rfl, rfl⟩ | ⟨z_25, rfl, hw9, rfl, rfl⟩
          · skip
            rw [hw9] at B; clear hw9
            have B := bd_to (ws' := ([(rw, .inr (6, [.int (iI n), .ref w1, .ref w2, .ref w3, .ref w4, .ref w5, .ref w6, .ref w7, .ref w8, .ref w9, .ref w10, .ref w11, .int (iI (h9_ + 0)), .int (iI t8_), .ref w14, .ref w15, .ref w16, .int (iI fn)])), (w11, .inl (k 1, 8, .inl (fun i9 : Nat => iI (x11 i9))))] ++ tl)) rfl B
            refine lv_if_eq (tgt := 126) hx hb dX6_countHeadingsAndTerms_112 (by decide) (fun c9 => absurd c9 (by decide)) (fun _ => ?_)
            refine lv_aload_n hx hb dX6_countHeadingsAndTerms_115 rfl (lv_at hl 4 rfl) ?_
            refine lv_aload hx hb dX6_countHeadingsAndTerms_116 (lv_at hl 0 rfl) ?_
            obtain ⟨k_26, hk_26⟩ := pk_at (hs := [(rw, .inr (6, [.int (iI n), .ref w1, .ref w2, .ref w3, .ref w4, .ref w5, .ref w6, .ref w7, .ref w8, .ref w9, .ref w10, .ref w11, .int (iI (h9_ + 0)), .int (iI t8_), .ref w14, .ref w15, .ref w16, .int (iI fn)])), (w11, .inl (k 1, 8, .inl (fun i9 : Nat => iI (x11 i9))))]) (hT.2.2.2.2.1 pq aw (by omega) (by omega) (by omega) (by omega)).1
            refine x_get (ci := 10) (C := RX10) (T := TX10) (N := 4) (v := .ref (A 6 pq aw)) B k_26 hk_26 rfl in_X10 2 (by decide) mw_827 (fun _ h9 => h9) rfl dX6_countHeadingsAndTerms_118 ?_
            refine lv_iconst (v := iI 3) hx hb dX6_countHeadingsAndTerms_121 (by decide) ?_
            obtain ⟨k_27, hk_27⟩ := pk_at (hs := [(rw, .inr (6, [.int (iI n), .ref w1, .ref w2, .ref w3, .ref w4, .ref w5, .ref w6, .ref w7, .ref w8, .ref w9, .ref w10, .ref w11, .int (iI (h9_ + 0)), .int (iI t8_), .ref w14, .ref w15, .ref w16, .int (iI fn)])), (w11, .inl (k 1, 8, .inl (fun i9 : Nat => iI (x11 i9))))]) (hT.2.2.2.2.1 pq aw (by omega) (by omega) (by omega) (by omega)).2.2
            refine x_iald' (f := (fun j9 : Int => T 7 pq aw j9)) (z := 3) B k_27 hk_27 (by omega) dX6_countHeadingsAndTerms_122 ?_
            have z_28 : (-1) ≤ (T 7 pq aw 3) ∧ (T 7 pq aw 3) ≤ 7 := (fun q => TK_mrk hK pq aw q) 3
            have B := bd_to (ws' := [(rw, .inr (6, [.int (iI n), .ref w1, .ref w2, .ref w3, .ref w4, .ref w5, .ref w6, .ref w7, .ref w8, .ref w9, .ref w10, .ref w11, .int (iI (h9_ + 0)), .int (iI t8_), .ref w14, .ref w15, .ref w16, .int (iI fn)])), (w11, .inl (k 1, 8, .inl (fun i9 : Nat => iI (x11 i9))))] ++ ([] ++ tl)) rfl B
            refine k_V (rest := []) (wc := [(rw, .inr (6, [.int (iI n), .ref w1, .ref w2, .ref w3, .ref w4, .ref w5, .ref w6, .ref w7, .ref w8, .ref w9, .ref w10, .ref w11, .int (iI (h9_ + 0)), .int (iI t8_), .ref w14, .ref w15, .ref w16, .int (iI fn)])), (w11, .inl (k 1, 8, .inl (fun i9 : Nat => iI (x11 i9))))]) (wr := ([] ++ tl)) (k_countTerm l dC dI k rw w1 w2 w3 w4 w5 w6 w7 w8 w9 w10 w11 w14 w15 w16 n (h9_ + 0) t8_ fn x11 (T 7 pq aw 3) hv11 (by omega)) B mV_X6_countTerm mw_1480 hl (q0 := 0) rfl rfl rfl ⟨Nat.le_of_ble_eq_true rfl, Nat.le_of_ble_eq_true rfl⟩ (Nat.le_of_ble_eq_true rfl) rfl dX6_countHeadingsAndTerms_123 ⟨Nat.le_of_ble_eq_true rfl, Nat.le_of_ble_eq_true rfl⟩ (fun r w gc gs H locs hp B => ?_)
            obtain ⟨rfl, hw9, rfl, rfl⟩ := hp
            rw [hw9] at B; clear hw9
            have B := bd_swap (a := []) (b := tl) (d := [(rw, .inr (6, [.int (iI n), .ref w1, .ref w2, .ref w3, .ref w4, .ref w5, .ref w6, .ref w7, .ref w8, .ref w9, .ref w10, .ref w11, .int (iI (h9_ + 0)), .int (iI (ctN x11 (T 7 pq aw 3) t8_)), .ref w14, .ref w15, .ref w16, .int (iI fn)])), (w11, .inl (k 1, 8, .inl (fun i9 : Nat => iI ((ctF x11 (T 7 pq aw 3)) i9))))]) B
            have B := bd_to (ws' := ([(rw, .inr (6, [.int (iI n), .ref w1, .ref w2, .ref w3, .ref w4, .ref w5, .ref w6, .ref w7, .ref w8, .ref w9, .ref w10, .ref w11, .int (iI (h9_ + 0)), .int (iI (ctN x11 (T 7 pq aw 3) t8_)), .ref w14, .ref w15, .ref w16, .int (iI fn)])), (w11, .inl (k 1, 8, .inl (fun i9 : Nat => iI ((ctF x11 (T 7 pq aw 3)) i9))))] ++ tl)) rfl B
            refine lv_iinc (v := iI (aw + 1)) (lv' := [(5, .int (iI (aw + 1))), (6, .ref (A 4 pq aw)), (4, .ref (A 0 pq 0)), (3, .int (iI pq)), (0, .ref rw), (1, .ref (A 50 0 0)), (2, .int (iI v))]) hx hb dX6_countHeadingsAndTerms_126 hl (k := 1) rfl (iI_add _ _) (by decide) rfl (fun ls hl => ?_)
            refine lv_goto (tgt := 78) hx hb dX6_countHeadingsAndTerms_129 (by decide) ?_
            exact ih_15 ((aw + 1), (ctN x11 (T 7 pq aw 3) t8_), (ctF x11 (T 7 pq aw 3))) ⟨(show 0 ≤ (aw + 1) ∧ (aw + 1) ≤ T 3 pq 0 0 ∧ T 3 pq 0 0 ≤ 12 from (by omega)), (show (ctN x11 (T 7 pq aw 3) t8_) = (ctW T v pq (ctB T v (Int.toNat pq)).2 (Int.toNat (aw + 1))).2 ∧ ∀ j, 0 ≤ j → j < 8 → (ctF x11 (T 7 pq aw 3)) j = (ctW T v pq (ctB T v (Int.toNat pq)).2 (Int.toNat (aw + 1))).1 j from (by rw [ctW_s (by omega), if_pos z_24]; exact ⟨hcw.1 ▸ (ct_ag (by have q9 := TK_mrk hK pq aw 3; omega) hcw.2).2, (ct_ag (n := 0) (by have q9 := TK_mrk hK pq aw 3; omega) hcw.2).1⟩)), (show Bd 0 1 (ctF x11 (T 7 pq aw 3)) from (ct_Bd hv11)), (show (ctN x11 (T 7 pq aw 3) t8_) = cnF (ctF x11 (T 7 pq aw 3)) 8 from (ct_cn (by have q9 := TK_mrk hK pq aw 3; omega) hcn))⟩ (by first | omega | (dsimp only; omega)) _ _ _ (lv_sub hl [0, 2, 3, 4, 5, 6] rfl) (bd_to rfl B)
          · skip
            rw [hw9] at B; clear hw9
            have B := bd_to (ws' := ([(rw, .inr (6, [.int (iI n), .ref w1, .ref w2, .ref w3, .ref w4, .ref w5, .ref w6, .ref w7, .ref w8, .ref w9, .ref w10, .ref w11, .int (iI (h9_ + 0)), .int (iI t8_), .ref w14, .ref w15, .ref w16, .int (iI fn)])), (w11, .inl (k 1, 8, .inl (fun i9 : Nat => iI (x11 i9))))] ++ tl)) rfl B
            refine lv_if_eq (tgt := 126) hx hb dX6_countHeadingsAndTerms_112 (by decide) (fun _ => ?_) (fun c9 => absurd (by decide) c9)
            refine lv_iinc (v := iI (aw + 1)) (lv' := [(5, .int (iI (aw + 1))), (6, .ref (A 4 pq aw)), (4, .ref (A 0 pq 0)), (3, .int (iI pq)), (0, .ref rw), (1, .ref (A 50 0 0)), (2, .int (iI v))]) hx hb dX6_countHeadingsAndTerms_126 hl (k := 1) rfl (iI_add _ _) (by decide) rfl (fun ls hl => ?_)
            refine lv_goto (tgt := 78) hx hb dX6_countHeadingsAndTerms_129 (by decide) ?_
            exact ih_15 ((aw + 1), t8_, x11) ⟨(show 0 ≤ (aw + 1) ∧ (aw + 1) ≤ T 3 pq 0 0 ∧ T 3 pq 0 0 ≤ 12 from (by omega)), (show t8_ = (ctW T v pq (ctB T v (Int.toNat pq)).2 (Int.toNat (aw + 1))).2 ∧ ∀ j, 0 ≤ j → j < 8 → x11 j = (ctW T v pq (ctB T v (Int.toNat pq)).2 (Int.toNat (aw + 1))).1 j from (by rw [ctW_s (by omega), if_neg z_25]; exact hcw)), (show Bd 0 1 x11 from hv11), (show t8_ = cnF x11 8 from hcn)⟩ (by first | omega | (dsimp only; omega)) _ _ _ (lv_sub hl [0, 2, 3, 4, 5, 6] rfl) (bd_to rfl B)
      · have zc_14 : (T 1 pq 0 0) = 1 := jeq (a := (T 1 pq 0 0)) (b := 1) (by omega) (by omega) c_14
        refine lv_iconst (v := iI 1) hx hb dX6_countHeadingsAndTerms_66 (by decide) ?_
        refine lv_goto (tgt := 71) hx hb dX6_countHeadingsAndTerms_67 (by decide) ?_
        refine y_add hx hb dX6_countHeadingsAndTerms_71 ?_
        refine x_put (ci := 6) (C := RX6) (T := TX6) (N := 18) (ty := .int) (v := .int (iI (h9_ + 1))) B tyX6_ok nmX6 0 rfl rfl in_X6 12 (by decide) mw_252 (fun _ h9 => h9) rfl (by decide +kernel) rfl rfl (Nat.le_of_ble_eq_true rfl) dX6_countHeadingsAndTerms_72 (fun H locs B => ?_)
        have B := bd_to (ws' := ([(rw, .inr (6, [.int (iI n), .ref w1, .ref w2, .ref w3, .ref w4, .ref w5, .ref w6, .ref w7, .ref w8, .ref w9, .ref w10, .ref w11, .int (iI (h9_ + 1)), .int (iI t9_), .ref w14, .ref w15, .ref w16, .int (iI fn)])), (w11, .inl (k 1, 8, .inl (fun i9 : Nat => iI (u11 i9))))] ++ tl)) rfl B
        refine lv_iconst (v := iI 0) hx hb dX6_countHeadingsAndTerms_75 (by decide) ?_
        refine lv_istore (lv' := [(5, .int (iI 0)), (4, .ref (A 0 pq 0)), (3, .int (iI pq)), (0, .ref rw), (1, .ref (A 50 0 0)), (2, .int (iI v))]) hx hb dX6_countHeadingsAndTerms_76 hl (by decide) rfl (fun ls hl => ?_)
        refine k_loop (σ := Int × Int × (Int → Int)) B (fun g9 : Int × Int × (Int → Int) => (0 ≤ g9.1 ∧ g9.1 ≤ T 3 pq 0 0 ∧ T 3 pq 0 0 ≤ 12) ∧ (g9.2.1 = (ctW T v pq (ctB T v (Int.toNat pq)).2 (Int.toNat g9.1)).2 ∧ ∀ j, 0 ≤ j → j < 8 → g9.2.2 j = (ctW T v pq (ctB T v (Int.toNat pq)).2 (Int.toNat g9.1)).1 j) ∧ (Bd 0 1 g9.2.2) ∧ (g9.2.1 = cnF g9.2.2 8)) (fun g9 : Int × Int × (Int → Int) => (T 3 pq 0 0 - g9.1).toNat) (fun g9 : Int × Int × (Int → Int) => [(5, .int (iI g9.1)), (4, .ref (A 0 pq 0)), (3, .int (iI pq)), (0, .ref rw), (1, .ref (A 50 0 0)), (2, .int (iI v))]) (fun g9 : Int × Int × (Int → Int) => ([(rw, .inr (6, [.int (iI n), .ref w1, .ref w2, .ref w3, .ref w4, .ref w5, .ref w6, .ref w7, .ref w8, .ref w9, .ref w10, .ref w11, .int (iI (h9_ + 1)), .int (iI g9.2.1), .ref w14, .ref w15, .ref w16, .int (iI fn)])), (w11, .inl (k 1, 8, .inl (fun i9 : Nat => iI (g9.2.2 i9))))] ++ tl)) ?_ (0, t9_, u11) ⟨(show 0 ≤ 0 ∧ 0 ≤ T 3 pq 0 0 ∧ T 3 pq 0 0 ≤ 12 from (by have q9 := TK_nw hK pq; omega)), (show t9_ = (ctW T v pq (ctB T v (Int.toNat pq)).2 (Int.toNat 0)).2 ∧ ∀ j, 0 ≤ j → j < 8 → u11 j = (ctW T v pq (ctB T v (Int.toNat pq)).2 (Int.toNat 0)).1 j from ⟨hct.2.1, hct.2.2⟩), (show Bd 0 1 u11 from hv11), (show t9_ = cnF u11 8 from hcn)⟩ ls H locs (lv_sub hl [0, 1, 2, 3, 4, 5] rfl) (bd_to rfl B)
        clear hl B
        rintro ⟨aw, t8_, x11⟩ ⟨ha, hcw, hv11, hcn⟩ ih_29 ls H locs hl B
        have ha : 0 ≤ aw ∧ aw ≤ T 3 pq 0 0 ∧ T 3 pq 0 0 ≤ 12 := ha
        have hcw : t8_ = (ctW T v pq (ctB T v (Int.toNat pq)).2 (Int.toNat aw)).2 ∧ ∀ j, 0 ≤ j → j < 8 → x11 j = (ctW T v pq (ctB T v (Int.toNat pq)).2 (Int.toNat aw)).1 j := hcw
        have hv11 : Bd 0 1 x11 := hv11
        have hcn : t8_ = cnF x11 8 := hcn
        have hl : lv_has ls 7 [(5, .int (iI aw)), (4, .ref (A 0 pq 0)), (3, .int (iI pq)), (0, .ref rw), (1, .ref (A 50 0 0)), (2, .int (iI v))] := hl
        have B := bd_to (ws' := ([(rw, .inr (6, [.int (iI n), .ref w1, .ref w2, .ref w3, .ref w4, .ref w5, .ref w6, .ref w7, .ref w8, .ref w9, .ref w10, .ref w11, .int (iI (h9_ + 1)), .int (iI t8_), .ref w14, .ref w15, .ref w16, .int (iI fn)])), (w11, .inl (k 1, 8, .inl (fun i9 : Nat => iI (x11 i9))))] ++ tl)) rfl B
        refine lv_iload hx hb dX6_countHeadingsAndTerms_78 (lv_at hl 0 rfl) ?_
        refine lv_aload hx hb dX6_countHeadingsAndTerms_80 (lv_at hl 1 rfl) ?_
        obtain ⟨k_30, hk_30⟩ := pk_at (hs := [(rw, .inr (6, [.int (iI n), .ref w1, .ref w2, .ref w3, .ref w4, .ref w5, .ref w6, .ref w7, .ref w8, .ref w9, .ref w10, .ref w11, .int (iI (h9_ + 1)), .int (iI t8_), .ref w14, .ref w15, .ref w16, .int (iI fn)])), (w11, .inl (k 1, 8, .inl (fun i9 : Nat => iI (x11 i9))))]) (hT.2.2.2.1 pq (by omega) (by omega)).1
        refine x_get (ci := 0) (C := RX0) (T := TX0) (N := 4) (v := .ref (A 2 pq 0)) B k_30 hk_30 rfl in_X0 2 (by decide) mw_1182 (fun _ h9 => h9) rfl dX6_countHeadingsAndTerms_82 ?_
        have B := bd_swap (a := []) (b := [(rw, .inr (6, [.int (iI n), .ref w1, .ref w2, .ref w3, .ref w4, .ref w5, .ref w6, .ref w7, .ref w8, .ref w9, .ref w10, .ref w11, .int (iI (h9_ + 1)), .int (iI t8_), .ref w14, .ref w15, .ref w16, .int (iI fn)])), (w11, .inl (k 1, 8, .inl (fun i9 : Nat => iI (x11 i9))))]) (d := tl) (bd_to rfl B)
        obtain ⟨k_31, fk_31, hk_31⟩ := LI_at (hs := []) (hT.2.2.2.1 pq (by omega) (by omega)).2.2
        refine k_V (rest := [.int (iI aw)]) (wc := ([] ++ tl)) (wr := [(rw, .inr (6, [.int (iI n), .ref w1, .ref w2, .ref w3, .ref w4, .ref w5, .ref w6, .ref w7, .ref w8, .ref w9, .ref w10, .ref w11, .int (iI (h9_ + 1)), .int (iI t8_), .ref w14, .ref w15, .ref w16, .int (iI fn)])), (w11, .inl (k 1, 8, .inl (fun i9 : Nat => iI (x11 i9))))]) (k_sizeW l dC dI k T A X tl pq hT hK (by omega)) B mV_Jx4a65c_size_8abf5 mw_1474 hl (q0 := k_31) (ci := 12) hk_31 rfl rfl ⟨Nat.le_of_ble_eq_true rfl, Nat.le_of_ble_eq_true rfl⟩ (Nat.le_of_ble_eq_true rfl) rfl dX6_countHeadingsAndTerms_85 ⟨Nat.le_of_ble_eq_true rfl, Nat.le_of_ble_eq_true rfl⟩ (fun r w gc gs H locs hp B => ?_)
        obtain ⟨z_32, rfl, hw9, rfl, rfl⟩ := hp
        rw [hw9] at B; clear hw9
        have B := bd_to (ws' := ([(rw, .inr (6, [.int (iI n), .ref w1, .ref w2, .ref w3, .ref w4, .ref w5, .ref w6, .ref w7, .ref w8, .ref w9, .ref w10, .ref w11, .int (iI (h9_ + 1)), .int (iI t8_), .ref w14, .ref w15, .ref w16, .int (iI fn)])), (w11, .inl (k 1, 8, .inl (fun i9 : Nat => iI (x11 i9))))] ++ tl)) rfl B
        refine lv_icmp_ge (tgt := 132) hx hb dX6_countHeadingsAndTerms_88 (by decide) (fun c_33 => ?_) (fun c_33 => ?_)
        · have zc_33 : (T 3 pq 0 0) ≤ aw := jle (a := (T 3 pq 0 0)) (b := aw) (by omega) (by omega) c_33
          refine lv_iinc (v := iI (pq + 1)) (lv' := [(3, .int (iI (pq + 1))), (5, .int (iI aw)), (4, .ref (A 0 pq 0)), (0, .ref rw), (1, .ref (A 50 0 0)), (2, .int (iI v))]) hx hb dX6_countHeadingsAndTerms_132 hl (k := 2) rfl (iI_add _ _) (by decide) rfl (fun ls hl => ?_)
          refine lv_goto (tgt := 16) hx hb dX6_countHeadingsAndTerms_135 (by decide) ?_
          exact ih_1 ((pq + 1), (h9_ + 1), t8_, x11) ⟨(show 0 ≤ (pq + 1) ∧ (pq + 1) ≤ T 0 0 0 0 ∧ T 0 0 0 0 ≤ 16 ∧ 0 ≤ (h9_ + 1) ∧ (h9_ + 1) ≤ (pq + 1) from (by omega)), (show (h9_ + 1) = (ctB T v (Int.toNat (pq + 1))).1 ∧ t8_ = (ctB T v (Int.toNat (pq + 1))).2.2 ∧ ∀ j, 0 ≤ j → j < 8 → x11 j = (ctB T v (Int.toNat (pq + 1))).2.1 j from (by rw [ctB_s (by omega), if_pos z_10]; exact ⟨(by show h9_ + 1 = (ctB T v (Int.toNat pq)).1 + (if T 1 pq 0 0 = 1 then 1 else 0); rw [← hct.1]; split <;> omega), (by rw [show (T 3 pq 0 0).toNat = Int.toNat aw by omega]; exact hcw.1), (by rw [show (T 3 pq 0 0).toNat = Int.toNat aw by omega]; exact hcw.2)⟩)), (show Bd 0 1 x11 from hv11), (show t8_ = cnF x11 8 from hcn)⟩ (by first | omega | (dsimp only; omega)) _ _ _ (lv_sub hl [0, 3, 4, 5] rfl) (bd_to rfl B)
        · have zc_33 : aw < (T 3 pq 0 0) := jnle (a := (T 3 pq 0 0)) (b := aw) (by omega) (by omega) c_33
          refine lv_aload hx hb dX6_countHeadingsAndTerms_91 (lv_at hl 1 rfl) ?_
          obtain ⟨k_34, hk_34⟩ := pk_at (hs := [(rw, .inr (6, [.int (iI n), .ref w1, .ref w2, .ref w3, .ref w4, .ref w5, .ref w6, .ref w7, .ref w8, .ref w9, .ref w10, .ref w11, .int (iI (h9_ + 1)), .int (iI t8_), .ref w14, .ref w15, .ref w16, .int (iI fn)])), (w11, .inl (k 1, 8, .inl (fun i9 : Nat => iI (x11 i9))))]) (hT.2.2.2.1 pq (by omega) (by omega)).1
          refine x_get (ci := 0) (C := RX0) (T := TX0) (N := 4) (v := .ref (A 2 pq 0)) B k_34 hk_34 rfl in_X0 2 (by decide) mw_1182 (fun _ h9 => h9) rfl dX6_countHeadingsAndTerms_93 ?_
          refine lv_iload hx hb dX6_countHeadingsAndTerms_96 (lv_at hl 0 rfl) ?_
          have B := bd_swap (a := []) (b := [(rw, .inr (6, [.int (iI n), .ref w1, .ref w2, .ref w3, .ref w4, .ref w5, .ref w6, .ref w7, .ref w8, .ref w9, .ref w10, .ref w11, .int (iI (h9_ + 1)), .int (iI t8_), .ref w14, .ref w15, .ref w16, .int (iI fn)])), (w11, .inl (k 1, 8, .inl (fun i9 : Nat => iI (x11 i9))))]) (d := tl) (bd_to rfl B)
          obtain ⟨k_35, fk_35, hk_35⟩ := LI_at (hs := []) (hT.2.2.2.1 pq (by omega) (by omega)).2.2
          refine k_V (rest := []) (wc := ([] ++ tl)) (wr := [(rw, .inr (6, [.int (iI n), .ref w1, .ref w2, .ref w3, .ref w4, .ref w5, .ref w6, .ref w7, .ref w8, .ref w9, .ref w10, .ref w11, .int (iI (h9_ + 1)), .int (iI t8_), .ref w14, .ref w15, .ref w16, .int (iI fn)])), (w11, .inl (k 1, 8, .inl (fun i9 : Nat => iI (x11 i9))))]) (k_getW l dC dI k T A X tl pq aw hT hK (by omega) (by omega)) B mV_Jx4a65c_get_915e3 mw_1475 hl (q0 := k_35) (ci := 12) hk_35 rfl rfl ⟨Nat.le_of_ble_eq_true rfl, Nat.le_of_ble_eq_true rfl⟩ (Nat.le_of_ble_eq_true rfl) rfl dX6_countHeadingsAndTerms_98 ⟨Nat.le_of_ble_eq_true rfl, Nat.le_of_ble_eq_true rfl⟩ (fun r w gc gs H locs hp B => ?_)
          obtain ⟨rfl, hw9, rfl, rfl⟩ := hp
          rw [hw9] at B; clear hw9
          have B := bd_to (ws' := ([(rw, .inr (6, [.int (iI n), .ref w1, .ref w2, .ref w3, .ref w4, .ref w5, .ref w6, .ref w7, .ref w8, .ref w9, .ref w10, .ref w11, .int (iI (h9_ + 1)), .int (iI t8_), .ref w14, .ref w15, .ref w16, .int (iI fn)])), (w11, .inl (k 1, 8, .inl (fun i9 : Nat => iI (x11 i9))))] ++ tl)) rfl B
          obtain ⟨k_36, hk_36⟩ := pk_at (hs := [(rw, .inr (6, [.int (iI n), .ref w1, .ref w2, .ref w3, .ref w4, .ref w5, .ref w6, .ref w7, .ref w8, .ref w9, .ref w10, .ref w11, .int (iI (h9_ + 1)), .int (iI t8_), .ref w14, .ref w15, .ref w16, .int (iI fn)])), (w11, .inl (k 1, 8, .inl (fun i9 : Nat => iI (x11 i9))))]) (hT.2.2.2.2.1 pq aw (by omega) (by omega) (by omega) (by omega)).1
          refine x_cast (ci := 10) (C := RX10) (T := TX10) (N := 4) B k_36 hk_36 rfl mw_1478 dX6_countHeadingsAndTerms_101 ?_
          refine lv_astore (lv' := [(6, .ref (A 4 pq aw)), (5, .int (iI aw)), (4, .ref (A 0 pq 0)), (3, .int (iI pq)), (0, .ref rw), (1, .ref (A 50 0 0)), (2, .int (iI v))]) hx hb dX6_countHeadingsAndTerms_104 hl (by decide) rfl (fun ls hl => ?_)
          refine lv_aload hx hb dX6_countHeadingsAndTerms_106 (lv_at hl 0 rfl) ?_
          refine lv_iload_n hx hb dX6_countHeadingsAndTerms_108 rfl (lv_at hl 6 rfl) ?_
          have B := bd_swap (a := []) (b := [(rw, .inr (6, [.int (iI n), .ref w1, .ref w2, .ref w3, .ref w4, .ref w5, .ref w6, .ref w7, .ref w8, .ref w9, .ref w10, .ref w11, .int (iI (h9_ + 1)), .int (iI t8_), .ref w14, .ref w15, .ref w16, .int (iI fn)])), (w11, .inl (k 1, 8, .inl (fun i9 : Nat => iI (x11 i9))))]) (d := tl) (bd_to rfl B)
          obtain ⟨k_37, hk_37⟩ := pk_at (hs := []) (hT.2.2.2.2.1 pq aw (by omega) (by omega) (by omega) (by omega)).1
          refine k_V (rest := []) (wc := ([] ++ tl)) (wr := [(rw, .inr (6, [.int (iI n), .ref w1, .ref w2, .ref w3, .ref w4, .ref w5, .ref w6, .ref w7, .ref w8, .ref w9, .ref w10, .ref w11, .int (iI (h9_ + 1)), .int (iI t8_), .ref w14, .ref w15, .ref w16, .int (iI fn)])), (w11, .inl (k 1, 8, .inl (fun i9 : Nat => iI (x11 i9))))]) (k_thW l dC dI k T A X tl pq aw v hT hK (by omega) (by omega) hv) B mV_X10_isThere mw_1479 hl (q0 := k_37) (ci := 10) hk_37 rfl rfl ⟨Nat.le_of_ble_eq_true rfl, Nat.le_of_ble_eq_true rfl⟩ (Nat.le_of_ble_eq_true rfl) rfl dX6_countHeadingsAndTerms_109 ⟨Nat.le_of_ble_eq_true rfl, Nat.le_of_ble_eq_true rfl⟩ (fun r w gc gs H locs hp B => ?_)
          rcases hp with ⟨z_38, rfl, hw9, rfl, rfl⟩ | ⟨z_39, rfl, hw9, rfl, rfl⟩
          · skip
            rw [hw9] at B; clear hw9
            have B := bd_to (ws' := ([(rw, .inr (6, [.int (iI n), .ref w1, .ref w2, .ref w3, .ref w4, .ref w5, .ref w6, .ref w7, .ref w8, .ref w9, .ref w10, .ref w11, .int (iI (h9_ + 1)), .int (iI t8_), .ref w14, .ref w15, .ref w16, .int (iI fn)])), (w11, .inl (k 1, 8, .inl (fun i9 : Nat => iI (x11 i9))))] ++ tl)) rfl B
            refine lv_if_eq (tgt := 126) hx hb dX6_countHeadingsAndTerms_112 (by decide) (fun c9 => absurd c9 (by decide)) (fun _ => ?_)
            refine lv_aload_n hx hb dX6_countHeadingsAndTerms_115 rfl (lv_at hl 4 rfl) ?_
            refine lv_aload hx hb dX6_countHeadingsAndTerms_116 (lv_at hl 0 rfl) ?_
            obtain ⟨k_40, hk_40⟩ := pk_at (hs := [(rw, .inr (6, [.int (iI n), .ref w1, .ref w2, .ref w3, .ref w4, .ref w5, .ref w6, .ref w7, .ref w8, .ref w9, .ref w10, .ref w11, .int (iI (h9_ + 1)), .int (iI t8_), .ref w14, .ref w15, .ref w16, .int (iI fn)])), (w11, .inl (k 1, 8, .inl (fun i9 : Nat => iI (x11 i9))))]) (hT.2.2.2.2.1 pq aw (by omega) (by omega) (by omega) (by omega)).1
            refine x_get (ci := 10) (C := RX10) (T := TX10) (N := 4) (v := .ref (A 6 pq aw)) B k_40 hk_40 rfl in_X10 2 (by decide) mw_827 (fun _ h9 => h9) rfl dX6_countHeadingsAndTerms_118 ?_
            refine lv_iconst (v := iI 3) hx hb dX6_countHeadingsAndTerms_121 (by decide) ?_
            obtain ⟨k_41, hk_41⟩ := pk_at (hs := [(rw, .inr (6, [.int (iI n), .ref w1, .ref w2, .ref w3, .ref w4, .ref w5, .ref w6, .ref w7, .ref w8, .ref w9, .ref w10, .ref w11, .int (iI (h9_ + 1)), .int (iI t8_), .ref w14, .ref w15, .ref w16, .int (iI fn)])), (w11, .inl (k 1, 8, .inl (fun i9 : Nat => iI (x11 i9))))]) (hT.2.2.2.2.1 pq aw (by omega) (by omega) (by omega) (by omega)).2.2
            refine x_iald' (f := (fun j9 : Int => T 7 pq aw j9)) (z := 3) B k_41 hk_41 (by omega) dX6_countHeadingsAndTerms_122 ?_
            have z_42 : (-1) ≤ (T 7 pq aw 3) ∧ (T 7 pq aw 3) ≤ 7 := (fun q => TK_mrk hK pq aw q) 3
            have B := bd_to (ws' := [(rw, .inr (6, [.int (iI n), .ref w1, .ref w2, .ref w3, .ref w4, .ref w5, .ref w6, .ref w7, .ref w8, .ref w9, .ref w10, .ref w11, .int (iI (h9_ + 1)), .int (iI t8_), .ref w14, .ref w15, .ref w16, .int (iI fn)])), (w11, .inl (k 1, 8, .inl (fun i9 : Nat => iI (x11 i9))))] ++ ([] ++ tl)) rfl B
            refine k_V (rest := []) (wc := [(rw, .inr (6, [.int (iI n), .ref w1, .ref w2, .ref w3, .ref w4, .ref w5, .ref w6, .ref w7, .ref w8, .ref w9, .ref w10, .ref w11, .int (iI (h9_ + 1)), .int (iI t8_), .ref w14, .ref w15, .ref w16, .int (iI fn)])), (w11, .inl (k 1, 8, .inl (fun i9 : Nat => iI (x11 i9))))]) (wr := ([] ++ tl)) (k_countTerm l dC dI k rw w1 w2 w3 w4 w5 w6 w7 w8 w9 w10 w11 w14 w15 w16 n (h9_ + 1) t8_ fn x11 (T 7 pq aw 3) hv11 (by omega)) B mV_X6_countTerm mw_1480 hl (q0 := 0) rfl rfl rfl ⟨Nat.le_of_ble_eq_true rfl, Nat.le_of_ble_eq_true rfl⟩ (Nat.le_of_ble_eq_true rfl) rfl dX6_countHeadingsAndTerms_123 ⟨Nat.le_of_ble_eq_true rfl, Nat.le_of_ble_eq_true rfl⟩ (fun r w gc gs H locs hp B => ?_)
            obtain ⟨rfl, hw9, rfl, rfl⟩ := hp
            rw [hw9] at B; clear hw9
            have B := bd_swap (a := []) (b := tl) (d := [(rw, .inr (6, [.int (iI n), .ref w1, .ref w2, .ref w3, .ref w4, .ref w5, .ref w6, .ref w7, .ref w8, .ref w9, .ref w10, .ref w11, .int (iI (h9_ + 1)), .int (iI (ctN x11 (T 7 pq aw 3) t8_)), .ref w14, .ref w15, .ref w16, .int (iI fn)])), (w11, .inl (k 1, 8, .inl (fun i9 : Nat => iI ((ctF x11 (T 7 pq aw 3)) i9))))]) B
            have B := bd_to (ws' := ([(rw, .inr (6, [.int (iI n), .ref w1, .ref w2, .ref w3, .ref w4, .ref w5, .ref w6, .ref w7, .ref w8, .ref w9, .ref w10, .ref w11, .int (iI (h9_ + 1)), .int (iI (ctN x11 (T 7 pq aw 3) t8_)), .ref w14, .ref w15, .ref w16, .int (iI fn)])), (w11, .inl (k 1, 8, .inl (fun i9 : Nat => iI ((ctF x11 (T 7 pq aw 3)) i9))))] ++ tl)) rfl B
            refine lv_iinc (v := iI (aw + 1)) (lv' := [(5, .int (iI (aw + 1))), (6, .ref (A 4 pq aw)), (4, .ref (A 0 pq 0)), (3, .int (iI pq)), (0, .ref rw), (1, .ref (A 50 0 0)), (2, .int (iI v))]) hx hb dX6_countHeadingsAndTerms_126 hl (k := 1) rfl (iI_add _ _) (by decide) rfl (fun ls hl => ?_)
            refine lv_goto (tgt := 78) hx hb dX6_countHeadingsAndTerms_129 (by decide) ?_
            exact ih_29 ((aw + 1), (ctN x11 (T 7 pq aw 3) t8_), (ctF x11 (T 7 pq aw 3))) ⟨(show 0 ≤ (aw + 1) ∧ (aw + 1) ≤ T 3 pq 0 0 ∧ T 3 pq 0 0 ≤ 12 from (by omega)), (show (ctN x11 (T 7 pq aw 3) t8_) = (ctW T v pq (ctB T v (Int.toNat pq)).2 (Int.toNat (aw + 1))).2 ∧ ∀ j, 0 ≤ j → j < 8 → (ctF x11 (T 7 pq aw 3)) j = (ctW T v pq (ctB T v (Int.toNat pq)).2 (Int.toNat (aw + 1))).1 j from (by rw [ctW_s (by omega), if_pos z_38]; exact ⟨hcw.1 ▸ (ct_ag (by have q9 := TK_mrk hK pq aw 3; omega) hcw.2).2, (ct_ag (n := 0) (by have q9 := TK_mrk hK pq aw 3; omega) hcw.2).1⟩)), (show Bd 0 1 (ctF x11 (T 7 pq aw 3)) from (ct_Bd hv11)), (show (ctN x11 (T 7 pq aw 3) t8_) = cnF (ctF x11 (T 7 pq aw 3)) 8 from (ct_cn (by have q9 := TK_mrk hK pq aw 3; omega) hcn))⟩ (by first | omega | (dsimp only; omega)) _ _ _ (lv_sub hl [0, 2, 3, 4, 5, 6] rfl) (bd_to rfl B)
          · skip
            rw [hw9] at B; clear hw9
            have B := bd_to (ws' := ([(rw, .inr (6, [.int (iI n), .ref w1, .ref w2, .ref w3, .ref w4, .ref w5, .ref w6, .ref w7, .ref w8, .ref w9, .ref w10, .ref w11, .int (iI (h9_ + 1)), .int (iI t8_), .ref w14, .ref w15, .ref w16, .int (iI fn)])), (w11, .inl (k 1, 8, .inl (fun i9 : Nat => iI (x11 i9))))] ++ tl)) rfl B
            refine lv_if_eq (tgt := 126) hx hb dX6_countHeadingsAndTerms_112 (by decide) (fun _ => ?_) (fun c9 => absurd (by decide) c9)
            refine lv_iinc (v := iI (aw + 1)) (lv' := [(5, .int (iI (aw + 1))), (6, .ref (A 4 pq aw)), (4, .ref (A 0 pq 0)), (3, .int (iI pq)), (0, .ref rw), (1, .ref (A 50 0 0)), (2, .int (iI v))]) hx hb dX6_countHeadingsAndTerms_126 hl (k := 1) rfl (iI_add _ _) (by decide) rfl (fun ls hl => ?_)
            refine lv_goto (tgt := 78) hx hb dX6_countHeadingsAndTerms_129 (by decide) ?_
            exact ih_29 ((aw + 1), t8_, x11) ⟨(show 0 ≤ (aw + 1) ∧ (aw + 1) ≤ T 3 pq 0 0 ∧ T 3 pq 0 0 ≤ 12 from (by omega)), (show t8_ = (ctW T v pq (ctB T v (Int.toNat pq)).2 (Int.toNat (aw + 1))).2 ∧ ∀ j, 0 ≤ j → j < 8 → x11 j = (ctW T v pq (ctB T v (Int.toNat pq)).2 (Int.toNat (aw + 1))).1 j from (by rw [ctW_s (by omega), if_neg z_39]; exact hcw)), (show Bd 0 1 x11 from hv11), (show t8_ = cnF x11 8 from hcn)⟩ (by first | omega | (dsimp only; omega)) _ _ _ (lv_sub hl [0, 2, 3, 4, 5, 6] rfl) (bd_to rfl B)
    · skip
      rw [hw9] at B; clear hw9
      have B := bd_to (ws' := ([(rw, .inr (6, [.int (iI n), .ref w1, .ref w2, .ref w3, .ref w4, .ref w5, .ref w6, .ref w7, .ref w8, .ref w9, .ref w10, .ref w11, .int (iI h9_), .int (iI t9_), .ref w14, .ref w15, .ref w16, .int (iI fn)])), (w11, .inl (k 1, 8, .inl (fun i9 : Nat => iI (u11 i9))))] ++ tl)) rfl B
      refine lv_if_ne (tgt := 52) hx hb dX6_countHeadingsAndTerms_46 (by decide) (fun c9 => absurd c9 (by decide)) (fun _ => ?_)
      refine lv_goto (tgt := 132) hx hb dX6_countHeadingsAndTerms_49 (by decide) ?_
      refine lv_iinc (v := iI (pq + 1)) (lv' := [(3, .int (iI (pq + 1))), (4, .ref (A 0 pq 0)), (0, .ref rw), (1, .ref (A 50 0 0)), (2, .int (iI v))]) hx hb dX6_countHeadingsAndTerms_132 hl (k := 1) rfl (iI_add _ _) (by decide) rfl (fun ls hl => ?_)
      refine lv_goto (tgt := 16) hx hb dX6_countHeadingsAndTerms_135 (by decide) ?_
      exact ih_1 ((pq + 1), h9_, t9_, u11) ⟨(show 0 ≤ (pq + 1) ∧ (pq + 1) ≤ T 0 0 0 0 ∧ T 0 0 0 0 ≤ 16 ∧ 0 ≤ h9_ ∧ h9_ ≤ (pq + 1) from (by omega)), (show h9_ = (ctB T v (Int.toNat (pq + 1))).1 ∧ t9_ = (ctB T v (Int.toNat (pq + 1))).2.2 ∧ ∀ j, 0 ≤ j → j < 8 → u11 j = (ctB T v (Int.toNat (pq + 1))).2.1 j from (by rw [ctB_s (by omega), if_neg z_11]; exact hct)), (show Bd 0 1 u11 from hv11), (show t9_ = cnF u11 8 from hcn)⟩ (by first | omega | (dsimp only; omega)) _ _ _ (lv_sub hl [0, 2, 3, 4] rfl) (bd_to rfl B)

end
