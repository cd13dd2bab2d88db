section
/-- the states with a way put down for one of them; .. if it is better than the one that stands -/
def ptS (S : Nat → Int → Int) (st sm pq n : Int) : Nat → Int → Int := fun c i => if c = 6 then uz (S 6) st sm i else if c = 7 then uz (S 7) st pq i else if c = 5 then uz (S 5) st n i else S c i
def upS (S : Nat → Int → Int) (st sm pq n : Int) : Nat → Int → Int := if S 5 st = 0 ∨ sm < S 6 st ∨ (sm = S 6 st ∧ pq < S 7 st) then ptS S st sm pq n else S
def weZ (T : Nat → Int → Int → Int → Int) (M S : Nat → Int → Int) (nr st n cs wx ly : Int) : Nat → Int → Int :=
  if nr < M 0 0 then upS S st (cs + S 6 (fnZ S nr (waZ T M wx) ly)) (1 + (bcZ (bXor wx (waZ T M wx)) + S 7 (fnZ S nr (waZ T M wx) ly))) n else upS S st cs (1 + pbZ T M wx ly) n
def chF (T : Nat → Int → Int → Int → Int) (M : Nat → Int → Int) (ro wt lf st : Int) : Nat → Int → (Nat → Int → Int) → (Nat → Int → Int)
  | 0, _, S => S
  | f + 1, n, S => if M 0 0 - ro < n + 1 then S else if ¬ pgG M ro n then S else if 1 < n + 1 ∧ T 17 0 0 0 < pgH T M ro wt (n + 1) then S
    else chF T M ro wt lf st f (n + 1) (if pgE T M ro wt lf (n + 1) then weZ T M S (ro + (n + 1)) st (n + 1) (pgC T M ro wt lf (n + 1)) (pgX T M ro wt lf (n + 1)) (pgY T M ro wt lf (n + 1)) else S)
def chZ (T : Nat → Int → Int → Int → Int) (M S : Nat → Int → Int) (ro wt lf st : Int) : Nat → Int → Int := chF T M ro wt lf st 769 0 S
/-- bounds of what stands for the states' ways -/
def SB (S : Nat → Int → Int) : Prop := ∀ j, 0 ≤ j → j < S 0 0 → (0 ≤ S 6 j ∧ S 6 j ≤ 80000 * (768 - S 8 j)) ∧ (0 ≤ S 7 j ∧ S 7 j ≤ 800000 + 6 * (768 - S 8 j)) ∧ (0 ≤ S 5 j ∧ S 5 j ≤ 768)
/-- the rows that are chosen can be put on a page -/
def SG (M S : Nat → Int → Int) : Prop := ∀ j, 0 ≤ j → j < S 0 0 → S 5 j ≠ 0 → 1 ≤ S 5 j ∧ (S 5 j = 1 ∨ smZ (M 1) (S 8 j) (Int.toNat (S 5 j)) ≤ 40) ∧ ∀ i, 0 ≤ i → i < S 5 j → pgG M (S 8 j) i
def SE (S S' : Nat → Int → Int) : Prop := (∀ c, c ≠ 5 → c ≠ 6 → c ≠ 7 → S' c = S c) ∧ ∀ j, S 5 j ≠ 0 → S' 5 j ≠ 0
section CH1
variable {T : Nat → Int → Int → Int → Int} {M S S' S'' : Nat → Int → Int} {ro wt lf n st sm pq nr cs wx ly : Int}
theorem chF_s (h : n < 769) : chF T M ro wt lf st (Int.toNat (769 - n)) n S = if M 0 0 - ro < n + 1 then S else if ¬ pgG M ro n then S else if 1 < n + 1 ∧ T 17 0 0 0 < pgH T M ro wt (n + 1) then S
    else chF T M ro wt lf st (Int.toNat (769 - (n + 1))) (n + 1) (if pgE T M ro wt lf (n + 1) then weZ T M S (ro + (n + 1)) st (n + 1) (pgC T M ro wt lf (n + 1)) (pgX T M ro wt lf (n + 1)) (pgY T M ro wt lf (n + 1)) else S) := by
  rw [show Int.toNat (769 - n) = Int.toNat (769 - (n + 1)) + 1 by omega]
  rfl
theorem pt_c {c : Nat} (h5 : c ≠ 5) (h6 : c ≠ 6) (h7 : c ≠ 7) : ptS S st sm pq n c = S c := by
  funext i
  simp only [ptS]
  rw [if_neg h6, if_neg h7, if_neg h5]
theorem pt_5 {i : Int} : ptS S st sm pq n 5 i = uz (S 5) st n i := rfl
theorem pt_6 {i : Int} : ptS S st sm pq n 6 i = uz (S 6) st sm i := rfl
theorem pt_7 {i : Int} : ptS S st sm pq n 7 i = uz (S 7) st pq i := rfl
theorem SE_rf : SE S S := ⟨fun _ _ _ _ => rfl, fun _ h => h⟩
theorem SE_tr (h : SE S S') (h2 : SE S' S'') : SE S S'' := ⟨fun c h5 h6 h7 => (h2.1 c h5 h6 h7).trans (h.1 c h5 h6 h7), fun j g => h2.2 j (h.2 j g)⟩
theorem SE_pt (hn : n ≠ 0) : SE S (ptS S st sm pq n) := ⟨fun c h5 h6 h7 => pt_c h5 h6 h7, fun j g => by
  rw [pt_5]
  by_cases e : j = st
  · rw [e, uz_s]; exact hn
  · rw [uz_n e]; exact g⟩
theorem SE_up (hn : n ≠ 0) : SE S (upS S st sm pq n) := by
  unfold upS
  split
  · exact SE_pt hn
  · exact SE_rf
theorem SE_we (hn : n ≠ 0) : SE S (weZ T M S nr st n cs wx ly) := by
  unfold weZ
  split
  · exact SE_up hn
  · exact SE_up hn
theorem up_ne (hn : n ≠ 0) : upS S st sm pq n 5 st ≠ 0 := by
  unfold upS
  split
  · rw [pt_5, uz_s]; exact hn
  · rename_i h; exact fun q => h (Or.inl q)
theorem we_ne (hn : n ≠ 0) : weZ T M S nr st n cs wx ly 5 st ≠ 0 := by
  unfold weZ
  split
  · exact up_ne hn
  · exact up_ne hn
theorem SE_0 (h : SE S S') : S' 0 0 = S 0 0 := by rw [h.1 0 (by omega) (by omega) (by omega)]
theorem SW_SE (h : SW S) (e : SE S S') : SW S' := by
  have e0 := e.1 0 (by omega) (by omega) (by omega)
  have e1 := e.1 1 (by omega) (by omega) (by omega)
  have e2 := e.1 2 (by omega) (by omega) (by omega)
  have e3 := e.1 3 (by omega) (by omega) (by omega)
  have e4 := e.1 4 (by omega) (by omega) (by omega)
  have e8 := e.1 8 (by omega) (by omega) (by omega)
  unfold SW at h ⊢
  rw [e0, e1, e2, e3, e4, e8]
  exact h
theorem SA_pt {y1 y2 y3 y4 y5 y6 y7 : Int → Int} (h : SA S y1 y2 y3 y4 y5 y6 y7) : SA (ptS S st sm pq n) y1 y2 y3 y4 (uz y5 st n) (uz y6 st sm) (uz y7 st pq) := by
  have e0 : ptS S st sm pq n 0 0 = S 0 0 := rfl
  refine ⟨h.1, fun j g1 g2 => ?_, fun j g1 g2 g3 => ?_⟩
  · obtain ⟨a, b, c, d⟩ := h.2.1 j g1 g2
    refine ⟨a, b, c, ?_⟩
    rw [pt_5]
    by_cases e : j = st
    · rw [e, uz_s, uz_s]
    · rw [uz_n e, uz_n e]; exact d
  · rw [pt_6, pt_7]
    rw [pt_5] at g3
    by_cases e : j = st
    · rw [e, uz_s, uz_s, uz_s, uz_s]; exact ⟨rfl, rfl⟩
    · rw [uz_n e] at g3
      rw [uz_n e, uz_n e, uz_n e, uz_n e]; exact h.2.2 j g1 g2 g3
theorem SB_up (h : SB S) (hs : 0 ≤ st ∧ st < S 0 0) (h6 : 0 ≤ sm ∧ sm ≤ 80000 * (768 - S 8 st)) (h7 : 0 ≤ pq ∧ pq ≤ 800000 + 6 * (768 - S 8 st)) (h5 : 0 ≤ n ∧ n ≤ 768) : SB (upS S st sm pq n) := by
  unfold upS
  split
  · intro j g1 g2
    have q := h j g1 g2
    rw [pt_5, pt_6, pt_7]
    show (0 ≤ uz (S 6) st sm j ∧ uz (S 6) st sm j ≤ 80000 * (768 - S 8 j)) ∧ (0 ≤ uz (S 7) st pq j ∧ uz (S 7) st pq j ≤ 800000 + 6 * (768 - S 8 j)) ∧ (0 ≤ uz (S 5) st n j ∧ uz (S 5) st n j ≤ 768)
    by_cases e : j = st
    · rw [e, uz_s, uz_s, uz_s]; exact ⟨h6, h7, h5⟩
    · rw [uz_n e, uz_n e, uz_n e]; exact q
  · exact h
theorem SG_up (h : SG M S) (h1 : 1 ≤ n) (h2 : n = 1 ∨ smZ (M 1) (S 8 st) (Int.toNat n) ≤ 40) (h3 : ∀ i, 0 ≤ i → i < n → pgG M (S 8 st) i) : SG M (upS S st sm pq n) := by
  unfold upS
  split
  · intro j g1 g2 g3
    have e8 : ptS S st sm pq n 8 = S 8 := pt_c (by omega) (by omega) (by omega)
    rw [e8]
    rw [pt_5] at g3 ⊢
    by_cases e : j = st
    · subst e
      rw [uz_s] at g3 ⊢
      exact ⟨h1, h2, h3⟩
    · rw [uz_n e] at g3 ⊢
      exact h j g1 g2 g3
  · exact h
theorem SG_we (h : SG M S) (h1 : 1 ≤ n) (h2 : n = 1 ∨ smZ (M 1) (S 8 st) (Int.toNat n) ≤ 40) (h3 : ∀ i, 0 ≤ i → i < n → pgG M (S 8 st) i) : SG M (weZ T M S nr st n cs wx ly) := by
  unfold weZ
  split
  · exact SG_up h h1 h2 h3
  · exact SG_up h h1 h2 h3
theorem sm_low (hK : TK T) (h : pgH T M ro wt n ≤ T 17 0 0 0) : smZ (M 1) ro (Int.toNat n) ≤ 40 := by
  have h1 := tpS_in (M := M) (wt := wt) hK (Int.toNat (M 17 0))
  have h2 := TK_hei hK
  unfold pgH at h
  have h3 : 0 ≤ (tpZ T M wt).2.2 := h1.2.1
  omega
end CH1

theorem mw_31 : (Jvm.Cond.initialized "java/lang/Integer") ∈ gt := gt_at 101 (by decide +kernel) (by decide +kernel)
theorem mw_186 : (Jvm.Cond.fieldLink "Galleyforge$Pages" (136 : Nat) "Galleyforge$States" "costs" "[I") ∈ gt := gt_at 256 (by decide +kernel) (by decide +kernel)
theorem mw_188 : (Jvm.Cond.fieldLink "Galleyforge$Pages" (143 : Nat) "Galleyforge$States" "pages" "[I") ∈ gt := gt_at 258 (by decide +kernel) (by decide +kernel)
theorem mw_190 : (Jvm.Cond.fieldLink "Galleyforge$Pages" (150 : Nat) "Galleyforge$States" "rows" "[I") ∈ gt := gt_at 260 (by decide +kernel) (by decide +kernel)
theorem mw_1602 : (Jvm.Cond.methodLink "Galleyforge$Pages" (132 : Nat) ({ cls := "Galleyforge$States", name := "find", desc := "(III)I" } : Jvm.MethodName)) ∈ gt := gt_at 1672 (by decide +kernel) (by decide +kernel)
theorem mw_1603 : (Jvm.Cond.methodLink "Galleyforge$Pages" (138 : Nat) ({ cls := "java/lang/Integer", name := "bitCount", desc := "(I)I" } : Jvm.MethodName)) ∈ gt := gt_at 1673 (by decide +kernel) (by decide +kernel)
theorem mw_1604 : (Jvm.Cond.static ({ cls := "java/lang/Integer", name := "bitCount", desc := "(I)I" } : Jvm.MethodName)) ∈ gt := gt_at 1674 (by decide +kernel) (by decide +kernel)
theorem mw_1605 : (Jvm.Cond.code ({ cls := "java/lang/Integer", name := "bitCount", desc := "(I)I" } : Jvm.MethodName) prog_25_method_49_code (1 : Nat) (Option.some Jvm.ClassFile.FieldType.int)) ∈ gt := gt_at 1675 (by decide +kernel) (by decide +kernel)
theorem mw_1609 : (Jvm.Cond.methodLink "Galleyforge$Pages" (146 : Nat) ({ cls := "Galleyforge$Pages", name := "pagesBehind", desc := "(II)I" } : Jvm.MethodName)) ∈ gt := gt_at 1679 (by decide +kernel) (by decide +kernel)
theorem mw_1611 : (Jvm.Cond.instanceMethod ({ cls := "Galleyforge$Pages", name := "pagesBehind", desc := "(II)I" } : Jvm.MethodName)) ∈ gt := gt_at 1681 (by decide +kernel) (by decide +kernel)
theorem mw_1612 : (Jvm.Cond.code ({ cls := "Galleyforge$Pages", name := "pagesBehind", desc := "(II)I" } : Jvm.MethodName) prog_6_method_8_code (6 : Nat) (Option.some Jvm.ClassFile.FieldType.int)) ∈ gt := gt_at 1682 (by decide +kernel) (by decide +kernel)
theorem mS_J6_bitCount_0f7a4 : mS yJ6_bitCount_0f7a4 cJ6_bitCount_0f7a4 1 (some .int) 1 := ⟨⟨mw_1605, mw_31, by decide, by decide, by decide +kernel⟩, mw_1604⟩
theorem ms_51 : Cond.selects "Galleyforge$Pages" (⟨"Galleyforge$Pages", "pagesBehind", "(II)I"⟩ : MethodName) (⟨"Galleyforge$Pages", "pagesBehind", "(II)I"⟩ : MethodName) ∈ gt := gt_at 51 (by decide +kernel) (by decide +kernel)
theorem mV_X4_pagesBehind : mV yX4_pagesBehind cX4_pagesBehind 6 (some .int) 2 := ⟨⟨mw_1612, mw_10, by decide, by decide, by decide +kernel⟩, mw_1611, ms_51⟩
theorem dX4_weigh_0 : decode cX4_weigh 0 = .ok (.iload 4, 2) := by decide +kernel
theorem dX4_weigh_2 : decode cX4_weigh 2 = .ok (.istore 5, 2) := by decide +kernel
theorem dX4_weigh_4 : decode cX4_weigh 4 = .ok (.iconst 1, 1) := by decide +kernel
theorem dX4_weigh_5 : decode cX4_weigh 5 = .ok (.istore 6, 2) := by decide +kernel
theorem dX4_weigh_7 : decode cX4_weigh 7 = .ok (.iload_n 1, 1) := by decide +kernel
theorem dX4_weigh_8 : decode cX4_weigh 8 = .ok (.aload_n 0, 1) := by decide +kernel
theorem dX4_weigh_9 : decode cX4_weigh 9 = .ok (.getfield 34, 3) := by decide +kernel
theorem dX4_weigh_12 : decode cX4_weigh 12 = .ok (.getfield 64, 3) := by decide +kernel
theorem dX4_weigh_15 : decode cX4_weigh 15 = .ok (.if_icmp .ge 89, 3) := by decide +kernel
theorem dX4_weigh_18 : decode cX4_weigh 18 = .ok (.aload_n 0, 1) := by decide +kernel
theorem dX4_weigh_19 : decode cX4_weigh 19 = .ok (.aload_n 0, 1) := by decide +kernel
theorem dX4_weigh_20 : decode cX4_weigh 20 = .ok (.getfield 47, 3) := by decide +kernel
theorem dX4_weigh_23 : decode cX4_weigh 23 = .ok (.getfield 115, 3) := by decide +kernel
theorem dX4_weigh_26 : decode cX4_weigh 26 = .ok (.invokevirtual 118, 3) := by decide +kernel
theorem dX4_weigh_29 : decode cX4_weigh 29 = .ok (.istore 7, 2) := by decide +kernel
theorem dX4_weigh_31 : decode cX4_weigh 31 = .ok (.aload_n 0, 1) := by decide +kernel
theorem dX4_weigh_32 : decode cX4_weigh 32 = .ok (.getfield 38, 3) := by decide +kernel
theorem dX4_weigh_35 : decode cX4_weigh 35 = .ok (.iload_n 1, 1) := by decide +kernel
theorem dX4_weigh_36 : decode cX4_weigh 36 = .ok (.iload 7, 2) := by decide +kernel
theorem dX4_weigh_38 : decode cX4_weigh 38 = .ok (.aload_n 0, 1) := by decide +kernel
theorem dX4_weigh_39 : decode cX4_weigh 39 = .ok (.getfield 47, 3) := by decide +kernel
theorem dX4_weigh_42 : decode cX4_weigh 42 = .ok (.getfield 122, 3) := by decide +kernel
theorem dX4_weigh_45 : decode cX4_weigh 45 = .ok (.invokevirtual 132, 3) := by decide +kernel
theorem dX4_weigh_48 : decode cX4_weigh 48 = .ok (.istore 8, 2) := by decide +kernel
theorem dX4_weigh_50 : decode cX4_weigh 50 = .ok (.iload 8, 2) := by decide +kernel
theorem dX4_weigh_52 : decode cX4_weigh 52 = .ok (.iconst (-1), 1) := by decide +kernel
theorem dX4_weigh_53 : decode cX4_weigh 53 = .ok (.if_icmp .ne 4, 3) := by decide +kernel
theorem dX4_weigh_57 : decode cX4_weigh 57 = .ok (.iload 5, 2) := by decide +kernel
theorem dX4_weigh_59 : decode cX4_weigh 59 = .ok (.aload_n 0, 1) := by decide +kernel
theorem dX4_weigh_60 : decode cX4_weigh 60 = .ok (.getfield 38, 3) := by decide +kernel
theorem dX4_weigh_63 : decode cX4_weigh 63 = .ok (.getfield 136, 3) := by decide +kernel
theorem dX4_weigh_66 : decode cX4_weigh 66 = .ok (.iload 8, 2) := by decide +kernel
theorem dX4_weigh_68 : decode cX4_weigh 68 = .ok (.iaload, 1) := by decide +kernel
theorem dX4_weigh_69 : decode cX4_weigh 69 = .ok (.iadd, 1) := by decide +kernel
theorem dX4_weigh_70 : decode cX4_weigh 70 = .ok (.istore 5, 2) := by decide +kernel
theorem dX4_weigh_72 : decode cX4_weigh 72 = .ok (.iload 6, 2) := by decide +kernel
theorem dX4_weigh_74 : decode cX4_weigh 74 = .ok (.aload_n 0, 1) := by decide +kernel
theorem dX4_weigh_75 : decode cX4_weigh 75 = .ok (.getfield 47, 3) := by decide +kernel
theorem dX4_weigh_78 : decode cX4_weigh 78 = .ok (.getfield 115, 3) := by decide +kernel
theorem dX4_weigh_81 : decode cX4_weigh 81 = .ok (.iload 7, 2) := by decide +kernel
theorem dX4_weigh_83 : decode cX4_weigh 83 = .ok (.ixor, 1) := by decide +kernel
theorem dX4_weigh_84 : decode cX4_weigh 84 = .ok (.invokestatic 138, 3) := by decide +kernel
theorem dX4_weigh_87 : decode cX4_weigh 87 = .ok (.aload_n 0, 1) := by decide +kernel
theorem dX4_weigh_88 : decode cX4_weigh 88 = .ok (.getfield 38, 3) := by decide +kernel
theorem dX4_weigh_91 : decode cX4_weigh 91 = .ok (.getfield 143, 3) := by decide +kernel
theorem dX4_weigh_94 : decode cX4_weigh 94 = .ok (.iload 8, 2) := by decide +kernel
theorem dX4_weigh_96 : decode cX4_weigh 96 = .ok (.iaload, 1) := by decide +kernel
theorem dX4_weigh_97 : decode cX4_weigh 97 = .ok (.iadd, 1) := by decide +kernel
theorem dX4_weigh_98 : decode cX4_weigh 98 = .ok (.iadd, 1) := by decide +kernel
theorem dX4_weigh_99 : decode cX4_weigh 99 = .ok (.istore 6, 2) := by decide +kernel
theorem dX4_weigh_101 : decode cX4_weigh 101 = .ok (.goto 26, 3) := by decide +kernel
theorem dX4_weigh_104 : decode cX4_weigh 104 = .ok (.iload 6, 2) := by decide +kernel
theorem dX4_weigh_106 : decode cX4_weigh 106 = .ok (.aload_n 0, 1) := by decide +kernel
theorem dX4_weigh_107 : decode cX4_weigh 107 = .ok (.aload_n 0, 1) := by decide +kernel
theorem dX4_weigh_108 : decode cX4_weigh 108 = .ok (.getfield 47, 3) := by decide +kernel
theorem dX4_weigh_111 : decode cX4_weigh 111 = .ok (.getfield 115, 3) := by decide +kernel
theorem dX4_weigh_114 : decode cX4_weigh 114 = .ok (.aload_n 0, 1) := by decide +kernel
theorem dX4_weigh_115 : decode cX4_weigh 115 = .ok (.getfield 47, 3) := by decide +kernel
theorem dX4_weigh_118 : decode cX4_weigh 118 = .ok (.getfield 122, 3) := by decide +kernel
theorem dX4_weigh_121 : decode cX4_weigh 121 = .ok (.invokevirtual 146, 3) := by decide +kernel
theorem dX4_weigh_124 : decode cX4_weigh 124 = .ok (.iadd, 1) := by decide +kernel
theorem dX4_weigh_125 : decode cX4_weigh 125 = .ok (.istore 6, 2) := by decide +kernel
theorem dX4_weigh_127 : decode cX4_weigh 127 = .ok (.aload_n 0, 1) := by decide +kernel
theorem dX4_weigh_128 : decode cX4_weigh 128 = .ok (.getfield 38, 3) := by decide +kernel
theorem dX4_weigh_131 : decode cX4_weigh 131 = .ok (.getfield 150, 3) := by decide +kernel
theorem dX4_weigh_134 : decode cX4_weigh 134 = .ok (.iload_n 2, 1) := by decide +kernel
theorem dX4_weigh_135 : decode cX4_weigh 135 = .ok (.iaload, 1) := by decide +kernel
theorem dX4_weigh_136 : decode cX4_weigh 136 = .ok (.ifCond .eq 45, 3) := by decide +kernel
theorem dX4_weigh_139 : decode cX4_weigh 139 = .ok (.iload 5, 2) := by decide +kernel
theorem dX4_weigh_141 : decode cX4_weigh 141 = .ok (.aload_n 0, 1) := by decide +kernel
theorem dX4_weigh_142 : decode cX4_weigh 142 = .ok (.getfield 38, 3) := by decide +kernel
theorem dX4_weigh_145 : decode cX4_weigh 145 = .ok (.getfield 136, 3) := by decide +kernel
theorem dX4_weigh_148 : decode cX4_weigh 148 = .ok (.iload_n 2, 1) := by decide +kernel
theorem dX4_weigh_149 : decode cX4_weigh 149 = .ok (.iaload, 1) := by decide +kernel
theorem dX4_weigh_150 : decode cX4_weigh 150 = .ok (.if_icmp .lt 31, 3) := by decide +kernel
theorem dX4_weigh_153 : decode cX4_weigh 153 = .ok (.iload 5, 2) := by decide +kernel
theorem dX4_weigh_155 : decode cX4_weigh 155 = .ok (.aload_n 0, 1) := by decide +kernel
theorem dX4_weigh_156 : decode cX4_weigh 156 = .ok (.getfield 38, 3) := by decide +kernel
theorem dX4_weigh_159 : decode cX4_weigh 159 = .ok (.getfield 136, 3) := by decide +kernel
theorem dX4_weigh_162 : decode cX4_weigh 162 = .ok (.iload_n 2, 1) := by decide +kernel
theorem dX4_weigh_163 : decode cX4_weigh 163 = .ok (.iaload, 1) := by decide +kernel
theorem dX4_weigh_164 : decode cX4_weigh 164 = .ok (.if_icmp .ne 49, 3) := by decide +kernel
theorem dX4_weigh_167 : decode cX4_weigh 167 = .ok (.iload 6, 2) := by decide +kernel
theorem dX4_weigh_169 : decode cX4_weigh 169 = .ok (.aload_n 0, 1) := by decide +kernel
theorem dX4_weigh_170 : decode cX4_weigh 170 = .ok (.getfield 38, 3) := by decide +kernel
theorem dX4_weigh_173 : decode cX4_weigh 173 = .ok (.getfield 143, 3) := by decide +kernel
theorem dX4_weigh_176 : decode cX4_weigh 176 = .ok (.iload_n 2, 1) := by decide +kernel
theorem dX4_weigh_177 : decode cX4_weigh 177 = .ok (.iaload, 1) := by decide +kernel
theorem dX4_weigh_178 : decode cX4_weigh 178 = .ok (.if_icmp .ge 35, 3) := by decide +kernel
theorem dX4_weigh_181 : decode cX4_weigh 181 = .ok (.aload_n 0, 1) := by decide +kernel
theorem dX4_weigh_182 : decode cX4_weigh 182 = .ok (.getfield 38, 3) := by decide +kernel
theorem dX4_weigh_185 : decode cX4_weigh 185 = .ok (.getfield 136, 3) := by decide +kernel
theorem dX4_weigh_188 : decode cX4_weigh 188 = .ok (.iload_n 2, 1) := by decide +kernel
theorem dX4_weigh_189 : decode cX4_weigh 189 = .ok (.iload 5, 2) := by decide +kernel
theorem dX4_weigh_191 : decode cX4_weigh 191 = .ok (.iastore, 1) := by decide +kernel
theorem dX4_weigh_192 : decode cX4_weigh 192 = .ok (.aload_n 0, 1) := by decide +kernel
theorem dX4_weigh_193 : decode cX4_weigh 193 = .ok (.getfield 38, 3) := by decide +kernel
theorem dX4_weigh_196 : decode cX4_weigh 196 = .ok (.getfield 143, 3) := by decide +kernel
theorem dX4_weigh_199 : decode cX4_weigh 199 = .ok (.iload_n 2, 1) := by decide +kernel
theorem dX4_weigh_200 : decode cX4_weigh 200 = .ok (.iload 6, 2) := by decide +kernel
theorem dX4_weigh_202 : decode cX4_weigh 202 = .ok (.iastore, 1) := by decide +kernel
theorem dX4_weigh_203 : decode cX4_weigh 203 = .ok (.aload_n 0, 1) := by decide +kernel
theorem dX4_weigh_204 : decode cX4_weigh 204 = .ok (.getfield 38, 3) := by decide +kernel
theorem dX4_weigh_207 : decode cX4_weigh 207 = .ok (.getfield 150, 3) := by decide +kernel
theorem dX4_weigh_210 : decode cX4_weigh 210 = .ok (.iload_n 2, 1) := by decide +kernel
theorem dX4_weigh_211 : decode cX4_weigh 211 = .ok (.iload_n 3, 1) := by decide +kernel
theorem dX4_weigh_212 : decode cX4_weigh 212 = .ok (.iastore, 1) := by decide +kernel
theorem dX4_weigh_213 : decode cX4_weigh 213 = .ok (.return_, 1) := by decide +kernel
set_option maxHeartbeats 4000000 in
set_option maxRecDepth 100000 in
theorem k_weigh (l : Launch) (dC : Nat → ClassId) (dI : Nat → Nat → Nat) (k : Nat → ClassId) (pp : Nat) (pg : Nat) (so : Nat) (p1 : Nat) (p2 : Nat) (p3 : Nat) (p4 : Nat) (p5 : Nat) (p6 : Nat) (nP : Int) (cP : Int) (T : Nat → Int → Int → Int → Int) (A : Nat → Int → Int → Nat) (X : Nat → Int → Int → Int) (tl : va_W) (M : Nat → Int → Int) (V : Nat → Int → Int) (Aw : Nat → Nat) (o1 : Nat) (o2 : Nat) (o3 : Nat) (o4 : Nat) (o5 : Nat) (o6 : Nat) (o7 : Nat) (cp : Nat) (y1 : Int → Int) (y2 : Int → Int) (y3 : Int → Int) (y4 : Int → Int) (y5 : Int → Int) (y6 : Int → Int) (y7 : Int → Int) (S : Nat → Int → Int) (pR : Int) (pC : Int) (pW : Int) (pL : Int) (pH : Int) (pN : Int) (pQ : Int) (pT : Int) (pB : Int) (pX : Int) (pY : Int) (pM : Int) (pU : Int) (nr : Int) (stt : Int) (nn : Int) (cs : Int) (hT : TI dI k T A X tl) (hK : TK T) (hR : RI k (T 0 0 0 0) M V Aw tl) (hM : MK M) (hMT : ∀ j, 0 ≤ j → j < M 0 0 → M 2 j < T 0 0 0 0) (hA : SA S y1 y2 y3 y4 y5 y6 y7) (hW : SW S) (hcp : cpOk cp ∧ S 0 0 ≤ cp) (hne : ∀ r, 0 ≤ r → r < M 0 0 → S 1 r ≠ -1) (hSB : SB S) (hpr : ∀ j, 0 ≤ j → j < S 0 0 → S 8 stt < S 8 j → S 5 j ≠ 0) (h1 : 0 ≤ stt ∧ stt < S 0 0 ∧ S 8 stt < nr ∧ nr ≤ M 0 0 ∧ 0 ≤ nr) (h2 : 1 ≤ nn ∧ nn ≤ 768 ∧ 0 ≤ cs ∧ cs ≤ 80000) (h3 : 0 ≤ pX ∧ pX < 32 ∧ 0 ≤ pY ∧ pY ≤ 1000 * nr) : Kn l dC dI k yX4_weigh (.code yX4_weigh cX4_weigh 9 none) ({ frames := 2, cells := 0, slots := 0, locals := 49 } : Room) [.ref pp, .int (iI nr), .int (iI stt), .int (iI nn), .int (iI cs)] ([(pp, .inr (4, [.ref (A 50 0 0), .ref (Aw 20), .ref pg, .ref so, .int (iI nP), .int (iI cP), .ref p1, .ref p2, .ref p3, .ref p4, .ref p5, .ref p6])), (pg, .inr (3, [.ref (A 50 0 0), .ref (Aw 20), .int (iI pR), .int (iI pC), .int (iI pW), .int (iI pL), .int (iI pH), .int (iI pN), .int (iI pQ), .int (iI pT), .int (iI pB), .int (iI pX), .int (iI pY), .int (iI pM), .int (iI pU)])), (so, .inr (7, [.ref o1, .ref o2, .ref o3, .ref o4, .ref o6, .ref o7, .ref o5, .int (iI (S 0 0))])), (o1, .inl (k 0, 768, .inl (fun i9 : Nat => iI (y1 i9)))), (o2, .inl (k 0, cp, .inl (fun i9 : Nat => iI (y2 i9)))), (o3, .inl (k 0, cp, .inl (fun i9 : Nat => iI (y3 i9)))), (o4, .inl (k 0, cp, .inl (fun i9 : Nat => iI (y4 i9)))), (o5, .inl (k 0, cp, .inl (fun i9 : Nat => iI (y5 i9)))), (o6, .inl (k 0, cp, .inl (fun i9 : Nat => iI (y6 i9)))), (o7, .inl (k 0, cp, .inl (fun i9 : Nat => iI (y7 i9))))] ++ tl) (fun r w gc gs => (∃ (u5 : Int → Int) (u6 : Int → Int) (u7 : Int → Int) (S2 : Nat → Int → Int), (S2 = (weZ T M S nr stt nn cs pX pY)) ∧ (SA S2 y1 y2 y3 y4 u5 u6 u7) ∧ (SB S2) ∧ r = none ∧ w = ([(pp, .inr (4, [.ref (A 50 0 0), .ref (Aw 20), .ref pg, .ref so, .int (iI nP), .int (iI cP), .ref p1, .ref p2, .ref p3, .ref p4, .ref p5, .ref p6])), (pg, .inr (3, [.ref (A 50 0 0), .ref (Aw 20), .int (iI pR), .int (iI pC), .int (iI pW), .int (iI pL), .int (iI pH), .int (iI pN), .int (iI pQ), .int (iI pT), .int (iI pB), .int (iI pX), .int (iI pY), .int (iI pM), .int (iI pU)])), (so, .inr (7, [.ref o1, .ref o2, .ref o3, .ref o4, .ref o6, .ref o7, .ref o5, .int (iI (S 0 0))])), (o1, .inl (k 0, 768, .inl (fun i9 : Nat => iI (y1 i9)))), (o2, .inl (k 0, cp, .inl (fun i9 : Nat => iI (y2 i9)))), (o3, .inl (k 0, cp, .inl (fun i9 : Nat => iI (y3 i9)))), (o4, .inl (k 0, cp, .inl (fun i9 : Nat => iI (y4 i9)))), (o5, .inl (k 0, cp, .inl (fun i9 : Nat => iI (u5 i9)))), (o6, .inl (k 0, cp, .inl (fun i9 : Nat => iI (u6 i9)))), (o7, .inl (k 0, cp, .inl (fun i9 : Nat => iI (u7 i9))))] ++ tl) ∧ gc = 0 ∧ gs = 0)) := by
  refine kn_of (by decide) (Nat.le_of_ble_eq_true rfl) ?_
  intro p e s m args below meth c H locs B hr hnm ls hl
  have hx := B.1.1
  have hb := B.1.2.1
  have hl : lv_has ls 9 [(0, .ref pp), (1, .int (iI nr)), (2, .int (iI stt)), (3, .int (iI nn)), (4, .int (iI cs))] := hl
  have hn0 := MK_cnt hM
  have hf0 := MK_17 hM
  have hS0 := SW_n hW
  have hcp2 : 512 ≤ cp ∧ cp ≤ 131072 := by unfold cpOk at hcp; omega
  have hs8 := SW_r hW stt (by omega) (by omega)
  refine lv_iload hx hb dX4_weigh_0 (lv_at hl 4 rfl) ?_
  refine lv_istore (lv' := [(5, .int (iI cs)), (0, .ref pp), (1, .int (iI nr)), (2, .int (iI stt)), (3, .int (iI nn)), (4, .int (iI cs))]) hx hb dX4_weigh_2 hl (by decide) rfl (fun ls hl => ?_)
  refine lv_iconst (v := iI 1) hx hb dX4_weigh_4 (by decide) ?_
  refine lv_istore (lv' := [(6, .int (iI 1)), (5, .int (iI cs)), (0, .ref pp), (1, .int (iI nr)), (2, .int (iI stt)), (3, .int (iI nn)), (4, .int (iI cs))]) hx hb dX4_weigh_5 hl (by decide) rfl (fun ls hl => ?_)
  refine k_join (σ := Int × Int) B 127 (fun g9 : Int × Int => (upS S stt g9.1 g9.2 nn = (weZ T M S nr stt nn cs pX pY)) ∧ (0 ≤ g9.1 ∧ g9.1 ≤ 80000 * (768 - S 8 stt) ∧ 0 ≤ g9.2 ∧ g9.2 ≤ 800000 + 6 * (768 - S 8 stt))) (fun g9 : Int × Int => [(6, .int (iI g9.2)), (5, .int (iI g9.1)), (0, .ref pp), (1, .int (iI nr)), (2, .int (iI stt)), (3, .int (iI nn)), (4, .int (iI cs))]) (fun g9 : Int × Int => ([(pp, .inr (4, [.ref (A 50 0 0), .ref (Aw 20), .ref pg, .ref so, .int (iI nP), .int (iI cP), .ref p1, .ref p2, .ref p3, .ref p4, .ref p5, .ref p6])), (pg, .inr (3, [.ref (A 50 0 0), .ref (Aw 20), .int (iI pR), .int (iI pC), .int (iI pW), .int (iI pL), .int (iI pH), .int (iI pN), .int (iI pQ), .int (iI pT), .int (iI pB), .int (iI pX), .int (iI pY), .int (iI pM), .int (iI pU)])), (so, .inr (7, [.ref o1, .ref o2, .ref o3, .ref o4, .ref o6, .ref o7, .ref o5, .int (iI (S 0 0))])), (o1, .inl (k 0, 768, .inl (fun i9 : Nat => iI (y1 i9)))), (o2, .inl (k 0, cp, .inl (fun i9 : Nat => iI (y2 i9)))), (o3, .inl (k 0, cp, .inl (fun i9 : Nat => iI (y3 i9)))), (o4, .inl (k 0, cp, .inl (fun i9 : Nat => iI (y4 i9)))), (o5, .inl (k 0, cp, .inl (fun i9 : Nat => iI (y5 i9)))), (o6, .inl (k 0, cp, .inl (fun i9 : Nat => iI (y6 i9)))), (o7, .inl (k 0, cp, .inl (fun i9 : Nat => iI (y7 i9))))] ++ tl)) (fun g9 : Int × Int => []) ?_ (fun J_1 => ?_)
  · clear hl B
    rintro ⟨sm, pq⟩ ⟨hwe, hsb⟩ ls H locs hl B
    have hwe : upS S stt sm pq nn = (weZ T M S nr stt nn cs pX pY) := hwe
    have hsb : 0 ≤ sm ∧ sm ≤ 80000 * (768 - S 8 stt) ∧ 0 ≤ pq ∧ pq ≤ 800000 + 6 * (768 - S 8 stt) := hsb
    have hl : lv_has ls 9 [(6, .int (iI pq)), (5, .int (iI sm)), (0, .ref pp), (1, .int (iI nr)), (2, .int (iI stt)), (3, .int (iI nn)), (4, .int (iI cs))] := hl
    have B := bd_to (ws' := ([(pp, .inr (4, [.ref (A 50 0 0), .ref (Aw 20), .ref pg, .ref so, .int (iI nP), .int (iI cP), .ref p1, .ref p2, .ref p3, .ref p4, .ref p5, .ref p6])), (pg, .inr (3, [.ref (A 50 0 0), .ref (Aw 20), .int (iI pR), .int (iI pC), .int (iI pW), .int (iI pL), .int (iI pH), .int (iI pN), .int (iI pQ), .int (iI pT), .int (iI pB), .int (iI pX), .int (iI pY), .int (iI pM), .int (iI pU)])), (so, .inr (7, [.ref o1, .ref o2, .ref o3, .ref o4, .ref o6, .ref o7, .ref o5, .int (iI (S 0 0))])), (o1, .inl (k 0, 768, .inl (fun i9 : Nat => iI (y1 i9)))), (o2, .inl (k 0, cp, .inl (fun i9 : Nat => iI (y2 i9)))), (o3, .inl (k 0, cp, .inl (fun i9 : Nat => iI (y3 i9)))), (o4, .inl (k 0, cp, .inl (fun i9 : Nat => iI (y4 i9)))), (o5, .inl (k 0, cp, .inl (fun i9 : Nat => iI (y5 i9)))), (o6, .inl (k 0, cp, .inl (fun i9 : Nat => iI (y6 i9)))), (o7, .inl (k 0, cp, .inl (fun i9 : Nat => iI (y7 i9))))] ++ tl)) rfl B
    refine lv_aload_n hx hb dX4_weigh_127 rfl (lv_at hl 2 rfl) ?_
    refine x_get (ci := 4) (C := RX4) (T := TX4) (N := 12) (v := .ref so) B 0 rfl rfl in_X4 3 (by decide) mw_368 (fun _ h9 => h9) rfl dX4_weigh_128 ?_
    refine x_get (ci := 7) (C := RX7) (T := TX7) (N := 8) (v := .ref o5) B 2 rfl rfl in_X7 6 (by decide) mw_190 (fun _ h9 => h9) rfl dX4_weigh_131 ?_
    refine lv_iload_n hx hb dX4_weigh_134 rfl (lv_at hl 4 rfl) ?_
    refine x_iald' (f := y5) (z := stt) B 7 rfl (by omega) dX4_weigh_135 ?_
    refine lv_seti (y := iI (S 5 stt)) (congrArg iI (show y5 stt = S 5 stt from (hA.2.1 _ (by omega) (by omega)).2.2.2)) ?_
    have z_2 : 0 ≤ S 5 stt ∧ S 5 stt ≤ 768 := (hSB _ (by omega) (by omega)).2.2
    refine lv_if_eq (tgt := 181) hx hb dX4_weigh_136 (by decide) (fun c_3 => ?_) (fun c_3 => ?_)
    · have zc_3 : (S 5 stt) = 0 := jeq (a := (S 5 stt)) (b := 0) (by omega) (by omega) c_3
      refine lv_aload_n hx hb dX4_weigh_181 rfl (lv_at hl 2 rfl) ?_
      refine x_get (ci := 4) (C := RX4) (T := TX4) (N := 12) (v := .ref so) B 0 rfl rfl in_X4 3 (by decide) mw_368 (fun _ h9 => h9) rfl dX4_weigh_182 ?_
      refine x_get (ci := 7) (C := RX7) (T := TX7) (N := 8) (v := .ref o6) B 2 rfl rfl in_X7 4 (by decide) mw_186 (fun _ h9 => h9) rfl dX4_weigh_185 ?_
      refine lv_iload_n hx hb dX4_weigh_188 rfl (lv_at hl 4 rfl) ?_
      refine lv_iload hx hb dX4_weigh_189 (lv_at hl 1 rfl) ?_
      refine x_iast' (f := y6) (z := stt) (v := sm) B 8 rfl (by omega) dX4_weigh_191 (fun H locs B => ?_)
      have B := bd_to (ws' := ([(pp, .inr (4, [.ref (A 50 0 0), .ref (Aw 20), .ref pg, .ref so, .int (iI nP), .int (iI cP), .ref p1, .ref p2, .ref p3, .ref p4, .ref p5, .ref p6])), (pg, .inr (3, [.ref (A 50 0 0), .ref (Aw 20), .int (iI pR), .int (iI pC), .int (iI pW), .int (iI pL), .int (iI pH), .int (iI pN), .int (iI pQ), .int (iI pT), .int (iI pB), .int (iI pX), .int (iI pY), .int (iI pM), .int (iI pU)])), (so, .inr (7, [.ref o1, .ref o2, .ref o3, .ref o4, .ref o6, .ref o7, .ref o5, .int (iI (S 0 0))])), (o1, .inl (k 0, 768, .inl (fun i9 : Nat => iI (y1 i9)))), (o2, .inl (k 0, cp, .inl (fun i9 : Nat => iI (y2 i9)))), (o3, .inl (k 0, cp, .inl (fun i9 : Nat => iI (y3 i9)))), (o4, .inl (k 0, cp, .inl (fun i9 : Nat => iI (y4 i9)))), (o5, .inl (k 0, cp, .inl (fun i9 : Nat => iI (y5 i9)))), (o6, .inl (k 0, cp, .inl (fun i9 : Nat => iI ((uz y6 stt sm) i9)))), (o7, .inl (k 0, cp, .inl (fun i9 : Nat => iI (y7 i9))))] ++ tl)) rfl B
      refine lv_aload_n hx hb dX4_weigh_192 rfl (lv_at hl 2 rfl) ?_
      refine x_get (ci := 4) (C := RX4) (T := TX4) (N := 12) (v := .ref so) B 0 rfl rfl in_X4 3 (by decide) mw_368 (fun _ h9 => h9) rfl dX4_weigh_193 ?_
      refine x_get (ci := 7) (C := RX7) (T := TX7) (N := 8) (v := .ref o7) B 2 rfl rfl in_X7 5 (by decide) mw_188 (fun _ h9 => h9) rfl dX4_weigh_196 ?_
      refine lv_iload_n hx hb dX4_weigh_199 rfl (lv_at hl 4 rfl) ?_
      refine lv_iload hx hb dX4_weigh_200 (lv_at hl 0 rfl) ?_
      refine x_iast' (f := y7) (z := stt) (v := pq) B 9 rfl (by omega) dX4_weigh_202 (fun H locs B => ?_)
      have B := bd_to (ws' := ([(pp, .inr (4, [.ref (A 50 0 0), .ref (Aw 20), .ref pg, .ref so, .int (iI nP), .int (iI cP), .ref p1, .ref p2, .ref p3, .ref p4, .ref p5, .ref p6])), (pg, .inr (3, [.ref (A 50 0 0), .ref (Aw 20), .int (iI pR), .int (iI pC), .int (iI pW), .int (iI pL), .int (iI pH), .int (iI pN), .int (iI pQ), .int (iI pT), .int (iI pB), .int (iI pX), .int (iI pY), .int (iI pM), .int (iI pU)])), (so, .inr (7, [.ref o1, .ref o2, .ref o3, .ref o4, .ref o6, .ref o7, .ref o5, .int (iI (S 0 0))])), (o1, .inl (k 0, 768, .inl (fun i9 : Nat => iI (y1 i9)))), (o2, .inl (k 0, cp, .inl (fun i9 : Nat => iI (y2 i9)))), (o3, .inl (k 0, cp, .inl (fun i9 : Nat => iI (y3 i9)))), (o4, .inl (k 0, cp, .inl (fun i9 : Nat => iI (y4 i9)))), (o5, .inl (k 0, cp, .inl (fun i9 : Nat => iI (y5 i9)))), (o6, .inl (k 0, cp, .inl (fun i9 : Nat => iI ((uz y6 stt sm) i9)))), (o7, .inl (k 0, cp, .inl (fun i9 : Nat => iI ((uz y7 stt pq) i9))))] ++ tl)) rfl B
      refine lv_aload_n hx hb dX4_weigh_203 rfl (lv_at hl 2 rfl) ?_
      refine x_get (ci := 4) (C := RX4) (T := TX4) (N := 12) (v := .ref so) B 0 rfl rfl in_X4 3 (by decide) mw_368 (fun _ h9 => h9) rfl dX4_weigh_204 ?_
      refine x_get (ci := 7) (C := RX7) (T := TX7) (N := 8) (v := .ref o5) B 2 rfl rfl in_X7 6 (by decide) mw_190 (fun _ h9 => h9) rfl dX4_weigh_207 ?_
      refine lv_iload_n hx hb dX4_weigh_210 rfl (lv_at hl 4 rfl) ?_
      refine lv_iload_n hx hb dX4_weigh_211 rfl (lv_at hl 5 rfl) ?_
      refine x_iast' (f := y5) (z := stt) (v := nn) B 7 rfl (by omega) dX4_weigh_212 (fun H locs B => ?_)
      have B := bd_to (ws' := ([(pp, .inr (4, [.ref (A 50 0 0), .ref (Aw 20), .ref pg, .ref so, .int (iI nP), .int (iI cP), .ref p1, .ref p2, .ref p3, .ref p4, .ref p5, .ref p6])), (pg, .inr (3, [.ref (A 50 0 0), .ref (Aw 20), .int (iI pR), .int (iI pC), .int (iI pW), .int (iI pL), .int (iI pH), .int (iI pN), .int (iI pQ), .int (iI pT), .int (iI pB), .int (iI pX), .int (iI pY), .int (iI pM), .int (iI pU)])), (so, .inr (7, [.ref o1, .ref o2, .ref o3, .ref o4, .ref o6, .ref o7, .ref o5, .int (iI (S 0 0))])), (o1, .inl (k 0, 768, .inl (fun i9 : Nat => iI (y1 i9)))), (o2, .inl (k 0, cp, .inl (fun i9 : Nat => iI (y2 i9)))), (o3, .inl (k 0, cp, .inl (fun i9 : Nat => iI (y3 i9)))), (o4, .inl (k 0, cp, .inl (fun i9 : Nat => iI (y4 i9)))), (o5, .inl (k 0, cp, .inl (fun i9 : Nat => iI ((uz y5 stt nn) i9)))), (o6, .inl (k 0, cp, .inl (fun i9 : Nat => iI ((uz y6 stt sm) i9)))), (o7, .inl (k 0, cp, .inl (fun i9 : Nat => iI ((uz y7 stt pq) i9))))] ++ tl)) rfl B
      exact k_vret B hr (⟨(uz y5 stt nn), (uz y6 stt sm), (uz y7 stt pq), (ptS S stt sm pq nn), (by rw [← hwe]; exact (if_pos (by omega)).symm), SA_pt hA, (by have q9 := SB_up (sm := sm) (pq := pq) (n := nn) hSB (by omega) (by omega) (by omega) (by omega) (st := stt); unfold upS at q9; rw [if_pos (by omega)] at q9; exact q9), rfl, rfl, rfl, rfl⟩) ⟨Nat.le_of_ble_eq_true rfl, Nat.le_of_ble_eq_true rfl⟩ ⟨Nat.le_of_ble_eq_true rfl, Nat.le_of_ble_eq_true rfl⟩ dX4_weigh_213
    · have zc_3 : (S 5 stt) ≠ 0 := jne (a := (S 5 stt)) (b := 0) (by omega) (by omega) c_3
      refine lv_iload hx hb dX4_weigh_139 (lv_at hl 1 rfl) ?_
      refine lv_aload_n hx hb dX4_weigh_141 rfl (lv_at hl 2 rfl) ?_
      refine x_get (ci := 4) (C := RX4) (T := TX4) (N := 12) (v := .ref so) B 0 rfl rfl in_X4 3 (by decide) mw_368 (fun _ h9 => h9) rfl dX4_weigh_142 ?_
      refine x_get (ci := 7) (C := RX7) (T := TX7) (N := 8) (v := .ref o6) B 2 rfl rfl in_X7 4 (by decide) mw_186 (fun _ h9 => h9) rfl dX4_weigh_145 ?_
      refine lv_iload_n hx hb dX4_weigh_148 rfl (lv_at hl 4 rfl) ?_
      refine x_iald' (f := y6) (z := stt) B 8 rfl (by omega) dX4_weigh_149 ?_
      refine lv_seti (y := iI (S 6 stt)) (congrArg iI (show y6 stt = S 6 stt from (hA.2.2 _ (by omega) (by omega) (by omega)).1)) ?_
      have z_4 : 0 ≤ S 6 stt ∧ S 6 stt ≤ 80000 * (768 - S 8 stt) := (hSB _ (by omega) (by omega)).1
      refine lv_icmp_lt (tgt := 181) hx hb dX4_weigh_150 (by decide) (fun c_5 => ?_) (fun c_5 => ?_)
      · have zc_5 : sm < (S 6 stt) := jlt (a := sm) (b := (S 6 stt)) (by omega) (by omega) c_5
        refine lv_aload_n hx hb dX4_weigh_181 rfl (lv_at hl 2 rfl) ?_
        refine x_get (ci := 4) (C := RX4) (T := TX4) (N := 12) (v := .ref so) B 0 rfl rfl in_X4 3 (by decide) mw_368 (fun _ h9 => h9) rfl dX4_weigh_182 ?_
        refine x_get (ci := 7) (C := RX7) (T := TX7) (N := 8) (v := .ref o6) B 2 rfl rfl in_X7 4 (by decide) mw_186 (fun _ h9 => h9) rfl dX4_weigh_185 ?_
        refine lv_iload_n hx hb dX4_weigh_188 rfl (lv_at hl 4 rfl) ?_
        refine lv_iload hx hb dX4_weigh_189 (lv_at hl 1 rfl) ?_
        refine x_iast' (f := y6) (z := stt) (v := sm) B 8 rfl (by omega) dX4_weigh_191 (fun H locs B => ?_)
        have B := bd_to (ws' := ([(pp, .inr (4, [.ref (A 50 0 0), .ref (Aw 20), .ref pg, .ref so, .int (iI nP), .int (iI cP), .ref p1, .ref p2, .ref p3, .ref p4, .ref p5, .ref p6])), (pg, .inr (3, [.ref (A 50 0 0), .ref (Aw 20), .int (iI pR), .int (iI pC), .int (iI pW), .int (iI pL), .int (iI pH), .int (iI pN), .int (iI pQ), .int (iI pT), .int (iI pB), .int (iI pX), .int (iI pY), .int (iI pM), .int (iI pU)])), (so, .inr (7, [.ref o1, .ref o2, .ref o3, .ref o4, .ref o6, .ref o7, .ref o5, .int (iI (S 0 0))])), (o1, .inl (k 0, 768, .inl (fun i9 : Nat => iI (y1 i9)))), (o2, .inl (k 0, cp, .inl (fun i9 : Nat => iI (y2 i9)))), (o3, .inl (k 0, cp, .inl (fun i9 : Nat => iI (y3 i9)))), (o4, .inl (k 0, cp, .inl (fun i9 : Nat => iI (y4 i9)))), (o5, .inl (k 0, cp, .inl (fun i9 : Nat => iI (y5 i9)))), (o6, .inl (k 0, cp, .inl (fun i9 : Nat => iI ((uz y6 stt sm) i9)))), (o7, .inl (k 0, cp, .inl (fun i9 : Nat => iI (y7 i9))))] ++ tl)) rfl B
        refine lv_aload_n hx hb dX4_weigh_192 rfl (lv_at hl 2 rfl) ?_
        refine x_get (ci := 4) (C := RX4) (T := TX4) (N := 12) (v := .ref so) B 0 rfl rfl in_X4 3 (by decide) mw_368 (fun _ h9 => h9) rfl dX4_weigh_193 ?_
        refine x_get (ci := 7) (C := RX7) (T := TX7) (N := 8) (v := .ref o7) B 2 rfl rfl in_X7 5 (by decide) mw_188 (fun _ h9 => h9) rfl dX4_weigh_196 ?_
        refine lv_iload_n hx hb dX4_weigh_199 rfl (lv_at hl 4 rfl) ?_
        refine lv_iload hx hb dX4_weigh_200 (lv_at hl 0 rfl) ?_
        refine x_iast' (f := y7) (z := stt) (v := pq) B 9 rfl (by omega) dX4_weigh_202 (fun H locs B => ?_)
        have B := bd_to (ws' := ([(pp, .inr (4, [.ref (A 50 0 0), .ref (Aw 20), .ref pg, .ref so, .int (iI nP), .int (iI cP), .ref p1, .ref p2, .ref p3, .ref p4, .ref p5, .ref p6])), (pg, .inr (3, [.ref (A 50 0 0), .ref (Aw 20), .int (iI pR), .int (iI pC), .int (iI pW), .int (iI pL), .int (iI pH), .int (iI pN), .int (iI pQ), .int (iI pT), .int (iI pB), .int (iI pX), .int (iI pY), .int (iI pM), .int (iI pU)])), (so, .inr (7, [.ref o1, .ref o2, .ref o3, .ref o4, .ref o6, .ref o7, .ref o5, .int (iI (S 0 0))])), (o1, .inl (k 0, 768, .inl (fun i9 : Nat => iI (y1 i9)))), (o2, .inl (k 0, cp, .inl (fun i9 : Nat => iI (y2 i9)))), (o3, .inl (k 0, cp, .inl (fun i9 : Nat => iI (y3 i9)))), (o4, .inl (k 0, cp, .inl (fun i9 : Nat => iI (y4 i9)))), (o5, .inl (k 0, cp, .inl (fun i9 : Nat => iI (y5 i9)))), (o6, .inl (k 0, cp, .inl (fun i9 : Nat => iI ((uz y6 stt sm) i9)))), (o7, .inl (k 0, cp, .inl (fun i9 : Nat => iI ((uz y7 stt pq) i9))))] ++ tl)) rfl B
        refine lv_aload_n hx hb dX4_weigh_203 rfl (lv_at hl 2 rfl) ?_
        refine x_get (ci := 4) (C := RX4) (T := TX4) (N := 12) (v := .ref so) B 0 rfl rfl in_X4 3 (by decide) mw_368 (fun _ h9 => h9) rfl dX4_weigh_204 ?_
        refine x_get (ci := 7) (C := RX7) (T := TX7) (N := 8) (v := .ref o5) B 2 rfl rfl in_X7 6 (by decide) mw_190 (fun _ h9 => h9) rfl dX4_weigh_207 ?_
        refine lv_iload_n hx hb dX4_weigh_210 rfl (lv_at hl 4 rfl) ?_
        refine lv_iload_n hx hb dX4_weigh_211 rfl (lv_at hl 5 rfl) ?_
        refine x_iast' (f := y5) (z := stt) (v := nn) B 7 rfl (by omega) dX4_weigh_212 (fun H locs B => ?_)
        have B := bd_to (ws' := ([(pp, .inr (4, [.ref (A 50 0 0), .ref (Aw 20), .ref pg, .ref so, .int (iI nP), .int (iI cP), .ref p1, .ref p2, .ref p3, .ref p4, .ref p5, .ref p6])), (pg, .inr (3, [.ref (A 50 0 0), .ref (Aw 20), .int (iI pR), .int (iI pC), .int (iI pW), .int (iI pL), .int (iI pH), .int (iI pN), .int (iI pQ), .int (iI pT), .int (iI pB), .int (iI pX), .int (iI pY), .int (iI pM), .int (iI pU)])), (so, .inr (7, [.ref o1, .ref o2, .ref o3, .ref o4, .ref o6, .ref o7, .ref o5, .int (iI (S 0 0))])), (o1, .inl (k 0, 768, .inl (fun i9 : Nat => iI (y1 i9)))), (o2, .inl (k 0, cp, .inl (fun i9 : Nat => iI (y2 i9)))), (o3, .inl (k 0, cp, .inl (fun i9 : Nat => iI (y3 i9)))), (o4, .inl (k 0, cp, .inl (fun i9 : Nat => iI (y4 i9)))), (o5, .inl (k 0, cp, .inl (fun i9 : Nat => iI ((uz y5 stt nn) i9)))), (o6, .inl (k 0, cp, .inl (fun i9 : Nat => iI ((uz y6 stt sm) i9)))), (o7, .inl (k 0, cp, .inl (fun i9 : Nat => iI ((uz y7 stt pq) i9))))] ++ tl)) rfl B
        exact k_vret B hr (⟨(uz y5 stt nn), (uz y6 stt sm), (uz y7 stt pq), (ptS S stt sm pq nn), (by rw [← hwe]; exact (if_pos (by omega)).symm), SA_pt hA, (by have q9 := SB_up (sm := sm) (pq := pq) (n := nn) hSB (by omega) (by omega) (by omega) (by omega) (st := stt); unfold upS at q9; rw [if_pos (by omega)] at q9; exact q9), rfl, rfl, rfl, rfl⟩) ⟨Nat.le_of_ble_eq_true rfl, Nat.le_of_ble_eq_true rfl⟩ ⟨Nat.le_of_ble_eq_true rfl, Nat.le_of_ble_eq_true rfl⟩ dX4_weigh_213
      · have zc_5 : (S 6 stt) ≤ sm := jnlt (a := sm) (b := (S 6 stt)) (by omega) (by omega) c_5
        refine lv_iload hx hb dX4_weigh_153 (lv_at hl 1 rfl) ?_
        refine lv_aload_n hx hb dX4_weigh_155 rfl (lv_at hl 2 rfl) ?_
        refine x_get (ci := 4) (C := RX4) (T := TX4) (N := 12) (v := .ref so) B 0 rfl rfl in_X4 3 (by decide) mw_368 (fun _ h9 => h9) rfl dX4_weigh_156 ?_
        refine x_get (ci := 7) (C := RX7) (T := TX7) (N := 8) (v := .ref o6) B 2 rfl rfl in_X7 4 (by decide) mw_186 (fun _ h9 => h9) rfl dX4_weigh_159 ?_
        refine lv_iload_n hx hb dX4_weigh_162 rfl (lv_at hl 4 rfl) ?_
        refine x_iald' (f := y6) (z := stt) B 8 rfl (by omega) dX4_weigh_163 ?_
        refine lv_seti (y := iI (S 6 stt)) (congrArg iI (show y6 stt = S 6 stt from (hA.2.2 _ (by omega) (by omega) (by omega)).1)) ?_
        have z_6 : 0 ≤ S 6 stt ∧ S 6 stt ≤ 80000 * (768 - S 8 stt) := (hSB _ (by omega) (by omega)).1
        refine lv_icmp_ne (tgt := 213) hx hb dX4_weigh_164 (by decide) (fun c_7 => ?_) (fun c_7 => ?_)
        · have zc_7 : sm ≠ (S 6 stt) := jne (a := sm) (b := (S 6 stt)) (by omega) (by omega) c_7
          exact k_vret B hr (⟨y5, y6, y7, S, (by rw [← hwe]; exact (if_neg (by omega)).symm), hA, hSB, rfl, rfl, rfl, rfl⟩) ⟨Nat.le_of_ble_eq_true rfl, Nat.le_of_ble_eq_true rfl⟩ ⟨Nat.le_of_ble_eq_true rfl, Nat.le_of_ble_eq_true rfl⟩ dX4_weigh_213
        · have zc_7 : sm = (S 6 stt) := jeq (a := sm) (b := (S 6 stt)) (by omega) (by omega) c_7
          refine lv_iload hx hb dX4_weigh_167 (lv_at hl 0 rfl) ?_
          refine lv_aload_n hx hb dX4_weigh_169 rfl (lv_at hl 2 rfl) ?_
          refine x_get (ci := 4) (C := RX4) (T := TX4) (N := 12) (v := .ref so) B 0 rfl rfl in_X4 3 (by decide) mw_368 (fun _ h9 => h9) rfl dX4_weigh_170 ?_
          refine x_get (ci := 7) (C := RX7) (T := TX7) (N := 8) (v := .ref o7) B 2 rfl rfl in_X7 5 (by decide) mw_188 (fun _ h9 => h9) rfl dX4_weigh_173 ?_
          refine lv_iload_n hx hb dX4_weigh_176 rfl (lv_at hl 4 rfl) ?_
          refine x_iald' (f := y7) (z := stt) B 9 rfl (by omega) dX4_weigh_177 ?_
          refine lv_seti (y := iI (S 7 stt)) (congrArg iI (show y7 stt = S 7 stt from (hA.2.2 _ (by omega) (by omega) (by omega)).2)) ?_
          have z_8 : 0 ≤ S 7 stt ∧ S 7 stt ≤ 800000 + 6 * (768 - S 8 stt) := (hSB _ (by omega) (by omega)).2.1
          refine lv_icmp_ge (tgt := 213) hx hb dX4_weigh_178 (by decide) (fun c_9 => ?_) (fun c_9 => ?_)
          · have zc_9 : (S 7 stt) ≤ pq := jle (a := (S 7 stt)) (b := pq) (by omega) (by omega) c_9
            exact k_vret B hr (⟨y5, y6, y7, S, (by rw [← hwe]; exact (if_neg (by omega)).symm), hA, hSB, rfl, rfl, rfl, rfl⟩) ⟨Nat.le_of_ble_eq_true rfl, Nat.le_of_ble_eq_true rfl⟩ ⟨Nat.le_of_ble_eq_true rfl, Nat.le_of_ble_eq_true rfl⟩ dX4_weigh_213
          · have zc_9 : pq < (S 7 stt) := jnle (a := (S 7 stt)) (b := pq) (by omega) (by omega) c_9
            refine lv_aload_n hx hb dX4_weigh_181 rfl (lv_at hl 2 rfl) ?_
            refine x_get (ci := 4) (C := RX4) (T := TX4) (N := 12) (v := .ref so) B 0 rfl rfl in_X4 3 (by decide) mw_368 (fun _ h9 => h9) rfl dX4_weigh_182 ?_
            refine x_get (ci := 7) (C := RX7) (T := TX7) (N := 8) (v := .ref o6) B 2 rfl rfl in_X7 4 (by decide) mw_186 (fun _ h9 => h9) rfl dX4_weigh_185 ?_
            refine lv_iload_n hx hb dX4_weigh_188 rfl (lv_at hl 4 rfl) ?_
            refine lv_iload hx hb dX4_weigh_189 (lv_at hl 1 rfl) ?_
            refine x_iast' (f := y6) (z := stt) (v := sm) B 8 rfl (by omega) dX4_weigh_191 (fun H locs B => ?_)
            have B := bd_to (ws' := ([(pp, .inr (4, [.ref (A 50 0 0), .ref (Aw 20), .ref pg, .ref so, .int (iI nP), .int (iI cP), .ref p1, .ref p2, .ref p3, .ref p4, .ref p5, .ref p6])), (pg, .inr (3, [.ref (A 50 0 0), .ref (Aw 20), .int (iI pR), .int (iI pC), .int (iI pW), .int (iI pL), .int (iI pH), .int (iI pN), .int (iI pQ), .int (iI pT), .int (iI pB), .int (iI pX), .int (iI pY), .int (iI pM), .int (iI pU)])), (so, .inr (7, [.ref o1, .ref o2, .ref o3, .ref o4, .ref o6, .ref o7, .ref o5, .int (iI (S 0 0))])), (o1, .inl (k 0, 768, .inl (fun i9 : Nat => iI (y1 i9)))), (o2, .inl (k 0, cp, .inl (fun i9 : Nat => iI (y2 i9)))), (o3, .inl (k 0, cp, .inl (fun i9 : Nat => iI (y3 i9)))), (o4, .inl (k 0, cp, .inl (fun i9 : Nat => iI (y4 i9)))), (o5, .inl (k 0, cp, .inl (fun i9 : Nat => iI (y5 i9)))), (o6, .inl (k 0, cp, .inl (fun i9 : Nat => iI ((uz y6 stt sm) i9)))), (o7, .inl (k 0, cp, .inl (fun i9 : Nat => iI (y7 i9))))] ++ tl)) rfl B
            refine lv_aload_n hx hb dX4_weigh_192 rfl (lv_at hl 2 rfl) ?_
            refine x_get (ci := 4) (C := RX4) (T := TX4) (N := 12) (v := .ref so) B 0 rfl rfl in_X4 3 (by decide) mw_368 (fun _ h9 => h9) rfl dX4_weigh_193 ?_
            refine x_get (ci := 7) (C := RX7) (T := TX7) (N := 8) (v := .ref o7) B 2 rfl rfl in_X7 5 (by decide) mw_188 (fun _ h9 => h9) rfl dX4_weigh_196 ?_
            refine lv_iload_n hx hb dX4_weigh_199 rfl (lv_at hl 4 rfl) ?_
            refine lv_iload hx hb dX4_weigh_200 (lv_at hl 0 rfl) ?_
            refine x_iast' (f := y7) (z := stt) (v := pq) B 9 rfl (by omega) dX4_weigh_202 (fun H locs B => ?_)
            have B := bd_to (ws' := ([(pp, .inr (4, [.ref (A 50 0 0), .ref (Aw 20), .ref pg, .ref so, .int (iI nP), .int (iI cP), .ref p1, .ref p2, .ref p3, .ref p4, .ref p5, .ref p6])), (pg, .inr (3, [.ref (A 50 0 0), .ref (Aw 20), .int (iI pR), .int (iI pC), .int (iI pW), .int (iI pL), .int (iI pH), .int (iI pN), .int (iI pQ), .int (iI pT), .int (iI pB), .int (iI pX), .int (iI pY), .int (iI pM), .int (iI pU)])), (so, .inr (7, [.ref o1, .ref o2, .ref o3, .ref o4, .ref o6, .ref o7, .ref o5, .int (iI (S 0 0))])), (o1, .inl (k 0, 768, .inl (fun i9 : Nat => iI (y1 i9)))), (o2, .inl (k 0, cp, .inl (fun i9 : Nat => iI (y2 i9)))), (o3, .inl (k 0, cp, .inl (fun i9 : Nat => iI (y3 i9)))), (o4, .inl (k 0, cp, .inl (fun i9 : Nat => iI (y4 i9)))), (o5, .inl (k 0, cp, .inl (fun i9 : Nat => iI (y5 i9)))), (o6, .inl (k 0, cp, .inl (fun i9 : Nat => iI ((uz y6 stt sm) i9)))), (o7, .inl (k 0, cp, .inl (fun i9 : Nat => iI ((uz y7 stt pq) i9))))] ++ tl)) rfl B
            refine lv_aload_n hx hb dX4_weigh_203 rfl (lv_at hl 2 rfl) ?_
            refine x_get (ci := 4) (C := RX4) (T := TX4) (N := 12) (v := .ref so) B 0 rfl rfl in_X4 3 (by decide) mw_368 (fun _ h9 => h9) rfl dX4_weigh_204 ?_
            refine x_get (ci := 7) (C := RX7) (T := TX7) (N := 8) (v := .ref o5) B 2 rfl rfl in_X7 6 (by decide) mw_190 (fun _ h9 => h9) rfl dX4_weigh_207 ?_
            refine lv_iload_n hx hb dX4_weigh_210 rfl (lv_at hl 4 rfl) ?_
            refine lv_iload_n hx hb dX4_weigh_211 rfl (lv_at hl 5 rfl) ?_
            refine x_iast' (f := y5) (z := stt) (v := nn) B 7 rfl (by omega) dX4_weigh_212 (fun H locs B => ?_)
            have B := bd_to (ws' := ([(pp, .inr (4, [.ref (A 50 0 0), .ref (Aw 20), .ref pg, .ref so, .int (iI nP), .int (iI cP), .ref p1, .ref p2, .ref p3, .ref p4, .ref p5, .ref p6])), (pg, .inr (3, [.ref (A 50 0 0), .ref (Aw 20), .int (iI pR), .int (iI pC), .int (iI pW), .int (iI pL), .int (iI pH), .int (iI pN), .int (iI pQ), .int (iI pT), .int (iI pB), .int (iI pX), .int (iI pY), .int (iI pM), .int (iI pU)])), (so, .inr (7, [.ref o1, .ref o2, .ref o3, .ref o4, .ref o6, .ref o7, .ref o5, .int (iI (S 0 0))])), (o1, .inl (k 0, 768, .inl (fun i9 : Nat => iI (y1 i9)))), (o2, .inl (k 0, cp, .inl (fun i9 : Nat => iI (y2 i9)))), (o3, .inl (k 0, cp, .inl (fun i9 : Nat => iI (y3 i9)))), (o4, .inl (k 0, cp, .inl (fun i9 : Nat => iI (y4 i9)))), (o5, .inl (k 0, cp, .inl (fun i9 : Nat => iI ((uz y5 stt nn) i9)))), (o6, .inl (k 0, cp, .inl (fun i9 : Nat => iI ((uz y6 stt sm) i9)))), (o7, .inl (k 0, cp, .inl (fun i9 : Nat => iI ((uz y7 stt pq) i9))))] ++ tl)) rfl B
            exact k_vret B hr (⟨(uz y5 stt nn), (uz y6 stt sm), (uz y7 stt pq), (ptS S stt sm pq nn), (by rw [← hwe]; exact (if_pos (by omega)).symm), SA_pt hA, (by have q9 := SB_up (sm := sm) (pq := pq) (n := nn) hSB (by omega) (by omega) (by omega) (by omega) (st := stt); unfold upS at q9; rw [if_pos (by omega)] at q9; exact q9), rfl, rfl, rfl, rfl⟩) ⟨Nat.le_of_ble_eq_true rfl, Nat.le_of_ble_eq_true rfl⟩ ⟨Nat.le_of_ble_eq_true rfl, Nat.le_of_ble_eq_true rfl⟩ dX4_weigh_213
  refine lv_iload_n hx hb dX4_weigh_7 rfl (lv_at hl 3 rfl) ?_
  refine lv_aload_n hx hb dX4_weigh_8 rfl (lv_at hl 2 rfl) ?_
  refine x_get (ci := 4) (C := RX4) (T := TX4) (N := 12) (v := .ref (Aw 20)) B 0 rfl rfl in_X4 1 (by decide) mw_366 (fun _ h9 => h9) rfl dX4_weigh_9 ?_
  obtain ⟨k_10, hk_10⟩ := pk_at (hs := [(pp, .inr (4, [.ref (A 50 0 0), .ref (Aw 20), .ref pg, .ref so, .int (iI nP), .int (iI cP), .ref p1, .ref p2, .ref p3, .ref p4, .ref p5, .ref p6])), (pg, .inr (3, [.ref (A 50 0 0), .ref (Aw 20), .int (iI pR), .int (iI pC), .int (iI pW), .int (iI pL), .int (iI pH), .int (iI pN), .int (iI pQ), .int (iI pT), .int (iI pB), .int (iI pX), .int (iI pY), .int (iI pM), .int (iI pU)])), (so, .inr (7, [.ref o1, .ref o2, .ref o3, .ref o4, .ref o6, .ref o7, .ref o5, .int (iI (S 0 0))])), (o1, .inl (k 0, 768, .inl (fun i9 : Nat => iI (y1 i9)))), (o2, .inl (k 0, cp, .inl (fun i9 : Nat => iI (y2 i9)))), (o3, .inl (k 0, cp, .inl (fun i9 : Nat => iI (y3 i9)))), (o4, .inl (k 0, cp, .inl (fun i9 : Nat => iI (y4 i9)))), (o5, .inl (k 0, cp, .inl (fun i9 : Nat => iI (y5 i9)))), (o6, .inl (k 0, cp, .inl (fun i9 : Nat => iI (y6 i9)))), (o7, .inl (k 0, cp, .inl (fun i9 : Nat => iI (y7 i9))))]) (RI_o hR)
  refine x_get (ci := 6) (C := RX6) (T := TX6) (N := 18) (v := .int (iI (M 0 0))) B k_10 hk_10 rfl in_X6 0 (by decide) mw_224 (fun _ h9 => h9) rfl dX4_weigh_12 ?_
  refine lv_icmp_ge (tgt := 104) hx hb dX4_weigh_15 (by decide) (fun c_11 => ?_) (fun c_11 => ?_)
  · have zc_11 : (M 0 0) ≤ nr := jle (a := (M 0 0)) (b := nr) (by omega) (by omega) c_11
    refine lv_iload hx hb dX4_weigh_104 (lv_at hl 0 rfl) ?_
    refine lv_aload_n hx hb dX4_weigh_106 rfl (lv_at hl 2 rfl) ?_
    refine lv_aload_n hx hb dX4_weigh_107 rfl (lv_at hl 2 rfl) ?_
    refine x_get (ci := 4) (C := RX4) (T := TX4) (N := 12) (v := .ref pg) B 0 rfl rfl in_X4 2 (by decide) mw_367 (fun _ h9 => h9) rfl dX4_weigh_108 ?_
    refine x_get (ci := 3) (C := RX3) (T := TX3) (N := 15) (v := .int (iI pX)) B 1 rfl rfl in_X3 11 (by decide) mw_326 (fun _ h9 => h9) rfl dX4_weigh_111 ?_
    refine lv_aload_n hx hb dX4_weigh_114 rfl (lv_at hl 2 rfl) ?_
    refine x_get (ci := 4) (C := RX4) (T := TX4) (N := 12) (v := .ref pg) B 0 rfl rfl in_X4 2 (by decide) mw_367 (fun _ h9 => h9) rfl dX4_weigh_115 ?_
    refine x_get (ci := 3) (C := RX3) (T := TX3) (N := 15) (v := .int (iI pY)) B 1 rfl rfl in_X3 12 (by decide) mw_328 (fun _ h9 => h9) rfl dX4_weigh_118 ?_
    have B := bd_swap (a := [(pp, .inr (4, [.ref (A 50 0 0), .ref (Aw 20), .ref pg, .ref so, .int (iI nP), .int (iI cP), .ref p1, .ref p2, .ref p3, .ref p4, .ref p5, .ref p6]))]) (b := [(pg, .inr (3, [.ref (A 50 0 0), .ref (Aw 20), .int (iI pR), .int (iI pC), .int (iI pW), .int (iI pL), .int (iI pH), .int (iI pN), .int (iI pQ), .int (iI pT), .int (iI pB), .int (iI pX), .int (iI pY), .int (iI pM), .int (iI pU)])), (so, .inr (7, [.ref o1, .ref o2, .ref o3, .ref o4, .ref o6, .ref o7, .ref o5, .int (iI (S 0 0))])), (o1, .inl (k 0, 768, .inl (fun i9 : Nat => iI (y1 i9)))), (o2, .inl (k 0, cp, .inl (fun i9 : Nat => iI (y2 i9)))), (o3, .inl (k 0, cp, .inl (fun i9 : Nat => iI (y3 i9)))), (o4, .inl (k 0, cp, .inl (fun i9 : Nat => iI (y4 i9)))), (o5, .inl (k 0, cp, .inl (fun i9 : Nat => iI (y5 i9)))), (o6, .inl (k 0, cp, .inl (fun i9 : Nat => iI (y6 i9)))), (o7, .inl (k 0, cp, .inl (fun i9 : Nat => iI (y7 i9))))]) (d := tl) (bd_to rfl B)
    refine k_V (rest := [.int (iI 1)]) (wc := ([(pp, .inr (4, [.ref (A 50 0 0), .ref (Aw 20), .ref pg, .ref so, .int (iI nP), .int (iI cP), .ref p1, .ref p2, .ref p3, .ref p4, .ref p5, .ref p6]))] ++ tl)) (wr := [(pg, .inr (3, [.ref (A 50 0 0), .ref (Aw 20), .int (iI pR), .int (iI pC), .int (iI pW), .int (iI pL), .int (iI pH), .int (iI pN), .int (iI pQ), .int (iI pT), .int (iI pB), .int (iI pX), .int (iI pY), .int (iI pM), .int (iI pU)])), (so, .inr (7, [.ref o1, .ref o2, .ref o3, .ref o4, .ref o6, .ref o7, .ref o5, .int (iI (S 0 0))])), (o1, .inl (k 0, 768, .inl (fun i9 : Nat => iI (y1 i9)))), (o2, .inl (k 0, cp, .inl (fun i9 : Nat => iI (y2 i9)))), (o3, .inl (k 0, cp, .inl (fun i9 : Nat => iI (y3 i9)))), (o4, .inl (k 0, cp, .inl (fun i9 : Nat => iI (y4 i9)))), (o5, .inl (k 0, cp, .inl (fun i9 : Nat => iI (y5 i9)))), (o6, .inl (k 0, cp, .inl (fun i9 : Nat => iI (y6 i9)))), (o7, .inl (k 0, cp, .inl (fun i9 : Nat => iI (y7 i9))))]) (k_pagesBehind l dC dI k pp pg so p1 p2 p3 p4 p5 p6 nP cP T A X tl M V Aw pX pY hT hK hR hM hMT (by omega)) B mV_X4_pagesBehind mw_1609 hl (q0 := 0) rfl rfl rfl ⟨Nat.le_of_ble_eq_true rfl, Nat.le_of_ble_eq_true rfl⟩ (Nat.le_of_ble_eq_true rfl) rfl dX4_weigh_121 ⟨Nat.le_of_ble_eq_true rfl, Nat.le_of_ble_eq_true rfl⟩ (fun r w gc gs H locs hp B => ?_)
    obtain ⟨z_12, rfl, hw9, rfl, rfl⟩ := hp
    rw [hw9] at B; clear hw9
    have B := bd_to (ws' := ([(pg, .inr (3, [.ref (A 50 0 0), .ref (Aw 20), .int (iI pR), .int (iI pC), .int (iI pW), .int (iI pL), .int (iI pH), .int (iI pN), .int (iI pQ), .int (iI pT), .int (iI pB), .int (iI pX), .int (iI pY), .int (iI pM), .int (iI pU)])), (so, .inr (7, [.ref o1, .ref o2, .ref o3, .ref o4, .ref o6, .ref o7, .ref o5, .int (iI (S 0 0))])), (o1, .inl (k 0, 768, .inl (fun i9 : Nat => iI (y1 i9)))), (o2, .inl (k 0, cp, .inl (fun i9 : Nat => iI (y2 i9)))), (o3, .inl (k 0, cp, .inl (fun i9 : Nat => iI (y3 i9)))), (o4, .inl (k 0, cp, .inl (fun i9 : Nat => iI (y4 i9)))), (o5, .inl (k 0, cp, .inl (fun i9 : Nat => iI (y5 i9)))), (o6, .inl (k 0, cp, .inl (fun i9 : Nat => iI (y6 i9)))), (o7, .inl (k 0, cp, .inl (fun i9 : Nat => iI (y7 i9)))), (pp, .inr (4, [.ref (A 50 0 0), .ref (Aw 20), .ref pg, .ref so, .int (iI nP), .int (iI cP), .ref p1, .ref p2, .ref p3, .ref p4, .ref p5, .ref p6]))] ++ tl)) rfl B
    refine y_add hx hb dX4_weigh_124 ?_
    refine lv_istore (lv' := [(6, .int (iI (1 + (pbZ T M pX pY)))), (5, .int (iI cs)), (0, .ref pp), (1, .int (iI nr)), (2, .int (iI stt)), (3, .int (iI nn)), (4, .int (iI cs))]) hx hb dX4_weigh_125 hl (by decide) rfl (fun ls hl => ?_)
    have B := bd_pick (ws' := [(pp, .inr (4, [.ref (A 50 0 0), .ref (Aw 20), .ref pg, .ref so, .int (iI nP), .int (iI cP), .ref p1, .ref p2, .ref p3, .ref p4, .ref p5, .ref p6])), (pg, .inr (3, [.ref (A 50 0 0), .ref (Aw 20), .int (iI pR), .int (iI pC), .int (iI pW), .int (iI pL), .int (iI pH), .int (iI pN), .int (iI pQ), .int (iI pT), .int (iI pB), .int (iI pX), .int (iI pY), .int (iI pM), .int (iI pU)])), (so, .inr (7, [.ref o1, .ref o2, .ref o3, .ref o4, .ref o6, .ref o7, .ref o5, .int (iI (S 0 0))])), (o1, .inl (k 0, 768, .inl (fun i9 : Nat => iI (y1 i9)))), (o2, .inl (k 0, cp, .inl (fun i9 : Nat => iI (y2 i9)))), (o3, .inl (k 0, cp, .inl (fun i9 : Nat => iI (y3 i9)))), (o4, .inl (k 0, cp, .inl (fun i9 : Nat => iI (y4 i9)))), (o5, .inl (k 0, cp, .inl (fun i9 : Nat => iI (y5 i9)))), (o6, .inl (k 0, cp, .inl (fun i9 : Nat => iI (y6 i9)))), (o7, .inl (k 0, cp, .inl (fun i9 : Nat => iI (y7 i9))))]) (tl := tl) [9, 0, 1, 2, 3, 4, 5, 6, 7, 8] (by decide) rfl B
    exact J_1 (cs, (1 + (pbZ T M pX pY))) ⟨(show upS S stt cs (1 + (pbZ T M pX pY)) nn = (weZ T M S nr stt nn cs pX pY) from (by unfold weZ; rw [if_neg (by omega)])), (show 0 ≤ cs ∧ cs ≤ 80000 * (768 - S 8 stt) ∧ 0 ≤ (1 + (pbZ T M pX pY)) ∧ (1 + (pbZ T M pX pY)) ≤ 800000 + 6 * (768 - S 8 stt) from (by omega))⟩ _ _ _ (lv_sub hl [0, 1, 2, 3, 4, 5, 6] rfl) (bd_to rfl B)
  · have zc_11 : nr < (M 0 0) := jnle (a := (M 0 0)) (b := nr) (by omega) (by omega) c_11
    refine lv_aload_n hx hb dX4_weigh_18 rfl (lv_at hl 2 rfl) ?_
    refine lv_aload_n hx hb dX4_weigh_19 rfl (lv_at hl 2 rfl) ?_
    refine x_get (ci := 4) (C := RX4) (T := TX4) (N := 12) (v := .ref pg) B 0 rfl rfl in_X4 2 (by decide) mw_367 (fun _ h9 => h9) rfl dX4_weigh_20 ?_
    refine x_get (ci := 3) (C := RX3) (T := TX3) (N := 15) (v := .int (iI pX)) B 1 rfl rfl in_X3 11 (by decide) mw_326 (fun _ h9 => h9) rfl dX4_weigh_23 ?_
    have B := bd_swap (a := [(pp, .inr (4, [.ref (A 50 0 0), .ref (Aw 20), .ref pg, .ref so, .int (iI nP), .int (iI cP), .ref p1, .ref p2, .ref p3, .ref p4, .ref p5, .ref p6]))]) (b := [(pg, .inr (3, [.ref (A 50 0 0), .ref (Aw 20), .int (iI pR), .int (iI pC), .int (iI pW), .int (iI pL), .int (iI pH), .int (iI pN), .int (iI pQ), .int (iI pT), .int (iI pB), .int (iI pX), .int (iI pY), .int (iI pM), .int (iI pU)])), (so, .inr (7, [.ref o1, .ref o2, .ref o3, .ref o4, .ref o6, .ref o7, .ref o5, .int (iI (S 0 0))])), (o1, .inl (k 0, 768, .inl (fun i9 : Nat => iI (y1 i9)))), (o2, .inl (k 0, cp, .inl (fun i9 : Nat => iI (y2 i9)))), (o3, .inl (k 0, cp, .inl (fun i9 : Nat => iI (y3 i9)))), (o4, .inl (k 0, cp, .inl (fun i9 : Nat => iI (y4 i9)))), (o5, .inl (k 0, cp, .inl (fun i9 : Nat => iI (y5 i9)))), (o6, .inl (k 0, cp, .inl (fun i9 : Nat => iI (y6 i9)))), (o7, .inl (k 0, cp, .inl (fun i9 : Nat => iI (y7 i9))))]) (d := tl) (bd_to rfl B)
    refine k_V (rest := []) (wc := ([(pp, .inr (4, [.ref (A 50 0 0), .ref (Aw 20), .ref pg, .ref so, .int (iI nP), .int (iI cP), .ref p1, .ref p2, .ref p3, .ref p4, .ref p5, .ref p6]))] ++ tl)) (wr := [(pg, .inr (3, [.ref (A 50 0 0), .ref (Aw 20), .int (iI pR), .int (iI pC), .int (iI pW), .int (iI pL), .int (iI pH), .int (iI pN), .int (iI pQ), .int (iI pT), .int (iI pB), .int (iI pX), .int (iI pY), .int (iI pM), .int (iI pU)])), (so, .inr (7, [.ref o1, .ref o2, .ref o3, .ref o4, .ref o6, .ref o7, .ref o5, .int (iI (S 0 0))])), (o1, .inl (k 0, 768, .inl (fun i9 : Nat => iI (y1 i9)))), (o2, .inl (k 0, cp, .inl (fun i9 : Nat => iI (y2 i9)))), (o3, .inl (k 0, cp, .inl (fun i9 : Nat => iI (y3 i9)))), (o4, .inl (k 0, cp, .inl (fun i9 : Nat => iI (y4 i9)))), (o5, .inl (k 0, cp, .inl (fun i9 : Nat => iI (y5 i9)))), (o6, .inl (k 0, cp, .inl (fun i9 : Nat => iI (y6 i9)))), (o7, .inl (k 0, cp, .inl (fun i9 : Nat => iI (y7 i9))))]) (k_withoutAlone l dC dI k pp pg so p1 p2 p3 p4 p5 p6 nP cP T A X tl M V Aw pX hT hK hR hM hMT (by omega)) B mV_X4_withoutAlone mw_1580 hl (q0 := 0) rfl rfl rfl ⟨Nat.le_of_ble_eq_true rfl, Nat.le_of_ble_eq_true rfl⟩ (Nat.le_of_ble_eq_true rfl) rfl dX4_weigh_26 ⟨Nat.le_of_ble_eq_true rfl, Nat.le_of_ble_eq_true rfl⟩ (fun r w gc gs H locs hp B => ?_)
    obtain ⟨z_13, rfl, hw9, rfl, rfl⟩ := hp
    rw [hw9] at B; clear hw9
    have B := bd_to (ws' := ([(pg, .inr (3, [.ref (A 50 0 0), .ref (Aw 20), .int (iI pR), .int (iI pC), .int (iI pW), .int (iI pL), .int (iI pH), .int (iI pN), .int (iI pQ), .int (iI pT), .int (iI pB), .int (iI pX), .int (iI pY), .int (iI pM), .int (iI pU)])), (so, .inr (7, [.ref o1, .ref o2, .ref o3, .ref o4, .ref o6, .ref o7, .ref o5, .int (iI (S 0 0))])), (o1, .inl (k 0, 768, .inl (fun i9 : Nat => iI (y1 i9)))), (o2, .inl (k 0, cp, .inl (fun i9 : Nat => iI (y2 i9)))), (o3, .inl (k 0, cp, .inl (fun i9 : Nat => iI (y3 i9)))), (o4, .inl (k 0, cp, .inl (fun i9 : Nat => iI (y4 i9)))), (o5, .inl (k 0, cp, .inl (fun i9 : Nat => iI (y5 i9)))), (o6, .inl (k 0, cp, .inl (fun i9 : Nat => iI (y6 i9)))), (o7, .inl (k 0, cp, .inl (fun i9 : Nat => iI (y7 i9)))), (pp, .inr (4, [.ref (A 50 0 0), .ref (Aw 20), .ref pg, .ref so, .int (iI nP), .int (iI cP), .ref p1, .ref p2, .ref p3, .ref p4, .ref p5, .ref p6]))] ++ tl)) rfl B
    refine lv_istore (lv' := [(7, .int (iI (waZ T M pX))), (6, .int (iI 1)), (5, .int (iI cs)), (0, .ref pp), (1, .int (iI nr)), (2, .int (iI stt)), (3, .int (iI nn)), (4, .int (iI cs))]) hx hb dX4_weigh_29 hl (by decide) rfl (fun ls hl => ?_)
    refine lv_aload_n hx hb dX4_weigh_31 rfl (lv_at hl 3 rfl) ?_
    refine x_get (ci := 4) (C := RX4) (T := TX4) (N := 12) (v := .ref so) B 9 rfl rfl in_X4 3 (by decide) mw_368 (fun _ h9 => h9) rfl dX4_weigh_32 ?_
    refine lv_iload_n hx hb dX4_weigh_35 rfl (lv_at hl 4 rfl) ?_
    refine lv_iload hx hb dX4_weigh_36 (lv_at hl 0 rfl) ?_
    refine lv_aload_n hx hb dX4_weigh_38 rfl (lv_at hl 3 rfl) ?_
    refine x_get (ci := 4) (C := RX4) (T := TX4) (N := 12) (v := .ref pg) B 9 rfl rfl in_X4 2 (by decide) mw_367 (fun _ h9 => h9) rfl dX4_weigh_39 ?_
    refine x_get (ci := 3) (C := RX3) (T := TX3) (N := 15) (v := .int (iI pY)) B 0 rfl rfl in_X3 12 (by decide) mw_328 (fun _ h9 => h9) rfl dX4_weigh_42 ?_
    have B := bd_pick (hs := [(pg, .inr (3, [.ref (A 50 0 0), .ref (Aw 20), .int (iI pR), .int (iI pC), .int (iI pW), .int (iI pL), .int (iI pH), .int (iI pN), .int (iI pQ), .int (iI pT), .int (iI pB), .int (iI pX), .int (iI pY), .int (iI pM), .int (iI pU)])), (so, .inr (7, [.ref o1, .ref o2, .ref o3, .ref o4, .ref o6, .ref o7, .ref o5, .int (iI (S 0 0))])), (o1, .inl (k 0, 768, .inl (fun i9 : Nat => iI (y1 i9)))), (o2, .inl (k 0, cp, .inl (fun i9 : Nat => iI (y2 i9)))), (o3, .inl (k 0, cp, .inl (fun i9 : Nat => iI (y3 i9)))), (o4, .inl (k 0, cp, .inl (fun i9 : Nat => iI (y4 i9)))), (o5, .inl (k 0, cp, .inl (fun i9 : Nat => iI (y5 i9)))), (o6, .inl (k 0, cp, .inl (fun i9 : Nat => iI (y6 i9)))), (o7, .inl (k 0, cp, .inl (fun i9 : Nat => iI (y7 i9)))), (pp, .inr (4, [.ref (A 50 0 0), .ref (Aw 20), .ref pg, .ref so, .int (iI nP), .int (iI cP), .ref p1, .ref p2, .ref p3, .ref p4, .ref p5, .ref p6]))]) (ws' := [(so, .inr (7, [.ref o1, .ref o2, .ref o3, .ref o4, .ref o6, .ref o7, .ref o5, .int (iI (S 0 0))])), (o1, .inl (k 0, 768, .inl (fun i9 : Nat => iI (y1 i9)))), (o2, .inl (k 0, cp, .inl (fun i9 : Nat => iI (y2 i9)))), (o3, .inl (k 0, cp, .inl (fun i9 : Nat => iI (y3 i9)))), (o4, .inl (k 0, cp, .inl (fun i9 : Nat => iI (y4 i9)))), (o5, .inl (k 0, cp, .inl (fun i9 : Nat => iI (y5 i9)))), (o6, .inl (k 0, cp, .inl (fun i9 : Nat => iI (y6 i9)))), (o7, .inl (k 0, cp, .inl (fun i9 : Nat => iI (y7 i9)))), (pg, .inr (3, [.ref (A 50 0 0), .ref (Aw 20), .int (iI pR), .int (iI pC), .int (iI pW), .int (iI pL), .int (iI pH), .int (iI pN), .int (iI pQ), .int (iI pT), .int (iI pB), .int (iI pX), .int (iI pY), .int (iI pM), .int (iI pU)])), (pp, .inr (4, [.ref (A 50 0 0), .ref (Aw 20), .ref pg, .ref so, .int (iI nP), .int (iI cP), .ref p1, .ref p2, .ref p3, .ref p4, .ref p5, .ref p6]))]) (tl := tl) [1, 2, 3, 4, 5, 6, 7, 8, 0, 9] (by decide) rfl B
    have B := bd_to (ws' := [(so, .inr (7, [.ref o1, .ref o2, .ref o3, .ref o4, .ref o6, .ref o7, .ref o5, .int (iI (S 0 0))])), (o1, .inl (k 0, 768, .inl (fun i9 : Nat => iI (y1 i9)))), (o2, .inl (k 0, cp, .inl (fun i9 : Nat => iI (y2 i9)))), (o3, .inl (k 0, cp, .inl (fun i9 : Nat => iI (y3 i9)))), (o4, .inl (k 0, cp, .inl (fun i9 : Nat => iI (y4 i9)))), (o5, .inl (k 0, cp, .inl (fun i9 : Nat => iI (y5 i9)))), (o6, .inl (k 0, cp, .inl (fun i9 : Nat => iI (y6 i9)))), (o7, .inl (k 0, cp, .inl (fun i9 : Nat => iI (y7 i9))))] ++ ([(pg, .inr (3, [.ref (A 50 0 0), .ref (Aw 20), .int (iI pR), .int (iI pC), .int (iI pW), .int (iI pL), .int (iI pH), .int (iI pN), .int (iI pQ), .int (iI pT), .int (iI pB), .int (iI pX), .int (iI pY), .int (iI pM), .int (iI pU)])), (pp, .inr (4, [.ref (A 50 0 0), .ref (Aw 20), .ref pg, .ref so, .int (iI nP), .int (iI cP), .ref p1, .ref p2, .ref p3, .ref p4, .ref p5, .ref p6]))] ++ tl)) rfl B
    refine k_V (rest := []) (wc := [(so, .inr (7, [.ref o1, .ref o2, .ref o3, .ref o4, .ref o6, .ref o7, .ref o5, .int (iI (S 0 0))])), (o1, .inl (k 0, 768, .inl (fun i9 : Nat => iI (y1 i9)))), (o2, .inl (k 0, cp, .inl (fun i9 : Nat => iI (y2 i9)))), (o3, .inl (k 0, cp, .inl (fun i9 : Nat => iI (y3 i9)))), (o4, .inl (k 0, cp, .inl (fun i9 : Nat => iI (y4 i9)))), (o5, .inl (k 0, cp, .inl (fun i9 : Nat => iI (y5 i9)))), (o6, .inl (k 0, cp, .inl (fun i9 : Nat => iI (y6 i9)))), (o7, .inl (k 0, cp, .inl (fun i9 : Nat => iI (y7 i9))))]) (wr := ([(pg, .inr (3, [.ref (A 50 0 0), .ref (Aw 20), .int (iI pR), .int (iI pC), .int (iI pW), .int (iI pL), .int (iI pH), .int (iI pN), .int (iI pQ), .int (iI pT), .int (iI pB), .int (iI pX), .int (iI pY), .int (iI pM), .int (iI pU)])), (pp, .inr (4, [.ref (A 50 0 0), .ref (Aw 20), .ref pg, .ref so, .int (iI nP), .int (iI cP), .ref p1, .ref p2, .ref p3, .ref p4, .ref p5, .ref p6]))] ++ tl)) (k_find l dC dI k so o1 o2 o3 o4 o5 o6 o7 cp y1 y2 y3 y4 y5 y6 y7 S nr (waZ T M pX) pY hA hW hcp (by omega) (by omega)) B mV_X7_find mw_1602 hl (q0 := 0) rfl rfl rfl ⟨Nat.le_of_ble_eq_true rfl, Nat.le_of_ble_eq_true rfl⟩ (Nat.le_of_ble_eq_true rfl) rfl dX4_weigh_45 ⟨Nat.le_of_ble_eq_true rfl, Nat.le_of_ble_eq_true rfl⟩ (fun r w gc gs H locs hp B => ?_)
    obtain ⟨z_14, rfl, hw9, rfl, rfl⟩ := hp
    rw [hw9] at B; clear hw9
    have B := bd_swap (a := [(pg, .inr (3, [.ref (A 50 0 0), .ref (Aw 20), .int (iI pR), .int (iI pC), .int (iI pW), .int (iI pL), .int (iI pH), .int (iI pN), .int (iI pQ), .int (iI pT), .int (iI pB), .int (iI pX), .int (iI pY), .int (iI pM), .int (iI pU)])), (pp, .inr (4, [.ref (A 50 0 0), .ref (Aw 20), .ref pg, .ref so, .int (iI nP), .int (iI cP), .ref p1, .ref p2, .ref p3, .ref p4, .ref p5, .ref p6]))]) (b := tl) (d := [(so, .inr (7, [.ref o1, .ref o2, .ref o3, .ref o4, .ref o6, .ref o7, .ref o5, .int (iI (S 0 0))])), (o1, .inl (k 0, 768, .inl (fun i9 : Nat => iI (y1 i9)))), (o2, .inl (k 0, cp, .inl (fun i9 : Nat => iI (y2 i9)))), (o3, .inl (k 0, cp, .inl (fun i9 : Nat => iI (y3 i9)))), (o4, .inl (k 0, cp, .inl (fun i9 : Nat => iI (y4 i9)))), (o5, .inl (k 0, cp, .inl (fun i9 : Nat => iI (y5 i9)))), (o6, .inl (k 0, cp, .inl (fun i9 : Nat => iI (y6 i9)))), (o7, .inl (k 0, cp, .inl (fun i9 : Nat => iI (y7 i9))))]) B
    have B := bd_to (ws' := ([(pg, .inr (3, [.ref (A 50 0 0), .ref (Aw 20), .int (iI pR), .int (iI pC), .int (iI pW), .int (iI pL), .int (iI pH), .int (iI pN), .int (iI pQ), .int (iI pT), .int (iI pB), .int (iI pX), .int (iI pY), .int (iI pM), .int (iI pU)])), (pp, .inr (4, [.ref (A 50 0 0), .ref (Aw 20), .ref pg, .ref so, .int (iI nP), .int (iI cP), .ref p1, .ref p2, .ref p3, .ref p4, .ref p5, .ref p6])), (so, .inr (7, [.ref o1, .ref o2, .ref o3, .ref o4, .ref o6, .ref o7, .ref o5, .int (iI (S 0 0))])), (o1, .inl (k 0, 768, .inl (fun i9 : Nat => iI (y1 i9)))), (o2, .inl (k 0, cp, .inl (fun i9 : Nat => iI (y2 i9)))), (o3, .inl (k 0, cp, .inl (fun i9 : Nat => iI (y3 i9)))), (o4, .inl (k 0, cp, .inl (fun i9 : Nat => iI (y4 i9)))), (o5, .inl (k 0, cp, .inl (fun i9 : Nat => iI (y5 i9)))), (o6, .inl (k 0, cp, .inl (fun i9 : Nat => iI (y6 i9)))), (o7, .inl (k 0, cp, .inl (fun i9 : Nat => iI (y7 i9))))] ++ tl)) rfl B
    refine lv_istore (lv' := [(8, .int (iI (fnZ S nr (waZ T M pX) pY))), (7, .int (iI (waZ T M pX))), (6, .int (iI 1)), (5, .int (iI cs)), (0, .ref pp), (1, .int (iI nr)), (2, .int (iI stt)), (3, .int (iI nn)), (4, .int (iI cs))]) hx hb dX4_weigh_48 hl (by decide) rfl (fun ls hl => ?_)
    have z_15 : (fnZ S nr (waZ T M pX) pY) ≠ -1 := (fnZ_in hW).2.2 (hne nr (by omega) (by omega))
    have z_16 : S 8 (fnZ S nr (waZ T M pX) pY) = nr := (fnZ_in hW).2.1 (by omega)
    have z_17 : S 5 (fnZ S nr (waZ T M pX) pY) ≠ 0 := hpr _ (by omega) (by omega) (by omega)
    have z_18 : 0 ≤ S 8 stt ∧ S 8 stt ≤ 767 := SW_r hW _ (by omega) (by omega)
    refine lv_iload hx hb dX4_weigh_50 (lv_at hl 0 rfl) ?_
    refine lv_iconst (v := iI (-1)) hx hb dX4_weigh_52 (by decide) ?_
    refine lv_icmp_ne (tgt := 57) hx hb dX4_weigh_53 (by decide) (fun c_19 => ?_) (fun c_19 => ?_)
    · have zc_19 : (fnZ S nr (waZ T M pX) pY) ≠ (-1) := jne (a := (fnZ S nr (waZ T M pX) pY)) (b := (-1)) (by omega) (by omega) c_19
      refine lv_iload hx hb dX4_weigh_57 (lv_at hl 3 rfl) ?_
      refine lv_aload_n hx hb dX4_weigh_59 rfl (lv_at hl 4 rfl) ?_
      refine x_get (ci := 4) (C := RX4) (T := TX4) (N := 12) (v := .ref so) B 1 rfl rfl in_X4 3 (by decide) mw_368 (fun _ h9 => h9) rfl dX4_weigh_60 ?_
      refine x_get (ci := 7) (C := RX7) (T := TX7) (N := 8) (v := .ref o6) B 2 rfl rfl in_X7 4 (by decide) mw_186 (fun _ h9 => h9) rfl dX4_weigh_63 ?_
      refine lv_iload hx hb dX4_weigh_66 (lv_at hl 0 rfl) ?_
      refine x_iald' (f := y6) (z := (fnZ S nr (waZ T M pX) pY)) B 8 rfl (by omega) dX4_weigh_68 ?_
      refine lv_seti (y := iI (S 6 (fnZ S nr (waZ T M pX) pY))) (congrArg iI (show y6 (fnZ S nr (waZ T M pX) pY) = S 6 (fnZ S nr (waZ T M pX) pY) from (hA.2.2 _ (by omega) (by omega) (by omega)).1)) ?_
      have z_20 : 0 ≤ S 6 (fnZ S nr (waZ T M pX) pY) ∧ S 6 (fnZ S nr (waZ T M pX) pY) ≤ 80000 * (768 - S 8 (fnZ S nr (waZ T M pX) pY)) := (hSB _ (by omega) (by omega)).1
      refine y_add hx hb dX4_weigh_69 ?_
      refine lv_istore (lv' := [(5, .int (iI (cs + (S 6 (fnZ S nr (waZ T M pX) pY))))), (8, .int (iI (fnZ S nr (waZ T M pX) pY))), (7, .int (iI (waZ T M pX))), (6, .int (iI 1)), (0, .ref pp), (1, .int (iI nr)), (2, .int (iI stt)), (3, .int (iI nn)), (4, .int (iI cs))]) hx hb dX4_weigh_70 hl (by decide) rfl (fun ls hl => ?_)
      refine lv_iload hx hb dX4_weigh_72 (lv_at hl 3 rfl) ?_
      refine lv_aload_n hx hb dX4_weigh_74 rfl (lv_at hl 4 rfl) ?_
      refine x_get (ci := 4) (C := RX4) (T := TX4) (N := 12) (v := .ref pg) B 1 rfl rfl in_X4 2 (by decide) mw_367 (fun _ h9 => h9) rfl dX4_weigh_75 ?_
      refine x_get (ci := 3) (C := RX3) (T := TX3) (N := 15) (v := .int (iI pX)) B 0 rfl rfl in_X3 11 (by decide) mw_326 (fun _ h9 => h9) rfl dX4_weigh_78 ?_
      refine lv_iload hx hb dX4_weigh_81 (lv_at hl 2 rfl) ?_
      refine y_xor hx hb (a := pX) (b := (waZ T M pX)) (by omega) (by omega) dX4_weigh_83 ?_
      have z_21 : 0 ≤ (bXor pX (waZ T M pX)) ∧ (bXor pX (waZ T M pX)) < 32 := bXor_lt 5 (by omega) (by omega)
      have B := bd_to (ws' := [] ++ ([(pg, .inr (3, [.ref (A 50 0 0), .ref (Aw 20), .int (iI pR), .int (iI pC), .int (iI pW), .int (iI pL), .int (iI pH), .int (iI pN), .int (iI pQ), .int (iI pT), .int (iI pB), .int (iI pX), .int (iI pY), .int (iI pM), .int (iI pU)])), (pp, .inr (4, [.ref (A 50 0 0), .ref (Aw 20), .ref pg, .ref so, .int (iI nP), .int (iI cP), .ref p1, .ref p2, .ref p3, .ref p4, .ref p5, .ref p6])), (so, .inr (7, [.ref o1, .ref o2, .ref o3, .ref o4, .ref o6, .ref o7, .ref o5, .int (iI (S 0 0))])), (o1, .inl (k 0, 768, .inl (fun i9 : Nat => iI (y1 i9)))), (o2, .inl (k 0, cp, .inl (fun i9 : Nat => iI (y2 i9)))), (o3, .inl (k 0, cp, .inl (fun i9 : Nat => iI (y3 i9)))), (o4, .inl (k 0, cp, .inl (fun i9 : Nat => iI (y4 i9)))), (o5, .inl (k 0, cp, .inl (fun i9 : Nat => iI (y5 i9)))), (o6, .inl (k 0, cp, .inl (fun i9 : Nat => iI (y6 i9)))), (o7, .inl (k 0, cp, .inl (fun i9 : Nat => iI (y7 i9))))] ++ tl)) rfl B
      refine k_S (rest := [.int (iI 1)]) (wc := []) (wr := ([(pg, .inr (3, [.ref (A 50 0 0), .ref (Aw 20), .int (iI pR), .int (iI pC), .int (iI pW), .int (iI pL), .int (iI pH), .int (iI pN), .int (iI pQ), .int (iI pT), .int (iI pB), .int (iI pX), .int (iI pY), .int (iI pM), .int (iI pU)])), (pp, .inr (4, [.ref (A 50 0 0), .ref (Aw 20), .ref pg, .ref so, .int (iI nP), .int (iI cP), .ref p1, .ref p2, .ref p3, .ref p4, .ref p5, .ref p6])), (so, .inr (7, [.ref o1, .ref o2, .ref o3, .ref o4, .ref o6, .ref o7, .ref o5, .int (iI (S 0 0))])), (o1, .inl (k 0, 768, .inl (fun i9 : Nat => iI (y1 i9)))), (o2, .inl (k 0, cp, .inl (fun i9 : Nat => iI (y2 i9)))), (o3, .inl (k 0, cp, .inl (fun i9 : Nat => iI (y3 i9)))), (o4, .inl (k 0, cp, .inl (fun i9 : Nat => iI (y4 i9)))), (o5, .inl (k 0, cp, .inl (fun i9 : Nat => iI (y5 i9)))), (o6, .inl (k 0, cp, .inl (fun i9 : Nat => iI (y6 i9)))), (o7, .inl (k 0, cp, .inl (fun i9 : Nat => iI (y7 i9))))] ++ tl)) (k_bitCount l dC dI k (bXor pX (waZ T M pX)) z_21) B mS_J6_bitCount_0f7a4 mw_1603 hl ⟨Nat.le_of_ble_eq_true rfl, Nat.le_of_ble_eq_true rfl⟩ (Nat.le_of_ble_eq_true rfl) rfl dX4_weigh_84 ⟨Nat.le_of_ble_eq_true rfl, Nat.le_of_ble_eq_true rfl⟩ (fun r w gc gs H locs hp B => ?_)
      obtain ⟨z_22, rfl, hw9, rfl, rfl⟩ := hp
      rw [hw9] at B; clear hw9
      have B := bd_swap (a := [(pg, .inr (3, [.ref (A 50 0 0), .ref (Aw 20), .int (iI pR), .int (iI pC), .int (iI pW), .int (iI pL), .int (iI pH), .int (iI pN), .int (iI pQ), .int (iI pT), .int (iI pB), .int (iI pX), .int (iI pY), .int (iI pM), .int (iI pU)])), (pp, .inr (4, [.ref (A 50 0 0), .ref (Aw 20), .ref pg, .ref so, .int (iI nP), .int (iI cP), .ref p1, .ref p2, .ref p3, .ref p4, .ref p5, .ref p6])), (so, .inr (7, [.ref o1, .ref o2, .ref o3, .ref o4, .ref o6, .ref o7, .ref o5, .int (iI (S 0 0))])), (o1, .inl (k 0, 768, .inl (fun i9 : Nat => iI (y1 i9)))), (o2, .inl (k 0, cp, .inl (fun i9 : Nat => iI (y2 i9)))), (o3, .inl (k 0, cp, .inl (fun i9 : Nat => iI (y3 i9)))), (o4, .inl (k 0, cp, .inl (fun i9 : Nat => iI (y4 i9)))), (o5, .inl (k 0, cp, .inl (fun i9 : Nat => iI (y5 i9)))), (o6, .inl (k 0, cp, .inl (fun i9 : Nat => iI (y6 i9)))), (o7, .inl (k 0, cp, .inl (fun i9 : Nat => iI (y7 i9))))]) (b := tl) (d := []) B
      have B := bd_to (ws' := ([(pg, .inr (3, [.ref (A 50 0 0), .ref (Aw 20), .int (iI pR), .int (iI pC), .int (iI pW), .int (iI pL), .int (iI pH), .int (iI pN), .int (iI pQ), .int (iI pT), .int (iI pB), .int (iI pX), .int (iI pY), .int (iI pM), .int (iI pU)])), (pp, .inr (4, [.ref (A 50 0 0), .ref (Aw 20), .ref pg, .ref so, .int (iI nP), .int (iI cP), .ref p1, .ref p2, .ref p3, .ref p4, .ref p5, .ref p6])), (so, .inr (7, [.ref o1, .ref o2, .ref o3, .ref o4, .ref o6, .ref o7, .ref o5, .int (iI (S 0 0))])), (o1, .inl (k 0, 768, .inl (fun i9 : Nat => iI (y1 i9)))), (o2, .inl (k 0, cp, .inl (fun i9 : Nat => iI (y2 i9)))), (o3, .inl (k 0, cp, .inl (fun i9 : Nat => iI (y3 i9)))), (o4, .inl (k 0, cp, .inl (fun i9 : Nat => iI (y4 i9)))), (o5, .inl (k 0, cp, .inl (fun i9 : Nat => iI (y5 i9)))), (o6, .inl (k 0, cp, .inl (fun i9 : Nat => iI (y6 i9)))), (o7, .inl (k 0, cp, .inl (fun i9 : Nat => iI (y7 i9))))] ++ tl)) rfl B
      refine lv_aload_n hx hb dX4_weigh_87 rfl (lv_at hl 4 rfl) ?_
      refine x_get (ci := 4) (C := RX4) (T := TX4) (N := 12) (v := .ref so) B 1 rfl rfl in_X4 3 (by decide) mw_368 (fun _ h9 => h9) rfl dX4_weigh_88 ?_
      refine x_get (ci := 7) (C := RX7) (T := TX7) (N := 8) (v := .ref o7) B 2 rfl rfl in_X7 5 (by decide) mw_188 (fun _ h9 => h9) rfl dX4_weigh_91 ?_
      refine lv_iload hx hb dX4_weigh_94 (lv_at hl 1 rfl) ?_
      refine x_iald' (f := y7) (z := (fnZ S nr (waZ T M pX) pY)) B 9 rfl (by omega) dX4_weigh_96 ?_
      refine lv_seti (y := iI (S 7 (fnZ S nr (waZ T M pX) pY))) (congrArg iI (show y7 (fnZ S nr (waZ T M pX) pY) = S 7 (fnZ S nr (waZ T M pX) pY) from (hA.2.2 _ (by omega) (by omega) (by omega)).2)) ?_
      have z_23 : 0 ≤ S 7 (fnZ S nr (waZ T M pX) pY) ∧ S 7 (fnZ S nr (waZ T M pX) pY) ≤ 800000 + 6 * (768 - S 8 (fnZ S nr (waZ T M pX) pY)) := (hSB _ (by omega) (by omega)).2.1
      refine y_add hx hb dX4_weigh_97 ?_
      refine y_add hx hb dX4_weigh_98 ?_
      refine lv_istore (lv' := [(6, .int (iI (1 + ((bcZ (bXor pX (waZ T M pX))) + (S 7 (fnZ S nr (waZ T M pX) pY)))))), (5, .int (iI (cs + (S 6 (fnZ S nr (waZ T M pX) pY))))), (8, .int (iI (fnZ S nr (waZ T M pX) pY))), (7, .int (iI (waZ T M pX))), (0, .ref pp), (1, .int (iI nr)), (2, .int (iI stt)), (3, .int (iI nn)), (4, .int (iI cs))]) hx hb dX4_weigh_99 hl (by decide) rfl (fun ls hl => ?_)
      refine lv_goto (tgt := 127) hx hb dX4_weigh_101 (by decide) ?_
      have B := bd_pick (ws' := [(pp, .inr (4, [.ref (A 50 0 0), .ref (Aw 20), .ref pg, .ref so, .int (iI nP), .int (iI cP), .ref p1, .ref p2, .ref p3, .ref p4, .ref p5, .ref p6])), (pg, .inr (3, [.ref (A 50 0 0), .ref (Aw 20), .int (iI pR), .int (iI pC), .int (iI pW), .int (iI pL), .int (iI pH), .int (iI pN), .int (iI pQ), .int (iI pT), .int (iI pB), .int (iI pX), .int (iI pY), .int (iI pM), .int (iI pU)])), (so, .inr (7, [.ref o1, .ref o2, .ref o3, .ref o4, .ref o6, .ref o7, .ref o5, .int (iI (S 0 0))])), (o1, .inl (k 0, 768, .inl (fun i9 : Nat => iI (y1 i9)))), (o2, .inl (k 0, cp, .inl (fun i9 : Nat => iI (y2 i9)))), (o3, .inl (k 0, cp, .inl (fun i9 : Nat => iI (y3 i9)))), (o4, .inl (k 0, cp, .inl (fun i9 : Nat => iI (y4 i9)))), (o5, .inl (k 0, cp, .inl (fun i9 : Nat => iI (y5 i9)))), (o6, .inl (k 0, cp, .inl (fun i9 : Nat => iI (y6 i9)))), (o7, .inl (k 0, cp, .inl (fun i9 : Nat => iI (y7 i9))))]) (tl := tl) [1, 0, 2, 3, 4, 5, 6, 7, 8, 9] (by decide) rfl B
      exact J_1 ((cs + (S 6 (fnZ S nr (waZ T M pX) pY))), (1 + ((bcZ (bXor pX (waZ T M pX))) + (S 7 (fnZ S nr (waZ T M pX) pY))))) ⟨(show upS S stt (cs + (S 6 (fnZ S nr (waZ T M pX) pY))) (1 + ((bcZ (bXor pX (waZ T M pX))) + (S 7 (fnZ S nr (waZ T M pX) pY)))) nn = (weZ T M S nr stt nn cs pX pY) from (by unfold weZ; rw [if_pos (by omega)])), (show 0 ≤ (cs + (S 6 (fnZ S nr (waZ T M pX) pY))) ∧ (cs + (S 6 (fnZ S nr (waZ T M pX) pY))) ≤ 80000 * (768 - S 8 stt) ∧ 0 ≤ (1 + ((bcZ (bXor pX (waZ T M pX))) + (S 7 (fnZ S nr (waZ T M pX) pY)))) ∧ (1 + ((bcZ (bXor pX (waZ T M pX))) + (S 7 (fnZ S nr (waZ T M pX) pY)))) ≤ 800000 + 6 * (768 - S 8 stt) from (by omega))⟩ _ _ _ (lv_sub hl [0, 1, 4, 5, 6, 7, 8] rfl) (bd_to rfl B)
    · have zc_19 : (fnZ S nr (waZ T M pX) pY) = (-1) := jeq (a := (fnZ S nr (waZ T M pX) pY)) (b := (-1)) (by omega) (by omega) c_19
      exfalso; omega

end
