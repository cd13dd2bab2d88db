section
theorem mw_119 : (Jvm.Cond.arrayClass Jvm.ClassFile.FieldType.int) ∈ gt := gt_at 189 (by decide +kernel) (by decide +kernel)
theorem mw_654 : (Jvm.Cond.methodLink "java/util/Arrays" (304 : Nat) ({ cls := "java/lang/Math", name := "min", desc := "(II)I" } : Jvm.MethodName)) ∈ gt := gt_at 724 (by decide +kernel) (by decide +kernel)
theorem mw_657 : (Jvm.Cond.methodLink "java/util/Arrays" (150 : Nat) ({ cls := "java/lang/System", name := "arraycopy", desc := "(Ljava/lang/Object;ILjava/lang/Object;II)V" } : Jvm.MethodName)) ∈ gt := gt_at 727 (by decide +kernel) (by decide +kernel)
theorem dJ7_copyOf_59c91_0 : decode cJ7_copyOf_59c91 0 = .ok (.iload_n 1, 1) := by decide +kernel
theorem dJ7_copyOf_59c91_1 : decode cJ7_copyOf_59c91 1 = .ok (.aload_n 0, 1) := by decide +kernel
theorem dJ7_copyOf_59c91_2 : decode cJ7_copyOf_59c91 2 = .ok (.arraylength, 1) := by decide +kernel
theorem dJ7_copyOf_59c91_3 : decode cJ7_copyOf_59c91 3 = .ok (.if_icmp .ne 11, 3) := by decide +kernel
theorem dJ7_copyOf_59c91_14 : decode cJ7_copyOf_59c91 14 = .ok (.iload_n 1, 1) := by decide +kernel
theorem dJ7_copyOf_59c91_15 : decode cJ7_copyOf_59c91 15 = .ok (.newarray .int, 2) := by decide +kernel
theorem dJ7_copyOf_59c91_17 : decode cJ7_copyOf_59c91 17 = .ok (.astore_n 2, 1) := by decide +kernel
theorem dJ7_copyOf_59c91_18 : decode cJ7_copyOf_59c91 18 = .ok (.aload_n 0, 1) := by decide +kernel
theorem dJ7_copyOf_59c91_19 : decode cJ7_copyOf_59c91 19 = .ok (.iconst 0, 1) := by decide +kernel
theorem dJ7_copyOf_59c91_20 : decode cJ7_copyOf_59c91 20 = .ok (.aload_n 2, 1) := by decide +kernel
theorem dJ7_copyOf_59c91_21 : decode cJ7_copyOf_59c91 21 = .ok (.iconst 0, 1) := by decide +kernel
theorem dJ7_copyOf_59c91_22 : decode cJ7_copyOf_59c91 22 = .ok (.aload_n 0, 1) := by decide +kernel
theorem dJ7_copyOf_59c91_23 : decode cJ7_copyOf_59c91 23 = .ok (.arraylength, 1) := by decide +kernel
theorem dJ7_copyOf_59c91_24 : decode cJ7_copyOf_59c91 24 = .ok (.iload_n 1, 1) := by decide +kernel
theorem dJ7_copyOf_59c91_25 : decode cJ7_copyOf_59c91 25 = .ok (.invokestatic 304, 3) := by decide +kernel
theorem dJ7_copyOf_59c91_28 : decode cJ7_copyOf_59c91 28 = .ok (.invokestatic 150, 3) := by decide +kernel
theorem dJ7_copyOf_59c91_31 : decode cJ7_copyOf_59c91 31 = .ok (.aload_n 2, 1) := by decide +kernel
theorem dJ7_copyOf_59c91_32 : decode cJ7_copyOf_59c91 32 = .ok (.areturn, 1) := by decide +kernel
set_option maxHeartbeats 4000000 in
set_option maxRecDepth 100000 in
theorem k_copyI (l : Launch) (dC : Nat → ClassId) (dI : Nat → Nat → Nat) (k : Nat → ClassId) (ca : Nat) (nn : Nat) (mm : Nat) (fc : Int → Int) (h1 : 0 < nn ∧ nn < 1000000 ∧ 0 < mm ∧ mm < 1000000 ∧ nn ≠ mm) : Kn l dC dI k yJ7_copyOf_59c91 (.code yJ7_copyOf_59c91 cJ7_copyOf_59c91 3 (some (.array .int))) ({ frames := 1, cells := 1, slots := mm, locals := 40 } : Room) [.ref ca, .int (iI (mm : Int))] [(ca, .inl (k 0, nn, .inl (fun i9 : Nat => iI (fc i9))))] (fun r w gc gs => (∃ (cq : Nat), r = some (.ref cq) ∧ w = [(ca, .inl (k 0, nn, .inl (fun i9 : Nat => iI (fc i9)))), (cq, .inl (k 0, mm, .inl (fun i9 : Nat => iI ((cpz fc (fun _ : Int => (0 : Int)) 0 0 (min (nn : Int) (mm : Int))) i9))))] ∧ gc = 1 ∧ gs = mm)) := by
  refine kn_of (by decide) (Nat.le_of_ble_eq_true rfl) ?_
  intro p e s m args below meth c H locs B hr hnm ls hl
  have hx := B.1.1
  have hb := B.1.2.1
  have hl : lv_has ls 3 [(0, .ref ca), (1, .int (iI (mm : Int)))] := hl
  refine lv_iload_n hx hb dJ7_copyOf_59c91_0 rfl (lv_at hl 1 rfl) ?_
  refine lv_aload_n hx hb dJ7_copyOf_59c91_1 rfl (lv_at hl 0 rfl) ?_
  refine x_alen' B 0 0 rfl rfl dJ7_copyOf_59c91_2 ?_
  refine lv_icmp_ne (tgt := 14) hx hb dJ7_copyOf_59c91_3 (by decide) (fun c_1 => ?_) (fun c_1 => ?_)
  · have zc_1 : (mm : Int) ≠ (nn : Int) := jne (a := (mm : Int)) (b := (nn : Int)) (by omega) (by omega) c_1
    refine lv_iload_n hx hb dJ7_copyOf_59c91_14 rfl (lv_at hl 1 rfl) ?_
    refine x_newa (atype := .int) (ty := .int) (N' := mm) (a0 := (mm, .inl (fun _ => 0))) B mw_119 rfl 0 rfl pr_int (fun _ => rfl) (iI_nn (by omega)) ((iI_clz (by omega)).trans (by omega)) (by simp only [componentBytes]; omega) (by first | omega | (dsimp only; omega)) (by first | omega | (dsimp only; omega)) dJ7_copyOf_59c91_15 (fun q_2 H B => ?_)
    have B := bd_to (ws' := [(ca, .inl (k 0, nn, .inl (fun i9 : Nat => iI (fc i9)))), (q_2, .inl (k 0, mm, .inl (fun i9 : Nat => iI ((fun _ : Int => (0 : Int)) i9))))]) rfl B
    refine lv_astore_n (lv' := [(2, .ref q_2), (0, .ref ca), (1, .int (iI (mm : Int)))]) hx hb dJ7_copyOf_59c91_17 rfl hl (by decide) rfl (fun ls hl => ?_)
    refine lv_aload_n hx hb dJ7_copyOf_59c91_18 rfl (lv_at hl 1 rfl) ?_
    refine lv_iconst (v := iI 0) hx hb dJ7_copyOf_59c91_19 (by decide) ?_
    refine lv_aload_n hx hb dJ7_copyOf_59c91_20 rfl (lv_at hl 0 rfl) ?_
    refine lv_iconst (v := iI 0) hx hb dJ7_copyOf_59c91_21 (by decide) ?_
    refine lv_aload_n hx hb dJ7_copyOf_59c91_22 rfl (lv_at hl 1 rfl) ?_
    refine x_alen' B 0 0 rfl rfl dJ7_copyOf_59c91_23 ?_
    refine lv_iload_n hx hb dJ7_copyOf_59c91_24 rfl (lv_at hl 2 rfl) ?_
    refine y_min (a := (nn : Int)) (b := (mm : Int)) B hl mw_654 mw_655 mw_26 mw_656 (Nat.le_of_ble_eq_true rfl) (Nat.le_of_ble_eq_true rfl) (by first | omega | (dsimp only; omega)) (by first | omega | (dsimp only; omega)) (by omega) (by omega) dJ7_copyOf_59c91_25 ?_
    refine x_copyI (f := fc) (g := (fun _ : Int => (0 : Int))) (sp := 0) (dp := 0) (z := (min (nn : Int) (mm : Int))) B hl mw_657 mw_659 mw_658 mw_27 0 1 rfl rfl (by omega) (by omega) (by omega) (by omega) (by omega) (Nat.le_of_ble_eq_true rfl) (Nat.le_of_ble_eq_true rfl) dJ7_copyOf_59c91_28 (fun H locs B => ?_)
    have B := bd_to (ws' := [(ca, .inl (k 0, nn, .inl (fun i9 : Nat => iI (fc i9)))), (q_2, .inl (k 0, mm, .inl (fun i9 : Nat => iI ((cpz fc (fun _ : Int => (0 : Int)) 0 0 (min (nn : Int) (mm : Int))) i9))))]) rfl B
    refine lv_aload_n hx hb dJ7_copyOf_59c91_31 rfl (lv_at hl 0 rfl) ?_
    exact k_aretA B hr (⟨q_2, rfl, rfl, rfl, rfl⟩) ⟨(by first | omega | (dsimp only; omega)), (by first | omega | (dsimp only; omega))⟩ ⟨(by first | omega | (dsimp only; omega)), (by first | omega | (dsimp only; omega))⟩ dJ7_copyOf_59c91_32
  · have zc_1 : (mm : Int) = (nn : Int) := jeq (a := (mm : Int)) (b := (nn : Int)) (by omega) (by omega) c_1
    exfalso; omega

/-- states: 0 how many; 1 the first of each row; 2 the next; 3 figures that wait; 4 lines left; 5 rows, 6 costs, 7 pages of the best way; 8 the row -/
def puS (S : Nat → Int → Int) (ro wt lf : Int) : Nat → Int → Int := fun c i =>
  if c = 0 then uz (S 0) 0 (S 0 0 + 1) i else if c = 1 then uz (S 1) ro (S 0 0) i else if c = 2 then uz (S 2) (S 0 0) (S 1 ro) i else if c = 3 then uz (S 3) (S 0 0) wt i
  else if c = 4 then uz (S 4) (S 0 0) lf i else if c = 5 then uz (S 5) (S 0 0) 0 i else if c = 8 then uz (S 8) (S 0 0) ro i else S c i
def cS : Nat → Int → Int := fun c _ => if c = 1 then -1 else 0
/-- arrays that hold these states -/
def SA (S : Nat → Int → Int) (y1 y2 y3 y4 y5 y6 y7 : Int → Int) : Prop :=
  (∀ j, 0 ≤ j → j < 768 → y1 j = S 1 j) ∧ (∀ j, 0 ≤ j → j < S 0 0 → y2 j = S 2 j ∧ y3 j = S 3 j ∧ y4 j = S 4 j ∧ y5 j = S 5 j) ∧ (∀ j, 0 ≤ j → j < S 0 0 → S 5 j ≠ 0 → y6 j = S 6 j ∧ y7 j = S 7 j)

/-- what holds of the states all along -/
def SW (S : Nat → Int → Int) : Prop :=
  (0 ≤ S 0 0 ∧ S 0 0 ≤ 131072) ∧ (∀ r, -1 ≤ S 1 r ∧ S 1 r < S 0 0) ∧ (∀ r, S 1 r ≠ -1 → S 8 (S 1 r) = r) ∧ (∀ j, 0 ≤ j → j < S 0 0 → -1 ≤ S 2 j ∧ S 2 j < j) ∧ (∀ j, 0 ≤ j → j < S 0 0 → S 2 j ≠ -1 → S 8 (S 2 j) = S 8 j) ∧ (∀ j, 0 ≤ j → j < S 0 0 → j ≤ S 1 (S 8 j)) ∧ (∀ i j, 0 ≤ i → i < j → j < S 0 0 → S 8 i = S 8 j → i ≤ S 2 j) ∧ (∀ j, 0 ≤ j → j < S 0 0 → 0 ≤ S 3 j ∧ S 3 j < 32) ∧ (∀ j, 0 ≤ j → j < S 0 0 → 0 ≤ S 4 j ∧ S 4 j ≤ 1000 * S 8 j) ∧ (∀ j, 0 ≤ j → j < S 0 0 → 0 ≤ S 8 j ∧ S 8 j ≤ 767)
theorem SW_n {S : Nat → Int → Int} (h : SW S) : 0 ≤ S 0 0 ∧ S 0 0 ≤ 131072 := h.1
theorem SW_f {S : Nat → Int → Int} (h : SW S) : ∀ r, -1 ≤ S 1 r ∧ S 1 r < S 0 0 := h.2.1
theorem SW_fr {S : Nat → Int → Int} (h : SW S) : ∀ r, S 1 r ≠ -1 → S 8 (S 1 r) = r := h.2.2.1
theorem SW_x {S : Nat → Int → Int} (h : SW S) : ∀ j, 0 ≤ j → j < S 0 0 → -1 ≤ S 2 j ∧ S 2 j < j := h.2.2.2.1
theorem SW_xr {S : Nat → Int → Int} (h : SW S) : ∀ j, 0 ≤ j → j < S 0 0 → S 2 j ≠ -1 → S 8 (S 2 j) = S 8 j := h.2.2.2.2.1
theorem SW_c1 {S : Nat → Int → Int} (h : SW S) : ∀ j, 0 ≤ j → j < S 0 0 → j ≤ S 1 (S 8 j) := h.2.2.2.2.2.1
theorem SW_c2 {S : Nat → Int → Int} (h : SW S) : ∀ i j, 0 ≤ i → i < j → j < S 0 0 → S 8 i = S 8 j → i ≤ S 2 j := h.2.2.2.2.2.2.1
theorem SW_w {S : Nat → Int → Int} (h : SW S) : ∀ j, 0 ≤ j → j < S 0 0 → 0 ≤ S 3 j ∧ S 3 j < 32 := h.2.2.2.2.2.2.2.1
theorem SW_l {S : Nat → Int → Int} (h : SW S) : ∀ j, 0 ≤ j → j < S 0 0 → 0 ≤ S 4 j ∧ S 4 j ≤ 1000 * S 8 j := h.2.2.2.2.2.2.2.2.1
theorem SW_r {S : Nat → Int → Int} (h : SW S) : ∀ j, 0 ≤ j → j < S 0 0 → 0 ≤ S 8 j ∧ S 8 j ≤ 767 := h.2.2.2.2.2.2.2.2.2

theorem SW_0 : SW cS := by
  have z : ∀ {P : Prop} (j : Int), 0 ≤ j → j < cS 0 0 → P := fun j h1 h2 => absurd (show j < 0 from h2) (by omega)
  exact ⟨⟨by decide, by decide⟩, fun r => ⟨by show (-1 : Int) ≤ -1; omega, by show (-1 : Int) < 0; omega⟩, fun r h => absurd rfl h, fun j h1 h2 => z j h1 h2, fun j h1 h2 => z j h1 h2, fun j h1 h2 => z j h1 h2, fun i j h1 h2 h3 => z j (by omega) h3, fun j h1 h2 => z j h1 h2, fun j h1 h2 => z j h1 h2, fun j h1 h2 => z j h1 h2⟩
theorem SA_0 {y2 y3 y4 y5 y6 y7 : Int → Int} : SA cS (fun _ => -1) y2 y3 y4 y5 y6 y7 := by
  refine ⟨fun _ _ _ => rfl, fun j h1 h2 => ?_, fun j h1 h2 => ?_⟩ <;> (have h3 : j < 0 := h2; omega)
section ST1
variable {S : Nat → Int → Int} {ro wt lf : Int}
theorem pu_0 : puS S ro wt lf 0 0 = S 0 0 + 1 := rfl
theorem pu_1 {i : Int} : puS S ro wt lf 1 i = uz (S 1) ro (S 0 0) i := rfl
theorem pu_2 {i : Int} : puS S ro wt lf 2 i = uz (S 2) (S 0 0) (S 1 ro) i := rfl
theorem pu_3 {i : Int} : puS S ro wt lf 3 i = uz (S 3) (S 0 0) wt i := rfl
theorem pu_4 {i : Int} : puS S ro wt lf 4 i = uz (S 4) (S 0 0) lf i := rfl
theorem pu_5 {i : Int} : puS S ro wt lf 5 i = uz (S 5) (S 0 0) 0 i := rfl
theorem pu_6 {i : Int} : puS S ro wt lf 6 i = S 6 i := rfl
theorem pu_7 {i : Int} : puS S ro wt lf 7 i = S 7 i := rfl
theorem pu_8 {i : Int} : puS S ro wt lf 8 i = uz (S 8) (S 0 0) ro i := rfl
theorem SW_pu (h : SW S) (hn : S 0 0 < 131072) (hr : 0 ≤ ro ∧ ro ≤ 767) (hw : 0 ≤ wt ∧ wt < 32) (hl : 0 ≤ lf ∧ lf ≤ 1000 * ro) : SW (puS S ro wt lf) := by
  have hn0 := SW_n h
  have h1 := SW_f h
  refine ⟨by rw [pu_0]; omega, fun r => ?_, fun r hf => ?_, fun j g1 g2 => ?_, fun j g1 g2 g3 => ?_, fun j g1 g2 => ?_, fun i j g1 g2 g3 g4 => ?_, fun j g1 g2 => ?_, fun j g1 g2 => ?_, fun j g1 g2 => ?_⟩
  · rw [pu_0, pu_1]
    by_cases e : r = ro
    · subst e; rw [uz_s]; omega
    · rw [uz_n e]; have := h1 r; omega
  · rw [pu_1] at hf ⊢
    rw [pu_8]
    by_cases e : r = ro
    · subst e; rw [uz_s, uz_s]
    · rw [uz_n e] at hf ⊢
      have := h1 r
      rw [uz_n (by omega)]
      exact SW_fr h r hf
  · rw [pu_0] at g2
    rw [pu_2]
    by_cases e : j = S 0 0
    · subst e; rw [uz_s]; have := h1 ro; omega
    · rw [uz_n e]; exact SW_x h j g1 (by omega)
  · rw [pu_0] at g2
    rw [pu_2] at g3 ⊢
    rw [pu_8, pu_8]
    by_cases e : j = S 0 0
    · subst e
      rw [uz_s] at g3 ⊢
      rw [uz_s]
      have := h1 ro
      rw [uz_n (by omega)]
      exact SW_fr h ro g3
    · rw [uz_n e] at g3 ⊢
      have := SW_x h j g1 (by omega)
      rw [uz_n (by omega), uz_n e]
      exact SW_xr h j g1 (by omega) g3
  · rw [pu_0] at g2
    rw [pu_1, pu_8]
    by_cases e : j = S 0 0
    · subst e; rw [uz_s, uz_s]; omega
    · rw [uz_n e]
      by_cases e2 : S 8 j = ro
      · rw [e2, uz_s]; omega
      · rw [uz_n e2]; exact SW_c1 h j g1 (by omega)
  · rw [pu_0] at g3
    rw [pu_2]
    rw [pu_8, pu_8, uz_n (by omega)] at g4
    by_cases e : j = S 0 0
    · subst e
      rw [uz_s] at g4 ⊢
      rw [← g4]
      exact SW_c1 h i g1 (by omega)
    · rw [uz_n e] at g4 ⊢
      exact SW_c2 h i j g1 g2 (by omega) g4
  · rw [pu_0] at g2
    rw [pu_3]
    by_cases e : j = S 0 0
    · subst e; rw [uz_s]; exact hw
    · rw [uz_n e]; exact SW_w h j g1 (by omega)
  · rw [pu_0] at g2
    rw [pu_4, pu_8]
    by_cases e : j = S 0 0
    · subst e; rw [uz_s, uz_s]; exact hl
    · rw [uz_n e, uz_n e]; exact SW_l h j g1 (by omega)
  · rw [pu_0] at g2
    rw [pu_8]
    by_cases e : j = S 0 0
    · subst e; rw [uz_s]; exact hr
    · rw [uz_n e]; exact SW_r h j g1 (by omega)
theorem SA_pu {y1 y2 y3 y4 y5 y6 y7 : Int → Int} (h : SA S y1 y2 y3 y4 y5 y6 y7) (hw : SW S) : SA (puS S ro wt lf) (uz y1 ro (S 0 0)) (uz y2 (S 0 0) (S 1 ro)) (uz y3 (S 0 0) wt) (uz y4 (S 0 0) lf) (uz y5 (S 0 0) 0) y6 y7 := by
  refine ⟨fun j g1 g2 => ?_, fun j g1 g2 => ?_, fun j g1 g2 g3 => ?_⟩
  · rw [pu_1]
    by_cases e : j = ro
    · rw [e, uz_s, uz_s]
    · rw [uz_n e, uz_n e]; exact h.1 j g1 g2
  · rw [pu_0] at g2
    rw [pu_2, pu_3, pu_4, pu_5]
    by_cases e : j = S 0 0
    · rw [e, uz_s, uz_s, uz_s, uz_s, uz_s, uz_s, uz_s, uz_s]; exact ⟨rfl, rfl, rfl, rfl⟩
    · rw [uz_n e, uz_n e, uz_n e, uz_n e, uz_n e, uz_n e, uz_n e, uz_n e]; exact h.2.1 j g1 (by omega)
  · rw [pu_0] at g2
    rw [pu_5] at g3
    rw [pu_6, pu_7]
    by_cases e : j = S 0 0
    · rw [e, uz_s] at g3; exact absurd rfl g3
    · rw [uz_n e] at g3; exact h.2.2 j g1 (by omega) g3
theorem SA_cp {y1 y2 y3 y4 y5 y6 y7 u2 u3 u4 u5 u6 u7 : Int → Int} {cp : Nat} (h : SA S y1 y2 y3 y4 y5 y6 y7) (hc : S 0 0 ≤ cp) (e2 : ∀ j, 0 ≤ j → j < (cp : Int) → u2 j = y2 j ∧ u3 j = y3 j ∧ u4 j = y4 j ∧ u5 j = y5 j ∧ u6 j = y6 j ∧ u7 j = y7 j) : SA S y1 u2 u3 u4 u5 u6 u7 := by
  refine ⟨h.1, fun j g1 g2 => ?_, fun j g1 g2 g3 => ?_⟩
  · obtain ⟨q2, q3, q4, q5, -, -⟩ := e2 j g1 (by omega)
    rw [q2, q3, q4, q5]; exact h.2.1 j g1 g2
  · obtain ⟨-, -, -, -, q6, q7⟩ := e2 j g1 (by omega)
    rw [q6, q7]; exact h.2.2 j g1 g2 g3
/-- the state like this, in a chain -/
def fnL (S : Nat → Int → Int) (wt lf : Int) : Nat → Int → Int
  | 0, _ => -1
  | f + 1, st => if st = -1 then -1 else if S 3 st = wt ∧ S 4 st = lf then st else fnL S wt lf f (S 2 st)
def fnZ (S : Nat → Int → Int) (ro wt lf : Int) : Int := if fnL S wt lf (S 0 0 + 1).toNat (S 1 ro) = -1 then S 1 ro else fnL S wt lf (S 0 0 + 1).toNat (S 1 ro)
theorem fnL_in (h : SW S) : ∀ (f : Nat) (st : Int), -1 ≤ st → st < S 0 0 → (-1 ≤ fnL S wt lf f st ∧ fnL S wt lf f st < S 0 0) ∧ (fnL S wt lf f st ≠ -1 → S 8 (fnL S wt lf f st) = S 8 st ∧ S 3 (fnL S wt lf f st) = wt ∧ S 4 (fnL S wt lf f st) = lf)
  | 0, st, h1, h2 => by
    have := SW_n h
    simp only [fnL]
    exact ⟨by omega, fun q => absurd rfl q⟩
  | f + 1, st, h1, h2 => by
    have := SW_n h
    simp only [fnL]
    by_cases e : st = -1
    · rw [if_pos e]; exact ⟨by omega, fun q => absurd rfl q⟩
    · rw [if_neg e]
      by_cases e2 : S 3 st = wt ∧ S 4 st = lf
      · rw [if_pos e2]; exact ⟨by omega, fun _ => ⟨rfl, e2⟩⟩
      · rw [if_neg e2]
        have hx := SW_x h st (by omega) h2
        have ih := fnL_in h f (S 2 st) (by omega) (by omega)
        refine ⟨ih.1, fun q => ?_⟩
        have ih2 := ih.2 q
        refine ⟨?_, ih2.2⟩
        rw [ih2.1]
        by_cases e3 : S 2 st = -1
        · exfalso
          rw [e3] at q
          cases f with
          | zero => exact q rfl
          | succ f => exact q (if_pos rfl)
        · exact SW_xr h st (by omega) h2 e3
theorem fnZ_in (h : SW S) : (-1 ≤ fnZ S ro wt lf ∧ fnZ S ro wt lf < S 0 0) ∧ (fnZ S ro wt lf ≠ -1 → S 8 (fnZ S ro wt lf) = ro) ∧ (S 1 ro ≠ -1 → fnZ S ro wt lf ≠ -1) := by
  have h1 := SW_f h ro
  have h2 := fnL_in (wt := wt) (lf := lf) h (S 0 0 + 1).toNat (S 1 ro) h1.1 h1.2
  unfold fnZ
  by_cases e : fnL S wt lf (S 0 0 + 1).toNat (S 1 ro) = -1
  · rw [if_pos e]; exact ⟨h1, SW_fr h ro, fun q => q⟩
  · rw [if_neg e]
    refine ⟨h2.1, fun q => ?_, fun _ => e⟩
    rw [(h2.2 e).1]
    refine SW_fr h ro (fun q2 => e ?_)
    rw [q2]
    have : ∀ f : Nat, fnL S wt lf f (-1) = -1 := fun f => by cases f <;> simp [fnL]
    exact this _
theorem fnL_no {f : Nat} : fnL S wt lf f (-1) = -1 := by cases f <;> simp [fnL]
theorem fnL_hit {f : Nat} {st : Int} (hf : 0 < f) (h1 : st ≠ -1) (h2 : S 3 st = wt) (h3 : S 4 st = lf) : fnL S wt lf f st = st := by
  obtain ⟨g, rfl⟩ : ∃ g, f = g + 1 := ⟨f - 1, by omega⟩
  simp only [fnL]
  rw [if_neg h1, if_pos ⟨h2, h3⟩]
theorem fnL_skip {f : Nat} {st : Int} (hf : 0 < f) (h1 : st ≠ -1) (h2 : ¬ (S 3 st = wt ∧ S 4 st = lf)) : fnL S wt lf f st = fnL S wt lf (f - 1) (S 2 st) := by
  obtain ⟨g, rfl⟩ : ∃ g, f = g + 1 := ⟨f - 1, by omega⟩
  simp only [fnL]
  rw [if_neg h1, if_neg h2]
  rfl
/-- the states with one like this -/
def reS (S : Nat → Int → Int) (ro wt lf : Int) : Nat → Int → Int := if fnZ S ro wt lf ≠ -1 ∧ S 3 (fnZ S ro wt lf) = wt ∧ S 4 (fnZ S ro wt lf) = lf then S else puS S ro wt lf
theorem re_has (h : fnZ S ro wt lf ≠ -1) (h2 : S 3 (fnZ S ro wt lf) = wt) (h3 : S 4 (fnZ S ro wt lf) = lf) : reS S ro wt lf = S := if_pos ⟨h, h2, h3⟩
theorem re_pu (h : ¬ (fnZ S ro wt lf ≠ -1 ∧ S 3 (fnZ S ro wt lf) = wt ∧ S 4 (fnZ S ro wt lf) = lf)) : reS S ro wt lf = puS S ro wt lf := if_neg h
theorem re_le : S 0 0 ≤ reS S ro wt lf 0 0 := by
  unfold reS
  split
  · exact Int.le_refl _
  · rw [pu_0]; omega
theorem SW_re (h : SW S) (hn : reS S ro wt lf 0 0 ≤ 131072) (hr : 0 ≤ ro ∧ ro ≤ 767) (hw : 0 ≤ wt ∧ wt < 32) (hl : 0 ≤ lf ∧ lf ≤ 1000 * ro) : SW (reS S ro wt lf) := by
  unfold reS at hn ⊢
  split
  · exact h
  · rename_i q
    rw [if_neg q, pu_0] at hn
    exact SW_pu h (by omega) hr hw hl
end ST1
def cpOk (cp : Nat) : Prop := cp = 512 ∨ cp = 1024 ∨ cp = 2048 ∨ cp = 4096 ∨ cp = 8192 ∨ cp = 16384 ∨ cp = 32768 ∨ cp = 65536 ∨ cp = 131072

theorem mw_177 : (Jvm.Cond.fieldLink "Galleyforge$States" (9 : Nat) "Galleyforge$States" "firsts" "[I") ∈ gt := gt_at 247 (by decide +kernel) (by decide +kernel)
theorem mw_191 : (Jvm.Cond.fieldLink "Galleyforge$States" (39 : Nat) "Galleyforge$States" "count" "I") ∈ gt := gt_at 261 (by decide +kernel) (by decide +kernel)
theorem mw_1532 : (Jvm.Cond.methodLink "Galleyforge$States" (33 : Nat) ({ cls := "java/util/Arrays", name := "fill", desc := "([II)V" } : Jvm.MethodName)) ∈ gt := gt_at 1602 (by decide +kernel) (by decide +kernel)
theorem in_X7 : ∀ w ∈ u_ws RX7 TX7 8, w ∈ gt := in_of _ [263, 265, 267, 269, 271, 273, 275, 277] (by decide +kernel) (by decide +kernel)
theorem dX7_clear_0 : decode cX7_clear 0 = .ok (.aload_n 0, 1) := by decide +kernel
theorem dX7_clear_1 : decode cX7_clear 1 = .ok (.getfield 9, 3) := by decide +kernel
theorem dX7_clear_4 : decode cX7_clear 4 = .ok (.iconst (-1), 1) := by decide +kernel
theorem dX7_clear_5 : decode cX7_clear 5 = .ok (.invokestatic 33, 3) := by decide +kernel
theorem dX7_clear_8 : decode cX7_clear 8 = .ok (.aload_n 0, 1) := by decide +kernel
theorem dX7_clear_9 : decode cX7_clear 9 = .ok (.iconst 0, 1) := by decide +kernel
theorem dX7_clear_10 : decode cX7_clear 10 = .ok (.putfield 39, 3) := by decide +kernel
theorem dX7_clear_13 : decode cX7_clear 13 = .ok (.return_, 1) := by decide +kernel
set_option maxHeartbeats 4000000 in
set_option maxRecDepth 100000 in
theorem k_stClear (l : Launch) (dC : Nat → ClassId) (dI : Nat → Nat → Nat) (k : Nat → ClassId) (so : Nat) (o1 : Nat) (o2 : Nat) (o3 : Nat) (o4 : Nat) (o5 : Nat) (o6 : Nat) (o7 : Nat) (y1 : Int → Int) (n : Int) : Kn l dC dI k yX7_clear (.code yX7_clear cX7_clear 1 none) ({ frames := 1, cells := 0, slots := 0, locals := 23 } : Room) [.ref so] [(so, .inr (7, [.ref o1, .ref o2, .ref o3, .ref o4, .ref o6, .ref o7, .ref o5, .int (iI n)])), (o1, .inl (k 0, 768, .inl (fun i9 : Nat => iI (y1 i9))))] (fun r w gc gs => (r = none ∧ w = [(so, .inr (7, [.ref o1, .ref o2, .ref o3, .ref o4, .ref o6, .ref o7, .ref o5, .int (iI 0)])), (o1, .inl (k 0, 768, .inl (fun i9 : Nat => iI ((fun _ : Int => (-1)) i9))))] ∧ gc = 0 ∧ gs = 0)) := by
  refine kn_of (by decide) (Nat.le_of_ble_eq_true rfl) ?_
  intro p e s m args below meth c H locs B hr hnm ls hl
  have hx := B.1.1
  have hb := B.1.2.1
  have hl : lv_has ls 1 [(0, .ref so)] := hl
  refine lv_aload_n hx hb dX7_clear_0 rfl (lv_at hl 0 rfl) ?_
  refine x_get (ci := 7) (C := RX7) (T := TX7) (N := 8) (v := .ref o1) B 0 rfl rfl in_X7 0 (by decide) mw_177 (fun _ h9 => h9) rfl dX7_clear_1 ?_
  refine lv_iconst (v := iI (-1)) hx hb dX7_clear_4 (by decide) ?_
  have B := bd_sub (ws' := [(o1, .inl (k 0, 768, .inl (fun i9 : Nat => iI (y1 i9)))), (so, .inr (7, [.ref o1, .ref o2, .ref o3, .ref o4, .ref o6, .ref o7, .ref o5, .int (iI n)]))]) [1, 0] (by decide) rfl B
  have B := bd_to (ws' := [(o1, .inl (k 0, 768, .inl (fun i9 : Nat => iI (y1 i9))))] ++ [(so, .inr (7, [.ref o1, .ref o2, .ref o3, .ref o4, .ref o6, .ref o7, .ref o5, .int (iI n)]))]) rfl B
  refine k_S (rest := []) (wc := [(o1, .inl (k 0, 768, .inl (fun i9 : Nat => iI (y1 i9))))]) (wr := [(so, .inr (7, [.ref o1, .ref o2, .ref o3, .ref o4, .ref o6, .ref o7, .ref o5, .int (iI n)]))]) (k_fill l dC dI k o1 768 y1 (-1) (by omega)) B mS_J7_fill_53178 mw_1532 hl ⟨Nat.le_of_ble_eq_true rfl, Nat.le_of_ble_eq_true rfl⟩ (Nat.le_of_ble_eq_true rfl) rfl dX7_clear_5 ⟨Nat.le_of_ble_eq_true rfl, Nat.le_of_ble_eq_true rfl⟩ (fun r w gc gs H locs hp B => ?_)
  obtain ⟨rfl, hw9, rfl, rfl⟩ := hp
  rw [hw9] at B; clear hw9
  have B := bd_to (ws' := [(so, .inr (7, [.ref o1, .ref o2, .ref o3, .ref o4, .ref o6, .ref o7, .ref o5, .int (iI n)])), (o1, .inl (k 0, 768, .inl (fun i9 : Nat => iI ((fun _ : Int => (-1)) i9))))]) rfl B
  refine lv_aload_n hx hb dX7_clear_8 rfl (lv_at hl 0 rfl) ?_
  refine lv_iconst (v := iI 0) hx hb dX7_clear_9 (by decide) ?_
  refine x_put (ci := 7) (C := RX7) (T := TX7) (N := 8) (ty := .int) (v := .int (iI 0)) B tyX7_ok nmX7 0 rfl rfl in_X7 7 (by decide) mw_191 (fun _ h9 => h9) rfl (by decide +kernel) rfl rfl (Nat.le_of_ble_eq_true rfl) dX7_clear_10 (fun H locs B => ?_)
  have B := bd_to (ws' := [(so, .inr (7, [.ref o1, .ref o2, .ref o3, .ref o4, .ref o6, .ref o7, .ref o5, .int (iI 0)])), (o1, .inl (k 0, 768, .inl (fun i9 : Nat => iI ((fun _ : Int => (-1)) i9))))]) rfl B
  exact k_vret B hr (⟨rfl, rfl, rfl, rfl⟩) ⟨Nat.le_of_ble_eq_true rfl, Nat.le_of_ble_eq_true rfl⟩ ⟨Nat.le_of_ble_eq_true rfl, Nat.le_of_ble_eq_true rfl⟩ dX7_clear_13

theorem mw_179 : (Jvm.Cond.fieldLink "Galleyforge$States" (15 : Nat) "Galleyforge$States" "nexts" "[I") ∈ gt := gt_at 249 (by decide +kernel) (by decide +kernel)
theorem mw_181 : (Jvm.Cond.fieldLink "Galleyforge$States" (18 : Nat) "Galleyforge$States" "waits" "[I") ∈ gt := gt_at 251 (by decide +kernel) (by decide +kernel)
theorem mw_183 : (Jvm.Cond.fieldLink "Galleyforge$States" (21 : Nat) "Galleyforge$States" "lefts" "[I") ∈ gt := gt_at 253 (by decide +kernel) (by decide +kernel)
theorem dX7_find_0 : decode cX7_find 0 = .ok (.aload_n 0, 1) := by decide +kernel
theorem dX7_find_1 : decode cX7_find 1 = .ok (.getfield 9, 3) := by decide +kernel
theorem dX7_find_4 : decode cX7_find 4 = .ok (.iload_n 1, 1) := by decide +kernel
theorem dX7_find_5 : decode cX7_find 5 = .ok (.iaload, 1) := by decide +kernel
theorem dX7_find_6 : decode cX7_find 6 = .ok (.istore 4, 2) := by decide +kernel
theorem dX7_find_8 : decode cX7_find 8 = .ok (.iconst 0, 1) := by decide +kernel
theorem dX7_find_9 : decode cX7_find 9 = .ok (.istore 5, 2) := by decide +kernel
theorem dX7_find_11 : decode cX7_find 11 = .ok (.iload 5, 2) := by decide +kernel
theorem dX7_find_13 : decode cX7_find 13 = .ok (.aload_n 0, 1) := by decide +kernel
theorem dX7_find_14 : decode cX7_find 14 = .ok (.getfield 39, 3) := by decide +kernel
theorem dX7_find_17 : decode cX7_find 17 = .ok (.if_icmp .ge 49, 3) := by decide +kernel
theorem dX7_find_20 : decode cX7_find 20 = .ok (.iload 4, 2) := by decide +kernel
theorem dX7_find_22 : decode cX7_find 22 = .ok (.iconst (-1), 1) := by decide +kernel
theorem dX7_find_23 : decode cX7_find 23 = .ok (.if_icmp .eq 43, 3) := by decide +kernel
theorem dX7_find_26 : decode cX7_find 26 = .ok (.aload_n 0, 1) := by decide +kernel
theorem dX7_find_27 : decode cX7_find 27 = .ok (.getfield 18, 3) := by decide +kernel
theorem dX7_find_30 : decode cX7_find 30 = .ok (.iload 4, 2) := by decide +kernel
theorem dX7_find_32 : decode cX7_find 32 = .ok (.iaload, 1) := by decide +kernel
theorem dX7_find_33 : decode cX7_find 33 = .ok (.iload_n 2, 1) := by decide +kernel
theorem dX7_find_34 : decode cX7_find 34 = .ok (.if_icmp .ne 17, 3) := by decide +kernel
theorem dX7_find_37 : decode cX7_find 37 = .ok (.aload_n 0, 1) := by decide +kernel
theorem dX7_find_38 : decode cX7_find 38 = .ok (.getfield 21, 3) := by decide +kernel
theorem dX7_find_41 : decode cX7_find 41 = .ok (.iload 4, 2) := by decide +kernel
theorem dX7_find_43 : decode cX7_find 43 = .ok (.iaload, 1) := by decide +kernel
theorem dX7_find_44 : decode cX7_find 44 = .ok (.iload_n 3, 1) := by decide +kernel
theorem dX7_find_45 : decode cX7_find 45 = .ok (.if_icmp .ne 6, 3) := by decide +kernel
theorem dX7_find_48 : decode cX7_find 48 = .ok (.iload 4, 2) := by decide +kernel
theorem dX7_find_50 : decode cX7_find 50 = .ok (.ireturn, 1) := by decide +kernel
theorem dX7_find_51 : decode cX7_find 51 = .ok (.aload_n 0, 1) := by decide +kernel
theorem dX7_find_52 : decode cX7_find 52 = .ok (.getfield 15, 3) := by decide +kernel
theorem dX7_find_55 : decode cX7_find 55 = .ok (.iload 4, 2) := by decide +kernel
theorem dX7_find_57 : decode cX7_find 57 = .ok (.iaload, 1) := by decide +kernel
theorem dX7_find_58 : decode cX7_find 58 = .ok (.istore 4, 2) := by decide +kernel
theorem dX7_find_60 : decode cX7_find 60 = .ok (.iinc 5 1, 3) := by decide +kernel
theorem dX7_find_63 : decode cX7_find 63 = .ok (.goto (-52), 3) := by decide +kernel
theorem dX7_find_66 : decode cX7_find 66 = .ok (.aload_n 0, 1) := by decide +kernel
theorem dX7_find_67 : decode cX7_find 67 = .ok (.getfield 9, 3) := by decide +kernel
theorem dX7_find_70 : decode cX7_find 70 = .ok (.iload_n 1, 1) := by decide +kernel
theorem dX7_find_71 : decode cX7_find 71 = .ok (.iaload, 1) := by decide +kernel
theorem dX7_find_72 : decode cX7_find 72 = .ok (.ireturn, 1) := by decide +kernel
set_option maxHeartbeats 4000000 in
set_option maxRecDepth 100000 in
theorem k_find (l : Launch) (dC : Nat → ClassId) (dI : Nat → Nat → Nat) (k : Nat → ClassId) (so : Nat) (o1 : Nat) (o2 : Nat) (o3 : Nat) (o4 : Nat) (o5 : Nat) (o6 : Nat) (o7 : Nat) (cp : Nat) (y1 : Int → Int) (y2 : Int → Int) (y3 : Int → Int) (y4 : Int → Int) (y5 : Int → Int) (y6 : Int → Int) (y7 : Int → Int) (S : Nat → Int → Int) (ro : Int) (wt : Int) (lf : Int) (hA : SA S y1 y2 y3 y4 y5 y6 y7) (hW : SW S) (hcp : cpOk cp ∧ S 0 0 ≤ cp) (h1 : 0 ≤ ro ∧ ro ≤ 767) (h2 : 0 ≤ wt ∧ wt < 32 ∧ 0 ≤ lf ∧ lf < 1000000) : Kn l dC dI k yX7_find (.code yX7_find cX7_find 6 (some .int)) ({ frames := 0, cells := 0, slots := 0, locals := 0 } : Room) [.ref so, .int (iI ro), .int (iI wt), .int (iI lf)] [(so, .inr (7, [.ref o1, .ref o2, .ref o3, .ref o4, .ref o6, .ref o7, .ref o5, .int (iI (S 0 0))])), (o1, .inl (k 0, 768, .inl (fun i9 : Nat => iI (y1 i9)))), (o2, .inl (k 0, cp, .inl (fun i9 : Nat => iI (y2 i9)))), (o3, .inl (k 0, cp, .inl (fun i9 : Nat => iI (y3 i9)))), (o4, .inl (k 0, cp, .inl (fun i9 : Nat => iI (y4 i9)))), (o5, .inl (k 0, cp, .inl (fun i9 : Nat => iI (y5 i9)))), (o6, .inl (k 0, cp, .inl (fun i9 : Nat => iI (y6 i9)))), (o7, .inl (k 0, cp, .inl (fun i9 : Nat => iI (y7 i9))))] (fun r w gc gs => ((-1 ≤ (fnZ S ro wt lf) ∧ (fnZ S ro wt lf) < S 0 0) ∧ r = some (.int (iI (fnZ S ro wt lf))) ∧ w = [(so, .inr (7, [.ref o1, .ref o2, .ref o3, .ref o4, .ref o6, .ref o7, .ref o5, .int (iI (S 0 0))])), (o1, .inl (k 0, 768, .inl (fun i9 : Nat => iI (y1 i9)))), (o2, .inl (k 0, cp, .inl (fun i9 : Nat => iI (y2 i9)))), (o3, .inl (k 0, cp, .inl (fun i9 : Nat => iI (y3 i9)))), (o4, .inl (k 0, cp, .inl (fun i9 : Nat => iI (y4 i9)))), (o5, .inl (k 0, cp, .inl (fun i9 : Nat => iI (y5 i9)))), (o6, .inl (k 0, cp, .inl (fun i9 : Nat => iI (y6 i9)))), (o7, .inl (k 0, cp, .inl (fun i9 : Nat => iI (y7 i9))))] ∧ gc = 0 ∧ gs = 0)) := by
  refine kn_of (by decide) (Nat.le_of_ble_eq_true rfl) ?_
  intro p e s m args below meth c H locs B hr hnm ls hl
  have hx := B.1.1
  have hb := B.1.2.1
  have hl : lv_has ls 6 [(0, .ref so), (1, .int (iI ro)), (2, .int (iI wt)), (3, .int (iI lf))] := hl
  have hS0 := SW_n hW
  have hcp2 : 512 ≤ cp ∧ cp ≤ 131072 := by unfold cpOk at hcp; omega
  refine lv_aload_n hx hb dX7_find_0 rfl (lv_at hl 0 rfl) ?_
  refine x_get (ci := 7) (C := RX7) (T := TX7) (N := 8) (v := .ref o1) B 0 rfl rfl in_X7 0 (by decide) mw_177 (fun _ h9 => h9) rfl dX7_find_1 ?_
  refine lv_iload_n hx hb dX7_find_4 rfl (lv_at hl 1 rfl) ?_
  refine x_iald' (f := y1) (z := ro) B 1 rfl (by omega) dX7_find_5 ?_
  refine lv_seti (y := iI (S 1 ro)) (congrArg iI (show y1 ro = S 1 ro from hA.1 _ (by omega) (by omega))) ?_
  have z_1 : -1 ≤ S 1 ro ∧ S 1 ro < S 0 0 := SW_f hW _
  refine lv_istore (lv' := [(4, .int (iI (S 1 ro))), (0, .ref so), (1, .int (iI ro)), (2, .int (iI wt)), (3, .int (iI lf))]) hx hb dX7_find_6 hl (by decide) rfl (fun ls hl => ?_)
  refine lv_iconst (v := iI 0) hx hb dX7_find_8 (by decide) ?_
  refine lv_istore (lv' := [(5, .int (iI 0)), (4, .int (iI (S 1 ro))), (0, .ref so), (1, .int (iI ro)), (2, .int (iI wt)), (3, .int (iI lf))]) hx hb dX7_find_9 hl (by decide) rfl (fun ls hl => ?_)
  refine k_loop (σ := Int × Int) B (fun g9 : Int × Int => (0 ≤ g9.2 ∧ g9.2 ≤ S 0 0 ∧ -1 ≤ g9.1 ∧ g9.1 ≤ S 0 0 - 1 - g9.2) ∧ (fnL S wt lf (Int.toNat (S 0 0 + 1 - g9.2)) g9.1 = (fnL S wt lf (Int.toNat (S 0 0 + 1)) (S 1 ro)))) (fun g9 : Int × Int => (S 0 0 - g9.2).toNat) (fun g9 : Int × Int => [(5, .int (iI g9.2)), (4, .int (iI g9.1)), (0, .ref so), (1, .int (iI ro)), (2, .int (iI wt)), (3, .int (iI lf))]) (fun g9 : Int × Int => [(so, .inr (7, [.ref o1, .ref o2, .ref o3, .ref o4, .ref o6, .ref o7, .ref o5, .int (iI (S 0 0))])), (o1, .inl (k 0, 768, .inl (fun i9 : Nat => iI (y1 i9)))), (o2, .inl (k 0, cp, .inl (fun i9 : Nat => iI (y2 i9)))), (o3, .inl (k 0, cp, .inl (fun i9 : Nat => iI (y3 i9)))), (o4, .inl (k 0, cp, .inl (fun i9 : Nat => iI (y4 i9)))), (o5, .inl (k 0, cp, .inl (fun i9 : Nat => iI (y5 i9)))), (o6, .inl (k 0, cp, .inl (fun i9 : Nat => iI (y6 i9)))), (o7, .inl (k 0, cp, .inl (fun i9 : Nat => iI (y7 i9))))]) ?_ ((S 1 ro), 0) ⟨(show 0 ≤ 0 ∧ 0 ≤ S 0 0 ∧ -1 ≤ (S 1 ro) ∧ (S 1 ro) ≤ S 0 0 - 1 - 0 from (by omega)), (show fnL S wt lf (Int.toNat (S 0 0 + 1 - 0)) (S 1 ro) = (fnL S wt lf (Int.toNat (S 0 0 + 1)) (S 1 ro)) from (by rw [show S 0 0 + 1 - 0 = S 0 0 + 1 by omega]))⟩ ls H locs (lv_sub hl [0, 1, 2, 3, 4, 5] rfl) (bd_to rfl B)
  clear hl B
  rintro ⟨sx, kq⟩ ⟨hk, hq⟩ ih_2 ls H locs hl B
  have hk : 0 ≤ kq ∧ kq ≤ S 0 0 ∧ -1 ≤ sx ∧ sx ≤ S 0 0 - 1 - kq := hk
  have hq : fnL S wt lf (Int.toNat (S 0 0 + 1 - kq)) sx = (fnL S wt lf (Int.toNat (S 0 0 + 1)) (S 1 ro)) := hq
  have hl : lv_has ls 6 [(5, .int (iI kq)), (4, .int (iI sx)), (0, .ref so), (1, .int (iI ro)), (2, .int (iI wt)), (3, .int (iI lf))] := hl
  have B := bd_to (ws' := [(so, .inr (7, [.ref o1, .ref o2, .ref o3, .ref o4, .ref o6, .ref o7, .ref o5, .int (iI (S 0 0))])), (o1, .inl (k 0, 768, .inl (fun i9 : Nat => iI (y1 i9)))), (o2, .inl (k 0, cp, .inl (fun i9 : Nat => iI (y2 i9)))), (o3, .inl (k 0, cp, .inl (fun i9 : Nat => iI (y3 i9)))), (o4, .inl (k 0, cp, .inl (fun i9 : Nat => iI (y4 i9)))), (o5, .inl (k 0, cp, .inl (fun i9 : Nat => iI (y5 i9)))), (o6, .inl (k 0, cp, .inl (fun i9 : Nat => iI (y6 i9)))), (o7, .inl (k 0, cp, .inl (fun i9 : Nat => iI (y7 i9))))]) rfl B
  refine lv_iload hx hb dX7_find_11 (lv_at hl 0 rfl) ?_
  refine lv_aload_n hx hb dX7_find_13 rfl (lv_at hl 2 rfl) ?_
  refine x_get (ci := 7) (C := RX7) (T := TX7) (N := 8) (v := .int (iI (S 0 0))) B 0 rfl rfl in_X7 7 (by decide) mw_191 (fun _ h9 => h9) rfl dX7_find_14 ?_
  refine lv_icmp_ge (tgt := 66) hx hb dX7_find_17 (by decide) (fun c_3 => ?_) (fun c_3 => ?_)
  · have zc_3 : (S 0 0) ≤ kq := jle (a := (S 0 0)) (b := kq) (by omega) (by omega) c_3
    refine lv_aload_n hx hb dX7_find_66 rfl (lv_at hl 2 rfl) ?_
    refine x_get (ci := 7) (C := RX7) (T := TX7) (N := 8) (v := .ref o1) B 0 rfl rfl in_X7 0 (by decide) mw_177 (fun _ h9 => h9) rfl dX7_find_67 ?_
    refine lv_iload_n hx hb dX7_find_70 rfl (lv_at hl 3 rfl) ?_
    refine x_iald' (f := y1) (z := ro) B 1 rfl (by omega) dX7_find_71 ?_
    refine lv_seti (y := iI (S 1 ro)) (congrArg iI (show y1 ro = S 1 ro from hA.1 _ (by omega) (by omega))) ?_
    have z_4 : -1 ≤ S 1 ro ∧ S 1 ro < S 0 0 := SW_f hW _
    have e_5 : (fnZ S ro wt lf) = (S 1 ro) := (by have e9 : sx = -1 := (by omega); rw [e9, fnL_no] at hq; unfold fnZ; rw [if_pos hq.symm])
    skip
    exact k_iret B hr (⟨(fnZ_in hW).1, (by rw [e_5]), rfl, rfl, rfl⟩) ⟨Nat.le_of_ble_eq_true rfl, Nat.le_of_ble_eq_true rfl⟩ ⟨Nat.le_of_ble_eq_true rfl, Nat.le_of_ble_eq_true rfl⟩ dX7_find_72
  · have zc_3 : kq < (S 0 0) := jnle (a := (S 0 0)) (b := kq) (by omega) (by omega) c_3
    refine lv_iload hx hb dX7_find_20 (lv_at hl 1 rfl) ?_
    refine lv_iconst (v := iI (-1)) hx hb dX7_find_22 (by decide) ?_
    refine lv_icmp_eq (tgt := 66) hx hb dX7_find_23 (by decide) (fun c_6 => ?_) (fun c_6 => ?_)
    · have zc_6 : sx = (-1) := jeq (a := sx) (b := (-1)) (by omega) (by omega) c_6
      refine lv_aload_n hx hb dX7_find_66 rfl (lv_at hl 2 rfl) ?_
      refine x_get (ci := 7) (C := RX7) (T := TX7) (N := 8) (v := .ref o1) B 0 rfl rfl in_X7 0 (by decide) mw_177 (fun _ h9 => h9) rfl dX7_find_67 ?_
      refine lv_iload_n hx hb dX7_find_70 rfl (lv_at hl 3 rfl) ?_
      refine x_iald' (f := y1) (z := ro) B 1 rfl (by omega) dX7_find_71 ?_
      refine lv_seti (y := iI (S 1 ro)) (congrArg iI (show y1 ro = S 1 ro from hA.1 _ (by omega) (by omega))) ?_
      have z_7 : -1 ≤ S 1 ro ∧ S 1 ro < S 0 0 := SW_f hW _
      have e_8 : (fnZ S ro wt lf) = (S 1 ro) := (by have e9 : sx = -1 := (by omega); rw [e9, fnL_no] at hq; unfold fnZ; rw [if_pos hq.symm])
      skip
      exact k_iret B hr (⟨(fnZ_in hW).1, (by rw [e_8]), rfl, rfl, rfl⟩) ⟨Nat.le_of_ble_eq_true rfl, Nat.le_of_ble_eq_true rfl⟩ ⟨Nat.le_of_ble_eq_true rfl, Nat.le_of_ble_eq_true rfl⟩ dX7_find_72
    · have zc_6 : sx ≠ (-1) := jne (a := sx) (b := (-1)) (by omega) (by omega) c_6
      refine lv_aload_n hx hb dX7_find_26 rfl (lv_at hl 2 rfl) ?_
      refine x_get (ci := 7) (C := RX7) (T := TX7) (N := 8) (v := .ref o3) B 0 rfl rfl in_X7 2 (by decide) mw_181 (fun _ h9 => h9) rfl dX7_find_27 ?_
      refine lv_iload hx hb dX7_find_30 (lv_at hl 1 rfl) ?_
      refine x_iald' (f := y3) (z := sx) B 3 rfl (by omega) dX7_find_32 ?_
      refine lv_seti (y := iI (S 3 sx)) (congrArg iI (show y3 sx = S 3 sx from (hA.2.1 _ (by omega) (by omega)).2.1)) ?_
      have z_9 : 0 ≤ S 3 sx ∧ S 3 sx < 32 := SW_w hW _ (by omega) (by omega)
      refine lv_iload_n hx hb dX7_find_33 rfl (lv_at hl 4 rfl) ?_
      refine lv_icmp_ne (tgt := 51) hx hb dX7_find_34 (by decide) (fun c_10 => ?_) (fun c_10 => ?_)
      · have zc_10 : (S 3 sx) ≠ wt := jne (a := (S 3 sx)) (b := wt) (by omega) (by omega) c_10
        refine lv_aload_n hx hb dX7_find_51 rfl (lv_at hl 2 rfl) ?_
        refine x_get (ci := 7) (C := RX7) (T := TX7) (N := 8) (v := .ref o2) B 0 rfl rfl in_X7 1 (by decide) mw_179 (fun _ h9 => h9) rfl dX7_find_52 ?_
        refine lv_iload hx hb dX7_find_55 (lv_at hl 1 rfl) ?_
        refine x_iald' (f := y2) (z := sx) B 2 rfl (by omega) dX7_find_57 ?_
        refine lv_seti (y := iI (S 2 sx)) (congrArg iI (show y2 sx = S 2 sx from (hA.2.1 _ (by omega) (by omega)).1)) ?_
        have z_11 : -1 ≤ S 2 sx ∧ S 2 sx < sx := SW_x hW _ (by omega) (by omega)
        refine lv_istore (lv' := [(4, .int (iI (S 2 sx))), (5, .int (iI kq)), (0, .ref so), (1, .int (iI ro)), (2, .int (iI wt)), (3, .int (iI lf))]) hx hb dX7_find_58 hl (by decide) rfl (fun ls hl => ?_)
        refine lv_iinc (v := iI (kq + 1)) (lv' := [(5, .int (iI (kq + 1))), (4, .int (iI (S 2 sx))), (0, .ref so), (1, .int (iI ro)), (2, .int (iI wt)), (3, .int (iI lf))]) hx hb dX7_find_60 hl (k := 1) rfl (iI_add _ _) (by decide) rfl (fun ls hl => ?_)
        refine lv_goto (tgt := 11) hx hb dX7_find_63 (by decide) ?_
        exact ih_2 ((S 2 sx), (kq + 1)) ⟨(show 0 ≤ (kq + 1) ∧ (kq + 1) ≤ S 0 0 ∧ -1 ≤ (S 2 sx) ∧ (S 2 sx) ≤ S 0 0 - 1 - (kq + 1) from (by omega)), (show fnL S wt lf (Int.toNat (S 0 0 + 1 - (kq + 1))) (S 2 sx) = (fnL S wt lf (Int.toNat (S 0 0 + 1)) (S 1 ro)) from (by rw [← hq, fnL_skip (f := Int.toNat (S 0 0 + 1 - kq)) (by omega) (by omega) (fun q9 => by first | exact zc_10 q9.1 | exact zc_10 q9.2)]; congr 1; omega))⟩ (by first | omega | (dsimp only; omega)) _ _ _ (lv_sub hl [0, 1, 2, 3, 4, 5] rfl) (bd_to rfl B)
      · have zc_10 : (S 3 sx) = wt := jeq (a := (S 3 sx)) (b := wt) (by omega) (by omega) c_10
        refine lv_aload_n hx hb dX7_find_37 rfl (lv_at hl 2 rfl) ?_
        refine x_get (ci := 7) (C := RX7) (T := TX7) (N := 8) (v := .ref o4) B 0 rfl rfl in_X7 3 (by decide) mw_183 (fun _ h9 => h9) rfl dX7_find_38 ?_
        refine lv_iload hx hb dX7_find_41 (lv_at hl 1 rfl) ?_
        refine x_iald' (f := y4) (z := sx) B 4 rfl (by omega) dX7_find_43 ?_
        refine lv_seti (y := iI (S 4 sx)) (congrArg iI (show y4 sx = S 4 sx from (hA.2.1 _ (by omega) (by omega)).2.2.1)) ?_
        have z_12 : 0 ≤ S 4 sx ∧ S 4 sx ≤ 1000 * S 8 sx := SW_l hW _ (by omega) (by omega)
        have z_13 : 0 ≤ S 8 sx ∧ S 8 sx ≤ 767 := SW_r hW _ (by omega) (by omega)
        refine lv_iload_n hx hb dX7_find_44 rfl (lv_at hl 5 rfl) ?_
        refine lv_icmp_ne (tgt := 51) hx hb dX7_find_45 (by decide) (fun c_14 => ?_) (fun c_14 => ?_)
        · have zc_14 : (S 4 sx) ≠ lf := jne (a := (S 4 sx)) (b := lf) (by omega) (by omega) c_14
          refine lv_aload_n hx hb dX7_find_51 rfl (lv_at hl 2 rfl) ?_
          refine x_get (ci := 7) (C := RX7) (T := TX7) (N := 8) (v := .ref o2) B 0 rfl rfl in_X7 1 (by decide) mw_179 (fun _ h9 => h9) rfl dX7_find_52 ?_
          refine lv_iload hx hb dX7_find_55 (lv_at hl 1 rfl) ?_
          refine x_iald' (f := y2) (z := sx) B 2 rfl (by omega) dX7_find_57 ?_
          refine lv_seti (y := iI (S 2 sx)) (congrArg iI (show y2 sx = S 2 sx from (hA.2.1 _ (by omega) (by omega)).1)) ?_
          have z_15 : -1 ≤ S 2 sx ∧ S 2 sx < sx := SW_x hW _ (by omega) (by omega)
          refine lv_istore (lv' := [(4, .int (iI (S 2 sx))), (5, .int (iI kq)), (0, .ref so), (1, .int (iI ro)), (2, .int (iI wt)), (3, .int (iI lf))]) hx hb dX7_find_58 hl (by decide) rfl (fun ls hl => ?_)
          refine lv_iinc (v := iI (kq + 1)) (lv' := [(5, .int (iI (kq + 1))), (4, .int (iI (S 2 sx))), (0, .ref so), (1, .int (iI ro)), (2, .int (iI wt)), (3, .int (iI lf))]) hx hb dX7_find_60 hl (k := 1) rfl (iI_add _ _) (by decide) rfl (fun ls hl => ?_)
          refine lv_goto (tgt := 11) hx hb dX7_find_63 (by decide) ?_
          exact ih_2 ((S 2 sx), (kq + 1)) ⟨(show 0 ≤ (kq + 1) ∧ (kq + 1) ≤ S 0 0 ∧ -1 ≤ (S 2 sx) ∧ (S 2 sx) ≤ S 0 0 - 1 - (kq + 1) from (by omega)), (show fnL S wt lf (Int.toNat (S 0 0 + 1 - (kq + 1))) (S 2 sx) = (fnL S wt lf (Int.toNat (S 0 0 + 1)) (S 1 ro)) from (by rw [← hq, fnL_skip (f := Int.toNat (S 0 0 + 1 - kq)) (by omega) (by omega) (fun q9 => by first | exact zc_14 q9.1 | exact zc_14 q9.2)]; congr 1; omega))⟩ (by first | omega | (dsimp only; omega)) _ _ _ (lv_sub hl [0, 1, 2, 3, 4, 5] rfl) (bd_to rfl B)
        · have zc_14 : (S 4 sx) = lf := jeq (a := (S 4 sx)) (b := lf) (by omega) (by omega) c_14
          refine lv_iload hx hb dX7_find_48 (lv_at hl 1 rfl) ?_
          have e_16 : (fnZ S ro wt lf) = sx := (by have e9 : fnL S wt lf (Int.toNat (S 0 0 + 1 - kq)) sx = sx := fnL_hit (by omega) (by omega) zc_10 zc_14; rw [e9] at hq; unfold fnZ; rw [← hq, if_neg (by omega)])
          skip
          exact k_iret B hr (⟨(fnZ_in hW).1, (by rw [e_16]), rfl, rfl, rfl⟩) ⟨Nat.le_of_ble_eq_true rfl, Nat.le_of_ble_eq_true rfl⟩ ⟨Nat.le_of_ble_eq_true rfl, Nat.le_of_ble_eq_true rfl⟩ dX7_find_50

theorem mw_185 : (Jvm.Cond.fieldLink "Galleyforge$States" (24 : Nat) "Galleyforge$States" "costs" "[I") ∈ gt := gt_at 255 (by decide +kernel) (by decide +kernel)
theorem mw_187 : (Jvm.Cond.fieldLink "Galleyforge$States" (27 : Nat) "Galleyforge$States" "pages" "[I") ∈ gt := gt_at 257 (by decide +kernel) (by decide +kernel)
theorem mw_189 : (Jvm.Cond.fieldLink "Galleyforge$States" (30 : Nat) "Galleyforge$States" "rows" "[I") ∈ gt := gt_at 259 (by decide +kernel) (by decide +kernel)
theorem mw_645 : (Jvm.Cond.static ({ cls := "java/util/Arrays", name := "copyOf", desc := "([II)[I" } : Jvm.MethodName)) ∈ gt := gt_at 715 (by decide +kernel) (by decide +kernel)
theorem mw_646 : (Jvm.Cond.code ({ cls := "java/util/Arrays", name := "copyOf", desc := "([II)[I" } : Jvm.MethodName) prog_41_method_123_code (3 : Nat) (Option.some (Jvm.ClassFile.FieldType.array Jvm.ClassFile.FieldType.int))) ∈ gt := gt_at 716 (by decide +kernel) (by decide +kernel)
theorem mw_1546 : (Jvm.Cond.methodLink "Galleyforge$States" (51 : Nat) ({ cls := "java/util/Arrays", name := "copyOf", desc := "([II)[I" } : Jvm.MethodName)) ∈ gt := gt_at 1616 (by decide +kernel) (by decide +kernel)
theorem mS_J7_copyOf_59c91 : mS yJ7_copyOf_59c91 cJ7_copyOf_59c91 3 (some (.array .int)) 2 := ⟨⟨mw_646, mw_12, by decide, by decide, by decide +kernel⟩, mw_645⟩
theorem dX7_makeRoom_0 : decode cX7_makeRoom 0 = .ok (.aload_n 0, 1) := by decide +kernel
theorem dX7_makeRoom_1 : decode cX7_makeRoom 1 = .ok (.getfield 39, 3) := by decide +kernel
theorem dX7_makeRoom_4 : decode cX7_makeRoom 4 = .ok (.aload_n 0, 1) := by decide +kernel
theorem dX7_makeRoom_5 : decode cX7_makeRoom 5 = .ok (.getfield 15, 3) := by decide +kernel
theorem dX7_makeRoom_8 : decode cX7_makeRoom 8 = .ok (.arraylength, 1) := by decide +kernel
theorem dX7_makeRoom_9 : decode cX7_makeRoom 9 = .ok (.if_icmp .ge 4, 3) := by decide +kernel
theorem dX7_makeRoom_12 : decode cX7_makeRoom 12 = .ok (.return_, 1) := by decide +kernel
theorem dX7_makeRoom_13 : decode cX7_makeRoom 13 = .ok (.iconst 2, 1) := by decide +kernel
theorem dX7_makeRoom_14 : decode cX7_makeRoom 14 = .ok (.aload_n 0, 1) := by decide +kernel
theorem dX7_makeRoom_15 : decode cX7_makeRoom 15 = .ok (.getfield 15, 3) := by decide +kernel
theorem dX7_makeRoom_18 : decode cX7_makeRoom 18 = .ok (.arraylength, 1) := by decide +kernel
theorem dX7_makeRoom_19 : decode cX7_makeRoom 19 = .ok (.imul, 1) := by decide +kernel
theorem dX7_makeRoom_20 : decode cX7_makeRoom 20 = .ok (.istore_n 1, 1) := by decide +kernel
theorem dX7_makeRoom_21 : decode cX7_makeRoom 21 = .ok (.aload_n 0, 1) := by decide +kernel
theorem dX7_makeRoom_22 : decode cX7_makeRoom 22 = .ok (.aload_n 0, 1) := by decide +kernel
theorem dX7_makeRoom_23 : decode cX7_makeRoom 23 = .ok (.getfield 15, 3) := by decide +kernel
theorem dX7_makeRoom_26 : decode cX7_makeRoom 26 = .ok (.iload_n 1, 1) := by decide +kernel
theorem dX7_makeRoom_27 : decode cX7_makeRoom 27 = .ok (.invokestatic 51, 3) := by decide +kernel
theorem dX7_makeRoom_30 : decode cX7_makeRoom 30 = .ok (.putfield 15, 3) := by decide +kernel
theorem dX7_makeRoom_33 : decode cX7_makeRoom 33 = .ok (.aload_n 0, 1) := by decide +kernel
theorem dX7_makeRoom_34 : decode cX7_makeRoom 34 = .ok (.aload_n 0, 1) := by decide +kernel
theorem dX7_makeRoom_35 : decode cX7_makeRoom 35 = .ok (.getfield 18, 3) := by decide +kernel
theorem dX7_makeRoom_38 : decode cX7_makeRoom 38 = .ok (.iload_n 1, 1) := by decide +kernel
theorem dX7_makeRoom_39 : decode cX7_makeRoom 39 = .ok (.invokestatic 51, 3) := by decide +kernel
theorem dX7_makeRoom_42 : decode cX7_makeRoom 42 = .ok (.putfield 18, 3) := by decide +kernel
theorem dX7_makeRoom_45 : decode cX7_makeRoom 45 = .ok (.aload_n 0, 1) := by decide +kernel
theorem dX7_makeRoom_46 : decode cX7_makeRoom 46 = .ok (.aload_n 0, 1) := by decide +kernel
theorem dX7_makeRoom_47 : decode cX7_makeRoom 47 = .ok (.getfield 21, 3) := by decide +kernel
theorem dX7_makeRoom_50 : decode cX7_makeRoom 50 = .ok (.iload_n 1, 1) := by decide +kernel
theorem dX7_makeRoom_51 : decode cX7_makeRoom 51 = .ok (.invokestatic 51, 3) := by decide +kernel
theorem dX7_makeRoom_54 : decode cX7_makeRoom 54 = .ok (.putfield 21, 3) := by decide +kernel
theorem dX7_makeRoom_57 : decode cX7_makeRoom 57 = .ok (.aload_n 0, 1) := by decide +kernel
theorem dX7_makeRoom_58 : decode cX7_makeRoom 58 = .ok (.aload_n 0, 1) := by decide +kernel
theorem dX7_makeRoom_59 : decode cX7_makeRoom 59 = .ok (.getfield 24, 3) := by decide +kernel
theorem dX7_makeRoom_62 : decode cX7_makeRoom 62 = .ok (.iload_n 1, 1) := by decide +kernel
theorem dX7_makeRoom_63 : decode cX7_makeRoom 63 = .ok (.invokestatic 51, 3) := by decide +kernel
theorem dX7_makeRoom_66 : decode cX7_makeRoom 66 = .ok (.putfield 24, 3) := by decide +kernel
theorem dX7_makeRoom_69 : decode cX7_makeRoom 69 = .ok (.aload_n 0, 1) := by decide +kernel
theorem dX7_makeRoom_70 : decode cX7_makeRoom 70 = .ok (.aload_n 0, 1) := by decide +kernel
theorem dX7_makeRoom_71 : decode cX7_makeRoom 71 = .ok (.getfield 27, 3) := by decide +kernel
theorem dX7_makeRoom_74 : decode cX7_makeRoom 74 = .ok (.iload_n 1, 1) := by decide +kernel
theorem dX7_makeRoom_75 : decode cX7_makeRoom 75 = .ok (.invokestatic 51, 3) := by decide +kernel
theorem dX7_makeRoom_78 : decode cX7_makeRoom 78 = .ok (.putfield 27, 3) := by decide +kernel
theorem dX7_makeRoom_81 : decode cX7_makeRoom 81 = .ok (.aload_n 0, 1) := by decide +kernel
theorem dX7_makeRoom_82 : decode cX7_makeRoom 82 = .ok (.aload_n 0, 1) := by decide +kernel
theorem dX7_makeRoom_83 : decode cX7_makeRoom 83 = .ok (.getfield 30, 3) := by decide +kernel
theorem dX7_makeRoom_86 : decode cX7_makeRoom 86 = .ok (.iload_n 1, 1) := by decide +kernel
theorem dX7_makeRoom_87 : decode cX7_makeRoom 87 = .ok (.invokestatic 51, 3) := by decide +kernel
theorem dX7_makeRoom_90 : decode cX7_makeRoom 90 = .ok (.putfield 30, 3) := by decide +kernel
theorem dX7_makeRoom_93 : decode cX7_makeRoom 93 = .ok (.return_, 1) := by decide +kernel
set_option maxHeartbeats 4000000 in
set_option maxRecDepth 100000 in
theorem k_makeRoom (l : Launch) (dC : Nat → ClassId) (dI : Nat → Nat → Nat) (k : Nat → ClassId) (so : Nat) (o1 : Nat) (o2 : Nat) (o3 : Nat) (o4 : Nat) (o5 : Nat) (o6 : Nat) (o7 : Nat) (cp : Nat) (y1 : Int → Int) (y2 : Int → Int) (y3 : Int → Int) (y4 : Int → Int) (y5 : Int → Int) (y6 : Int → Int) (y7 : Int → Int) (n : Int) (hcp : cpOk cp ∧ 0 ≤ n ∧ n < 131072 ∧ n ≤ cp) : Kn l dC dI k yX7_makeRoom (.code yX7_makeRoom cX7_makeRoom 2 none) ({ frames := 2, cells := (131072 - cp), slots := (12 * (131072 - cp)), locals := 62 } : Room) [.ref so] [(so, .inr (7, [.ref o1, .ref o2, .ref o3, .ref o4, .ref o6, .ref o7, .ref o5, .int (iI n)])), (o1, .inl (k 0, 768, .inl (fun i9 : Nat => iI (y1 i9)))), (o2, .inl (k 0, cp, .inl (fun i9 : Nat => iI (y2 i9)))), (o3, .inl (k 0, cp, .inl (fun i9 : Nat => iI (y3 i9)))), (o4, .inl (k 0, cp, .inl (fun i9 : Nat => iI (y4 i9)))), (o5, .inl (k 0, cp, .inl (fun i9 : Nat => iI (y5 i9)))), (o6, .inl (k 0, cp, .inl (fun i9 : Nat => iI (y6 i9)))), (o7, .inl (k 0, cp, .inl (fun i9 : Nat => iI (y7 i9))))] (fun r w gc gs => (∃ (ct : Nat) (r2 : Nat) (r3 : Nat) (r4 : Nat) (r5 : Nat) (r6 : Nat) (r7 : Nat) (u2 : Int → Int) (u3 : Int → Int) (u4 : Int → Int) (u5 : Int → Int) (u6 : Int → Int) (u7 : Int → Int), (∀ j, 0 ≤ j → j < (cp : Int) → u2 j = y2 j ∧ u3 j = y3 j ∧ u4 j = y4 j ∧ u5 j = y5 j ∧ u6 j = y6 j ∧ u7 j = y7 j) ∧ (cpOk ct) ∧ (n < ct ∧ cp ≤ ct ∧ ct ≤ 131072) ∧ r = none ∧ w = [(so, .inr (7, [.ref o1, .ref r2, .ref r3, .ref r4, .ref r6, .ref r7, .ref r5, .int (iI n)])), (o1, .inl (k 0, 768, .inl (fun i9 : Nat => iI (y1 i9)))), (r2, .inl (k 0, ct, .inl (fun i9 : Nat => iI (u2 i9)))), (r3, .inl (k 0, ct, .inl (fun i9 : Nat => iI (u3 i9)))), (r4, .inl (k 0, ct, .inl (fun i9 : Nat => iI (u4 i9)))), (r5, .inl (k 0, ct, .inl (fun i9 : Nat => iI (u5 i9)))), (r6, .inl (k 0, ct, .inl (fun i9 : Nat => iI (u6 i9)))), (r7, .inl (k 0, ct, .inl (fun i9 : Nat => iI (u7 i9))))] ∧ gc = (ct - cp) ∧ gs = (12 * (ct - cp)))) := by
  refine kn_of (by decide) (Nat.le_of_ble_eq_true rfl) ?_
  intro p e s m args below meth c H locs B hr hnm ls hl
  have hx := B.1.1
  have hb := B.1.2.1
  have hl : lv_has ls 2 [(0, .ref so)] := hl
  have hcp3 := hcp.1
  unfold cpOk at hcp3
  refine lv_aload_n hx hb dX7_makeRoom_0 rfl (lv_at hl 0 rfl) ?_
  refine x_get (ci := 7) (C := RX7) (T := TX7) (N := 8) (v := .int (iI n)) B 0 rfl rfl in_X7 7 (by decide) mw_191 (fun _ h9 => h9) rfl dX7_makeRoom_1 ?_
  refine lv_aload_n hx hb dX7_makeRoom_4 rfl (lv_at hl 0 rfl) ?_
  refine x_get (ci := 7) (C := RX7) (T := TX7) (N := 8) (v := .ref o2) B 0 rfl rfl in_X7 1 (by decide) mw_179 (fun _ h9 => h9) rfl dX7_makeRoom_5 ?_
  refine x_alen' B 2 0 rfl rfl dX7_makeRoom_8 ?_
  refine lv_icmp_ge (tgt := 13) hx hb dX7_makeRoom_9 (by decide) (fun c_1 => ?_) (fun c_1 => ?_)
  · have zc_1 : (cp : Int) ≤ n := jle (a := (cp : Int)) (b := n) (by omega) (by omega) c_1
    refine lv_iconst (v := iI 2) hx hb dX7_makeRoom_13 (by decide) ?_
    refine lv_aload_n hx hb dX7_makeRoom_14 rfl (lv_at hl 0 rfl) ?_
    refine x_get (ci := 7) (C := RX7) (T := TX7) (N := 8) (v := .ref o2) B 0 rfl rfl in_X7 1 (by decide) mw_179 (fun _ h9 => h9) rfl dX7_makeRoom_15 ?_
    refine x_alen' B 2 0 rfl rfl dX7_makeRoom_18 ?_
    refine y_mul hx hb dX7_makeRoom_19 ?_
    refine lv_seti (y := iI ((2 * cp : Nat) : Int)) (congrArg iI (by omega)) ?_
    refine lv_istore_n (lv' := [(1, .int (iI ((2 * cp : Nat) : Int))), (0, .ref so)]) hx hb dX7_makeRoom_20 rfl hl (by decide) rfl (fun ls hl => ?_)
    refine lv_aload_n hx hb dX7_makeRoom_21 rfl (lv_at hl 1 rfl) ?_
    refine lv_aload_n hx hb dX7_makeRoom_22 rfl (lv_at hl 1 rfl) ?_
    refine x_get (ci := 7) (C := RX7) (T := TX7) (N := 8) (v := .ref o2) B 0 rfl rfl in_X7 1 (by decide) mw_179 (fun _ h9 => h9) rfl dX7_makeRoom_23 ?_
    refine lv_iload_n hx hb dX7_makeRoom_26 rfl (lv_at hl 0 rfl) ?_
    have B := bd_sub (ws' := [(o2, .inl (k 0, cp, .inl (fun i9 : Nat => iI (y2 i9)))), (so, .inr (7, [.ref o1, .ref o2, .ref o3, .ref o4, .ref o6, .ref o7, .ref o5, .int (iI n)])), (o1, .inl (k 0, 768, .inl (fun i9 : Nat => iI (y1 i9)))), (o3, .inl (k 0, cp, .inl (fun i9 : Nat => iI (y3 i9)))), (o4, .inl (k 0, cp, .inl (fun i9 : Nat => iI (y4 i9)))), (o5, .inl (k 0, cp, .inl (fun i9 : Nat => iI (y5 i9)))), (o6, .inl (k 0, cp, .inl (fun i9 : Nat => iI (y6 i9)))), (o7, .inl (k 0, cp, .inl (fun i9 : Nat => iI (y7 i9))))]) [2, 0, 1, 3, 4, 5, 6, 7] (by decide) rfl B
    have B := bd_to (ws' := [(o2, .inl (k 0, cp, .inl (fun i9 : Nat => iI (y2 i9))))] ++ [(so, .inr (7, [.ref o1, .ref o2, .ref o3, .ref o4, .ref o6, .ref o7, .ref o5, .int (iI n)])), (o1, .inl (k 0, 768, .inl (fun i9 : Nat => iI (y1 i9)))), (o3, .inl (k 0, cp, .inl (fun i9 : Nat => iI (y3 i9)))), (o4, .inl (k 0, cp, .inl (fun i9 : Nat => iI (y4 i9)))), (o5, .inl (k 0, cp, .inl (fun i9 : Nat => iI (y5 i9)))), (o6, .inl (k 0, cp, .inl (fun i9 : Nat => iI (y6 i9)))), (o7, .inl (k 0, cp, .inl (fun i9 : Nat => iI (y7 i9))))]) rfl B
    refine k_S (rest := [.ref so]) (wc := [(o2, .inl (k 0, cp, .inl (fun i9 : Nat => iI (y2 i9))))]) (wr := [(so, .inr (7, [.ref o1, .ref o2, .ref o3, .ref o4, .ref o6, .ref o7, .ref o5, .int (iI n)])), (o1, .inl (k 0, 768, .inl (fun i9 : Nat => iI (y1 i9)))), (o3, .inl (k 0, cp, .inl (fun i9 : Nat => iI (y3 i9)))), (o4, .inl (k 0, cp, .inl (fun i9 : Nat => iI (y4 i9)))), (o5, .inl (k 0, cp, .inl (fun i9 : Nat => iI (y5 i9)))), (o6, .inl (k 0, cp, .inl (fun i9 : Nat => iI (y6 i9)))), (o7, .inl (k 0, cp, .inl (fun i9 : Nat => iI (y7 i9))))]) (k_copyI l dC dI k o2 cp (2 * cp : Nat) y2 (by omega)) B mS_J7_copyOf_59c91 mw_1546 hl ⟨Nat.le_of_ble_eq_true rfl, Nat.le_of_ble_eq_true rfl⟩ (Nat.le_of_ble_eq_true rfl) rfl dX7_makeRoom_27 ⟨by dsimp only; omega, by dsimp only; omega⟩ (fun r w gc gs H locs hp B => ?_)
    obtain ⟨cq_2, rfl, hw9, rfl, rfl⟩ := hp
    rw [hw9] at B; clear hw9
    have B := bd_to (ws' := [(so, .inr (7, [.ref o1, .ref o2, .ref o3, .ref o4, .ref o6, .ref o7, .ref o5, .int (iI n)])), (o1, .inl (k 0, 768, .inl (fun i9 : Nat => iI (y1 i9)))), (o3, .inl (k 0, cp, .inl (fun i9 : Nat => iI (y3 i9)))), (o4, .inl (k 0, cp, .inl (fun i9 : Nat => iI (y4 i9)))), (o5, .inl (k 0, cp, .inl (fun i9 : Nat => iI (y5 i9)))), (o6, .inl (k 0, cp, .inl (fun i9 : Nat => iI (y6 i9)))), (o7, .inl (k 0, cp, .inl (fun i9 : Nat => iI (y7 i9)))), (o2, .inl (k 0, cp, .inl (fun i9 : Nat => iI (y2 i9)))), (cq_2, .inl (k 0, (2 * cp : Nat), .inl (fun i9 : Nat => iI ((cpz y2 (fun _ : Int => (0 : Int)) 0 0 (min (cp : Int) ((2 * cp : Nat) : Int))) i9))))]) rfl B
    refine x_put (ci := 7) (C := RX7) (T := TX7) (N := 8) (ty := .array .int) (v := .ref cq_2) B tyX7_ok nmX7 0 rfl rfl in_X7 1 (by decide) mw_179 (fun _ h9 => h9) rfl (by decide +kernel) rfl rfl (Nat.le_of_ble_eq_true rfl) dX7_makeRoom_30 (fun H locs B => ?_)
    have B := bd_to (ws' := [(so, .inr (7, [.ref o1, .ref cq_2, .ref o3, .ref o4, .ref o6, .ref o7, .ref o5, .int (iI n)])), (o1, .inl (k 0, 768, .inl (fun i9 : Nat => iI (y1 i9)))), (o3, .inl (k 0, cp, .inl (fun i9 : Nat => iI (y3 i9)))), (o4, .inl (k 0, cp, .inl (fun i9 : Nat => iI (y4 i9)))), (o5, .inl (k 0, cp, .inl (fun i9 : Nat => iI (y5 i9)))), (o6, .inl (k 0, cp, .inl (fun i9 : Nat => iI (y6 i9)))), (o7, .inl (k 0, cp, .inl (fun i9 : Nat => iI (y7 i9)))), (o2, .inl (k 0, cp, .inl (fun i9 : Nat => iI (y2 i9)))), (cq_2, .inl (k 0, (2 * cp : Nat), .inl (fun i9 : Nat => iI ((cpz y2 (fun _ : Int => (0 : Int)) 0 0 (min (cp : Int) ((2 * cp : Nat) : Int))) i9))))]) rfl B
    refine lv_aload_n hx hb dX7_makeRoom_33 rfl (lv_at hl 1 rfl) ?_
    refine lv_aload_n hx hb dX7_makeRoom_34 rfl (lv_at hl 1 rfl) ?_
    refine x_get (ci := 7) (C := RX7) (T := TX7) (N := 8) (v := .ref o3) B 0 rfl rfl in_X7 2 (by decide) mw_181 (fun _ h9 => h9) rfl dX7_makeRoom_35 ?_
    refine lv_iload_n hx hb dX7_makeRoom_38 rfl (lv_at hl 0 rfl) ?_
    have B := bd_sub (ws' := [(o3, .inl (k 0, cp, .inl (fun i9 : Nat => iI (y3 i9)))), (so, .inr (7, [.ref o1, .ref cq_2, .ref o3, .ref o4, .ref o6, .ref o7, .ref o5, .int (iI n)])), (o1, .inl (k 0, 768, .inl (fun i9 : Nat => iI (y1 i9)))), (o4, .inl (k 0, cp, .inl (fun i9 : Nat => iI (y4 i9)))), (o5, .inl (k 0, cp, .inl (fun i9 : Nat => iI (y5 i9)))), (o6, .inl (k 0, cp, .inl (fun i9 : Nat => iI (y6 i9)))), (o7, .inl (k 0, cp, .inl (fun i9 : Nat => iI (y7 i9)))), (o2, .inl (k 0, cp, .inl (fun i9 : Nat => iI (y2 i9)))), (cq_2, .inl (k 0, (2 * cp : Nat), .inl (fun i9 : Nat => iI ((cpz y2 (fun _ : Int => (0 : Int)) 0 0 (min (cp : Int) ((2 * cp : Nat) : Int))) i9))))]) [2, 0, 1, 3, 4, 5, 6, 7, 8] (by decide) rfl B
    have B := bd_to (ws' := [(o3, .inl (k 0, cp, .inl (fun i9 : Nat => iI (y3 i9))))] ++ [(so, .inr (7, [.ref o1, .ref cq_2, .ref o3, .ref o4, .ref o6, .ref o7, .ref o5, .int (iI n)])), (o1, .inl (k 0, 768, .inl (fun i9 : Nat => iI (y1 i9)))), (o4, .inl (k 0, cp, .inl (fun i9 : Nat => iI (y4 i9)))), (o5, .inl (k 0, cp, .inl (fun i9 : Nat => iI (y5 i9)))), (o6, .inl (k 0, cp, .inl (fun i9 : Nat => iI (y6 i9)))), (o7, .inl (k 0, cp, .inl (fun i9 : Nat => iI (y7 i9)))), (o2, .inl (k 0, cp, .inl (fun i9 : Nat => iI (y2 i9)))), (cq_2, .inl (k 0, (2 * cp : Nat), .inl (fun i9 : Nat => iI ((cpz y2 (fun _ : Int => (0 : Int)) 0 0 (min (cp : Int) ((2 * cp : Nat) : Int))) i9))))]) rfl B
    refine k_S (rest := [.ref so]) (wc := [(o3, .inl (k 0, cp, .inl (fun i9 : Nat => iI (y3 i9))))]) (wr := [(so, .inr (7, [.ref o1, .ref cq_2, .ref o3, .ref o4, .ref o6, .ref o7, .ref o5, .int (iI n)])), (o1, .inl (k 0, 768, .inl (fun i9 : Nat => iI (y1 i9)))), (o4, .inl (k 0, cp, .inl (fun i9 : Nat => iI (y4 i9)))), (o5, .inl (k 0, cp, .inl (fun i9 : Nat => iI (y5 i9)))), (o6, .inl (k 0, cp, .inl (fun i9 : Nat => iI (y6 i9)))), (o7, .inl (k 0, cp, .inl (fun i9 : Nat => iI (y7 i9)))), (o2, .inl (k 0, cp, .inl (fun i9 : Nat => iI (y2 i9)))), (cq_2, .inl (k 0, (2 * cp : Nat), .inl (fun i9 : Nat => iI ((cpz y2 (fun _ : Int => (0 : Int)) 0 0 (min (cp : Int) ((2 * cp : Nat) : Int))) i9))))]) (k_copyI l dC dI k o3 cp (2 * cp : Nat) y3 (by omega)) B mS_J7_copyOf_59c91 mw_1546 hl ⟨Nat.le_of_ble_eq_true rfl, Nat.le_of_ble_eq_true rfl⟩ (Nat.le_of_ble_eq_true rfl) rfl dX7_makeRoom_39 ⟨by dsimp only; omega, by dsimp only; omega⟩ (fun r w gc gs H locs hp B => ?_)
    obtain ⟨cq_3, rfl, hw9, rfl, rfl⟩ := hp
    rw [hw9] at B; clear hw9
    have B := bd_to (ws' := [(so, .inr (7, [.ref o1, .ref cq_2, .ref o3, .ref o4, .ref o6, .ref o7, .ref o5, .int (iI n)])), (o1, .inl (k 0, 768, .inl (fun i9 : Nat => iI (y1 i9)))), (o4, .inl (k 0, cp, .inl (fun i9 : Nat => iI (y4 i9)))), (o5, .inl (k 0, cp, .inl (fun i9 : Nat => iI (y5 i9)))), (o6, .inl (k 0, cp, .inl (fun i9 : Nat => iI (y6 i9)))), (o7, .inl (k 0, cp, .inl (fun i9 : Nat => iI (y7 i9)))), (o2, .inl (k 0, cp, .inl (fun i9 : Nat => iI (y2 i9)))), (cq_2, .inl (k 0, (2 * cp : Nat), .inl (fun i9 : Nat => iI ((cpz y2 (fun _ : Int => (0 : Int)) 0 0 (min (cp : Int) ((2 * cp : Nat) : Int))) i9)))), (o3, .inl (k 0, cp, .inl (fun i9 : Nat => iI (y3 i9)))), (cq_3, .inl (k 0, (2 * cp : Nat), .inl (fun i9 : Nat => iI ((cpz y3 (fun _ : Int => (0 : Int)) 0 0 (min (cp : Int) ((2 * cp : Nat) : Int))) i9))))]) rfl B
    refine x_put (ci := 7) (C := RX7) (T := TX7) (N := 8) (ty := .array .int) (v := .ref cq_3) B tyX7_ok nmX7 0 rfl rfl in_X7 2 (by decide) mw_181 (fun _ h9 => h9) rfl (by decide +kernel) rfl rfl (Nat.le_of_ble_eq_true rfl) dX7_makeRoom_42 (fun H locs B => ?_)
    have B := bd_to (ws' := [(so, .inr (7, [.ref o1, .ref cq_2, .ref cq_3, .ref o4, .ref o6, .ref o7, .ref o5, .int (iI n)])), (o1, .inl (k 0, 768, .inl (fun i9 : Nat => iI (y1 i9)))), (o4, .inl (k 0, cp, .inl (fun i9 : Nat => iI (y4 i9)))), (o5, .inl (k 0, cp, .inl (fun i9 : Nat => iI (y5 i9)))), (o6, .inl (k 0, cp, .inl (fun i9 : Nat => iI (y6 i9)))), (o7, .inl (k 0, cp, .inl (fun i9 : Nat => iI (y7 i9)))), (o2, .inl (k 0, cp, .inl (fun i9 : Nat => iI (y2 i9)))), (cq_2, .inl (k 0, (2 * cp : Nat), .inl (fun i9 : Nat => iI ((cpz y2 (fun _ : Int => (0 : Int)) 0 0 (min (cp : Int) ((2 * cp : Nat) : Int))) i9)))), (o3, .inl (k 0, cp, .inl (fun i9 : Nat => iI (y3 i9)))), (cq_3, .inl (k 0, (2 * cp : Nat), .inl (fun i9 : Nat => iI ((cpz y3 (fun _ : Int => (0 : Int)) 0 0 (min (cp : Int) ((2 * cp : Nat) : Int))) i9))))]) rfl B
    refine lv_aload_n hx hb dX7_makeRoom_45 rfl (lv_at hl 1 rfl) ?_
    refine lv_aload_n hx hb dX7_makeRoom_46 rfl (lv_at hl 1 rfl) ?_
    refine x_get (ci := 7) (C := RX7) (T := TX7) (N := 8) (v := .ref o4) B 0 rfl rfl in_X7 3 (by decide) mw_183 (fun _ h9 => h9) rfl dX7_makeRoom_47 ?_
    refine lv_iload_n hx hb dX7_makeRoom_50 rfl (lv_at hl 0 rfl) ?_
    have B := bd_sub (ws' := [(o4, .inl (k 0, cp, .inl (fun i9 : Nat => iI (y4 i9)))), (so, .inr (7, [.ref o1, .ref cq_2, .ref cq_3, .ref o4, .ref o6, .ref o7, .ref o5, .int (iI n)])), (o1, .inl (k 0, 768, .inl (fun i9 : Nat => iI (y1 i9)))), (o5, .inl (k 0, cp, .inl (fun i9 : Nat => iI (y5 i9)))), (o6, .inl (k 0, cp, .inl (fun i9 : Nat => iI (y6 i9)))), (o7, .inl (k 0, cp, .inl (fun i9 : Nat => iI (y7 i9)))), (o2, .inl (k 0, cp, .inl (fun i9 : Nat => iI (y2 i9)))), (cq_2, .inl (k 0, (2 * cp : Nat), .inl (fun i9 : Nat => iI ((cpz y2 (fun _ : Int => (0 : Int)) 0 0 (min (cp : Int) ((2 * cp : Nat) : Int))) i9)))), (o3, .inl (k 0, cp, .inl (fun i9 : Nat => iI (y3 i9)))), (cq_3, .inl (k 0, (2 * cp : Nat), .inl (fun i9 : Nat => iI ((cpz y3 (fun _ : Int => (0 : Int)) 0 0 (min (cp : Int) ((2 * cp : Nat) : Int))) i9))))]) [2, 0, 1, 3, 4, 5, 6, 7, 8, 9] (by decide) rfl B
    have B := bd_to (ws' := [(o4, .inl (k 0, cp, .inl (fun i9 : Nat => iI (y4 i9))))] ++ [(so, .inr (7, [.ref o1, .ref cq_2, .ref cq_3, .ref o4, .ref o6, .ref o7, .ref o5, .int (iI n)])), (o1, .inl (k 0, 768, .inl (fun i9 : Nat => iI (y1 i9)))), (o5, .inl (k 0, cp, .inl (fun i9 : Nat => iI (y5 i9)))), (o6, .inl (k 0, cp, .inl (fun i9 : Nat => iI (y6 i9)))), (o7, .inl (k 0, cp, .inl (fun i9 : Nat => iI (y7 i9)))), (o2, .inl (k 0, cp, .inl (fun i9 : Nat => iI (y2 i9)))), (cq_2, .inl (k 0, (2 * cp : Nat), .inl (fun i9 : Nat => iI ((cpz y2 (fun _ : Int => (0 : Int)) 0 0 (min (cp : Int) ((2 * cp : Nat) : Int))) i9)))), (o3, .inl (k 0, cp, .inl (fun i9 : Nat => iI (y3 i9)))), (cq_3, .inl (k 0, (2 * cp : Nat), .inl (fun i9 : Nat => iI ((cpz y3 (fun _ : Int => (0 : Int)) 0 0 (min (cp : Int) ((2 * cp : Nat) : Int))) i9))))]) rfl B
    refine k_S (rest := [.ref so]) (wc := [(o4, .inl (k 0, cp, .inl (fun i9 : Nat => iI (y4 i9))))]) (wr := [(so, .inr (7, [.ref o1, .ref cq_2, .ref cq_3, .ref o4, .ref o6, .ref o7, .ref o5, .int (iI n)])), (o1, .inl (k 0, 768, .inl (fun i9 : Nat => iI (y1 i9)))), (o5, .inl (k 0, cp, .inl (fun i9 : Nat => iI (y5 i9)))), (o6, .inl (k 0, cp, .inl (fun i9 : Nat => iI (y6 i9)))), (o7, .inl (k 0, cp, .inl (fun i9 : Nat => iI (y7 i9)))), (o2, .inl (k 0, cp, .inl (fun i9 : Nat => iI (y2 i9)))), (cq_2, .inl (k 0, (2 * cp : Nat), .inl (fun i9 : Nat => iI ((cpz y2 (fun _ : Int => (0 : Int)) 0 0 (min (cp : Int) ((2 * cp : Nat) : Int))) i9)))), (o3, .inl (k 0, cp, .inl (fun i9 : Nat => iI (y3 i9)))), (cq_3, .inl (k 0, (2 * cp : Nat), .inl (fun i9 : Nat => iI ((cpz y3 (fun _ : Int => (0 : Int)) 0 0 (min (cp : Int) ((2 * cp : Nat) : Int))) i9))))]) (k_copyI l dC dI k o4 cp (2 * cp : Nat) y4 (by omega)) B mS_J7_copyOf_59c91 mw_1546 hl ⟨Nat.le_of_ble_eq_true rfl, Nat.le_of_ble_eq_true rfl⟩ (Nat.le_of_ble_eq_true rfl) rfl dX7_makeRoom_51 ⟨by dsimp only; omega, by dsimp only; omega⟩ (fun r w gc gs H locs hp B => ?_)
    obtain ⟨cq_4, rfl, hw9, rfl, rfl⟩ := hp
    rw [hw9] at B; clear hw9
    have B := bd_to (ws' := [(so, .inr (7, [.ref o1, .ref cq_2, .ref cq_3, .ref o4, .ref o6, .ref o7, .ref o5, .int (iI n)])), (o1, .inl (k 0, 768, .inl (fun i9 : Nat => iI (y1 i9)))), (o5, .inl (k 0, cp, .inl (fun i9 : Nat => iI (y5 i9)))), (o6, .inl (k 0, cp, .inl (fun i9 : Nat => iI (y6 i9)))), (o7, .inl (k 0, cp, .inl (fun i9 : Nat => iI (y7 i9)))), (o2, .inl (k 0, cp, .inl (fun i9 : Nat => iI (y2 i9)))), (cq_2, .inl (k 0, (2 * cp : Nat), .inl (fun i9 : Nat => iI ((cpz y2 (fun _ : Int => (0 : Int)) 0 0 (min (cp : Int) ((2 * cp : Nat) : Int))) i9)))), (o3, .inl (k 0, cp, .inl (fun i9 : Nat => iI (y3 i9)))), (cq_3, .inl (k 0, (2 * cp : Nat), .inl (fun i9 : Nat => iI ((cpz y3 (fun _ : Int => (0 : Int)) 0 0 (min (cp : Int) ((2 * cp : Nat) : Int))) i9)))), (o4, .inl (k 0, cp, .inl (fun i9 : Nat => iI (y4 i9)))), (cq_4, .inl (k 0, (2 * cp : Nat), .inl (fun i9 : Nat => iI ((cpz y4 (fun _ : Int => (0 : Int)) 0 0 (min (cp : Int) ((2 * cp : Nat) : Int))) i9))))]) rfl B
    refine x_put (ci := 7) (C := RX7) (T := TX7) (N := 8) (ty := .array .int) (v := .ref cq_4) B tyX7_ok nmX7 0 rfl rfl in_X7 3 (by decide) mw_183 (fun _ h9 => h9) rfl (by decide +kernel) rfl rfl (Nat.le_of_ble_eq_true rfl) dX7_makeRoom_54 (fun H locs B => ?_)
    have B := bd_to (ws' := [(so, .inr (7, [.ref o1, .ref cq_2, .ref cq_3, .ref cq_4, .ref o6, .ref o7, .ref o5, .int (iI n)])), (o1, .inl (k 0, 768, .inl (fun i9 : Nat => iI (y1 i9)))), (o5, .inl (k 0, cp, .inl (fun i9 : Nat => iI (y5 i9)))), (o6, .inl (k 0, cp, .inl (fun i9 : Nat => iI (y6 i9)))), (o7, .inl (k 0, cp, .inl (fun i9 : Nat => iI (y7 i9)))), (o2, .inl (k 0, cp, .inl (fun i9 : Nat => iI (y2 i9)))), (cq_2, .inl (k 0, (2 * cp : Nat), .inl (fun i9 : Nat => iI ((cpz y2 (fun _ : Int => (0 : Int)) 0 0 (min (cp : Int) ((2 * cp : Nat) : Int))) i9)))), (o3, .inl (k 0, cp, .inl (fun i9 : Nat => iI (y3 i9)))), (cq_3, .inl (k 0, (2 * cp : Nat), .inl (fun i9 : Nat => iI ((cpz y3 (fun _ : Int => (0 : Int)) 0 0 (min (cp : Int) ((2 * cp : Nat) : Int))) i9)))), (o4, .inl (k 0, cp, .inl (fun i9 : Nat => iI (y4 i9)))), (cq_4, .inl (k 0, (2 * cp : Nat), .inl (fun i9 : Nat => iI ((cpz y4 (fun _ : Int => (0 : Int)) 0 0 (min (cp : Int) ((2 * cp : Nat) : Int))) i9))))]) rfl B
    refine lv_aload_n hx hb dX7_makeRoom_57 rfl (lv_at hl 1 rfl) ?_
    refine lv_aload_n hx hb dX7_makeRoom_58 rfl (lv_at hl 1 rfl) ?_
    refine x_get (ci := 7) (C := RX7) (T := TX7) (N := 8) (v := .ref o6) B 0 rfl rfl in_X7 4 (by decide) mw_185 (fun _ h9 => h9) rfl dX7_makeRoom_59 ?_
    refine lv_iload_n hx hb dX7_makeRoom_62 rfl (lv_at hl 0 rfl) ?_
    have B := bd_sub (ws' := [(o6, .inl (k 0, cp, .inl (fun i9 : Nat => iI (y6 i9)))), (so, .inr (7, [.ref o1, .ref cq_2, .ref cq_3, .ref cq_4, .ref o6, .ref o7, .ref o5, .int (iI n)])), (o1, .inl (k 0, 768, .inl (fun i9 : Nat => iI (y1 i9)))), (o5, .inl (k 0, cp, .inl (fun i9 : Nat => iI (y5 i9)))), (o7, .inl (k 0, cp, .inl (fun i9 : Nat => iI (y7 i9)))), (o2, .inl (k 0, cp, .inl (fun i9 : Nat => iI (y2 i9)))), (cq_2, .inl (k 0, (2 * cp : Nat), .inl (fun i9 : Nat => iI ((cpz y2 (fun _ : Int => (0 : Int)) 0 0 (min (cp : Int) ((2 * cp : Nat) : Int))) i9)))), (o3, .inl (k 0, cp, .inl (fun i9 : Nat => iI (y3 i9)))), (cq_3, .inl (k 0, (2 * cp : Nat), .inl (fun i9 : Nat => iI ((cpz y3 (fun _ : Int => (0 : Int)) 0 0 (min (cp : Int) ((2 * cp : Nat) : Int))) i9)))), (o4, .inl (k 0, cp, .inl (fun i9 : Nat => iI (y4 i9)))), (cq_4, .inl (k 0, (2 * cp : Nat), .inl (fun i9 : Nat => iI ((cpz y4 (fun _ : Int => (0 : Int)) 0 0 (min (cp : Int) ((2 * cp : Nat) : Int))) i9))))]) [3, 0, 1, 2, 4, 5, 6, 7, 8, 9, 10] (by decide) rfl B
    have B := bd_to (ws' := [(o6, .inl (k 0, cp, .inl (fun i9 : Nat => iI (y6 i9))))] ++ [(so, .inr (7, [.ref o1, .ref cq_2, .ref cq_3, .ref cq_4, .ref o6, .ref o7, .ref o5, .int (iI n)])), (o1, .inl (k 0, 768, .inl (fun i9 : Nat => iI (y1 i9)))), (o5, .inl (k 0, cp, .inl (fun i9 : Nat => iI (y5 i9)))), (o7, .inl (k 0, cp, .inl (fun i9 : Nat => iI (y7 i9)))), (o2, .inl (k 0, cp, .inl (fun i9 : Nat => iI (y2 i9)))), (cq_2, .inl (k 0, (2 * cp : Nat), .inl (fun i9 : Nat => iI ((cpz y2 (fun _ : Int => (0 : Int)) 0 0 (min (cp : Int) ((2 * cp : Nat) : Int))) i9)))), (o3, .inl (k 0, cp, .inl (fun i9 : Nat => iI (y3 i9)))), (cq_3, .inl (k 0, (2 * cp : Nat), .inl (fun i9 : Nat => iI ((cpz y3 (fun _ : Int => (0 : Int)) 0 0 (min (cp : Int) ((2 * cp : Nat) : Int))) i9)))), (o4, .inl (k 0, cp, .inl (fun i9 : Nat => iI (y4 i9)))), (cq_4, .inl (k 0, (2 * cp : Nat), .inl (fun i9 : Nat => iI ((cpz y4 (fun _ : Int => (0 : Int)) 0 0 (min (cp : Int) ((2 * cp : Nat) : Int))) i9))))]) rfl B
    refine k_S (rest := [.ref so]) (wc := [(o6, .inl (k 0, cp, .inl (fun i9 : Nat => iI (y6 i9))))]) (wr := [(so, .inr (7, [.ref o1, .ref cq_2, .ref cq_3, .ref cq_4, .ref o6, .ref o7, .ref o5, .int (iI n)])), (o1, .inl (k 0, 768, .inl (fun i9 : Nat => iI (y1 i9)))), (o5, .inl (k 0, cp, .inl (fun i9 : Nat => iI (y5 i9)))), (o7, .inl (k 0, cp, .inl (fun i9 : Nat => iI (y7 i9)))), (o2, .inl (k 0, cp, .inl (fun i9 : Nat => iI (y2 i9)))), (cq_2, .inl (k 0, (2 * cp : Nat), .inl (fun i9 : Nat => iI ((cpz y2 (fun _ : Int => (0 : Int)) 0 0 (min (cp : Int) ((2 * cp : Nat) : Int))) i9)))), (o3, .inl (k 0, cp, .inl (fun i9 : Nat => iI (y3 i9)))), (cq_3, .inl (k 0, (2 * cp : Nat), .inl (fun i9 : Nat => iI ((cpz y3 (fun _ : Int => (0 : Int)) 0 0 (min (cp : Int) ((2 * cp : Nat) : Int))) i9)))), (o4, .inl (k 0, cp, .inl (fun i9 : Nat => iI (y4 i9)))), (cq_4, .inl (k 0, (2 * cp : Nat), .inl (fun i9 : Nat => iI ((cpz y4 (fun _ : Int => (0 : Int)) 0 0 (min (cp : Int) ((2 * cp : Nat) : Int))) i9))))]) (k_copyI l dC dI k o6 cp (2 * cp : Nat) y6 (by omega)) B mS_J7_copyOf_59c91 mw_1546 hl ⟨Nat.le_of_ble_eq_true rfl, Nat.le_of_ble_eq_true rfl⟩ (Nat.le_of_ble_eq_true rfl) rfl dX7_makeRoom_63 ⟨by dsimp only; omega, by dsimp only; omega⟩ (fun r w gc gs H locs hp B => ?_)
    obtain ⟨cq_5, rfl, hw9, rfl, rfl⟩ := hp
    rw [hw9] at B; clear hw9
    have B := bd_to (ws' := [(so, .inr (7, [.ref o1, .ref cq_2, .ref cq_3, .ref cq_4, .ref o6, .ref o7, .ref o5, .int (iI n)])), (o1, .inl (k 0, 768, .inl (fun i9 : Nat => iI (y1 i9)))), (o5, .inl (k 0, cp, .inl (fun i9 : Nat => iI (y5 i9)))), (o7, .inl (k 0, cp, .inl (fun i9 : Nat => iI (y7 i9)))), (o2, .inl (k 0, cp, .inl (fun i9 : Nat => iI (y2 i9)))), (cq_2, .inl (k 0, (2 * cp : Nat), .inl (fun i9 : Nat => iI ((cpz y2 (fun _ : Int => (0 : Int)) 0 0 (min (cp : Int) ((2 * cp : Nat) : Int))) i9)))), (o3, .inl (k 0, cp, .inl (fun i9 : Nat => iI (y3 i9)))), (cq_3, .inl (k 0, (2 * cp : Nat), .inl (fun i9 : Nat => iI ((cpz y3 (fun _ : Int => (0 : Int)) 0 0 (min (cp : Int) ((2 * cp : Nat) : Int))) i9)))), (o4, .inl (k 0, cp, .inl (fun i9 : Nat => iI (y4 i9)))), (cq_4, .inl (k 0, (2 * cp : Nat), .inl (fun i9 : Nat => iI ((cpz y4 (fun _ : Int => (0 : Int)) 0 0 (min (cp : Int) ((2 * cp : Nat) : Int))) i9)))), (o6, .inl (k 0, cp, .inl (fun i9 : Nat => iI (y6 i9)))), (cq_5, .inl (k 0, (2 * cp : Nat), .inl (fun i9 : Nat => iI ((cpz y6 (fun _ : Int => (0 : Int)) 0 0 (min (cp : Int) ((2 * cp : Nat) : Int))) i9))))]) rfl B
    refine x_put (ci := 7) (C := RX7) (T := TX7) (N := 8) (ty := .array .int) (v := .ref cq_5) B tyX7_ok nmX7 0 rfl rfl in_X7 4 (by decide) mw_185 (fun _ h9 => h9) rfl (by decide +kernel) rfl rfl (Nat.le_of_ble_eq_true rfl) dX7_makeRoom_66 (fun H locs B => ?_)
    have B := bd_to (ws' := [(so, .inr (7, [.ref o1, .ref cq_2, .ref cq_3, .ref cq_4, .ref cq_5, .ref o7, .ref o5, .int (iI n)])), (o1, .inl (k 0, 768, .inl (fun i9 : Nat => iI (y1 i9)))), (o5, .inl (k 0, cp, .inl (fun i9 : Nat => iI (y5 i9)))), (o7, .inl (k 0, cp, .inl (fun i9 : Nat => iI (y7 i9)))), (o2, .inl (k 0, cp, .inl (fun i9 : Nat => iI (y2 i9)))), (cq_2, .inl (k 0, (2 * cp : Nat), .inl (fun i9 : Nat => iI ((cpz y2 (fun _ : Int => (0 : Int)) 0 0 (min (cp : Int) ((2 * cp : Nat) : Int))) i9)))), (o3, .inl (k 0, cp, .inl (fun i9 : Nat => iI (y3 i9)))), (cq_3, .inl (k 0, (2 * cp : Nat), .inl (fun i9 : Nat => iI ((cpz y3 (fun _ : Int => (0 : Int)) 0 0 (min (cp : Int) ((2 * cp : Nat) : Int))) i9)))), (o4, .inl (k 0, cp, .inl (fun i9 : Nat => iI (y4 i9)))), (cq_4, .inl (k 0, (2 * cp : Nat), .inl (fun i9 : Nat => iI ((cpz y4 (fun _ : Int => (0 : Int)) 0 0 (min (cp : Int) ((2 * cp : Nat) : Int))) i9)))), (o6, .inl (k 0, cp, .inl (fun i9 : Nat => iI (y6 i9)))), (cq_5, .inl (k 0, (2 * cp : Nat), .inl (fun i9 : Nat => iI ((cpz y6 (fun _ : Int => (0 : Int)) 0 0 (min (cp : Int) ((2 * cp : Nat) : Int))) i9))))]) rfl B
    refine lv_aload_n hx hb dX7_makeRoom_69 rfl (lv_at hl 1 rfl) ?_
    refine lv_aload_n hx hb dX7_makeRoom_70 rfl (lv_at hl 1 rfl) ?_
    refine x_get (ci := 7) (C := RX7) (T := TX7) (N := 8) (v := .ref o7) B 0 rfl rfl in_X7 5 (by decide) mw_187 (fun _ h9 => h9) rfl dX7_makeRoom_71 ?_
    refine lv_iload_n hx hb dX7_makeRoom_74 rfl (lv_at hl 0 rfl) ?_
    have B := bd_sub (ws' := [(o7, .inl (k 0, cp, .inl (fun i9 : Nat => iI (y7 i9)))), (so, .inr (7, [.ref o1, .ref cq_2, .ref cq_3, .ref cq_4, .ref cq_5, .ref o7, .ref o5, .int (iI n)])), (o1, .inl (k 0, 768, .inl (fun i9 : Nat => iI (y1 i9)))), (o5, .inl (k 0, cp, .inl (fun i9 : Nat => iI (y5 i9)))), (o2, .inl (k 0, cp, .inl (fun i9 : Nat => iI (y2 i9)))), (cq_2, .inl (k 0, (2 * cp : Nat), .inl (fun i9 : Nat => iI ((cpz y2 (fun _ : Int => (0 : Int)) 0 0 (min (cp : Int) ((2 * cp : Nat) : Int))) i9)))), (o3, .inl (k 0, cp, .inl (fun i9 : Nat => iI (y3 i9)))), (cq_3, .inl (k 0, (2 * cp : Nat), .inl (fun i9 : Nat => iI ((cpz y3 (fun _ : Int => (0 : Int)) 0 0 (min (cp : Int) ((2 * cp : Nat) : Int))) i9)))), (o4, .inl (k 0, cp, .inl (fun i9 : Nat => iI (y4 i9)))), (cq_4, .inl (k 0, (2 * cp : Nat), .inl (fun i9 : Nat => iI ((cpz y4 (fun _ : Int => (0 : Int)) 0 0 (min (cp : Int) ((2 * cp : Nat) : Int))) i9)))), (o6, .inl (k 0, cp, .inl (fun i9 : Nat => iI (y6 i9)))), (cq_5, .inl (k 0, (2 * cp : Nat), .inl (fun i9 : Nat => iI ((cpz y6 (fun _ : Int => (0 : Int)) 0 0 (min (cp : Int) ((2 * cp : Nat) : Int))) i9))))]) [3, 0, 1, 2, 4, 5, 6, 7, 8, 9, 10, 11] (by decide) rfl B
    have B := bd_to (ws' := [(o7, .inl (k 0, cp, .inl (fun i9 : Nat => iI (y7 i9))))] ++ [(so, .inr (7, [.ref o1, .ref cq_2, .ref cq_3, .ref cq_4, .ref cq_5, .ref o7, .ref o5, .int (iI n)])), (o1, .inl (k 0, 768, .inl (fun i9 : Nat => iI (y1 i9)))), (o5, .inl (k 0, cp, .inl (fun i9 : Nat => iI (y5 i9)))), (o2, .inl (k 0, cp, .inl (fun i9 : Nat => iI (y2 i9)))), (cq_2, .inl (k 0, (2 * cp : Nat), .inl (fun i9 : Nat => iI ((cpz y2 (fun _ : Int => (0 : Int)) 0 0 (min (cp : Int) ((2 * cp : Nat) : Int))) i9)))), (o3, .inl (k 0, cp, .inl (fun i9 : Nat => iI (y3 i9)))), (cq_3, .inl (k 0, (2 * cp : Nat), .inl (fun i9 : Nat => iI ((cpz y3 (fun _ : Int => (0 : Int)) 0 0 (min (cp : Int) ((2 * cp : Nat) : Int))) i9)))), (o4, .inl (k 0, cp, .inl (fun i9 : Nat => iI (y4 i9)))), (cq_4, .inl (k 0, (2 * cp : Nat), .inl (fun i9 : Nat => iI ((cpz y4 (fun _ : Int => (0 : Int)) 0 0 (min (cp : Int) ((2 * cp : Nat) : Int))) i9)))), (o6, .inl (k 0, cp, .inl (fun i9 : Nat => iI (y6 i9)))), (cq_5, .inl (k 0, (2 * cp : Nat), .inl (fun i9 : Nat => iI ((cpz y6 (fun _ : Int => (0 : Int)) 0 0 (min (cp : Int) ((2 * cp : Nat) : Int))) i9))))]) rfl B
    refine k_S (rest := [.ref so]) (wc := [(o7, .inl (k 0, cp, .inl (fun i9 : Nat => iI (y7 i9))))]) (wr := [(so, .inr (7, [.ref o1, .ref cq_2, .ref cq_3, .ref cq_4, .ref cq_5, .ref o7, .ref o5, .int (iI n)])), (o1, .inl (k 0, 768, .inl (fun i9 : Nat => iI (y1 i9)))), (o5, .inl (k 0, cp, .inl (fun i9 : Nat => iI (y5 i9)))), (o2, .inl (k 0, cp, .inl (fun i9 : Nat => iI (y2 i9)))), (cq_2, .inl (k 0, (2 * cp : Nat), .inl (fun i9 : Nat => iI ((cpz y2 (fun _ : Int => (0 : Int)) 0 0 (min (cp : Int) ((2 * cp : Nat) : Int))) i9)))), (o3, .inl (k 0, cp, .inl (fun i9 : Nat => iI (y3 i9)))), (cq_3, .inl (k 0, (2 * cp : Nat), .inl (fun i9 : Nat => iI ((cpz y3 (fun _ : Int => (0 : Int)) 0 0 (min (cp : Int) ((2 * cp : Nat) : Int))) i9)))), (o4, .inl (k 0, cp, .inl (fun i9 : Nat => iI (y4 i9)))), (cq_4, .inl (k 0, (2 * cp : Nat), .inl (fun i9 : Nat => iI ((cpz y4 (fun _ : Int => (0 : Int)) 0 0 (min (cp : Int) ((2 * cp : Nat) : Int))) i9)))), (o6, .inl (k 0, cp, .inl (fun i9 : Nat => iI (y6 i9)))), (cq_5, .inl (k 0, (2 * cp : Nat), .inl (fun i9 : Nat => iI ((cpz y6 (fun _ : Int => (0 : Int)) 0 0 (min (cp : Int) ((2 * cp : Nat) : Int))) i9))))]) (k_copyI l dC dI k o7 cp (2 * cp : Nat) y7 (by omega)) B mS_J7_copyOf_59c91 mw_1546 hl ⟨Nat.le_of_ble_eq_true rfl, Nat.le_of_ble_eq_true rfl⟩ (Nat.le_of_ble_eq_true rfl) rfl dX7_makeRoom_75 ⟨by dsimp only; omega, by dsimp only; omega⟩ (fun r w gc gs H locs hp B => ?_)
    obtain ⟨cq_6, rfl, hw9, rfl, rfl⟩ := hp
    rw [hw9] at B; clear hw9
    have B := bd_to (ws' := [(so, .inr (7, [.ref o1, .ref cq_2, .ref cq_3, .ref cq_4, .ref cq_5, .ref o7, .ref o5, .int (iI n)])), (o1, .inl (k 0, 768, .inl (fun i9 : Nat => iI (y1 i9)))), (o5, .inl (k 0, cp, .inl (fun i9 : Nat => iI (y5 i9)))), (o2, .inl (k 0, cp, .inl (fun i9 : Nat => iI (y2 i9)))), (cq_2, .inl (k 0, (2 * cp : Nat), .inl (fun i9 : Nat => iI ((cpz y2 (fun _ : Int => (0 : Int)) 0 0 (min (cp : Int) ((2 * cp : Nat) : Int))) i9)))), (o3, .inl (k 0, cp, .inl (fun i9 : Nat => iI (y3 i9)))), (cq_3, .inl (k 0, (2 * cp : Nat), .inl (fun i9 : Nat => iI ((cpz y3 (fun _ : Int => (0 : Int)) 0 0 (min (cp : Int) ((2 * cp : Nat) : Int))) i9)))), (o4, .inl (k 0, cp, .inl (fun i9 : Nat => iI (y4 i9)))), (cq_4, .inl (k 0, (2 * cp : Nat), .inl (fun i9 : Nat => iI ((cpz y4 (fun _ : Int => (0 : Int)) 0 0 (min (cp : Int) ((2 * cp : Nat) : Int))) i9)))), (o6, .inl (k 0, cp, .inl (fun i9 : Nat => iI (y6 i9)))), (cq_5, .inl (k 0, (2 * cp : Nat), .inl (fun i9 : Nat => iI ((cpz y6 (fun _ : Int => (0 : Int)) 0 0 (min (cp : Int) ((2 * cp : Nat) : Int))) i9)))), (o7, .inl (k 0, cp, .inl (fun i9 : Nat => iI (y7 i9)))), (cq_6, .inl (k 0, (2 * cp : Nat), .inl (fun i9 : Nat => iI ((cpz y7 (fun _ : Int => (0 : Int)) 0 0 (min (cp : Int) ((2 * cp : Nat) : Int))) i9))))]) rfl B
    refine x_put (ci := 7) (C := RX7) (T := TX7) (N := 8) (ty := .array .int) (v := .ref cq_6) B tyX7_ok nmX7 0 rfl rfl in_X7 5 (by decide) mw_187 (fun _ h9 => h9) rfl (by decide +kernel) rfl rfl (Nat.le_of_ble_eq_true rfl) dX7_makeRoom_78 (fun H locs B => ?_)
    have B := bd_to (ws' := [(so, .inr (7, [.ref o1, .ref cq_2, .ref cq_3, .ref cq_4, .ref cq_5, .ref cq_6, .ref o5, .int (iI n)])), (o1, .inl (k 0, 768, .inl (fun i9 : Nat => iI (y1 i9)))), (o5, .inl (k 0, cp, .inl (fun i9 : Nat => iI (y5 i9)))), (o2, .inl (k 0, cp, .inl (fun i9 : Nat => iI (y2 i9)))), (cq_2, .inl (k 0, (2 * cp : Nat), .inl (fun i9 : Nat => iI ((cpz y2 (fun _ : Int => (0 : Int)) 0 0 (min (cp : Int) ((2 * cp : Nat) : Int))) i9)))), (o3, .inl (k 0, cp, .inl (fun i9 : Nat => iI (y3 i9)))), (cq_3, .inl (k 0, (2 * cp : Nat), .inl (fun i9 : Nat => iI ((cpz y3 (fun _ : Int => (0 : Int)) 0 0 (min (cp : Int) ((2 * cp : Nat) : Int))) i9)))), (o4, .inl (k 0, cp, .inl (fun i9 : Nat => iI (y4 i9)))), (cq_4, .inl (k 0, (2 * cp : Nat), .inl (fun i9 : Nat => iI ((cpz y4 (fun _ : Int => (0 : Int)) 0 0 (min (cp : Int) ((2 * cp : Nat) : Int))) i9)))), (o6, .inl (k 0, cp, .inl (fun i9 : Nat => iI (y6 i9)))), (cq_5, .inl (k 0, (2 * cp : Nat), .inl (fun i9 : Nat => iI ((cpz y6 (fun _ : Int => (0 : Int)) 0 0 (min (cp : Int) ((2 * cp : Nat) : Int))) i9)))), (o7, .inl (k 0, cp, .inl (fun i9 : Nat => iI (y7 i9)))), (cq_6, .inl (k 0, (2 * cp : Nat), .inl (fun i9 : Nat => iI ((cpz y7 (fun _ : Int => (0 : Int)) 0 0 (min (cp : Int) ((2 * cp : Nat) : Int))) i9))))]) rfl B
    refine lv_aload_n hx hb dX7_makeRoom_81 rfl (lv_at hl 1 rfl) ?_
    refine lv_aload_n hx hb dX7_makeRoom_82 rfl (lv_at hl 1 rfl) ?_
    refine x_get (ci := 7) (C := RX7) (T := TX7) (N := 8) (v := .ref o5) B 0 rfl rfl in_X7 6 (by decide) mw_189 (fun _ h9 => h9) rfl dX7_makeRoom_83 ?_
    refine lv_iload_n hx hb dX7_makeRoom_86 rfl (lv_at hl 0 rfl) ?_
    have B := bd_sub (ws' := [(o5, .inl (k 0, cp, .inl (fun i9 : Nat => iI (y5 i9)))), (so, .inr (7, [.ref o1, .ref cq_2, .ref cq_3, .ref cq_4, .ref cq_5, .ref cq_6, .ref o5, .int (iI n)])), (o1, .inl (k 0, 768, .inl (fun i9 : Nat => iI (y1 i9)))), (o2, .inl (k 0, cp, .inl (fun i9 : Nat => iI (y2 i9)))), (cq_2, .inl (k 0, (2 * cp : Nat), .inl (fun i9 : Nat => iI ((cpz y2 (fun _ : Int => (0 : Int)) 0 0 (min (cp : Int) ((2 * cp : Nat) : Int))) i9)))), (o3, .inl (k 0, cp, .inl (fun i9 : Nat => iI (y3 i9)))), (cq_3, .inl (k 0, (2 * cp : Nat), .inl (fun i9 : Nat => iI ((cpz y3 (fun _ : Int => (0 : Int)) 0 0 (min (cp : Int) ((2 * cp : Nat) : Int))) i9)))), (o4, .inl (k 0, cp, .inl (fun i9 : Nat => iI (y4 i9)))), (cq_4, .inl (k 0, (2 * cp : Nat), .inl (fun i9 : Nat => iI ((cpz y4 (fun _ : Int => (0 : Int)) 0 0 (min (cp : Int) ((2 * cp : Nat) : Int))) i9)))), (o6, .inl (k 0, cp, .inl (fun i9 : Nat => iI (y6 i9)))), (cq_5, .inl (k 0, (2 * cp : Nat), .inl (fun i9 : Nat => iI ((cpz y6 (fun _ : Int => (0 : Int)) 0 0 (min (cp : Int) ((2 * cp : Nat) : Int))) i9)))), (o7, .inl (k 0, cp, .inl (fun i9 : Nat => iI (y7 i9)))), (cq_6, .inl (k 0, (2 * cp : Nat), .inl (fun i9 : Nat => iI ((cpz y7 (fun _ : Int => (0 : Int)) 0 0 (min (cp : Int) ((2 * cp : Nat) : Int))) i9))))]) [2, 0, 1, 3, 4, 5, 6, 7, 8, 9, 10, 11, 12] (by decide) rfl B
    have B := bd_to (ws' := [(o5, .inl (k 0, cp, .inl (fun i9 : Nat => iI (y5 i9))))] ++ [(so, .inr (7, [.ref o1, .ref cq_2, .ref cq_3, .ref cq_4, .ref cq_5, .ref cq_6, .ref o5, .int (iI n)])), (o1, .inl (k 0, 768, .inl (fun i9 : Nat => iI (y1 i9)))), (o2, .inl (k 0, cp, .inl (fun i9 : Nat => iI (y2 i9)))), (cq_2, .inl (k 0, (2 * cp : Nat), .inl (fun i9 : Nat => iI ((cpz y2 (fun _ : Int => (0 : Int)) 0 0 (min (cp : Int) ((2 * cp : Nat) : Int))) i9)))), (o3, .inl (k 0, cp, .inl (fun i9 : Nat => iI (y3 i9)))), (cq_3, .inl (k 0, (2 * cp : Nat), .inl (fun i9 : Nat => iI ((cpz y3 (fun _ : Int => (0 : Int)) 0 0 (min (cp : Int) ((2 * cp : Nat) : Int))) i9)))), (o4, .inl (k 0, cp, .inl (fun i9 : Nat => iI (y4 i9)))), (cq_4, .inl (k 0, (2 * cp : Nat), .inl (fun i9 : Nat => iI ((cpz y4 (fun _ : Int => (0 : Int)) 0 0 (min (cp : Int) ((2 * cp : Nat) : Int))) i9)))), (o6, .inl (k 0, cp, .inl (fun i9 : Nat => iI (y6 i9)))), (cq_5, .inl (k 0, (2 * cp : Nat), .inl (fun i9 : Nat => iI ((cpz y6 (fun _ : Int => (0 : Int)) 0 0 (min (cp : Int) ((2 * cp : Nat) : Int))) i9)))), (o7, .inl (k 0, cp, .inl (fun i9 : Nat => iI (y7 i9)))), (cq_6, .inl (k 0, (2 * cp : Nat), .inl (fun i9 : Nat => iI ((cpz y7 (fun _ : Int => (0 : Int)) 0 0 (min (cp : Int) ((2 * cp : Nat) : Int))) i9))))]) rfl B
    refine k_S (rest := [.ref so]) (wc := [(o5, .inl (k 0, cp, .inl (fun i9 : Nat => iI (y5 i9))))]) (wr := [(so, .inr (7, [.ref o1, .ref cq_2, .ref cq_3, .ref cq_4, .ref cq_5, .ref cq_6, .ref o5, .int (iI n)])), (o1, .inl (k 0, 768, .inl (fun i9 : Nat => iI (y1 i9)))), (o2, .inl (k 0, cp, .inl (fun i9 : Nat => iI (y2 i9)))), (cq_2, .inl (k 0, (2 * cp : Nat), .inl (fun i9 : Nat => iI ((cpz y2 (fun _ : Int => (0 : Int)) 0 0 (min (cp : Int) ((2 * cp : Nat) : Int))) i9)))), (o3, .inl (k 0, cp, .inl (fun i9 : Nat => iI (y3 i9)))), (cq_3, .inl (k 0, (2 * cp : Nat), .inl (fun i9 : Nat => iI ((cpz y3 (fun _ : Int => (0 : Int)) 0 0 (min (cp : Int) ((2 * cp : Nat) : Int))) i9)))), (o4, .inl (k 0, cp, .inl (fun i9 : Nat => iI (y4 i9)))), (cq_4, .inl (k 0, (2 * cp : Nat), .inl (fun i9 : Nat => iI ((cpz y4 (fun _ : Int => (0 : Int)) 0 0 (min (cp : Int) ((2 * cp : Nat) : Int))) i9)))), (o6, .inl (k 0, cp, .inl (fun i9 : Nat => iI (y6 i9)))), (cq_5, .inl (k 0, (2 * cp : Nat), .inl (fun i9 : Nat => iI ((cpz y6 (fun _ : Int => (0 : Int)) 0 0 (min (cp : Int) ((2 * cp : Nat) : Int))) i9)))), (o7, .inl (k 0, cp, .inl (fun i9 : Nat => iI (y7 i9)))), (cq_6, .inl (k 0, (2 * cp : Nat), .inl (fun i9 : Nat => iI ((cpz y7 (fun _ : Int => (0 : Int)) 0 0 (min (cp : Int) ((2 * cp : Nat) : Int))) i9))))]) (k_copyI l dC dI k o5 cp (2 * cp : Nat) y5 (by omega)) B mS_J7_copyOf_59c91 mw_1546 hl ⟨Nat.le_of_ble_eq_true rfl, Nat.le_of_ble_eq_true rfl⟩ (Nat.le_of_ble_eq_true rfl) rfl dX7_makeRoom_87 ⟨by dsimp only; omega, by dsimp only; omega⟩ (fun r w gc gs H locs hp B => ?_)
    obtain ⟨cq_7, rfl, hw9, rfl, rfl⟩ := hp
    rw [hw9] at B; clear hw9
    have B := bd_to (ws' := [(so, .inr (7, [.ref o1, .ref cq_2, .ref cq_3, .ref cq_4, .ref cq_5, .ref cq_6, .ref o5, .int (iI n)])), (o1, .inl (k 0, 768, .inl (fun i9 : Nat => iI (y1 i9)))), (o2, .inl (k 0, cp, .inl (fun i9 : Nat => iI (y2 i9)))), (cq_2, .inl (k 0, (2 * cp : Nat), .inl (fun i9 : Nat => iI ((cpz y2 (fun _ : Int => (0 : Int)) 0 0 (min (cp : Int) ((2 * cp : Nat) : Int))) i9)))), (o3, .inl (k 0, cp, .inl (fun i9 : Nat => iI (y3 i9)))), (cq_3, .inl (k 0, (2 * cp : Nat), .inl (fun i9 : Nat => iI ((cpz y3 (fun _ : Int => (0 : Int)) 0 0 (min (cp : Int) ((2 * cp : Nat) : Int))) i9)))), (o4, .inl (k 0, cp, .inl (fun i9 : Nat => iI (y4 i9)))), (cq_4, .inl (k 0, (2 * cp : Nat), .inl (fun i9 : Nat => iI ((cpz y4 (fun _ : Int => (0 : Int)) 0 0 (min (cp : Int) ((2 * cp : Nat) : Int))) i9)))), (o6, .inl (k 0, cp, .inl (fun i9 : Nat => iI (y6 i9)))), (cq_5, .inl (k 0, (2 * cp : Nat), .inl (fun i9 : Nat => iI ((cpz y6 (fun _ : Int => (0 : Int)) 0 0 (min (cp : Int) ((2 * cp : Nat) : Int))) i9)))), (o7, .inl (k 0, cp, .inl (fun i9 : Nat => iI (y7 i9)))), (cq_6, .inl (k 0, (2 * cp : Nat), .inl (fun i9 : Nat => iI ((cpz y7 (fun _ : Int => (0 : Int)) 0 0 (min (cp : Int) ((2 * cp : Nat) : Int))) i9)))), (o5, .inl (k 0, cp, .inl (fun i9 : Nat => iI (y5 i9)))), (cq_7, .inl (k 0, (2 * cp : Nat), .inl (fun i9 : Nat => iI ((cpz y5 (fun _ : Int => (0 : Int)) 0 0 (min (cp : Int) ((2 * cp : Nat) : Int))) i9))))]) rfl B
    refine x_put (ci := 7) (C := RX7) (T := TX7) (N := 8) (ty := .array .int) (v := .ref cq_7) B tyX7_ok nmX7 0 rfl rfl in_X7 6 (by decide) mw_189 (fun _ h9 => h9) rfl (by decide +kernel) rfl rfl (Nat.le_of_ble_eq_true rfl) dX7_makeRoom_90 (fun H locs B => ?_)
    have B := bd_to (ws' := [(so, .inr (7, [.ref o1, .ref cq_2, .ref cq_3, .ref cq_4, .ref cq_5, .ref cq_6, .ref cq_7, .int (iI n)])), (o1, .inl (k 0, 768, .inl (fun i9 : Nat => iI (y1 i9)))), (o2, .inl (k 0, cp, .inl (fun i9 : Nat => iI (y2 i9)))), (cq_2, .inl (k 0, (2 * cp : Nat), .inl (fun i9 : Nat => iI ((cpz y2 (fun _ : Int => (0 : Int)) 0 0 (min (cp : Int) ((2 * cp : Nat) : Int))) i9)))), (o3, .inl (k 0, cp, .inl (fun i9 : Nat => iI (y3 i9)))), (cq_3, .inl (k 0, (2 * cp : Nat), .inl (fun i9 : Nat => iI ((cpz y3 (fun _ : Int => (0 : Int)) 0 0 (min (cp : Int) ((2 * cp : Nat) : Int))) i9)))), (o4, .inl (k 0, cp, .inl (fun i9 : Nat => iI (y4 i9)))), (cq_4, .inl (k 0, (2 * cp : Nat), .inl (fun i9 : Nat => iI ((cpz y4 (fun _ : Int => (0 : Int)) 0 0 (min (cp : Int) ((2 * cp : Nat) : Int))) i9)))), (o6, .inl (k 0, cp, .inl (fun i9 : Nat => iI (y6 i9)))), (cq_5, .inl (k 0, (2 * cp : Nat), .inl (fun i9 : Nat => iI ((cpz y6 (fun _ : Int => (0 : Int)) 0 0 (min (cp : Int) ((2 * cp : Nat) : Int))) i9)))), (o7, .inl (k 0, cp, .inl (fun i9 : Nat => iI (y7 i9)))), (cq_6, .inl (k 0, (2 * cp : Nat), .inl (fun i9 : Nat => iI ((cpz y7 (fun _ : Int => (0 : Int)) 0 0 (min (cp : Int) ((2 * cp : Nat) : Int))) i9)))), (o5, .inl (k 0, cp, .inl (fun i9 : Nat => iI (y5 i9)))), (cq_7, .inl (k 0, (2 * cp : Nat), .inl (fun i9 : Nat => iI ((cpz y5 (fun _ : Int => (0 : Int)) 0 0 (min (cp : Int) ((2 * cp : Nat) : Int))) i9))))]) rfl B
    have B := bd_sub (ws' := [(so, .inr (7, [.ref o1, .ref cq_2, .ref cq_3, .ref cq_4, .ref cq_5, .ref cq_6, .ref cq_7, .int (iI n)])), (o1, .inl (k 0, 768, .inl (fun i9 : Nat => iI (y1 i9)))), (cq_2, .inl (k 0, (2 * cp : Nat), .inl (fun i9 : Nat => iI ((cpz y2 (fun _ : Int => (0 : Int)) 0 0 (min (cp : Int) ((2 * cp : Nat) : Int))) i9)))), (cq_3, .inl (k 0, (2 * cp : Nat), .inl (fun i9 : Nat => iI ((cpz y3 (fun _ : Int => (0 : Int)) 0 0 (min (cp : Int) ((2 * cp : Nat) : Int))) i9)))), (cq_4, .inl (k 0, (2 * cp : Nat), .inl (fun i9 : Nat => iI ((cpz y4 (fun _ : Int => (0 : Int)) 0 0 (min (cp : Int) ((2 * cp : Nat) : Int))) i9)))), (cq_7, .inl (k 0, (2 * cp : Nat), .inl (fun i9 : Nat => iI ((cpz y5 (fun _ : Int => (0 : Int)) 0 0 (min (cp : Int) ((2 * cp : Nat) : Int))) i9)))), (cq_5, .inl (k 0, (2 * cp : Nat), .inl (fun i9 : Nat => iI ((cpz y6 (fun _ : Int => (0 : Int)) 0 0 (min (cp : Int) ((2 * cp : Nat) : Int))) i9)))), (cq_6, .inl (k 0, (2 * cp : Nat), .inl (fun i9 : Nat => iI ((cpz y7 (fun _ : Int => (0 : Int)) 0 0 (min (cp : Int) ((2 * cp : Nat) : Int))) i9))))]) [0, 1, 3, 5, 7, 13, 9, 11] (by decide) rfl B
    exact k_vret B hr (⟨(2 * cp : Nat), cq_2, cq_3, cq_4, cq_7, cq_5, cq_6, (cpz y2 (fun _ : Int => (0 : Int)) 0 0 (min (cp : Int) ((2 * cp : Nat) : Int))), (cpz y3 (fun _ : Int => (0 : Int)) 0 0 (min (cp : Int) ((2 * cp : Nat) : Int))), (cpz y4 (fun _ : Int => (0 : Int)) 0 0 (min (cp : Int) ((2 * cp : Nat) : Int))), (cpz y5 (fun _ : Int => (0 : Int)) 0 0 (min (cp : Int) ((2 * cp : Nat) : Int))), (cpz y6 (fun _ : Int => (0 : Int)) 0 0 (min (cp : Int) ((2 * cp : Nat) : Int))), (cpz y7 (fun _ : Int => (0 : Int)) 0 0 (min (cp : Int) ((2 * cp : Nat) : Int))), (fun j g1 g2 => ⟨(by simp only [cpz]; rw [if_pos (by omega)]; congr 1; omega), (by simp only [cpz]; rw [if_pos (by omega)]; congr 1; omega), (by simp only [cpz]; rw [if_pos (by omega)]; congr 1; omega), (by simp only [cpz]; rw [if_pos (by omega)]; congr 1; omega), (by simp only [cpz]; rw [if_pos (by omega)]; congr 1; omega), (by simp only [cpz]; rw [if_pos (by omega)]; congr 1; omega)⟩), (by unfold cpOk at *; omega), (by omega), rfl, rfl, rfl, rfl⟩) ⟨(by first | omega | (dsimp only; omega)), (by first | omega | (dsimp only; omega))⟩ ⟨(by first | omega | (dsimp only; omega)), (by first | omega | (dsimp only; omega))⟩ dX7_makeRoom_93
  · have zc_1 : n < (cp : Int) := jnle (a := (cp : Int)) (b := n) (by omega) (by omega) c_1
    exact k_vret B hr (⟨cp, o2, o3, o4, o5, o6, o7, y2, y3, y4, y5, y6, y7, (fun j _ _ => ⟨rfl, rfl, rfl, rfl, rfl, rfl⟩), (by unfold cpOk at *; omega), (by omega), rfl, rfl, rfl, rfl⟩) ⟨(by first | omega | (dsimp only; omega)), (by first | omega | (dsimp only; omega))⟩ ⟨(by first | omega | (dsimp only; omega)), (by first | omega | (dsimp only; omega))⟩ dX7_makeRoom_12

theorem mw_7 : (Jvm.Cond.initialized "Galleyforge$States") ∈ gt := gt_at 77 (by decide +kernel) (by decide +kernel)
theorem mw_1537 : (Jvm.Cond.methodLink "Galleyforge$States" (43 : Nat) ({ cls := "Galleyforge$States", name := "find", desc := "(III)I" } : Jvm.MethodName)) ∈ gt := gt_at 1607 (by decide +kernel) (by decide +kernel)
theorem mw_1538 : (Jvm.Cond.instanceMethod ({ cls := "Galleyforge$States", name := "find", desc := "(III)I" } : Jvm.MethodName)) ∈ gt := gt_at 1608 (by decide +kernel) (by decide +kernel)
theorem mw_1539 : (Jvm.Cond.selects "Galleyforge$States" ({ cls := "Galleyforge$States", name := "find", desc := "(III)I" } : Jvm.MethodName) ({ cls := "Galleyforge$States", name := "find", desc := "(III)I" } : Jvm.MethodName)) ∈ gt := gt_at 1609 (by decide +kernel) (by decide +kernel)
theorem mw_1540 : (Jvm.Cond.code ({ cls := "Galleyforge$States", name := "find", desc := "(III)I" } : Jvm.MethodName) prog_9_method_3_code (6 : Nat) (Option.some Jvm.ClassFile.FieldType.int)) ∈ gt := gt_at 1610 (by decide +kernel) (by decide +kernel)
theorem mw_1541 : (Jvm.Cond.constant "Galleyforge$States" (47 : Nat) (260000 : Int32)) ∈ gt := gt_at 1611 (by decide +kernel) (by decide +kernel)
theorem mw_1542 : (Jvm.Cond.methodLink "Galleyforge$States" (48 : Nat) ({ cls := "Galleyforge$States", name := "makeRoom", desc := "()V" } : Jvm.MethodName)) ∈ gt := gt_at 1612 (by decide +kernel) (by decide +kernel)
theorem mw_1544 : (Jvm.Cond.instanceMethod ({ cls := "Galleyforge$States", name := "makeRoom", desc := "()V" } : Jvm.MethodName)) ∈ gt := gt_at 1614 (by decide +kernel) (by decide +kernel)
theorem mw_1545 : (Jvm.Cond.code ({ cls := "Galleyforge$States", name := "makeRoom", desc := "()V" } : Jvm.MethodName) prog_9_method_5_code (2 : Nat) (Option.none : Option Jvm.ClassFile.FieldType)) ∈ gt := gt_at 1615 (by decide +kernel) (by decide +kernel)
theorem mV_X7_find : mV yX7_find cX7_find 6 (some .int) 3 := ⟨⟨mw_1540, mw_7, by decide, by decide, by decide +kernel⟩, mw_1538, mw_1539⟩
theorem ms_43 : Cond.selects "Galleyforge$States" (⟨"Galleyforge$States", "makeRoom", "()V"⟩ : MethodName) (⟨"Galleyforge$States", "makeRoom", "()V"⟩ : MethodName) ∈ gt := gt_at 43 (by decide +kernel) (by decide +kernel)
theorem mV_X7_makeRoom : mV yX7_makeRoom cX7_makeRoom 2 none 0 := ⟨⟨mw_1545, mw_7, by decide, by decide, by decide +kernel⟩, mw_1544, ms_43⟩
theorem dX7_reach_0 : decode cX7_reach 0 = .ok (.aload_n 0, 1) := by decide +kernel
theorem dX7_reach_1 : decode cX7_reach 1 = .ok (.iload_n 1, 1) := by decide +kernel
theorem dX7_reach_2 : decode cX7_reach 2 = .ok (.iload_n 2, 1) := by decide +kernel
theorem dX7_reach_3 : decode cX7_reach 3 = .ok (.iload_n 3, 1) := by decide +kernel
theorem dX7_reach_4 : decode cX7_reach 4 = .ok (.invokevirtual 43, 3) := by decide +kernel
theorem dX7_reach_7 : decode cX7_reach 7 = .ok (.istore 4, 2) := by decide +kernel
theorem dX7_reach_9 : decode cX7_reach 9 = .ok (.iload 4, 2) := by decide +kernel
theorem dX7_reach_11 : decode cX7_reach 11 = .ok (.iconst (-1), 1) := by decide +kernel
theorem dX7_reach_12 : decode cX7_reach 12 = .ok (.if_icmp .eq 29, 3) := by decide +kernel
theorem dX7_reach_15 : decode cX7_reach 15 = .ok (.aload_n 0, 1) := by decide +kernel
theorem dX7_reach_16 : decode cX7_reach 16 = .ok (.getfield 18, 3) := by decide +kernel
theorem dX7_reach_19 : decode cX7_reach 19 = .ok (.iload 4, 2) := by decide +kernel
theorem dX7_reach_21 : decode cX7_reach 21 = .ok (.iaload, 1) := by decide +kernel
theorem dX7_reach_22 : decode cX7_reach 22 = .ok (.iload_n 2, 1) := by decide +kernel
theorem dX7_reach_23 : decode cX7_reach 23 = .ok (.if_icmp .ne 18, 3) := by decide +kernel
theorem dX7_reach_26 : decode cX7_reach 26 = .ok (.aload_n 0, 1) := by decide +kernel
theorem dX7_reach_27 : decode cX7_reach 27 = .ok (.getfield 21, 3) := by decide +kernel
theorem dX7_reach_30 : decode cX7_reach 30 = .ok (.iload 4, 2) := by decide +kernel
theorem dX7_reach_32 : decode cX7_reach 32 = .ok (.iaload, 1) := by decide +kernel
theorem dX7_reach_33 : decode cX7_reach 33 = .ok (.iload_n 3, 1) := by decide +kernel
theorem dX7_reach_34 : decode cX7_reach 34 = .ok (.if_icmp .ne 7, 3) := by decide +kernel
theorem dX7_reach_37 : decode cX7_reach 37 = .ok (.iconst 1, 1) := by decide +kernel
theorem dX7_reach_38 : decode cX7_reach 38 = .ok (.goto 4, 3) := by decide +kernel
theorem dX7_reach_41 : decode cX7_reach 41 = .ok (.iconst 0, 1) := by decide +kernel
theorem dX7_reach_42 : decode cX7_reach 42 = .ok (.istore 5, 2) := by decide +kernel
theorem dX7_reach_44 : decode cX7_reach 44 = .ok (.iload 5, 2) := by decide +kernel
theorem dX7_reach_46 : decode cX7_reach 46 = .ok (.ifCond .ne 18, 3) := by decide +kernel
theorem dX7_reach_49 : decode cX7_reach 49 = .ok (.iload 4, 2) := by decide +kernel
theorem dX7_reach_51 : decode cX7_reach 51 = .ok (.iconst (-1), 1) := by decide +kernel
theorem dX7_reach_52 : decode cX7_reach 52 = .ok (.if_icmp .eq 13, 3) := by decide +kernel
theorem dX7_reach_55 : decode cX7_reach 55 = .ok (.aload_n 0, 1) := by decide +kernel
theorem dX7_reach_56 : decode cX7_reach 56 = .ok (.getfield 39, 3) := by decide +kernel
theorem dX7_reach_59 : decode cX7_reach 59 = .ok (.ldc 47, 2) := by decide +kernel
theorem dX7_reach_61 : decode cX7_reach 61 = .ok (.if_icmp .lt 4, 3) := by decide +kernel
theorem dX7_reach_64 : decode cX7_reach 64 = .ok (.return_, 1) := by decide +kernel
theorem dX7_reach_65 : decode cX7_reach 65 = .ok (.aload_n 0, 1) := by decide +kernel
theorem dX7_reach_66 : decode cX7_reach 66 = .ok (.invokevirtual 48, 3) := by decide +kernel
theorem dX7_reach_69 : decode cX7_reach 69 = .ok (.aload_n 0, 1) := by decide +kernel
theorem dX7_reach_70 : decode cX7_reach 70 = .ok (.getfield 15, 3) := by decide +kernel
theorem dX7_reach_73 : decode cX7_reach 73 = .ok (.aload_n 0, 1) := by decide +kernel
theorem dX7_reach_74 : decode cX7_reach 74 = .ok (.getfield 39, 3) := by decide +kernel
theorem dX7_reach_77 : decode cX7_reach 77 = .ok (.aload_n 0, 1) := by decide +kernel
theorem dX7_reach_78 : decode cX7_reach 78 = .ok (.getfield 9, 3) := by decide +kernel
theorem dX7_reach_81 : decode cX7_reach 81 = .ok (.iload_n 1, 1) := by decide +kernel
theorem dX7_reach_82 : decode cX7_reach 82 = .ok (.iaload, 1) := by decide +kernel
theorem dX7_reach_83 : decode cX7_reach 83 = .ok (.iastore, 1) := by decide +kernel
theorem dX7_reach_84 : decode cX7_reach 84 = .ok (.aload_n 0, 1) := by decide +kernel
theorem dX7_reach_85 : decode cX7_reach 85 = .ok (.getfield 9, 3) := by decide +kernel
theorem dX7_reach_88 : decode cX7_reach 88 = .ok (.iload_n 1, 1) := by decide +kernel
theorem dX7_reach_89 : decode cX7_reach 89 = .ok (.aload_n 0, 1) := by decide +kernel
theorem dX7_reach_90 : decode cX7_reach 90 = .ok (.getfield 39, 3) := by decide +kernel
theorem dX7_reach_93 : decode cX7_reach 93 = .ok (.iastore, 1) := by decide +kernel
theorem dX7_reach_94 : decode cX7_reach 94 = .ok (.aload_n 0, 1) := by decide +kernel
theorem dX7_reach_95 : decode cX7_reach 95 = .ok (.getfield 18, 3) := by decide +kernel
theorem dX7_reach_98 : decode cX7_reach 98 = .ok (.aload_n 0, 1) := by decide +kernel
theorem dX7_reach_99 : decode cX7_reach 99 = .ok (.getfield 39, 3) := by decide +kernel
theorem dX7_reach_102 : decode cX7_reach 102 = .ok (.iload_n 2, 1) := by decide +kernel
theorem dX7_reach_103 : decode cX7_reach 103 = .ok (.iastore, 1) := by decide +kernel
theorem dX7_reach_104 : decode cX7_reach 104 = .ok (.aload_n 0, 1) := by decide +kernel
theorem dX7_reach_105 : decode cX7_reach 105 = .ok (.getfield 21, 3) := by decide +kernel
theorem dX7_reach_108 : decode cX7_reach 108 = .ok (.aload_n 0, 1) := by decide +kernel
theorem dX7_reach_109 : decode cX7_reach 109 = .ok (.getfield 39, 3) := by decide +kernel
theorem dX7_reach_112 : decode cX7_reach 112 = .ok (.iload_n 3, 1) := by decide +kernel
theorem dX7_reach_113 : decode cX7_reach 113 = .ok (.iastore, 1) := by decide +kernel
theorem dX7_reach_114 : decode cX7_reach 114 = .ok (.aload_n 0, 1) := by decide +kernel
theorem dX7_reach_115 : decode cX7_reach 115 = .ok (.getfield 30, 3) := by decide +kernel
theorem dX7_reach_118 : decode cX7_reach 118 = .ok (.aload_n 0, 1) := by decide +kernel
theorem dX7_reach_119 : decode cX7_reach 119 = .ok (.getfield 39, 3) := by decide +kernel
theorem dX7_reach_122 : decode cX7_reach 122 = .ok (.iconst 0, 1) := by decide +kernel
theorem dX7_reach_123 : decode cX7_reach 123 = .ok (.iastore, 1) := by decide +kernel
theorem dX7_reach_124 : decode cX7_reach 124 = .ok (.aload_n 0, 1) := by decide +kernel
theorem dX7_reach_125 : decode cX7_reach 125 = .ok (.dup, 1) := by decide +kernel
theorem dX7_reach_126 : decode cX7_reach 126 = .ok (.getfield 39, 3) := by decide +kernel
theorem dX7_reach_129 : decode cX7_reach 129 = .ok (.iconst 1, 1) := by decide +kernel
theorem dX7_reach_130 : decode cX7_reach 130 = .ok (.iadd, 1) := by decide +kernel
theorem dX7_reach_131 : decode cX7_reach 131 = .ok (.putfield 39, 3) := by decide +kernel
theorem dX7_reach_134 : decode cX7_reach 134 = .ok (.return_, 1) := by decide +kernel
set_option maxHeartbeats 4000000 in
set_option maxRecDepth 100000 in
theorem k_reach (l : Launch) (dC : Nat → ClassId) (dI : Nat → Nat → Nat) (k : Nat → ClassId) (so : Nat) (o1 : Nat) (o2 : Nat) (o3 : Nat) (o4 : Nat) (o5 : Nat) (o6 : Nat) (o7 : Nat) (cp : Nat) (y1 : Int → Int) (y2 : Int → Int) (y3 : Int → Int) (y4 : Int → Int) (y5 : Int → Int) (y6 : Int → Int) (y7 : Int → Int) (S : Nat → Int → Int) (ro : Int) (wt : Int) (lf : Int) (hA : SA S y1 y2 y3 y4 y5 y6 y7) (hW : SW S) (hcp : cpOk cp ∧ S 0 0 ≤ cp) (h1 : 0 ≤ ro ∧ ro ≤ 767) (h2 : 0 ≤ wt ∧ wt < 32 ∧ 0 ≤ lf ∧ lf ≤ 1000 * ro) (hcap : reS S ro wt lf 0 0 ≤ 131072) : Kn l dC dI k yX7_reach (.code yX7_reach cX7_reach 6 none) ({ frames := 3, cells := (131072 - cp), slots := (12 * (131072 - cp)), locals := 83 } : Room) [.ref so, .int (iI ro), .int (iI wt), .int (iI lf)] [(so, .inr (7, [.ref o1, .ref o2, .ref o3, .ref o4, .ref o6, .ref o7, .ref o5, .int (iI (S 0 0))])), (o1, .inl (k 0, 768, .inl (fun i9 : Nat => iI (y1 i9)))), (o2, .inl (k 0, cp, .inl (fun i9 : Nat => iI (y2 i9)))), (o3, .inl (k 0, cp, .inl (fun i9 : Nat => iI (y3 i9)))), (o4, .inl (k 0, cp, .inl (fun i9 : Nat => iI (y4 i9)))), (o5, .inl (k 0, cp, .inl (fun i9 : Nat => iI (y5 i9)))), (o6, .inl (k 0, cp, .inl (fun i9 : Nat => iI (y6 i9)))), (o7, .inl (k 0, cp, .inl (fun i9 : Nat => iI (y7 i9))))] (fun r w gc gs => (∃ (ct : Nat) (r2 : Nat) (r3 : Nat) (r4 : Nat) (r5 : Nat) (r6 : Nat) (r7 : Nat) (u1 : Int → Int) (u2 : Int → Int) (u3 : Int → Int) (u4 : Int → Int) (u5 : Int → Int) (u6 : Int → Int) (u7 : Int → Int) (S2 : Nat → Int → Int), (S2 = reS S ro wt lf) ∧ (SA S2 u1 u2 u3 u4 u5 u6 u7) ∧ (SW S2) ∧ (cpOk ct ∧ S2 0 0 ≤ ct) ∧ (cp ≤ ct ∧ ct ≤ 131072 ∧ 512 ≤ ct) ∧ r = none ∧ w = [(so, .inr (7, [.ref o1, .ref r2, .ref r3, .ref r4, .ref r6, .ref r7, .ref r5, .int (iI (S2 0 0))])), (o1, .inl (k 0, 768, .inl (fun i9 : Nat => iI (u1 i9)))), (r2, .inl (k 0, ct, .inl (fun i9 : Nat => iI (u2 i9)))), (r3, .inl (k 0, ct, .inl (fun i9 : Nat => iI (u3 i9)))), (r4, .inl (k 0, ct, .inl (fun i9 : Nat => iI (u4 i9)))), (r5, .inl (k 0, ct, .inl (fun i9 : Nat => iI (u5 i9)))), (r6, .inl (k 0, ct, .inl (fun i9 : Nat => iI (u6 i9)))), (r7, .inl (k 0, ct, .inl (fun i9 : Nat => iI (u7 i9))))] ∧ gc = (ct - cp) ∧ gs = (12 * (ct - cp)))) := by
  refine kn_of (by decide) (Nat.le_of_ble_eq_true rfl) ?_
  intro p e s m args below meth c H locs B hr hnm ls hl
  have hx := B.1.1
  have hb := B.1.2.1
  have hl : lv_has ls 6 [(0, .ref so), (1, .int (iI ro)), (2, .int (iI wt)), (3, .int (iI lf))] := hl
  have hS0 := SW_n hW
  have hcp2 : 512 ≤ cp ∧ cp ≤ 131072 := by unfold cpOk at hcp; omega
  refine lv_aload_n hx hb dX7_reach_0 rfl (lv_at hl 0 rfl) ?_
  refine lv_iload_n hx hb dX7_reach_1 rfl (lv_at hl 1 rfl) ?_
  refine lv_iload_n hx hb dX7_reach_2 rfl (lv_at hl 2 rfl) ?_
  refine lv_iload_n hx hb dX7_reach_3 rfl (lv_at hl 3 rfl) ?_
  have B := bd_to (ws' := [(so, .inr (7, [.ref o1, .ref o2, .ref o3, .ref o4, .ref o6, .ref o7, .ref o5, .int (iI (S 0 0))])), (o1, .inl (k 0, 768, .inl (fun i9 : Nat => iI (y1 i9)))), (o2, .inl (k 0, cp, .inl (fun i9 : Nat => iI (y2 i9)))), (o3, .inl (k 0, cp, .inl (fun i9 : Nat => iI (y3 i9)))), (o4, .inl (k 0, cp, .inl (fun i9 : Nat => iI (y4 i9)))), (o5, .inl (k 0, cp, .inl (fun i9 : Nat => iI (y5 i9)))), (o6, .inl (k 0, cp, .inl (fun i9 : Nat => iI (y6 i9)))), (o7, .inl (k 0, cp, .inl (fun i9 : Nat => iI (y7 i9))))] ++ []) rfl B
  refine k_V (rest := []) (wc := [(so, .inr (7, [.ref o1, .ref o2, .ref o3, .ref o4, .ref o6, .ref o7, .ref o5, .int (iI (S 0 0))])), (o1, .inl (k 0, 768, .inl (fun i9 : Nat => iI (y1 i9)))), (o2, .inl (k 0, cp, .inl (fun i9 : Nat => iI (y2 i9)))), (o3, .inl (k 0, cp, .inl (fun i9 : Nat => iI (y3 i9)))), (o4, .inl (k 0, cp, .inl (fun i9 : Nat => iI (y4 i9)))), (o5, .inl (k 0, cp, .inl (fun i9 : Nat => iI (y5 i9)))), (o6, .inl (k 0, cp, .inl (fun i9 : Nat => iI (y6 i9)))), (o7, .inl (k 0, cp, .inl (fun i9 : Nat => iI (y7 i9))))]) (wr := []) (k_find l dC dI k so o1 o2 o3 o4 o5 o6 o7 cp y1 y2 y3 y4 y5 y6 y7 S ro wt lf hA hW hcp h1 (by omega)) B mV_X7_find mw_1537 hl (q0 := 0) rfl rfl rfl ⟨Nat.le_of_ble_eq_true rfl, Nat.le_of_ble_eq_true rfl⟩ (Nat.le_of_ble_eq_true rfl) rfl dX7_reach_4 ⟨by dsimp only; omega, by dsimp only; omega⟩ (fun r w gc gs H locs hp B => ?_)
  obtain ⟨z_1, rfl, hw9, rfl, rfl⟩ := hp
  rw [hw9] at B; clear hw9
  have B := bd_to (ws' := [(so, .inr (7, [.ref o1, .ref o2, .ref o3, .ref o4, .ref o6, .ref o7, .ref o5, .int (iI (S 0 0))])), (o1, .inl (k 0, 768, .inl (fun i9 : Nat => iI (y1 i9)))), (o2, .inl (k 0, cp, .inl (fun i9 : Nat => iI (y2 i9)))), (o3, .inl (k 0, cp, .inl (fun i9 : Nat => iI (y3 i9)))), (o4, .inl (k 0, cp, .inl (fun i9 : Nat => iI (y4 i9)))), (o5, .inl (k 0, cp, .inl (fun i9 : Nat => iI (y5 i9)))), (o6, .inl (k 0, cp, .inl (fun i9 : Nat => iI (y6 i9)))), (o7, .inl (k 0, cp, .inl (fun i9 : Nat => iI (y7 i9))))]) rfl B
  refine lv_istore (lv' := [(4, .int (iI (fnZ S ro wt lf))), (0, .ref so), (1, .int (iI ro)), (2, .int (iI wt)), (3, .int (iI lf))]) hx hb dX7_reach_7 hl (by decide) rfl (fun ls hl => ?_)
  refine lv_iload hx hb dX7_reach_9 (lv_at hl 0 rfl) ?_
  refine lv_iconst (v := iI (-1)) hx hb dX7_reach_11 (by decide) ?_
  refine lv_icmp_eq (tgt := 41) hx hb dX7_reach_12 (by decide) (fun c_2 => ?_) (fun c_2 => ?_)
  · have zc_2 : (fnZ S ro wt lf) = (-1) := jeq (a := (fnZ S ro wt lf)) (b := (-1)) (by omega) (by omega) c_2
    refine lv_iconst (v := iI 0) hx hb dX7_reach_41 (by decide) ?_
    refine lv_istore (lv' := [(5, .int (iI 0)), (4, .int (iI (fnZ S ro wt lf))), (0, .ref so), (1, .int (iI ro)), (2, .int (iI wt)), (3, .int (iI lf))]) hx hb dX7_reach_42 hl (by decide) rfl (fun ls hl => ?_)
    refine lv_iload hx hb dX7_reach_44 (lv_at hl 0 rfl) ?_
    refine lv_if_ne (tgt := 64) hx hb dX7_reach_46 (by decide) (fun c9 => absurd c9 (by decide)) (fun _ => ?_)
    refine lv_iload hx hb dX7_reach_49 (lv_at hl 1 rfl) ?_
    refine lv_iconst (v := iI (-1)) hx hb dX7_reach_51 (by decide) ?_
    refine lv_icmp_eq (tgt := 65) hx hb dX7_reach_52 (by decide) (fun c_3 => ?_) (fun c_3 => ?_)
    · have zc_3 : (fnZ S ro wt lf) = (-1) := jeq (a := (fnZ S ro wt lf)) (b := (-1)) (by omega) (by omega) c_3
      have hno : ¬ (fnZ S ro wt lf ≠ -1 ∧ S 3 (fnZ S ro wt lf) = wt ∧ S 4 (fnZ S ro wt lf) = lf) := fun q9 => by omega
      have z_4 : S 0 0 < 131072 := by have q9 := hcap; rw [re_pu hno, pu_0] at q9; omega
      refine lv_aload_n hx hb dX7_reach_65 rfl (lv_at hl 2 rfl) ?_
      have B := bd_to (ws' := [(so, .inr (7, [.ref o1, .ref o2, .ref o3, .ref o4, .ref o6, .ref o7, .ref o5, .int (iI (S 0 0))])), (o1, .inl (k 0, 768, .inl (fun i9 : Nat => iI (y1 i9)))), (o2, .inl (k 0, cp, .inl (fun i9 : Nat => iI (y2 i9)))), (o3, .inl (k 0, cp, .inl (fun i9 : Nat => iI (y3 i9)))), (o4, .inl (k 0, cp, .inl (fun i9 : Nat => iI (y4 i9)))), (o5, .inl (k 0, cp, .inl (fun i9 : Nat => iI (y5 i9)))), (o6, .inl (k 0, cp, .inl (fun i9 : Nat => iI (y6 i9)))), (o7, .inl (k 0, cp, .inl (fun i9 : Nat => iI (y7 i9))))] ++ []) rfl B
      refine k_V (rest := []) (wc := [(so, .inr (7, [.ref o1, .ref o2, .ref o3, .ref o4, .ref o6, .ref o7, .ref o5, .int (iI (S 0 0))])), (o1, .inl (k 0, 768, .inl (fun i9 : Nat => iI (y1 i9)))), (o2, .inl (k 0, cp, .inl (fun i9 : Nat => iI (y2 i9)))), (o3, .inl (k 0, cp, .inl (fun i9 : Nat => iI (y3 i9)))), (o4, .inl (k 0, cp, .inl (fun i9 : Nat => iI (y4 i9)))), (o5, .inl (k 0, cp, .inl (fun i9 : Nat => iI (y5 i9)))), (o6, .inl (k 0, cp, .inl (fun i9 : Nat => iI (y6 i9)))), (o7, .inl (k 0, cp, .inl (fun i9 : Nat => iI (y7 i9))))]) (wr := []) (k_makeRoom l dC dI k so o1 o2 o3 o4 o5 o6 o7 cp y1 y2 y3 y4 y5 y6 y7 (S 0 0) ⟨hcp.1, by omega⟩) B mV_X7_makeRoom mw_1542 hl (q0 := 0) rfl rfl rfl ⟨Nat.le_of_ble_eq_true rfl, Nat.le_of_ble_eq_true rfl⟩ (Nat.le_of_ble_eq_true rfl) rfl dX7_reach_66 ⟨by dsimp only; omega, by dsimp only; omega⟩ (fun r w gc gs H locs hp B => ?_)
      obtain ⟨ct_5, r2_6, r3_7, r4_8, r5_9, r6_10, r7_11, u2_12, u3_13, u4_14, u5_15, u6_16, u7_17, z_18, z_19, z_20, rfl, hw9, rfl, rfl⟩ := hp
      rw [hw9] at B; clear hw9
      have B := bd_to (ws' := [(so, .inr (7, [.ref o1, .ref r2_6, .ref r3_7, .ref r4_8, .ref r6_10, .ref r7_11, .ref r5_9, .int (iI (S 0 0))])), (o1, .inl (k 0, 768, .inl (fun i9 : Nat => iI (y1 i9)))), (r2_6, .inl (k 0, ct_5, .inl (fun i9 : Nat => iI (u2_12 i9)))), (r3_7, .inl (k 0, ct_5, .inl (fun i9 : Nat => iI (u3_13 i9)))), (r4_8, .inl (k 0, ct_5, .inl (fun i9 : Nat => iI (u4_14 i9)))), (r5_9, .inl (k 0, ct_5, .inl (fun i9 : Nat => iI (u5_15 i9)))), (r6_10, .inl (k 0, ct_5, .inl (fun i9 : Nat => iI (u6_16 i9)))), (r7_11, .inl (k 0, ct_5, .inl (fun i9 : Nat => iI (u7_17 i9))))]) rfl B
      refine lv_aload_n hx hb dX7_reach_69 rfl (lv_at hl 2 rfl) ?_
      refine x_get (ci := 7) (C := RX7) (T := TX7) (N := 8) (v := .ref r2_6) B 0 rfl rfl in_X7 1 (by decide) mw_179 (fun _ h9 => h9) rfl dX7_reach_70 ?_
      refine lv_aload_n hx hb dX7_reach_73 rfl (lv_at hl 2 rfl) ?_
      refine x_get (ci := 7) (C := RX7) (T := TX7) (N := 8) (v := .int (iI (S 0 0))) B 0 rfl rfl in_X7 7 (by decide) mw_191 (fun _ h9 => h9) rfl dX7_reach_74 ?_
      refine lv_aload_n hx hb dX7_reach_77 rfl (lv_at hl 2 rfl) ?_
      refine x_get (ci := 7) (C := RX7) (T := TX7) (N := 8) (v := .ref o1) B 0 rfl rfl in_X7 0 (by decide) mw_177 (fun _ h9 => h9) rfl dX7_reach_78 ?_
      refine lv_iload_n hx hb dX7_reach_81 rfl (lv_at hl 3 rfl) ?_
      refine x_iald' (f := y1) (z := ro) B 1 rfl (by omega) dX7_reach_82 ?_
      refine lv_seti (y := iI (S 1 ro)) (congrArg iI (show y1 ro = S 1 ro from hA.1 _ (by omega) (by omega))) ?_
      have z_21 : -1 ≤ S 1 ro ∧ S 1 ro < S 0 0 := SW_f hW _
      refine x_iast' (f := u2_12) (z := (S 0 0)) (v := (S 1 ro)) B 2 rfl (by omega) dX7_reach_83 (fun H locs B => ?_)
      have B := bd_to (ws' := [(so, .inr (7, [.ref o1, .ref r2_6, .ref r3_7, .ref r4_8, .ref r6_10, .ref r7_11, .ref r5_9, .int (iI (S 0 0))])), (o1, .inl (k 0, 768, .inl (fun i9 : Nat => iI (y1 i9)))), (r2_6, .inl (k 0, ct_5, .inl (fun i9 : Nat => iI ((uz u2_12 (S 0 0) (S 1 ro)) i9)))), (r3_7, .inl (k 0, ct_5, .inl (fun i9 : Nat => iI (u3_13 i9)))), (r4_8, .inl (k 0, ct_5, .inl (fun i9 : Nat => iI (u4_14 i9)))), (r5_9, .inl (k 0, ct_5, .inl (fun i9 : Nat => iI (u5_15 i9)))), (r6_10, .inl (k 0, ct_5, .inl (fun i9 : Nat => iI (u6_16 i9)))), (r7_11, .inl (k 0, ct_5, .inl (fun i9 : Nat => iI (u7_17 i9))))]) rfl B
      refine lv_aload_n hx hb dX7_reach_84 rfl (lv_at hl 2 rfl) ?_
      refine x_get (ci := 7) (C := RX7) (T := TX7) (N := 8) (v := .ref o1) B 0 rfl rfl in_X7 0 (by decide) mw_177 (fun _ h9 => h9) rfl dX7_reach_85 ?_
      refine lv_iload_n hx hb dX7_reach_88 rfl (lv_at hl 3 rfl) ?_
      refine lv_aload_n hx hb dX7_reach_89 rfl (lv_at hl 2 rfl) ?_
      refine x_get (ci := 7) (C := RX7) (T := TX7) (N := 8) (v := .int (iI (S 0 0))) B 0 rfl rfl in_X7 7 (by decide) mw_191 (fun _ h9 => h9) rfl dX7_reach_90 ?_
      refine x_iast' (f := y1) (z := ro) (v := (S 0 0)) B 1 rfl (by omega) dX7_reach_93 (fun H locs B => ?_)
      have B := bd_to (ws' := [(so, .inr (7, [.ref o1, .ref r2_6, .ref r3_7, .ref r4_8, .ref r6_10, .ref r7_11, .ref r5_9, .int (iI (S 0 0))])), (o1, .inl (k 0, 768, .inl (fun i9 : Nat => iI ((uz y1 ro (S 0 0)) i9)))), (r2_6, .inl (k 0, ct_5, .inl (fun i9 : Nat => iI ((uz u2_12 (S 0 0) (S 1 ro)) i9)))), (r3_7, .inl (k 0, ct_5, .inl (fun i9 : Nat => iI (u3_13 i9)))), (r4_8, .inl (k 0, ct_5, .inl (fun i9 : Nat => iI (u4_14 i9)))), (r5_9, .inl (k 0, ct_5, .inl (fun i9 : Nat => iI (u5_15 i9)))), (r6_10, .inl (k 0, ct_5, .inl (fun i9 : Nat => iI (u6_16 i9)))), (r7_11, .inl (k 0, ct_5, .inl (fun i9 : Nat => iI (u7_17 i9))))]) rfl B
      refine lv_aload_n hx hb dX7_reach_94 rfl (lv_at hl 2 rfl) ?_
      refine x_get (ci := 7) (C := RX7) (T := TX7) (N := 8) (v := .ref r3_7) B 0 rfl rfl in_X7 2 (by decide) mw_181 (fun _ h9 => h9) rfl dX7_reach_95 ?_
      refine lv_aload_n hx hb dX7_reach_98 rfl (lv_at hl 2 rfl) ?_
      refine x_get (ci := 7) (C := RX7) (T := TX7) (N := 8) (v := .int (iI (S 0 0))) B 0 rfl rfl in_X7 7 (by decide) mw_191 (fun _ h9 => h9) rfl dX7_reach_99 ?_
      refine lv_iload_n hx hb dX7_reach_102 rfl (lv_at hl 4 rfl) ?_
      refine x_iast' (f := u3_13) (z := (S 0 0)) (v := wt) B 3 rfl (by omega) dX7_reach_103 (fun H locs B => ?_)
      have B := bd_to (ws' := [(so, .inr (7, [.ref o1, .ref r2_6, .ref r3_7, .ref r4_8, .ref r6_10, .ref r7_11, .ref r5_9, .int (iI (S 0 0))])), (o1, .inl (k 0, 768, .inl (fun i9 : Nat => iI ((uz y1 ro (S 0 0)) i9)))), (r2_6, .inl (k 0, ct_5, .inl (fun i9 : Nat => iI ((uz u2_12 (S 0 0) (S 1 ro)) i9)))), (r3_7, .inl (k 0, ct_5, .inl (fun i9 : Nat => iI ((uz u3_13 (S 0 0) wt) i9)))), (r4_8, .inl (k 0, ct_5, .inl (fun i9 : Nat => iI (u4_14 i9)))), (r5_9, .inl (k 0, ct_5, .inl (fun i9 : Nat => iI (u5_15 i9)))), (r6_10, .inl (k 0, ct_5, .inl (fun i9 : Nat => iI (u6_16 i9)))), (r7_11, .inl (k 0, ct_5, .inl (fun i9 : Nat => iI (u7_17 i9))))]) rfl B
      refine lv_aload_n hx hb dX7_reach_104 rfl (lv_at hl 2 rfl) ?_
      refine x_get (ci := 7) (C := RX7) (T := TX7) (N := 8) (v := .ref r4_8) B 0 rfl rfl in_X7 3 (by decide) mw_183 (fun _ h9 => h9) rfl dX7_reach_105 ?_
      refine lv_aload_n hx hb dX7_reach_108 rfl (lv_at hl 2 rfl) ?_
      refine x_get (ci := 7) (C := RX7) (T := TX7) (N := 8) (v := .int (iI (S 0 0))) B 0 rfl rfl in_X7 7 (by decide) mw_191 (fun _ h9 => h9) rfl dX7_reach_109 ?_
      refine lv_iload_n hx hb dX7_reach_112 rfl (lv_at hl 5 rfl) ?_
      refine x_iast' (f := u4_14) (z := (S 0 0)) (v := lf) B 4 rfl (by omega) dX7_reach_113 (fun H locs B => ?_)
      have B := bd_to (ws' := [(so, .inr (7, [.ref o1, .ref r2_6, .ref r3_7, .ref r4_8, .ref r6_10, .ref r7_11, .ref r5_9, .int (iI (S 0 0))])), (o1, .inl (k 0, 768, .inl (fun i9 : Nat => iI ((uz y1 ro (S 0 0)) i9)))), (r2_6, .inl (k 0, ct_5, .inl (fun i9 : Nat => iI ((uz u2_12 (S 0 0) (S 1 ro)) i9)))), (r3_7, .inl (k 0, ct_5, .inl (fun i9 : Nat => iI ((uz u3_13 (S 0 0) wt) i9)))), (r4_8, .inl (k 0, ct_5, .inl (fun i9 : Nat => iI ((uz u4_14 (S 0 0) lf) i9)))), (r5_9, .inl (k 0, ct_5, .inl (fun i9 : Nat => iI (u5_15 i9)))), (r6_10, .inl (k 0, ct_5, .inl (fun i9 : Nat => iI (u6_16 i9)))), (r7_11, .inl (k 0, ct_5, .inl (fun i9 : Nat => iI (u7_17 i9))))]) rfl B
      refine lv_aload_n hx hb dX7_reach_114 rfl (lv_at hl 2 rfl) ?_
      refine x_get (ci := 7) (C := RX7) (T := TX7) (N := 8) (v := .ref r5_9) B 0 rfl rfl in_X7 6 (by decide) mw_189 (fun _ h9 => h9) rfl dX7_reach_115 ?_
      refine lv_aload_n hx hb dX7_reach_118 rfl (lv_at hl 2 rfl) ?_
      refine x_get (ci := 7) (C := RX7) (T := TX7) (N := 8) (v := .int (iI (S 0 0))) B 0 rfl rfl in_X7 7 (by decide) mw_191 (fun _ h9 => h9) rfl dX7_reach_119 ?_
      refine lv_iconst (v := iI 0) hx hb dX7_reach_122 (by decide) ?_
      refine x_iast' (f := u5_15) (z := (S 0 0)) (v := 0) B 5 rfl (by omega) dX7_reach_123 (fun H locs B => ?_)
      have B := bd_to (ws' := [(so, .inr (7, [.ref o1, .ref r2_6, .ref r3_7, .ref r4_8, .ref r6_10, .ref r7_11, .ref r5_9, .int (iI (S 0 0))])), (o1, .inl (k 0, 768, .inl (fun i9 : Nat => iI ((uz y1 ro (S 0 0)) i9)))), (r2_6, .inl (k 0, ct_5, .inl (fun i9 : Nat => iI ((uz u2_12 (S 0 0) (S 1 ro)) i9)))), (r3_7, .inl (k 0, ct_5, .inl (fun i9 : Nat => iI ((uz u3_13 (S 0 0) wt) i9)))), (r4_8, .inl (k 0, ct_5, .inl (fun i9 : Nat => iI ((uz u4_14 (S 0 0) lf) i9)))), (r5_9, .inl (k 0, ct_5, .inl (fun i9 : Nat => iI ((uz u5_15 (S 0 0) 0) i9)))), (r6_10, .inl (k 0, ct_5, .inl (fun i9 : Nat => iI (u6_16 i9)))), (r7_11, .inl (k 0, ct_5, .inl (fun i9 : Nat => iI (u7_17 i9))))]) rfl B
      refine lv_aload_n hx hb dX7_reach_124 rfl (lv_at hl 2 rfl) ?_
      refine lv_dup hx hb dX7_reach_125 rfl ?_
      refine x_get (ci := 7) (C := RX7) (T := TX7) (N := 8) (v := .int (iI (S 0 0))) B 0 rfl rfl in_X7 7 (by decide) mw_191 (fun _ h9 => h9) rfl dX7_reach_126 ?_
      refine lv_iconst (v := iI 1) hx hb dX7_reach_129 (by decide) ?_
      refine y_add hx hb dX7_reach_130 ?_
      refine x_put (ci := 7) (C := RX7) (T := TX7) (N := 8) (ty := .int) (v := .int (iI ((S 0 0) + 1))) B tyX7_ok nmX7 0 rfl rfl in_X7 7 (by decide) mw_191 (fun _ h9 => h9) rfl (by decide +kernel) rfl rfl (Nat.le_of_ble_eq_true rfl) dX7_reach_131 (fun H locs B => ?_)
      have B := bd_to (ws' := [(so, .inr (7, [.ref o1, .ref r2_6, .ref r3_7, .ref r4_8, .ref r6_10, .ref r7_11, .ref r5_9, .int (iI ((S 0 0) + 1))])), (o1, .inl (k 0, 768, .inl (fun i9 : Nat => iI ((uz y1 ro (S 0 0)) i9)))), (r2_6, .inl (k 0, ct_5, .inl (fun i9 : Nat => iI ((uz u2_12 (S 0 0) (S 1 ro)) i9)))), (r3_7, .inl (k 0, ct_5, .inl (fun i9 : Nat => iI ((uz u3_13 (S 0 0) wt) i9)))), (r4_8, .inl (k 0, ct_5, .inl (fun i9 : Nat => iI ((uz u4_14 (S 0 0) lf) i9)))), (r5_9, .inl (k 0, ct_5, .inl (fun i9 : Nat => iI ((uz u5_15 (S 0 0) 0) i9)))), (r6_10, .inl (k 0, ct_5, .inl (fun i9 : Nat => iI (u6_16 i9)))), (r7_11, .inl (k 0, ct_5, .inl (fun i9 : Nat => iI (u7_17 i9))))]) rfl B
      have e_22 : ((reS S ro wt lf) 0 0) = ((S 0 0) + 1) := (by rw [re_pu hno]; exact pu_0)
      have B := bd_to (ws' := [(so, .inr (7, [.ref o1, .ref r2_6, .ref r3_7, .ref r4_8, .ref r6_10, .ref r7_11, .ref r5_9, .int (iI ((reS S ro wt lf) 0 0))])), (o1, .inl (k 0, 768, .inl (fun i9 : Nat => iI ((uz y1 ro (S 0 0)) i9)))), (r2_6, .inl (k 0, ct_5, .inl (fun i9 : Nat => iI ((uz u2_12 (S 0 0) (S 1 ro)) i9)))), (r3_7, .inl (k 0, ct_5, .inl (fun i9 : Nat => iI ((uz u3_13 (S 0 0) wt) i9)))), (r4_8, .inl (k 0, ct_5, .inl (fun i9 : Nat => iI ((uz u4_14 (S 0 0) lf) i9)))), (r5_9, .inl (k 0, ct_5, .inl (fun i9 : Nat => iI ((uz u5_15 (S 0 0) 0) i9)))), (r6_10, .inl (k 0, ct_5, .inl (fun i9 : Nat => iI (u6_16 i9)))), (r7_11, .inl (k 0, ct_5, .inl (fun i9 : Nat => iI (u7_17 i9))))]) (by first | rfl | (rw [e_22])) B
      exact k_vret B hr (⟨ct_5, r2_6, r3_7, r4_8, r5_9, r6_10, r7_11, (uz y1 ro (S 0 0)), (uz u2_12 (S 0 0) (S 1 ro)), (uz u3_13 (S 0 0) wt), (uz u4_14 (S 0 0) lf), (uz u5_15 (S 0 0) 0), u6_16, u7_17, (reS S ro wt lf), rfl, (by rw [re_pu hno]; exact SA_pu (SA_cp hA (by omega) z_18) hW), (SW_re hW hcap (by omega) (by omega) (by omega)), (by rw [re_pu hno, pu_0]; exact ⟨z_19, by omega⟩), (by omega), rfl, rfl, rfl, rfl⟩) ⟨(by first | omega | (dsimp only; omega)), (by first | omega | (dsimp only; omega))⟩ ⟨(by first | omega | (dsimp only; omega)), (by first | omega | (dsimp only; omega))⟩ dX7_reach_134
    · have zc_3 : (fnZ S ro wt lf) ≠ (-1) := jne (a := (fnZ S ro wt lf)) (b := (-1)) (by omega) (by omega) c_3
      exfalso; omega
  · have zc_2 : (fnZ S ro wt lf) ≠ (-1) := jne (a := (fnZ S ro wt lf)) (b := (-1)) (by omega) (by omega) c_2
    refine lv_aload_n hx hb dX7_reach_15 rfl (lv_at hl 1 rfl) ?_
    refine x_get (ci := 7) (C := RX7) (T := TX7) (N := 8) (v := .ref o3) B 0 rfl rfl in_X7 2 (by decide) mw_181 (fun _ h9 => h9) rfl dX7_reach_16 ?_
    refine lv_iload hx hb dX7_reach_19 (lv_at hl 0 rfl) ?_
    refine x_iald' (f := y3) (z := (fnZ S ro wt lf)) B 3 rfl (by omega) dX7_reach_21 ?_
    refine lv_seti (y := iI (S 3 (fnZ S ro wt lf))) (congrArg iI (show y3 (fnZ S ro wt lf) = S 3 (fnZ S ro wt lf) from (hA.2.1 _ (by omega) (by omega)).2.1)) ?_
    have z_23 : 0 ≤ S 3 (fnZ S ro wt lf) ∧ S 3 (fnZ S ro wt lf) < 32 := SW_w hW _ (by omega) (by omega)
    refine lv_iload_n hx hb dX7_reach_22 rfl (lv_at hl 3 rfl) ?_
    refine lv_icmp_ne (tgt := 41) hx hb dX7_reach_23 (by decide) (fun c_24 => ?_) (fun c_24 => ?_)
    · have zc_24 : (S 3 (fnZ S ro wt lf)) ≠ wt := jne (a := (S 3 (fnZ S ro wt lf))) (b := wt) (by omega) (by omega) c_24
      refine lv_iconst (v := iI 0) hx hb dX7_reach_41 (by decide) ?_
      refine lv_istore (lv' := [(5, .int (iI 0)), (4, .int (iI (fnZ S ro wt lf))), (0, .ref so), (1, .int (iI ro)), (2, .int (iI wt)), (3, .int (iI lf))]) hx hb dX7_reach_42 hl (by decide) rfl (fun ls hl => ?_)
      refine lv_iload hx hb dX7_reach_44 (lv_at hl 0 rfl) ?_
      refine lv_if_ne (tgt := 64) hx hb dX7_reach_46 (by decide) (fun c9 => absurd c9 (by decide)) (fun _ => ?_)
      refine lv_iload hx hb dX7_reach_49 (lv_at hl 1 rfl) ?_
      refine lv_iconst (v := iI (-1)) hx hb dX7_reach_51 (by decide) ?_
      refine lv_icmp_eq (tgt := 65) hx hb dX7_reach_52 (by decide) (fun c_25 => ?_) (fun c_25 => ?_)
      · have zc_25 : (fnZ S ro wt lf) = (-1) := jeq (a := (fnZ S ro wt lf)) (b := (-1)) (by omega) (by omega) c_25
        exfalso; omega
      · have zc_25 : (fnZ S ro wt lf) ≠ (-1) := jne (a := (fnZ S ro wt lf)) (b := (-1)) (by omega) (by omega) c_25
        refine lv_aload_n hx hb dX7_reach_55 rfl (lv_at hl 2 rfl) ?_
        refine x_get (ci := 7) (C := RX7) (T := TX7) (N := 8) (v := .int (iI (S 0 0))) B 0 rfl rfl in_X7 7 (by decide) mw_191 (fun _ h9 => h9) rfl dX7_reach_56 ?_
        refine lv_ldc (v := 260000) hx hb B.1.2.2.2.1 (B.1.2.2.2.2.1 _ mw_1541) dX7_reach_59 ?_
        refine lv_seti (y := iI 260000) (by decide) ?_
        refine lv_icmp_lt (tgt := 65) hx hb dX7_reach_61 (by decide) (fun c_26 => ?_) (fun c_26 => ?_)
        · have zc_26 : (S 0 0) < 260000 := jlt (a := (S 0 0)) (b := 260000) (by omega) (by omega) c_26
          have hno : ¬ (fnZ S ro wt lf ≠ -1 ∧ S 3 (fnZ S ro wt lf) = wt ∧ S 4 (fnZ S ro wt lf) = lf) := fun q9 => by omega
          have z_27 : S 0 0 < 131072 := by have q9 := hcap; rw [re_pu hno, pu_0] at q9; omega
          refine lv_aload_n hx hb dX7_reach_65 rfl (lv_at hl 2 rfl) ?_
          have B := bd_to (ws' := [(so, .inr (7, [.ref o1, .ref o2, .ref o3, .ref o4, .ref o6, .ref o7, .ref o5, .int (iI (S 0 0))])), (o1, .inl (k 0, 768, .inl (fun i9 : Nat => iI (y1 i9)))), (o2, .inl (k 0, cp, .inl (fun i9 : Nat => iI (y2 i9)))), (o3, .inl (k 0, cp, .inl (fun i9 : Nat => iI (y3 i9)))), (o4, .inl (k 0, cp, .inl (fun i9 : Nat => iI (y4 i9)))), (o5, .inl (k 0, cp, .inl (fun i9 : Nat => iI (y5 i9)))), (o6, .inl (k 0, cp, .inl (fun i9 : Nat => iI (y6 i9)))), (o7, .inl (k 0, cp, .inl (fun i9 : Nat => iI (y7 i9))))] ++ []) rfl B
          refine k_V (rest := []) (wc := [(so, .inr (7, [.ref o1, .ref o2, .ref o3, .ref o4, .ref o6, .ref o7, .ref o5, .int (iI (S 0 0))])), (o1, .inl (k 0, 768, .inl (fun i9 : Nat => iI (y1 i9)))), (o2, .inl (k 0, cp, .inl (fun i9 : Nat => iI (y2 i9)))), (o3, .inl (k 0, cp, .inl (fun i9 : Nat => iI (y3 i9)))), (o4, .inl (k 0, cp, .inl (fun i9 : Nat => iI (y4 i9)))), (o5, .inl (k 0, cp, .inl (fun i9 : Nat => iI (y5 i9)))), (o6, .inl (k 0, cp, .inl (fun i9 : Nat => iI (y6 i9)))), (o7, .inl (k 0, cp, .inl (fun i9 : Nat => iI (y7 i9))))]) (wr := []) (k_makeRoom l dC dI k so o1 o2 o3 o4 o5 o6 o7 cp y1 y2 y3 y4 y5 y6 y7 (S 0 0) ⟨hcp.1, by omega⟩) B mV_X7_makeRoom mw_1542 hl (q0 := 0) rfl rfl rfl ⟨Nat.le_of_ble_eq_true rfl, Nat.le_of_ble_eq_true rfl⟩ (Nat.le_of_ble_eq_true rfl) rfl dX7_reach_66 ⟨by dsimp only; omega, by dsimp only; omega⟩ (fun r w gc gs H locs hp B => ?_)
          obtain ⟨ct_28, r2_29, r3_30, r4_31, r5_32, r6_33, r7_34, u2_35, u3_36, u4_37, u5_38, u6_39, u7_40, z_41, z_42, z_43, rfl, hw9, rfl, rfl⟩ := hp
          rw [hw9] at B; clear hw9
          have B := bd_to (ws' := [(so, .inr (7, [.ref o1, .ref r2_29, .ref r3_30, .ref r4_31, .ref r6_33, .ref r7_34, .ref r5_32, .int (iI (S 0 0))])), (o1, .inl (k 0, 768, .inl (fun i9 : Nat => iI (y1 i9)))), (r2_29, .inl (k 0, ct_28, .inl (fun i9 : Nat => iI (u2_35 i9)))), (r3_30, .inl (k 0, ct_28, .inl (fun i9 : Nat => iI (u3_36 i9)))), (r4_31, .inl (k 0, ct_28, .inl (fun i9 : Nat => iI (u4_37 i9)))), (r5_32, .inl (k 0, ct_28, .inl (fun i9 : Nat => iI (u5_38 i9)))), (r6_33, .inl (k 0, ct_28, .inl (fun i9 : Nat => iI (u6_39 i9)))), (r7_34, .inl (k 0, ct_28, .inl (fun i9 : Nat => iI (u7_40 i9))))]) rfl B
          refine lv_aload_n hx hb dX7_reach_69 rfl (lv_at hl 2 rfl) ?_
          refine x_get (ci := 7) (C := RX7) (T := TX7) (N := 8) (v := .ref r2_29) B 0 rfl rfl in_X7 1 (by decide) mw_179 (fun _ h9 => h9) rfl dX7_reach_70 ?_
          refine lv_aload_n hx hb dX7_reach_73 rfl (lv_at hl 2 rfl) ?_
          refine x_get (ci := 7) (C := RX7) (T := TX7) (N := 8) (v := .int (iI (S 0 0))) B 0 rfl rfl in_X7 7 (by decide) mw_191 (fun _ h9 => h9) rfl dX7_reach_74 ?_
          refine lv_aload_n hx hb dX7_reach_77 rfl (lv_at hl 2 rfl) ?_
          refine x_get (ci := 7) (C := RX7) (T := TX7) (N := 8) (v := .ref o1) B 0 rfl rfl in_X7 0 (by decide) mw_177 (fun _ h9 => h9) rfl dX7_reach_78 ?_
          refine lv_iload_n hx hb dX7_reach_81 rfl (lv_at hl 3 rfl) ?_
          refine x_iald' (f := y1) (z := ro) B 1 rfl (by omega) dX7_reach_82 ?_
          refine lv_seti (y := iI (S 1 ro)) (congrArg iI (show y1 ro = S 1 ro from hA.1 _ (by omega) (by omega))) ?_
          have z_44 : -1 ≤ S 1 ro ∧ S 1 ro < S 0 0 := SW_f hW _
          refine x_iast' (f := u2_35) (z := (S 0 0)) (v := (S 1 ro)) B 2 rfl (by omega) dX7_reach_83 (fun H locs B => ?_)
          have B := bd_to (ws' := [(so, .inr (7, [.ref o1, .ref r2_29, .ref r3_30, .ref r4_31, .ref r6_33, .ref r7_34, .ref r5_32, .int (iI (S 0 0))])), (o1, .inl (k 0, 768, .inl (fun i9 : Nat => iI (y1 i9)))), (r2_29, .inl (k 0, ct_28, .inl (fun i9 : Nat => iI ((uz u2_35 (S 0 0) (S 1 ro)) i9)))), (r3_30, .inl (k 0, ct_28, .inl (fun i9 : Nat => iI (u3_36 i9)))), (r4_31, .inl (k 0, ct_28, .inl (fun i9 : Nat => iI (u4_37 i9)))), (r5_32, .inl (k 0, ct_28, .inl (fun i9 : Nat => iI (u5_38 i9)))), (r6_33, .inl (k 0, ct_28, .inl (fun i9 : Nat => iI (u6_39 i9)))), (r7_34, .inl (k 0, ct_28, .inl (fun i9 : Nat => iI (u7_40 i9))))]) rfl B
          refine lv_aload_n hx hb dX7_reach_84 rfl (lv_at hl 2 rfl) ?_
          refine x_get (ci := 7) (C := RX7) (T := TX7) (N := 8) (v := .ref o1) B 0 rfl rfl in_X7 0 (by decide) mw_177 (fun _ h9 => h9) rfl dX7_reach_85 ?_
          refine lv_iload_n hx hb dX7_reach_88 rfl (lv_at hl 3 rfl) ?_
          refine lv_aload_n hx hb dX7_reach_89 rfl (lv_at hl 2 rfl) ?_
          refine x_get (ci := 7) (C := RX7) (T := TX7) (N := 8) (v := .int (iI (S 0 0))) B 0 rfl rfl in_X7 7 (by decide) mw_191 (fun _ h9 => h9) rfl dX7_reach_90 ?_
          refine x_iast' (f := y1) (z := ro) (v := (S 0 0)) B 1 rfl (by omega) dX7_reach_93 (fun H locs B => ?_)
          have B := bd_to (ws' := [(so, .inr (7, [.ref o1, .ref r2_29, .ref r3_30, .ref r4_31, .ref r6_33, .ref r7_34, .ref r5_32, .int (iI (S 0 0))])), (o1, .inl (k 0, 768, .inl (fun i9 : Nat => iI ((uz y1 ro (S 0 0)) i9)))), (r2_29, .inl (k 0, ct_28, .inl (fun i9 : Nat => iI ((uz u2_35 (S 0 0) (S 1 ro)) i9)))), (r3_30, .inl (k 0, ct_28, .inl (fun i9 : Nat => iI (u3_36 i9)))), (r4_31, .inl (k 0, ct_28, .inl (fun i9 : Nat => iI (u4_37 i9)))), (r5_32, .inl (k 0, ct_28, .inl (fun i9 : Nat => iI (u5_38 i9)))), (r6_33, .inl (k 0, ct_28, .inl (fun i9 : Nat => iI (u6_39 i9)))), (r7_34, .inl (k 0, ct_28, .inl (fun i9 : Nat => iI (u7_40 i9))))]) rfl B
          refine lv_aload_n hx hb dX7_reach_94 rfl (lv_at hl 2 rfl) ?_
          refine x_get (ci := 7) (C := RX7) (T := TX7) (N := 8) (v := .ref r3_30) B 0 rfl rfl in_X7 2 (by decide) mw_181 (fun _ h9 => h9) rfl dX7_reach_95 ?_
          refine lv_aload_n hx hb dX7_reach_98 rfl (lv_at hl 2 rfl) ?_
          refine x_get (ci := 7) (C := RX7) (T := TX7) (N := 8) (v := .int (iI (S 0 0))) B 0 rfl rfl in_X7 7 (by decide) mw_191 (fun _ h9 => h9) rfl dX7_reach_99 ?_
          refine lv_iload_n hx hb dX7_reach_102 rfl (lv_at hl 4 rfl) ?_
          refine x_iast' (f := u3_36) (z := (S 0 0)) (v := wt) B 3 rfl (by omega) dX7_reach_103 (fun H locs B => ?_)
          have B := bd_to (ws' := [(so, .inr (7, [.ref o1, .ref r2_29, .ref r3_30, .ref r4_31, .ref r6_33, .ref r7_34, .ref r5_32, .int (iI (S 0 0))])), (o1, .inl (k 0, 768, .inl (fun i9 : Nat => iI ((uz y1 ro (S 0 0)) i9)))), (r2_29, .inl (k 0, ct_28, .inl (fun i9 : Nat => iI ((uz u2_35 (S 0 0) (S 1 ro)) i9)))), (r3_30, .inl (k 0, ct_28, .inl (fun i9 : Nat => iI ((uz u3_36 (S 0 0) wt) i9)))), (r4_31, .inl (k 0, ct_28, .inl (fun i9 : Nat => iI (u4_37 i9)))), (r5_32, .inl (k 0, ct_28, .inl (fun i9 : Nat => iI (u5_38 i9)))), (r6_33, .inl (k 0, ct_28, .inl (fun i9 : Nat => iI (u6_39 i9)))), (r7_34, .inl (k 0, ct_28, .inl (fun i9 : Nat => iI (u7_40 i9))))]) rfl B
          refine lv_aload_n hx hb dX7_reach_104 rfl (lv_at hl 2 rfl) ?_
          refine x_get (ci := 7) (C := RX7) (T := TX7) (N := 8) (v := .ref r4_31) B 0 rfl rfl in_X7 3 (by decide) mw_183 (fun _ h9 => h9) rfl dX7_reach_105 ?_
          refine lv_aload_n hx hb dX7_reach_108 rfl (lv_at hl 2 rfl) ?_
          refine x_get (ci := 7) (C := RX7) (T := TX7) (N := 8) (v := .int (iI (S 0 0))) B 0 rfl rfl in_X7 7 (by decide) mw_191 (fun _ h9 => h9) rfl dX7_reach_109 ?_
          refine lv_iload_n hx hb dX7_reach_112 rfl (lv_at hl 5 rfl) ?_
          refine x_iast' (f := u4_37) (z := (S 0 0)) (v := lf) B 4 rfl (by omega) dX7_reach_113 (fun H locs B => ?_)
          have B := bd_to (ws' := [(so, .inr (7, [.ref o1, .ref r2_29, .ref r3_30, .ref r4_31, .ref r6_33, .ref r7_34, .ref r5_32, .int (iI (S 0 0))])), (o1, .inl (k 0, 768, .inl (fun i9 : Nat => iI ((uz y1 ro (S 0 0)) i9)))), (r2_29, .inl (k 0, ct_28, .inl (fun i9 : Nat => iI ((uz u2_35 (S 0 0) (S 1 ro)) i9)))), (r3_30, .inl (k 0, ct_28, .inl (fun i9 : Nat => iI ((uz u3_36 (S 0 0) wt) i9)))), (r4_31, .inl (k 0, ct_28, .inl (fun i9 : Nat => iI ((uz u4_37 (S 0 0) lf) i9)))), (r5_32, .inl (k 0, ct_28, .inl (fun i9 : Nat => iI (u5_38 i9)))), (r6_33, .inl (k 0, ct_28, .inl (fun i9 : Nat => iI (u6_39 i9)))), (r7_34, .inl (k 0, ct_28, .inl (fun i9 : Nat => iI (u7_40 i9))))]) rfl B
          refine lv_aload_n hx hb dX7_reach_114 rfl (lv_at hl 2 rfl) ?_
          refine x_get (ci := 7) (C := RX7) (T := TX7) (N := 8) (v := .ref r5_32) B 0 rfl rfl in_X7 6 (by decide) mw_189 (fun _ h9 => h9) rfl dX7_reach_115 ?_
          refine lv_aload_n hx hb dX7_reach_118 rfl (lv_at hl 2 rfl) ?_
          refine x_get (ci := 7) (C := RX7) (T := TX7) (N := 8) (v := .int (iI (S 0 0))) B 0 rfl rfl in_X7 7 (by decide) mw_191 (fun _ h9 => h9) rfl dX7_reach_119 ?_
          refine lv_iconst (v := iI 0) hx hb dX7_reach_122 (by decide) ?_
          refine x_iast' (f := u5_38) (z := (S 0 0)) (v := 0) B 5 rfl (by omega) dX7_reach_123 (fun H locs B => ?_)
          have B := bd_to (ws' := [(so, .inr (7, [.ref o1, .ref r2_29, .ref r3_30, .ref r4_31, .ref r6_33, .ref r7_34, .ref r5_32, .int (iI (S 0 0))])), (o1, .inl (k 0, 768, .inl (fun i9 : Nat => iI ((uz y1 ro (S 0 0)) i9)))), (r2_29, .inl (k 0, ct_28, .inl (fun i9 : Nat => iI ((uz u2_35 (S 0 0) (S 1 ro)) i9)))), (r3_30, .inl (k 0, ct_28, .inl (fun i9 : Nat => iI ((uz u3_36 (S 0 0) wt) i9)))), (r4_31, .inl (k 0, ct_28, .inl (fun i9 : Nat => iI ((uz u4_37 (S 0 0) lf) i9)))), (r5_32, .inl (k 0, ct_28, .inl (fun i9 : Nat => iI ((uz u5_38 (S 0 0) 0) i9)))), (r6_33, .inl (k 0, ct_28, .inl (fun i9 : Nat => iI (u6_39 i9)))), (r7_34, .inl (k 0, ct_28, .inl (fun i9 : Nat => iI (u7_40 i9))))]) rfl B
          refine lv_aload_n hx hb dX7_reach_124 rfl (lv_at hl 2 rfl) ?_
          refine lv_dup hx hb dX7_reach_125 rfl ?_
          refine x_get (ci := 7) (C := RX7) (T := TX7) (N := 8) (v := .int (iI (S 0 0))) B 0 rfl rfl in_X7 7 (by decide) mw_191 (fun _ h9 => h9) rfl dX7_reach_126 ?_
          refine lv_iconst (v := iI 1) hx hb dX7_reach_129 (by decide) ?_
          refine y_add hx hb dX7_reach_130 ?_
          refine x_put (ci := 7) (C := RX7) (T := TX7) (N := 8) (ty := .int) (v := .int (iI ((S 0 0) + 1))) B tyX7_ok nmX7 0 rfl rfl in_X7 7 (by decide) mw_191 (fun _ h9 => h9) rfl (by decide +kernel) rfl rfl (Nat.le_of_ble_eq_true rfl) dX7_reach_131 (fun H locs B => ?_)
          have B := bd_to (ws' := [(so, .inr (7, [.ref o1, .ref r2_29, .ref r3_30, .ref r4_31, .ref r6_33, .ref r7_34, .ref r5_32, .int (iI ((S 0 0) + 1))])), (o1, .inl (k 0, 768, .inl (fun i9 : Nat => iI ((uz y1 ro (S 0 0)) i9)))), (r2_29, .inl (k 0, ct_28, .inl (fun i9 : Nat => iI ((uz u2_35 (S 0 0) (S 1 ro)) i9)))), (r3_30, .inl (k 0, ct_28, .inl (fun i9 : Nat => iI ((uz u3_36 (S 0 0) wt) i9)))), (r4_31, .inl (k 0, ct_28, .inl (fun i9 : Nat => iI ((uz u4_37 (S 0 0) lf) i9)))), (r5_32, .inl (k 0, ct_28, .inl (fun i9 : Nat => iI ((uz u5_38 (S 0 0) 0) i9)))), (r6_33, .inl (k 0, ct_28, .inl (fun i9 : Nat => iI (u6_39 i9)))), (r7_34, .inl (k 0, ct_28, .inl (fun i9 : Nat => iI (u7_40 i9))))]) rfl B
          have e_45 : ((reS S ro wt lf) 0 0) = ((S 0 0) + 1) := (by rw [re_pu hno]; exact pu_0)
          have B := bd_to (ws' := [(so, .inr (7, [.ref o1, .ref r2_29, .ref r3_30, .ref r4_31, .ref r6_33, .ref r7_34, .ref r5_32, .int (iI ((reS S ro wt lf) 0 0))])), (o1, .inl (k 0, 768, .inl (fun i9 : Nat => iI ((uz y1 ro (S 0 0)) i9)))), (r2_29, .inl (k 0, ct_28, .inl (fun i9 : Nat => iI ((uz u2_35 (S 0 0) (S 1 ro)) i9)))), (r3_30, .inl (k 0, ct_28, .inl (fun i9 : Nat => iI ((uz u3_36 (S 0 0) wt) i9)))), (r4_31, .inl (k 0, ct_28, .inl (fun i9 : Nat => iI ((uz u4_37 (S 0 0) lf) i9)))), (r5_32, .inl (k 0, ct_28, .inl (fun i9 : Nat => iI ((uz u5_38 (S 0 0) 0) i9)))), (r6_33, .inl (k 0, ct_28, .inl (fun i9 : Nat => iI (u6_39 i9)))), (r7_34, .inl (k 0, ct_28, .inl (fun i9 : Nat => iI (u7_40 i9))))]) (by first | rfl | (rw [e_45])) B
          exact k_vret B hr (⟨ct_28, r2_29, r3_30, r4_31, r5_32, r6_33, r7_34, (uz y1 ro (S 0 0)), (uz u2_35 (S 0 0) (S 1 ro)), (uz u3_36 (S 0 0) wt), (uz u4_37 (S 0 0) lf), (uz u5_38 (S 0 0) 0), u6_39, u7_40, (reS S ro wt lf), rfl, (by rw [re_pu hno]; exact SA_pu (SA_cp hA (by omega) z_41) hW), (SW_re hW hcap (by omega) (by omega) (by omega)), (by rw [re_pu hno, pu_0]; exact ⟨z_42, by omega⟩), (by omega), rfl, rfl, rfl, rfl⟩) ⟨(by first | omega | (dsimp only; omega)), (by first | omega | (dsimp only; omega))⟩ ⟨(by first | omega | (dsimp only; omega)), (by first | omega | (dsimp only; omega))⟩ dX7_reach_134
        · have zc_26 : 260000 ≤ (S 0 0) := jnlt (a := (S 0 0)) (b := 260000) (by omega) (by omega) c_26
          exfalso; omega
    · have zc_24 : (S 3 (fnZ S ro wt lf)) = wt := jeq (a := (S 3 (fnZ S ro wt lf))) (b := wt) (by omega) (by omega) c_24
      refine lv_aload_n hx hb dX7_reach_26 rfl (lv_at hl 1 rfl) ?_
      refine x_get (ci := 7) (C := RX7) (T := TX7) (N := 8) (v := .ref o4) B 0 rfl rfl in_X7 3 (by decide) mw_183 (fun _ h9 => h9) rfl dX7_reach_27 ?_
      refine lv_iload hx hb dX7_reach_30 (lv_at hl 0 rfl) ?_
      refine x_iald' (f := y4) (z := (fnZ S ro wt lf)) B 4 rfl (by omega) dX7_reach_32 ?_
      refine lv_seti (y := iI (S 4 (fnZ S ro wt lf))) (congrArg iI (show y4 (fnZ S ro wt lf) = S 4 (fnZ S ro wt lf) from (hA.2.1 _ (by omega) (by omega)).2.2.1)) ?_
      have z_46 : 0 ≤ S 4 (fnZ S ro wt lf) ∧ S 4 (fnZ S ro wt lf) ≤ 1000 * S 8 (fnZ S ro wt lf) := SW_l hW _ (by omega) (by omega)
      have z_47 : 0 ≤ S 8 (fnZ S ro wt lf) ∧ S 8 (fnZ S ro wt lf) ≤ 767 := SW_r hW _ (by omega) (by omega)
      refine lv_iload_n hx hb dX7_reach_33 rfl (lv_at hl 4 rfl) ?_
      refine lv_icmp_ne (tgt := 41) hx hb dX7_reach_34 (by decide) (fun c_48 => ?_) (fun c_48 => ?_)
      · have zc_48 : (S 4 (fnZ S ro wt lf)) ≠ lf := jne (a := (S 4 (fnZ S ro wt lf))) (b := lf) (by omega) (by omega) c_48
        refine lv_iconst (v := iI 0) hx hb dX7_reach_41 (by decide) ?_
        refine lv_istore (lv' := [(5, .int (iI 0)), (4, .int (iI (fnZ S ro wt lf))), (0, .ref so), (1, .int (iI ro)), (2, .int (iI wt)), (3, .int (iI lf))]) hx hb dX7_reach_42 hl (by decide) rfl (fun ls hl => ?_)
        refine lv_iload hx hb dX7_reach_44 (lv_at hl 0 rfl) ?_
        refine lv_if_ne (tgt := 64) hx hb dX7_reach_46 (by decide) (fun c9 => absurd c9 (by decide)) (fun _ => ?_)
        refine lv_iload hx hb dX7_reach_49 (lv_at hl 1 rfl) ?_
        refine lv_iconst (v := iI (-1)) hx hb dX7_reach_51 (by decide) ?_
        refine lv_icmp_eq (tgt := 65) hx hb dX7_reach_52 (by decide) (fun c_49 => ?_) (fun c_49 => ?_)
        · have zc_49 : (fnZ S ro wt lf) = (-1) := jeq (a := (fnZ S ro wt lf)) (b := (-1)) (by omega) (by omega) c_49
          exfalso; omega
        · have zc_49 : (fnZ S ro wt lf) ≠ (-1) := jne (a := (fnZ S ro wt lf)) (b := (-1)) (by omega) (by omega) c_49
          refine lv_aload_n hx hb dX7_reach_55 rfl (lv_at hl 2 rfl) ?_
          refine x_get (ci := 7) (C := RX7) (T := TX7) (N := 8) (v := .int (iI (S 0 0))) B 0 rfl rfl in_X7 7 (by decide) mw_191 (fun _ h9 => h9) rfl dX7_reach_56 ?_
          refine lv_ldc (v := 260000) hx hb B.1.2.2.2.1 (B.1.2.2.2.2.1 _ mw_1541) dX7_reach_59 ?_
          refine lv_seti (y := iI 260000) (by decide) ?_
          refine lv_icmp_lt (tgt := 65) hx hb dX7_reach_61 (by decide) (fun c_50 => ?_) (fun c_50 => ?_)
          · have zc_50 : (S 0 0) < 260000 := jlt (a := (S 0 0)) (b := 260000) (by omega) (by omega) c_50
            have hno : ¬ (fnZ S ro wt lf ≠ -1 ∧ S 3 (fnZ S ro wt lf) = wt ∧ S 4 (fnZ S ro wt lf) = lf) := fun q9 => by omega
            have z_51 : S 0 0 < 131072 := by have q9 := hcap; rw [re_pu hno, pu_0] at q9; omega
            refine lv_aload_n hx hb dX7_reach_65 rfl (lv_at hl 2 rfl) ?_
            have B := bd_to (ws' := [(so, .inr (7, [.ref o1, .ref o2, .ref o3, .ref o4, .ref o6, .ref o7, .ref o5, .int (iI (S 0 0))])), (o1, .inl (k 0, 768, .inl (fun i9 : Nat => iI (y1 i9)))), (o2, .inl (k 0, cp, .inl (fun i9 : Nat => iI (y2 i9)))), (o3, .inl (k 0, cp, .inl (fun i9 : Nat => iI (y3 i9)))), (o4, .inl (k 0, cp, .inl (fun i9 : Nat => iI (y4 i9)))), (o5, .inl (k 0, cp, .inl (fun i9 : Nat => iI (y5 i9)))), (o6, .inl (k 0, cp, .inl (fun i9 : Nat => iI (y6 i9)))), (o7, .inl (k 0, cp, .inl (fun i9 : Nat => iI (y7 i9))))] ++ []) rfl B
            refine k_V (rest := []) (wc := [(so, .inr (7, [.ref o1, .ref o2, .ref o3, .ref o4, .ref o6, .ref o7, .ref o5, .int (iI (S 0 0))])), (o1, .inl (k 0, 768, .inl (fun i9 : Nat => iI (y1 i9)))), (o2, .inl (k 0, cp, .inl (fun i9 : Nat => iI (y2 i9)))), (o3, .inl (k 0, cp, .inl (fun i9 : Nat => iI (y3 i9)))), (o4, .inl (k 0, cp, .inl (fun i9 : Nat => iI (y4 i9)))), (o5, .inl (k 0, cp, .inl (fun i9 : Nat => iI (y5 i9)))), (o6, .inl (k 0, cp, .inl (fun i9 : Nat => iI (y6 i9)))), (o7, .inl (k 0, cp, .inl (fun i9 : Nat => iI (y7 i9))))]) (wr := []) (k_makeRoom l dC dI k so o1 o2 o3 o4 o5 o6 o7 cp y1 y2 y3 y4 y5 y6 y7 (S 0 0) ⟨hcp.1, by omega⟩) B mV_X7_makeRoom mw_1542 hl (q0 := 0) rfl rfl rfl ⟨Nat.le_of_ble_eq_true rfl, Nat.le_of_ble_eq_true rfl⟩ (Nat.le_of_ble_eq_true rfl) rfl dX7_reach_66 ⟨by dsimp only; omega, by dsimp only; omega⟩ (fun r w gc gs H locs hp B => ?_)
            obtain ⟨ct_52, r2_53, r3_54, r4_55, r5_56, r6_57, r7_58, u2_59, u3_60, u4_61, u5_62, u6_63, u7_64, z_65, z_66, z_67, rfl, hw9, rfl, rfl⟩ := hp
            rw [hw9] at B; clear hw9
            have B := bd_to (ws' := [(so, .inr (7, [.ref o1, .ref r2_53, .ref r3_54, .ref r4_55, .ref r6_57, .ref r7_58, .ref r5_56, .int (iI (S 0 0))])), (o1, .inl (k 0, 768, .inl (fun i9 : Nat => iI (y1 i9)))), (r2_53, .inl (k 0, ct_52, .inl (fun i9 : Nat => iI (u2_59 i9)))), (r3_54, .inl (k 0, ct_52, .inl (fun i9 : Nat => iI (u3_60 i9)))), (r4_55, .inl (k 0, ct_52, .inl (fun i9 : Nat => iI (u4_61 i9)))), (r5_56, .inl (k 0, ct_52, .inl (fun i9 : Nat => iI (u5_62 i9)))), (r6_57, .inl (k 0, ct_52, .inl (fun i9 : Nat => iI (u6_63 i9)))), (r7_58, .inl (k 0, ct_52, .inl (fun i9 : Nat => iI (u7_64 i9))))]) rfl B
            refine lv_aload_n hx hb dX7_reach_69 rfl (lv_at hl 2 rfl) ?_
            refine x_get (ci := 7) (C := RX7) (T := TX7) (N := 8) (v := .ref r2_53) B 0 rfl rfl in_X7 1 (by decide) mw_179 (fun _ h9 => h9) rfl dX7_reach_70 ?_
            refine lv_aload_n hx hb dX7_reach_73 rfl (lv_at hl 2 rfl) ?_
            refine x_get (ci := 7) (C := RX7) (T := TX7) (N := 8) (v := .int (iI (S 0 0))) B 0 rfl rfl in_X7 7 (by decide) mw_191 (fun _ h9 => h9) rfl dX7_reach_74 ?_
            refine lv_aload_n hx hb dX7_reach_77 rfl (lv_at hl 2 rfl) ?_
            refine x_get (ci := 7) (C := RX7) (T := TX7) (N := 8) (v := .ref o1) B 0 rfl rfl in_X7 0 (by decide) mw_177 (fun _ h9 => h9) rfl dX7_reach_78 ?_
            refine lv_iload_n hx hb dX7_reach_81 rfl (lv_at hl 3 rfl) ?_
            refine x_iald' (f := y1) (z := ro) B 1 rfl (by omega) dX7_reach_82 ?_
            refine lv_seti (y := iI (S 1 ro)) (congrArg iI (show y1 ro = S 1 ro from hA.1 _ (by omega) (by omega))) ?_
            have z_68 : -1 ≤ S 1 ro ∧ S 1 ro < S 0 0 := SW_f hW _
            refine x_iast' (f := u2_59) (z := (S 0 0)) (v := (S 1 ro)) B 2 rfl (by omega) dX7_reach_83 (fun H locs B => ?_)
            have B := bd_to (ws' := [(so, .inr (7, [.ref o1, .ref r2_53, .ref r3_54, .ref r4_55, .ref r6_57, .ref r7_58, .ref r5_56, .int (iI (S 0 0))])), (o1, .inl (k 0, 768, .inl (fun i9 : Nat => iI (y1 i9)))), (r2_53, .inl (k 0, ct_52, .inl (fun i9 : Nat => iI ((uz u2_59 (S 0 0) (S 1 ro)) i9)))), (r3_54, .inl (k 0, ct_52, .inl (fun i9 : Nat => iI (u3_60 i9)))), (r4_55, .inl (k 0, ct_52, .inl (fun i9 : Nat => iI (u4_61 i9)))), (r5_56, .inl (k 0, ct_52, .inl (fun i9 : Nat => iI (u5_62 i9)))), (r6_57, .inl (k 0, ct_52, .inl (fun i9 : Nat => iI (u6_63 i9)))), (r7_58, .inl (k 0, ct_52, .inl (fun i9 : Nat => iI (u7_64 i9))))]) rfl B
            refine lv_aload_n hx hb dX7_reach_84 rfl (lv_at hl 2 rfl) ?_
            refine x_get (ci := 7) (C := RX7) (T := TX7) (N := 8) (v := .ref o1) B 0 rfl rfl in_X7 0 (by decide) mw_177 (fun _ h9 => h9) rfl dX7_reach_85 ?_
            refine lv_iload_n hx hb dX7_reach_88 rfl (lv_at hl 3 rfl) ?_
            refine lv_aload_n hx hb dX7_reach_89 rfl (lv_at hl 2 rfl) ?_
            refine x_get (ci := 7) (C := RX7) (T := TX7) (N := 8) (v := .int (iI (S 0 0))) B 0 rfl rfl in_X7 7 (by decide) mw_191 (fun _ h9 => h9) rfl dX7_reach_90 ?_
            refine x_iast' (f := y1) (z := ro) (v := (S 0 0)) B 1 rfl (by omega) dX7_reach_93 (fun H locs B => ?_)
            have B := bd_to (ws' := [(so, .inr (7, [.ref o1, .ref r2_53, .ref r3_54, .ref r4_55, .ref r6_57, .ref r7_58, .ref r5_56, .int (iI (S 0 0))])), (o1, .inl (k 0, 768, .inl (fun i9 : Nat => iI ((uz y1 ro (S 0 0)) i9)))), (r2_53, .inl (k 0, ct_52, .inl (fun i9 : Nat => iI ((uz u2_59 (S 0 0) (S 1 ro)) i9)))), (r3_54, .inl (k 0, ct_52, .inl (fun i9 : Nat => iI (u3_60 i9)))), (r4_55, .inl (k 0, ct_52, .inl (fun i9 : Nat => iI (u4_61 i9)))), (r5_56, .inl (k 0, ct_52, .inl (fun i9 : Nat => iI (u5_62 i9)))), (r6_57, .inl (k 0, ct_52, .inl (fun i9 : Nat => iI (u6_63 i9)))), (r7_58, .inl (k 0, ct_52, .inl (fun i9 : Nat => iI (u7_64 i9))))]) rfl B
            refine lv_aload_n hx hb dX7_reach_94 rfl (lv_at hl 2 rfl) ?_
            refine x_get (ci := 7) (C := RX7) (T := TX7) (N := 8) (v := .ref r3_54) B 0 rfl rfl in_X7 2 (by decide) mw_181 (fun _ h9 => h9) rfl dX7_reach_95 ?_
            refine lv_aload_n hx hb dX7_reach_98 rfl (lv_at hl 2 rfl) ?_
            refine x_get (ci := 7) (C := RX7) (T := TX7) (N := 8) (v := .int (iI (S 0 0))) B 0 rfl rfl in_X7 7 (by decide) mw_191 (fun _ h9 => h9) rfl dX7_reach_99 ?_
            refine lv_iload_n hx hb dX7_reach_102 rfl (lv_at hl 4 rfl) ?_
            refine x_iast' (f := u3_60) (z := (S 0 0)) (v := wt) B 3 rfl (by omega) dX7_reach_103 (fun H locs B => ?_)
            have B := bd_to (ws' := [(so, .inr (7, [.ref o1, .ref r2_53, .ref r3_54, .ref r4_55, .ref r6_57, .ref r7_58, .ref r5_56, .int (iI (S 0 0))])), (o1, .inl (k 0, 768, .inl (fun i9 : Nat => iI ((uz y1 ro (S 0 0)) i9)))), (r2_53, .inl (k 0, ct_52, .inl (fun i9 : Nat => iI ((uz u2_59 (S 0 0) (S 1 ro)) i9)))), (r3_54, .inl (k 0, ct_52, .inl (fun i9 : Nat => iI ((uz u3_60 (S 0 0) wt) i9)))), (r4_55, .inl (k 0, ct_52, .inl (fun i9 : Nat => iI (u4_61 i9)))), (r5_56, .inl (k 0, ct_52, .inl (fun i9 : Nat => iI (u5_62 i9)))), (r6_57, .inl (k 0, ct_52, .inl (fun i9 : Nat => iI (u6_63 i9)))), (r7_58, .inl (k 0, ct_52, .inl (fun i9 : Nat => iI (u7_64 i9))))]) rfl B
            refine lv_aload_n hx hb dX7_reach_104 rfl (lv_at hl 2 rfl) ?_
            refine x_get (ci := 7) (C := RX7) (T := TX7) (N := 8) (v := .ref r4_55) B 0 rfl rfl in_X7 3 (by decide) mw_183 (fun _ h9 => h9) rfl dX7_reach_105 ?_
            refine lv_aload_n hx hb dX7_reach_108 rfl (lv_at hl 2 rfl) ?_
            refine x_get (ci := 7) (C := RX7) (T := TX7) (N := 8) (v := .int (iI (S 0 0))) B 0 rfl rfl in_X7 7 (by decide) mw_191 (fun _ h9 => h9) rfl dX7_reach_109 ?_
            refine lv_iload_n hx hb dX7_reach_112 rfl (lv_at hl 5 rfl) ?_
            refine x_iast' (f := u4_61) (z := (S 0 0)) (v := lf) B 4 rfl (by omega) dX7_reach_113 (fun H locs B => ?_)
            have B := bd_to (ws' := [(so, .inr (7, [.ref o1, .ref r2_53, .ref r3_54, .ref r4_55, .ref r6_57, .ref r7_58, .ref r5_56, .int (iI (S 0 0))])), (o1, .inl (k 0, 768, .inl (fun i9 : Nat => iI ((uz y1 ro (S 0 0)) i9)))), (r2_53, .inl (k 0, ct_52, .inl (fun i9 : Nat => iI ((uz u2_59 (S 0 0) (S 1 ro)) i9)))), (r3_54, .inl (k 0, ct_52, .inl (fun i9 : Nat => iI ((uz u3_60 (S 0 0) wt) i9)))), (r4_55, .inl (k 0, ct_52, .inl (fun i9 : Nat => iI ((uz u4_61 (S 0 0) lf) i9)))), (r5_56, .inl (k 0, ct_52, .inl (fun i9 : Nat => iI (u5_62 i9)))), (r6_57, .inl (k 0, ct_52, .inl (fun i9 : Nat => iI (u6_63 i9)))), (r7_58, .inl (k 0, ct_52, .inl (fun i9 : Nat => iI (u7_64 i9))))]) rfl B
            refine lv_aload_n hx hb dX7_reach_114 rfl (lv_at hl 2 rfl) ?_
            refine x_get (ci := 7) (C := RX7) (T := TX7) (N := 8) (v := .ref r5_56) B 0 rfl rfl in_X7 6 (by decide) mw_189 (fun _ h9 => h9) rfl dX7_reach_115 ?_
            refine lv_aload_n hx hb dX7_reach_118 rfl (lv_at hl 2 rfl) ?_
            refine x_get (ci := 7) (C := RX7) (T := TX7) (N := 8) (v := .int (iI (S 0 0))) B 0 rfl rfl in_X7 7 (by decide) mw_191 (fun _ h9 => h9) rfl dX7_reach_119 ?_
            refine lv_iconst (v := iI 0) hx hb dX7_reach_122 (by decide) ?_
            refine x_iast' (f := u5_62) (z := (S 0 0)) (v := 0) B 5 rfl (by omega) dX7_reach_123 (fun H locs B => ?_)
            have B := bd_to (ws' := [(so, .inr (7, [.ref o1, .ref r2_53, .ref r3_54, .ref r4_55, .ref r6_57, .ref r7_58, .ref r5_56, .int (iI (S 0 0))])), (o1, .inl (k 0, 768, .inl (fun i9 : Nat => iI ((uz y1 ro (S 0 0)) i9)))), (r2_53, .inl (k 0, ct_52, .inl (fun i9 : Nat => iI ((uz u2_59 (S 0 0) (S 1 ro)) i9)))), (r3_54, .inl (k 0, ct_52, .inl (fun i9 : Nat => iI ((uz u3_60 (S 0 0) wt) i9)))), (r4_55, .inl (k 0, ct_52, .inl (fun i9 : Nat => iI ((uz u4_61 (S 0 0) lf) i9)))), (r5_56, .inl (k 0, ct_52, .inl (fun i9 : Nat => iI ((uz u5_62 (S 0 0) 0) i9)))), (r6_57, .inl (k 0, ct_52, .inl (fun i9 : Nat => iI (u6_63 i9)))), (r7_58, .inl (k 0, ct_52, .inl (fun i9 : Nat => iI (u7_64 i9))))]) rfl B
            refine lv_aload_n hx hb dX7_reach_124 rfl (lv_at hl 2 rfl) ?_
            refine lv_dup hx hb dX7_reach_125 rfl ?_
            refine x_get (ci := 7) (C := RX7) (T := TX7) (N := 8) (v := .int (iI (S 0 0))) B 0 rfl rfl in_X7 7 (by decide) mw_191 (fun _ h9 => h9) rfl dX7_reach_126 ?_
            refine lv_iconst (v := iI 1) hx hb dX7_reach_129 (by decide) ?_
            refine y_add hx hb dX7_reach_130 ?_
            refine x_put (ci := 7) (C := RX7) (T := TX7) (N := 8) (ty := .int) (v := .int (iI ((S 0 0) + 1))) B tyX7_ok nmX7 0 rfl rfl in_X7 7 (by decide) mw_191 (fun _ h9 => h9) rfl (by decide +kernel) rfl rfl (Nat.le_of_ble_eq_true rfl) dX7_reach_131 (fun H locs B => ?_)
            have B := bd_to (ws' := [(so, .inr (7, [.ref o1, .ref r2_53, .ref r3_54, .ref r4_55, .ref r6_57, .ref r7_58, .ref r5_56, .int (iI ((S 0 0) + 1))])), (o1, .inl (k 0, 768, .inl (fun i9 : Nat => iI ((uz y1 ro (S 0 0)) i9)))), (r2_53, .inl (k 0, ct_52, .inl (fun i9 : Nat => iI ((uz u2_59 (S 0 0) (S 1 ro)) i9)))), (r3_54, .inl (k 0, ct_52, .inl (fun i9 : Nat => iI ((uz u3_60 (S 0 0) wt) i9)))), (r4_55, .inl (k 0, ct_52, .inl (fun i9 : Nat => iI ((uz u4_61 (S 0 0) lf) i9)))), (r5_56, .inl (k 0, ct_52, .inl (fun i9 : Nat => iI ((uz u5_62 (S 0 0) 0) i9)))), (r6_57, .inl (k 0, ct_52, .inl (fun i9 : Nat => iI (u6_63 i9)))), (r7_58, .inl (k 0, ct_52, .inl (fun i9 : Nat => iI (u7_64 i9))))]) rfl B
            have e_69 : ((reS S ro wt lf) 0 0) = ((S 0 0) + 1) := (by rw [re_pu hno]; exact pu_0)
            have B := bd_to (ws' := [(so, .inr (7, [.ref o1, .ref r2_53, .ref r3_54, .ref r4_55, .ref r6_57, .ref r7_58, .ref r5_56, .int (iI ((reS S ro wt lf) 0 0))])), (o1, .inl (k 0, 768, .inl (fun i9 : Nat => iI ((uz y1 ro (S 0 0)) i9)))), (r2_53, .inl (k 0, ct_52, .inl (fun i9 : Nat => iI ((uz u2_59 (S 0 0) (S 1 ro)) i9)))), (r3_54, .inl (k 0, ct_52, .inl (fun i9 : Nat => iI ((uz u3_60 (S 0 0) wt) i9)))), (r4_55, .inl (k 0, ct_52, .inl (fun i9 : Nat => iI ((uz u4_61 (S 0 0) lf) i9)))), (r5_56, .inl (k 0, ct_52, .inl (fun i9 : Nat => iI ((uz u5_62 (S 0 0) 0) i9)))), (r6_57, .inl (k 0, ct_52, .inl (fun i9 : Nat => iI (u6_63 i9)))), (r7_58, .inl (k 0, ct_52, .inl (fun i9 : Nat => iI (u7_64 i9))))]) (by first | rfl | (rw [e_69])) B
            exact k_vret B hr (⟨ct_52, r2_53, r3_54, r4_55, r5_56, r6_57, r7_58, (uz y1 ro (S 0 0)), (uz u2_59 (S 0 0) (S 1 ro)), (uz u3_60 (S 0 0) wt), (uz u4_61 (S 0 0) lf), (uz u5_62 (S 0 0) 0), u6_63, u7_64, (reS S ro wt lf), rfl, (by rw [re_pu hno]; exact SA_pu (SA_cp hA (by omega) z_65) hW), (SW_re hW hcap (by omega) (by omega) (by omega)), (by rw [re_pu hno, pu_0]; exact ⟨z_66, by omega⟩), (by omega), rfl, rfl, rfl, rfl⟩) ⟨(by first | omega | (dsimp only; omega)), (by first | omega | (dsimp only; omega))⟩ ⟨(by first | omega | (dsimp only; omega)), (by first | omega | (dsimp only; omega))⟩ dX7_reach_134
          · have zc_50 : 260000 ≤ (S 0 0) := jnlt (a := (S 0 0)) (b := 260000) (by omega) (by omega) c_50
            exfalso; omega
      · have zc_48 : (S 4 (fnZ S ro wt lf)) = lf := jeq (a := (S 4 (fnZ S ro wt lf))) (b := lf) (by omega) (by omega) c_48
        refine lv_iconst (v := iI 1) hx hb dX7_reach_37 (by decide) ?_
        refine lv_goto (tgt := 42) hx hb dX7_reach_38 (by decide) ?_
        refine lv_istore (lv' := [(5, .int (iI 1)), (4, .int (iI (fnZ S ro wt lf))), (0, .ref so), (1, .int (iI ro)), (2, .int (iI wt)), (3, .int (iI lf))]) hx hb dX7_reach_42 hl (by decide) rfl (fun ls hl => ?_)
        refine lv_iload hx hb dX7_reach_44 (lv_at hl 0 rfl) ?_
        refine lv_if_ne (tgt := 64) hx hb dX7_reach_46 (by decide) (fun _ => ?_) (fun c9 => absurd c9 (by decide))
        have e_70 : ((reS S ro wt lf) 0 0) = (S 0 0) := (by rw [(re_has (by omega) (by omega) (by omega))])
        have B := bd_to (ws' := [(so, .inr (7, [.ref o1, .ref o2, .ref o3, .ref o4, .ref o6, .ref o7, .ref o5, .int (iI ((reS S ro wt lf) 0 0))])), (o1, .inl (k 0, 768, .inl (fun i9 : Nat => iI (y1 i9)))), (o2, .inl (k 0, cp, .inl (fun i9 : Nat => iI (y2 i9)))), (o3, .inl (k 0, cp, .inl (fun i9 : Nat => iI (y3 i9)))), (o4, .inl (k 0, cp, .inl (fun i9 : Nat => iI (y4 i9)))), (o5, .inl (k 0, cp, .inl (fun i9 : Nat => iI (y5 i9)))), (o6, .inl (k 0, cp, .inl (fun i9 : Nat => iI (y6 i9)))), (o7, .inl (k 0, cp, .inl (fun i9 : Nat => iI (y7 i9))))]) (by first | rfl | (rw [e_70])) B
        exact k_vret B hr (⟨cp, o2, o3, o4, o5, o6, o7, y1, y2, y3, y4, y5, y6, y7, (reS S ro wt lf), rfl, (by rw [(re_has (by omega) (by omega) (by omega))]; exact hA), (SW_re hW hcap (by omega) (by omega) (by omega)), (by rw [(re_has (by omega) (by omega) (by omega))]; exact hcp), (by omega), rfl, rfl, rfl, rfl⟩) ⟨(by first | omega | (dsimp only; omega)), (by first | omega | (dsimp only; omega))⟩ ⟨(by first | omega | (dsimp only; omega)), (by first | omega | (dsimp only; omega))⟩ dX7_reach_64

end
