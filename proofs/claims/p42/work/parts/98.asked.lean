section
/-- a heading of the variant; the heading with so many ahead of it; terms ahead of one; the term with so many ahead -/
abbrev hdP (T : Nat → Int → Int → Int → Int) (v i : Int) : Prop := T 1 i 0 0 = 1 ∧ thB T i v
def haF (T : Nat → Int → Int → Int → Int) (v ix : Int) : Nat → Int → Int → Int
  | 0, _, _ => -1
  | f + 1, i, a => if hdP T v i then (if a = ix then i else haF T v ix f (i + 1) (a + 1)) else haF T v ix f (i + 1) a
def haZ (T : Nat → Int → Int → Int → Int) (v ix : Int) : Int := haF T v ix (Int.toNat (T 0 0 0 0)) 0 0
def erP (T : Nat → Int → Int → Int → Int) (o t : Int) : Prop := T 15 o 0 0 < T 15 t 0 0 ∨ (T 15 o 0 0 = T 15 t 0 0 ∧ o < t)
def taF (T : Nat → Int → Int → Int → Int) (M : Nat → Int → Int) (t : Int) : Nat → Int
  | 0 => 0
  | o + 1 => taF T M t o + (if M 11 (o : Int) ≠ 0 ∧ (T 15 (o : Int) 0 0 < T 15 t 0 0 ∨ (T 15 (o : Int) 0 0 = T 15 t 0 0 ∧ (o : Int) < t)) then 1 else 0)
def tmF (T : Nat → Int → Int → Int → Int) (M : Nat → Int → Int) (ix : Int) : Nat → Int → Int
  | 0, _ => -1
  | f + 1, t => if M 11 t ≠ 0 ∧ taF T M t 8 = ix then t else tmF T M ix f (t + 1)
section AS1
variable {T : Nat → Int → Int → Int → Int} {M : Nat → Int → Int} {v ix q a t : Int}
theorem haF_s (h : q < T 0 0 0 0) : haF T v ix (Int.toNat (T 0 0 0 0 - q)) q a = if hdP T v q then (if a = ix then q else haF T v ix (Int.toNat (T 0 0 0 0 - (q + 1))) (q + 1) (a + 1)) else haF T v ix (Int.toNat (T 0 0 0 0 - (q + 1))) (q + 1) a := by
  rw [show Int.toNat (T 0 0 0 0 - q) = Int.toNat (T 0 0 0 0 - (q + 1)) + 1 by omega]
  rfl
theorem taF_s (h : 0 ≤ q) : taF T M t (Int.toNat (q + 1)) = taF T M t (Int.toNat q) + (if M 11 q ≠ 0 ∧ (T 15 q 0 0 < T 15 t 0 0 ∨ (T 15 q 0 0 = T 15 t 0 0 ∧ q < t)) then 1 else 0) := by
  rw [show Int.toNat (q + 1) = Int.toNat q + 1 by omega]
  simp only [taF]
  rw [show ((Int.toNat q : Nat) : Int) = q by omega]
theorem tmF_s (h : q < 8) : tmF T M ix (Int.toNat (8 - q)) q = if M 11 q ≠ 0 ∧ taF T M q 8 = ix then q else tmF T M ix (Int.toNat (8 - (q + 1))) (q + 1) := by
  rw [show Int.toNat (8 - q) = Int.toNat (8 - (q + 1)) + 1 by omega]
  rfl
end AS1

theorem mw_1171 : (Jvm.Cond.fieldLink "Galleyforge$Layout" (175 : Nat) "Galleyforge$Block" "kind" "I") ∈ gt := gt_at 1241 (by decide +kernel) (by decide +kernel)
theorem mw_1783 : (Jvm.Cond.methodLink "Galleyforge$Layout" (178 : Nat) ({ cls := "Galleyforge$Block", name := "isThere", desc := "(I)Z" } : Jvm.MethodName)) ∈ gt := gt_at 1853 (by decide +kernel) (by decide +kernel)
theorem dX1_isHeading_0 : decode cX1_isHeading 0 = .ok (.aload_n 0, 1) := by decide +kernel
theorem dX1_isHeading_1 : decode cX1_isHeading 1 = .ok (.getfield 43, 3) := by decide +kernel
theorem dX1_isHeading_4 : decode cX1_isHeading 4 = .ok (.getfield 79, 3) := by decide +kernel
theorem dX1_isHeading_7 : decode cX1_isHeading 7 = .ok (.iload_n 1, 1) := by decide +kernel
theorem dX1_isHeading_8 : decode cX1_isHeading 8 = .ok (.invokevirtual 114, 3) := by decide +kernel
theorem dX1_isHeading_11 : decode cX1_isHeading 11 = .ok (.checkcast 118, 3) := by decide +kernel
theorem dX1_isHeading_14 : decode cX1_isHeading 14 = .ok (.astore_n 2, 1) := by decide +kernel
theorem dX1_isHeading_15 : decode cX1_isHeading 15 = .ok (.aload_n 2, 1) := by decide +kernel
theorem dX1_isHeading_16 : decode cX1_isHeading 16 = .ok (.getfield 175, 3) := by decide +kernel
theorem dX1_isHeading_19 : decode cX1_isHeading 19 = .ok (.iconst 1, 1) := by decide +kernel
theorem dX1_isHeading_20 : decode cX1_isHeading 20 = .ok (.if_icmp .ne 18, 3) := by decide +kernel
theorem dX1_isHeading_23 : decode cX1_isHeading 23 = .ok (.aload_n 2, 1) := by decide +kernel
theorem dX1_isHeading_24 : decode cX1_isHeading 24 = .ok (.aload_n 0, 1) := by decide +kernel
theorem dX1_isHeading_25 : decode cX1_isHeading 25 = .ok (.getfield 47, 3) := by decide +kernel
theorem dX1_isHeading_28 : decode cX1_isHeading 28 = .ok (.invokevirtual 178, 3) := by decide +kernel
theorem dX1_isHeading_31 : decode cX1_isHeading 31 = .ok (.ifCond .eq 7, 3) := by decide +kernel
theorem dX1_isHeading_34 : decode cX1_isHeading 34 = .ok (.iconst 1, 1) := by decide +kernel
theorem dX1_isHeading_35 : decode cX1_isHeading 35 = .ok (.goto 4, 3) := by decide +kernel
theorem dX1_isHeading_38 : decode cX1_isHeading 38 = .ok (.iconst 0, 1) := by decide +kernel
theorem dX1_isHeading_39 : decode cX1_isHeading 39 = .ok (.ireturn, 1) := by decide +kernel
set_option maxHeartbeats 4000000 in
set_option maxRecDepth 100000 in
theorem k_isHeading (l : Launch) (dC : Nat → ClassId) (dI : Nat → Nat → Nat) (k : Nat → ClassId) (ly : Nat) (ln : Nat) (rw : Nat) (pp : Nat) (l1 : Nat) (l2 : Nat) (l3 : Nat) (l4 : Nat) (l5 : Nat) (l6 : Nat) (l7 : Nat) (v : Int) (gO : Int) (iL : Int) (nR : Int) (sT : Int) (dg : Int) (m1 : Int → Int) (m2 : Int → Int) (m3 : Int → Int) (m4 : Int → Int) (m5 : Int → Int) (m6 : Int → Int) (m7 : Int → Int) (T : Nat → Int → Int → Int → Int) (A : Nat → Int → Int → Nat) (X : Nat → Int → Int → Int) (tl : va_W) (i : Int) (hT : TI dI k T A X tl) (hK : TK T) (hi : 0 ≤ i ∧ i < T 0 0 0 0) (hv : 0 ≤ v ∧ v ≤ 1) : Kn l dC dI k yX1_isHeading (.code yX1_isHeading cX1_isHeading 3 (some .boolean)) ({ frames := 3, cells := 0, slots := 0, locals := 64 } : Room) [.ref ly, .int (iI i)] ([(ly, .inr (1, [.ref (A 50 0 0), .int (iI v), .ref ln, .ref rw, .ref pp, .int (iI gO), .int (iI iL), .ref l1, .ref l2, .ref l3, .ref l4, .ref l5, .ref l6, .int (iI nR), .int (iI sT), .int (iI dg), .ref l7]))] ++ tl) (fun r w gc gs => ((hdP T v i) ∧ r = some (.int (iI 1)) ∧ w = ([(ly, .inr (1, [.ref (A 50 0 0), .int (iI v), .ref ln, .ref rw, .ref pp, .int (iI gO), .int (iI iL), .ref l1, .ref l2, .ref l3, .ref l4, .ref l5, .ref l6, .int (iI nR), .int (iI sT), .int (iI dg), .ref l7]))] ++ tl) ∧ gc = 0 ∧ gs = 0) ∨ ((¬ hdP T v i) ∧ r = some (.int (iI 0)) ∧ w = ([(ly, .inr (1, [.ref (A 50 0 0), .int (iI v), .ref ln, .ref rw, .ref pp, .int (iI gO), .int (iI iL), .ref l1, .ref l2, .ref l3, .ref l4, .ref l5, .ref l6, .int (iI nR), .int (iI sT), .int (iI dg), .ref l7]))] ++ tl) ∧ gc = 0 ∧ gs = 0)) := by
  refine kn_of (by decide) (Nat.le_of_ble_eq_true rfl) ?_
  intro p e s m args below meth c H locs B hr hnm ls hl
  have hx := B.1.1
  have hb := B.1.2.1
  have hl : lv_has ls 3 [(0, .ref ly), (1, .int (iI i))] := hl
  have hnb := TK_nb hK
  refine lv_aload_n hx hb dX1_isHeading_0 rfl (lv_at hl 0 rfl) ?_
  refine x_get (ci := 1) (C := RX1) (T := TX1) (N := 17) (v := .ref (A 50 0 0)) B 0 rfl rfl in_X1 0 (by decide) mw_410 (fun _ h9 => h9) rfl dX1_isHeading_1 ?_
  obtain ⟨k_1, hk_1⟩ := pk_at (hs := [(ly, .inr (1, [.ref (A 50 0 0), .int (iI v), .ref ln, .ref rw, .ref pp, .int (iI gO), .int (iI iL), .ref l1, .ref l2, .ref l3, .ref l4, .ref l5, .ref l6, .int (iI nR), .int (iI sT), .int (iI dg), .ref l7]))]) hT.1.1
  refine x_get (ci := 9) (C := RX9) (T := TX9) (N := 8) (v := .ref (A 51 0 0)) B k_1 hk_1 rfl in_X9 0 (by decide) mw_77 (fun _ h9 => h9) rfl dX1_isHeading_4 ?_
  refine lv_iload_n hx hb dX1_isHeading_7 rfl (lv_at hl 1 rfl) ?_
  have B := bd_swap (a := []) (b := [(ly, .inr (1, [.ref (A 50 0 0), .int (iI v), .ref ln, .ref rw, .ref pp, .int (iI gO), .int (iI iL), .ref l1, .ref l2, .ref l3, .ref l4, .ref l5, .ref l6, .int (iI nR), .int (iI sT), .int (iI dg), .ref l7]))]) (d := tl) (bd_to rfl B)
  obtain ⟨k_2, fk_2, hk_2⟩ := LI_at (hs := []) hT.2.1
  refine k_V (rest := []) (wc := ([] ++ tl)) (wr := [(ly, .inr (1, [.ref (A 50 0 0), .int (iI v), .ref ln, .ref rw, .ref pp, .int (iI gO), .int (iI iL), .ref l1, .ref l2, .ref l3, .ref l4, .ref l5, .ref l6, .int (iI nR), .int (iI sT), .int (iI dg), .ref l7]))]) (k_getB l dC dI k T A X tl i hT hK hi) B mV_Jx4a65c_get_915e3 mw_1380 hl (q0 := k_2) (ci := 12) hk_2 rfl rfl ⟨Nat.le_of_ble_eq_true rfl, Nat.le_of_ble_eq_true rfl⟩ (Nat.le_of_ble_eq_true rfl) rfl dX1_isHeading_8 ⟨Nat.le_of_ble_eq_true rfl, Nat.le_of_ble_eq_true rfl⟩ (fun r w gc gs H locs hp B => ?_)
  obtain ⟨rfl, hw9, rfl, rfl⟩ := hp
  rw [hw9] at B; clear hw9
  have B := bd_to (ws' := ([(ly, .inr (1, [.ref (A 50 0 0), .int (iI v), .ref ln, .ref rw, .ref pp, .int (iI gO), .int (iI iL), .ref l1, .ref l2, .ref l3, .ref l4, .ref l5, .ref l6, .int (iI nR), .int (iI sT), .int (iI dg), .ref l7]))] ++ tl)) rfl B
  obtain ⟨k_3, hk_3⟩ := pk_at (hs := [(ly, .inr (1, [.ref (A 50 0 0), .int (iI v), .ref ln, .ref rw, .ref pp, .int (iI gO), .int (iI iL), .ref l1, .ref l2, .ref l3, .ref l4, .ref l5, .ref l6, .int (iI nR), .int (iI sT), .int (iI dg), .ref l7]))]) (hT.2.2.2.1 i (by omega) (by omega)).1
  refine x_cast (ci := 0) (C := RX0) (T := TX0) (N := 4) B k_3 hk_3 rfl mw_1381 dX1_isHeading_11 ?_
  refine lv_astore_n (lv' := [(2, .ref (A 0 i 0)), (0, .ref ly), (1, .int (iI i))]) hx hb dX1_isHeading_14 rfl hl (by decide) rfl (fun ls hl => ?_)
  refine lv_aload_n hx hb dX1_isHeading_15 rfl (lv_at hl 0 rfl) ?_
  obtain ⟨k_4, hk_4⟩ := pk_at (hs := [(ly, .inr (1, [.ref (A 50 0 0), .int (iI v), .ref ln, .ref rw, .ref pp, .int (iI gO), .int (iI iL), .ref l1, .ref l2, .ref l3, .ref l4, .ref l5, .ref l6, .int (iI nR), .int (iI sT), .int (iI dg), .ref l7]))]) (hT.2.2.2.1 i (by omega) (by omega)).1
  refine x_get (ci := 0) (C := RX0) (T := TX0) (N := 4) (v := .int (iI (T 1 i 0 0))) B k_4 hk_4 rfl in_X0 0 (by decide) mw_1171 (fun _ h9 => h9) rfl dX1_isHeading_16 ?_
  have z_5 : 0 ≤ T 1 i 0 0 ∧ T 1 i 0 0 ≤ 6 := TK_kind hK i
  refine lv_iconst (v := iI 1) hx hb dX1_isHeading_19 (by decide) ?_
  refine lv_icmp_ne (tgt := 38) hx hb dX1_isHeading_20 (by decide) (fun c_6 => ?_) (fun c_6 => ?_)
  · have zc_6 : (T 1 i 0 0) ≠ 1 := jne (a := (T 1 i 0 0)) (b := 1) (by omega) (by omega) c_6
    refine lv_iconst (v := iI 0) hx hb dX1_isHeading_38 (by decide) ?_
    exact k_zret B hr (by omega) (Or.inr (⟨(fun q9 => by first | exact absurd q9.1 (by omega) | exact absurd q9.2 (by omega)), rfl, rfl, rfl, rfl⟩)) ⟨Nat.le_of_ble_eq_true rfl, Nat.le_of_ble_eq_true rfl⟩ ⟨Nat.le_of_ble_eq_true rfl, Nat.le_of_ble_eq_true rfl⟩ dX1_isHeading_39
  · have zc_6 : (T 1 i 0 0) = 1 := jeq (a := (T 1 i 0 0)) (b := 1) (by omega) (by omega) c_6
    refine lv_aload_n hx hb dX1_isHeading_23 rfl (lv_at hl 0 rfl) ?_
    refine lv_aload_n hx hb dX1_isHeading_24 rfl (lv_at hl 1 rfl) ?_
    refine x_get (ci := 1) (C := RX1) (T := TX1) (N := 17) (v := .int (iI v)) B 0 rfl rfl in_X1 1 (by decide) mw_411 (fun _ h9 => h9) rfl dX1_isHeading_25 ?_
    have B := bd_swap (a := []) (b := [(ly, .inr (1, [.ref (A 50 0 0), .int (iI v), .ref ln, .ref rw, .ref pp, .int (iI gO), .int (iI iL), .ref l1, .ref l2, .ref l3, .ref l4, .ref l5, .ref l6, .int (iI nR), .int (iI sT), .int (iI dg), .ref l7]))]) (d := tl) (bd_to rfl B)
    obtain ⟨k_7, hk_7⟩ := pk_at (hs := []) (hT.2.2.2.1 i (by omega) (by omega)).1
    refine k_V (rest := []) (wc := ([] ++ tl)) (wr := [(ly, .inr (1, [.ref (A 50 0 0), .int (iI v), .ref ln, .ref rw, .ref pp, .int (iI gO), .int (iI iL), .ref l1, .ref l2, .ref l3, .ref l4, .ref l5, .ref l6, .int (iI nR), .int (iI sT), .int (iI dg), .ref l7]))]) (k_thB l dC dI k T A X tl i v hT hK hi hv) B mV_X0_isThere mw_1783 hl (q0 := k_7) (ci := 0) hk_7 rfl rfl ⟨Nat.le_of_ble_eq_true rfl, Nat.le_of_ble_eq_true rfl⟩ (Nat.le_of_ble_eq_true rfl) rfl dX1_isHeading_28 ⟨Nat.le_of_ble_eq_true rfl, Nat.le_of_ble_eq_true rfl⟩ (fun r w gc gs H locs hp B => ?_)
    rcases hp with ⟨z_8, rfl, hw9, rfl, rfl⟩ | ⟨z_9, rfl, hw9, rfl, rfl⟩
    · skip
      rw [hw9] at B; clear hw9
      have B := bd_to (ws' := ([(ly, .inr (1, [.ref (A 50 0 0), .int (iI v), .ref ln, .ref rw, .ref pp, .int (iI gO), .int (iI iL), .ref l1, .ref l2, .ref l3, .ref l4, .ref l5, .ref l6, .int (iI nR), .int (iI sT), .int (iI dg), .ref l7]))] ++ tl)) rfl B
      refine lv_if_eq (tgt := 38) hx hb dX1_isHeading_31 (by decide) (fun c9 => absurd c9 (by decide)) (fun _ => ?_)
      refine lv_iconst (v := iI 1) hx hb dX1_isHeading_34 (by decide) ?_
      refine lv_goto (tgt := 39) hx hb dX1_isHeading_35 (by decide) ?_
      exact k_zret B hr (by omega) (Or.inl (⟨⟨zc_6, z_8⟩, rfl, rfl, rfl, rfl⟩)) ⟨Nat.le_of_ble_eq_true rfl, Nat.le_of_ble_eq_true rfl⟩ ⟨Nat.le_of_ble_eq_true rfl, Nat.le_of_ble_eq_true rfl⟩ dX1_isHeading_39
    · skip
      rw [hw9] at B; clear hw9
      have B := bd_to (ws' := ([(ly, .inr (1, [.ref (A 50 0 0), .int (iI v), .ref ln, .ref rw, .ref pp, .int (iI gO), .int (iI iL), .ref l1, .ref l2, .ref l3, .ref l4, .ref l5, .ref l6, .int (iI nR), .int (iI sT), .int (iI dg), .ref l7]))] ++ tl)) rfl B
      refine lv_if_eq (tgt := 38) hx hb dX1_isHeading_31 (by decide) (fun _ => ?_) (fun c9 => absurd (by decide) c9)
      refine lv_iconst (v := iI 0) hx hb dX1_isHeading_38 (by decide) ?_
      exact k_zret B hr (by omega) (Or.inr (⟨(fun q9 => by first | exact absurd q9.1 (by omega) | exact absurd q9.2 z_9), rfl, rfl, rfl, rfl⟩)) ⟨Nat.le_of_ble_eq_true rfl, Nat.le_of_ble_eq_true rfl⟩ ⟨Nat.le_of_ble_eq_true rfl, Nat.le_of_ble_eq_true rfl⟩ dX1_isHeading_39

theorem mw_1375 : (Jvm.Cond.methodLink "Galleyforge$Layout" (85 : Nat) ({ cls := "java/util/ArrayList", name := "size", desc := "()I" } : Jvm.MethodName)) ∈ gt := gt_at 1445 (by decide +kernel) (by decide +kernel)
theorem mw_1779 : (Jvm.Cond.methodLink "Galleyforge$Layout" (162 : Nat) ({ cls := "Galleyforge$Layout", name := "isHeading", desc := "(I)Z" } : Jvm.MethodName)) ∈ gt := gt_at 1849 (by decide +kernel) (by decide +kernel)
theorem mw_1781 : (Jvm.Cond.instanceMethod ({ cls := "Galleyforge$Layout", name := "isHeading", desc := "(I)Z" } : Jvm.MethodName)) ∈ gt := gt_at 1851 (by decide +kernel) (by decide +kernel)
theorem mw_1782 : (Jvm.Cond.code ({ cls := "Galleyforge$Layout", name := "isHeading", desc := "(I)Z" } : Jvm.MethodName) prog_3_method_12_code (3 : Nat) (Option.some Jvm.ClassFile.FieldType.boolean)) ∈ gt := gt_at 1852 (by decide +kernel) (by decide +kernel)
theorem ms_67 : Cond.selects "Galleyforge$Layout" (⟨"Galleyforge$Layout", "isHeading", "(I)Z"⟩ : MethodName) (⟨"Galleyforge$Layout", "isHeading", "(I)Z"⟩ : MethodName) ∈ gt := gt_at 67 (by decide +kernel) (by decide +kernel)
theorem mV_X1_isHeading : mV yX1_isHeading cX1_isHeading 3 (some .boolean) 1 := ⟨⟨mw_1782, mw_8, by decide, by decide, by decide +kernel⟩, mw_1781, ms_67⟩
theorem dX1_headingAt_0 : decode cX1_headingAt 0 = .ok (.iconst 0, 1) := by decide +kernel
theorem dX1_headingAt_1 : decode cX1_headingAt 1 = .ok (.istore_n 2, 1) := by decide +kernel
theorem dX1_headingAt_2 : decode cX1_headingAt 2 = .ok (.iconst 0, 1) := by decide +kernel
theorem dX1_headingAt_3 : decode cX1_headingAt 3 = .ok (.istore_n 3, 1) := by decide +kernel
theorem dX1_headingAt_4 : decode cX1_headingAt 4 = .ok (.iload_n 3, 1) := by decide +kernel
theorem dX1_headingAt_5 : decode cX1_headingAt 5 = .ok (.aload_n 0, 1) := by decide +kernel
theorem dX1_headingAt_6 : decode cX1_headingAt 6 = .ok (.getfield 43, 3) := by decide +kernel
theorem dX1_headingAt_9 : decode cX1_headingAt 9 = .ok (.getfield 79, 3) := by decide +kernel
theorem dX1_headingAt_12 : decode cX1_headingAt 12 = .ok (.invokevirtual 85, 3) := by decide +kernel
theorem dX1_headingAt_15 : decode cX1_headingAt 15 = .ok (.if_icmp .ge 27, 3) := by decide +kernel
theorem dX1_headingAt_18 : decode cX1_headingAt 18 = .ok (.aload_n 0, 1) := by decide +kernel
theorem dX1_headingAt_19 : decode cX1_headingAt 19 = .ok (.iload_n 3, 1) := by decide +kernel
theorem dX1_headingAt_20 : decode cX1_headingAt 20 = .ok (.invokevirtual 162, 3) := by decide +kernel
theorem dX1_headingAt_23 : decode cX1_headingAt 23 = .ok (.ifCond .eq 13, 3) := by decide +kernel
theorem dX1_headingAt_26 : decode cX1_headingAt 26 = .ok (.iload_n 2, 1) := by decide +kernel
theorem dX1_headingAt_27 : decode cX1_headingAt 27 = .ok (.iload_n 1, 1) := by decide +kernel
theorem dX1_headingAt_28 : decode cX1_headingAt 28 = .ok (.if_icmp .ne 5, 3) := by decide +kernel
theorem dX1_headingAt_31 : decode cX1_headingAt 31 = .ok (.iload_n 3, 1) := by decide +kernel
theorem dX1_headingAt_32 : decode cX1_headingAt 32 = .ok (.ireturn, 1) := by decide +kernel
theorem dX1_headingAt_33 : decode cX1_headingAt 33 = .ok (.iinc 2 1, 3) := by decide +kernel
theorem dX1_headingAt_36 : decode cX1_headingAt 36 = .ok (.iinc 3 1, 3) := by decide +kernel
theorem dX1_headingAt_39 : decode cX1_headingAt 39 = .ok (.goto (-35), 3) := by decide +kernel
theorem dX1_headingAt_42 : decode cX1_headingAt 42 = .ok (.iconst (-1), 1) := by decide +kernel
theorem dX1_headingAt_43 : decode cX1_headingAt 43 = .ok (.ireturn, 1) := by decide +kernel
set_option maxHeartbeats 4000000 in
set_option maxRecDepth 100000 in
theorem k_headingAt (l : Launch) (dC : Nat → ClassId) (dI : Nat → Nat → Nat) (k : Nat → ClassId) (ly : Nat) (ln : Nat) (rw : Nat) (pp : Nat) (l1 : Nat) (l2 : Nat) (l3 : Nat) (l4 : Nat) (l5 : Nat) (l6 : Nat) (l7 : Nat) (v : Int) (gO : Int) (iL : Int) (nR : Int) (sT : Int) (dg : Int) (m1 : Int → Int) (m2 : Int → Int) (m3 : Int → Int) (m4 : Int → Int) (m5 : Int → Int) (m6 : Int → Int) (m7 : Int → Int) (T : Nat → Int → Int → Int → Int) (A : Nat → Int → Int → Nat) (X : Nat → Int → Int → Int) (tl : va_W) (ix : Int) (hT : TI dI k T A X tl) (hK : TK T) (hv : 0 ≤ v ∧ v ≤ 1) (h1 : -2147483648 ≤ ix ∧ ix < 2147483648) : Kn l dC dI k yX1_headingAt (.code yX1_headingAt cX1_headingAt 4 (some .int)) ({ frames := 4, cells := 0, slots := 0, locals := 86 } : Room) [.ref ly, .int (iI ix)] ([(ly, .inr (1, [.ref (A 50 0 0), .int (iI v), .ref ln, .ref rw, .ref pp, .int (iI gO), .int (iI iL), .ref l1, .ref l2, .ref l3, .ref l4, .ref l5, .ref l6, .int (iI nR), .int (iI sT), .int (iI dg), .ref l7]))] ++ tl) (fun r w gc gs => ((-1 ≤ haZ T v ix ∧ haZ T v ix < T 0 0 0 0) ∧ r = some (.int (iI (haZ T v ix))) ∧ w = ([(ly, .inr (1, [.ref (A 50 0 0), .int (iI v), .ref ln, .ref rw, .ref pp, .int (iI gO), .int (iI iL), .ref l1, .ref l2, .ref l3, .ref l4, .ref l5, .ref l6, .int (iI nR), .int (iI sT), .int (iI dg), .ref l7]))] ++ tl) ∧ gc = 0 ∧ gs = 0)) := by
  refine kn_of (by decide) (Nat.le_of_ble_eq_true rfl) ?_
  intro p e s m args below meth c H locs B hr hnm ls hl
  have hx := B.1.1
  have hb := B.1.2.1
  have hl : lv_has ls 4 [(0, .ref ly), (1, .int (iI ix))] := hl
  have hnb := TK_nb hK
  refine lv_iconst (v := iI 0) hx hb dX1_headingAt_0 (by decide) ?_
  refine lv_istore_n (lv' := [(2, .int (iI 0)), (0, .ref ly), (1, .int (iI ix))]) hx hb dX1_headingAt_1 rfl hl (by decide) rfl (fun ls hl => ?_)
  refine lv_iconst (v := iI 0) hx hb dX1_headingAt_2 (by decide) ?_
  refine lv_istore_n (lv' := [(3, .int (iI 0)), (2, .int (iI 0)), (0, .ref ly), (1, .int (iI ix))]) hx hb dX1_headingAt_3 rfl hl (by decide) rfl (fun ls hl => ?_)
  refine k_loop (σ := Int × Int) B (fun g9 : Int × Int => (0 ≤ g9.1 ∧ g9.1 ≤ T 0 0 0 0 ∧ 0 ≤ g9.2 ∧ g9.2 ≤ g9.1) ∧ (haF T v ix (Int.toNat (T 0 0 0 0 - g9.1)) g9.1 g9.2 = haF T v ix (Int.toNat (T 0 0 0 0)) 0 0)) (fun g9 : Int × Int => (T 0 0 0 0 - g9.1).toNat) (fun g9 : Int × Int => [(3, .int (iI g9.1)), (2, .int (iI g9.2)), (0, .ref ly), (1, .int (iI ix))]) (fun g9 : Int × Int => ([(ly, .inr (1, [.ref (A 50 0 0), .int (iI v), .ref ln, .ref rw, .ref pp, .int (iI gO), .int (iI iL), .ref l1, .ref l2, .ref l3, .ref l4, .ref l5, .ref l6, .int (iI nR), .int (iI sT), .int (iI dg), .ref l7]))] ++ tl)) ?_ (0, 0) ⟨(show 0 ≤ 0 ∧ 0 ≤ T 0 0 0 0 ∧ 0 ≤ 0 ∧ 0 ≤ 0 from (by omega)), (show haF T v ix (Int.toNat (T 0 0 0 0 - 0)) 0 0 = haF T v ix (Int.toNat (T 0 0 0 0)) 0 0 from (by rw [show T 0 0 0 0 - 0 = T 0 0 0 0 by omega]))⟩ ls H locs (lv_sub hl [0, 1, 2, 3] rfl) (bd_to rfl B)
  clear hl B
  rintro ⟨pq, ah⟩ ⟨hk, hq⟩ ih_1 ls H locs hl B
  have hk : 0 ≤ pq ∧ pq ≤ T 0 0 0 0 ∧ 0 ≤ ah ∧ ah ≤ pq := hk
  have hq : haF T v ix (Int.toNat (T 0 0 0 0 - pq)) pq ah = haF T v ix (Int.toNat (T 0 0 0 0)) 0 0 := hq
  have hl : lv_has ls 4 [(3, .int (iI pq)), (2, .int (iI ah)), (0, .ref ly), (1, .int (iI ix))] := hl
  have B := bd_to (ws' := ([(ly, .inr (1, [.ref (A 50 0 0), .int (iI v), .ref ln, .ref rw, .ref pp, .int (iI gO), .int (iI iL), .ref l1, .ref l2, .ref l3, .ref l4, .ref l5, .ref l6, .int (iI nR), .int (iI sT), .int (iI dg), .ref l7]))] ++ tl)) rfl B
  refine lv_iload_n hx hb dX1_headingAt_4 rfl (lv_at hl 0 rfl) ?_
  refine lv_aload_n hx hb dX1_headingAt_5 rfl (lv_at hl 2 rfl) ?_
  refine x_get (ci := 1) (C := RX1) (T := TX1) (N := 17) (v := .ref (A 50 0 0)) B 0 rfl rfl in_X1 0 (by decide) mw_410 (fun _ h9 => h9) rfl dX1_headingAt_6 ?_
  obtain ⟨k_2, hk_2⟩ := pk_at (hs := [(ly, .inr (1, [.ref (A 50 0 0), .int (iI v), .ref ln, .ref rw, .ref pp, .int (iI gO), .int (iI iL), .ref l1, .ref l2, .ref l3, .ref l4, .ref l5, .ref l6, .int (iI nR), .int (iI sT), .int (iI dg), .ref l7]))]) hT.1.1
  refine x_get (ci := 9) (C := RX9) (T := TX9) (N := 8) (v := .ref (A 51 0 0)) B k_2 hk_2 rfl in_X9 0 (by decide) mw_77 (fun _ h9 => h9) rfl dX1_headingAt_9 ?_
  have B := bd_swap (a := []) (b := [(ly, .inr (1, [.ref (A 50 0 0), .int (iI v), .ref ln, .ref rw, .ref pp, .int (iI gO), .int (iI iL), .ref l1, .ref l2, .ref l3, .ref l4, .ref l5, .ref l6, .int (iI nR), .int (iI sT), .int (iI dg), .ref l7]))]) (d := tl) (bd_to rfl B)
  obtain ⟨k_3, fk_3, hk_3⟩ := LI_at (hs := []) hT.2.1
  refine k_V (rest := [.int (iI pq)]) (wc := ([] ++ tl)) (wr := [(ly, .inr (1, [.ref (A 50 0 0), .int (iI v), .ref ln, .ref rw, .ref pp, .int (iI gO), .int (iI iL), .ref l1, .ref l2, .ref l3, .ref l4, .ref l5, .ref l6, .int (iI nR), .int (iI sT), .int (iI dg), .ref l7]))]) (k_sizeB l dC dI k T A X tl hT hK) B mV_Jx4a65c_size_8abf5 mw_1375 hl (q0 := k_3) (ci := 12) hk_3 rfl rfl ⟨Nat.le_of_ble_eq_true rfl, Nat.le_of_ble_eq_true rfl⟩ (Nat.le_of_ble_eq_true rfl) rfl dX1_headingAt_12 ⟨Nat.le_of_ble_eq_true rfl, Nat.le_of_ble_eq_true rfl⟩ (fun r w gc gs H locs hp B => ?_)
  obtain ⟨z_4, rfl, hw9, rfl, rfl⟩ := hp
  rw [hw9] at B; clear hw9
  have B := bd_to (ws' := ([(ly, .inr (1, [.ref (A 50 0 0), .int (iI v), .ref ln, .ref rw, .ref pp, .int (iI gO), .int (iI iL), .ref l1, .ref l2, .ref l3, .ref l4, .ref l5, .ref l6, .int (iI nR), .int (iI sT), .int (iI dg), .ref l7]))] ++ tl)) rfl B
  refine lv_icmp_ge (tgt := 42) hx hb dX1_headingAt_15 (by decide) (fun c_5 => ?_) (fun c_5 => ?_)
  · have zc_5 : (T 0 0 0 0) ≤ pq := jle (a := (T 0 0 0 0)) (b := pq) (by omega) (by omega) c_5
    refine lv_iconst (v := iI (-1)) hx hb dX1_headingAt_42 (by decide) ?_
    have e_6 : (haZ T v ix) = (-1) := (by unfold haZ; rw [← hq, show Int.toNat (T 0 0 0 0 - pq) = 0 by omega]; rfl)
    skip
    exact k_iret B hr (⟨(by have e9 : haZ T v ix = (-1) := (by unfold haZ; rw [← hq, show Int.toNat (T 0 0 0 0 - pq) = 0 by omega]; rfl); omega), (by rw [e_6]), rfl, rfl, rfl⟩) ⟨Nat.le_of_ble_eq_true rfl, Nat.le_of_ble_eq_true rfl⟩ ⟨Nat.le_of_ble_eq_true rfl, Nat.le_of_ble_eq_true rfl⟩ dX1_headingAt_43
  · have zc_5 : pq < (T 0 0 0 0) := jnle (a := (T 0 0 0 0)) (b := pq) (by omega) (by omega) c_5
    refine lv_aload_n hx hb dX1_headingAt_18 rfl (lv_at hl 2 rfl) ?_
    refine lv_iload_n hx hb dX1_headingAt_19 rfl (lv_at hl 0 rfl) ?_
    have B := bd_swap (a := [(ly, .inr (1, [.ref (A 50 0 0), .int (iI v), .ref ln, .ref rw, .ref pp, .int (iI gO), .int (iI iL), .ref l1, .ref l2, .ref l3, .ref l4, .ref l5, .ref l6, .int (iI nR), .int (iI sT), .int (iI dg), .ref l7]))]) (b := []) (d := tl) (bd_to rfl B)
    refine k_V (rest := []) (wc := ([(ly, .inr (1, [.ref (A 50 0 0), .int (iI v), .ref ln, .ref rw, .ref pp, .int (iI gO), .int (iI iL), .ref l1, .ref l2, .ref l3, .ref l4, .ref l5, .ref l6, .int (iI nR), .int (iI sT), .int (iI dg), .ref l7]))] ++ tl)) (wr := []) (k_isHeading l dC dI k ly ln rw pp l1 l2 l3 l4 l5 l6 l7 v gO iL nR sT dg m1 m2 m3 m4 m5 m6 m7 T A X tl pq hT hK (by omega) hv) B mV_X1_isHeading mw_1779 hl (q0 := 0) rfl rfl rfl ⟨Nat.le_of_ble_eq_true rfl, Nat.le_of_ble_eq_true rfl⟩ (Nat.le_of_ble_eq_true rfl) rfl dX1_headingAt_20 ⟨Nat.le_of_ble_eq_true rfl, Nat.le_of_ble_eq_true rfl⟩ (fun r w gc gs H locs hp B => ?_)
    rcases hp with ⟨z_7, rfl, hw9, rfl, rfl⟩ | ⟨z_8, rfl, hw9, rfl, rfl⟩
    · skip
      rw [hw9] at B; clear hw9
      have B := bd_to (ws' := ([(ly, .inr (1, [.ref (A 50 0 0), .int (iI v), .ref ln, .ref rw, .ref pp, .int (iI gO), .int (iI iL), .ref l1, .ref l2, .ref l3, .ref l4, .ref l5, .ref l6, .int (iI nR), .int (iI sT), .int (iI dg), .ref l7]))] ++ tl)) rfl B
      refine lv_if_eq (tgt := 36) hx hb dX1_headingAt_23 (by decide) (fun c9 => absurd c9 (by decide)) (fun _ => ?_)
      refine lv_iload_n hx hb dX1_headingAt_26 rfl (lv_at hl 1 rfl) ?_
      refine lv_iload_n hx hb dX1_headingAt_27 rfl (lv_at hl 3 rfl) ?_
      refine lv_icmp_ne (tgt := 33) hx hb dX1_headingAt_28 (by decide) (fun c_9 => ?_) (fun c_9 => ?_)
      · have zc_9 : ah ≠ ix := jne (a := ah) (b := ix) (by omega) (by omega) c_9
        refine lv_iinc (v := iI (ah + 1)) (lv' := [(2, .int (iI (ah + 1))), (3, .int (iI pq)), (0, .ref ly), (1, .int (iI ix))]) hx hb dX1_headingAt_33 hl (k := 1) rfl (iI_add _ _) (by decide) rfl (fun ls hl => ?_)
        refine lv_iinc (v := iI (pq + 1)) (lv' := [(3, .int (iI (pq + 1))), (2, .int (iI (ah + 1))), (0, .ref ly), (1, .int (iI ix))]) hx hb dX1_headingAt_36 hl (k := 1) rfl (iI_add _ _) (by decide) rfl (fun ls hl => ?_)
        refine lv_goto (tgt := 4) hx hb dX1_headingAt_39 (by decide) ?_
        exact ih_1 ((pq + 1), (ah + 1)) ⟨(show 0 ≤ (pq + 1) ∧ (pq + 1) ≤ T 0 0 0 0 ∧ 0 ≤ (ah + 1) ∧ (ah + 1) ≤ (pq + 1) from (by omega)), (show haF T v ix (Int.toNat (T 0 0 0 0 - (pq + 1))) (pq + 1) (ah + 1) = haF T v ix (Int.toNat (T 0 0 0 0)) 0 0 from (by rw [← hq, haF_s (q := pq) (by omega), if_pos z_7, if_neg (by omega)]))⟩ (by first | omega | (dsimp only; omega)) _ _ _ (lv_sub hl [0, 1, 2, 3] rfl) (bd_to rfl B)
      · have zc_9 : ah = ix := jeq (a := ah) (b := ix) (by omega) (by omega) c_9
        refine lv_iload_n hx hb dX1_headingAt_31 rfl (lv_at hl 0 rfl) ?_
        have e_10 : (haZ T v ix) = pq := (by unfold haZ; rw [← hq, haF_s (by omega), if_pos z_7, if_pos (by omega)])
        skip
        exact k_iret B hr (⟨(by have e9 : haZ T v ix = pq := (by unfold haZ; rw [← hq, haF_s (by omega), if_pos z_7, if_pos (by omega)]); omega), (by rw [e_10]), rfl, rfl, rfl⟩) ⟨Nat.le_of_ble_eq_true rfl, Nat.le_of_ble_eq_true rfl⟩ ⟨Nat.le_of_ble_eq_true rfl, Nat.le_of_ble_eq_true rfl⟩ dX1_headingAt_32
    · skip
      rw [hw9] at B; clear hw9
      have B := bd_to (ws' := ([(ly, .inr (1, [.ref (A 50 0 0), .int (iI v), .ref ln, .ref rw, .ref pp, .int (iI gO), .int (iI iL), .ref l1, .ref l2, .ref l3, .ref l4, .ref l5, .ref l6, .int (iI nR), .int (iI sT), .int (iI dg), .ref l7]))] ++ tl)) rfl B
      refine lv_if_eq (tgt := 36) hx hb dX1_headingAt_23 (by decide) (fun _ => ?_) (fun c9 => absurd (by decide) c9)
      refine lv_iinc (v := iI (pq + 1)) (lv' := [(3, .int (iI (pq + 1))), (2, .int (iI ah)), (0, .ref ly), (1, .int (iI ix))]) hx hb dX1_headingAt_36 hl (k := 0) rfl (iI_add _ _) (by decide) rfl (fun ls hl => ?_)
      refine lv_goto (tgt := 4) hx hb dX1_headingAt_39 (by decide) ?_
      exact ih_1 ((pq + 1), ah) ⟨(show 0 ≤ (pq + 1) ∧ (pq + 1) ≤ T 0 0 0 0 ∧ 0 ≤ ah ∧ ah ≤ (pq + 1) from (by omega)), (show haF T v ix (Int.toNat (T 0 0 0 0 - (pq + 1))) (pq + 1) ah = haF T v ix (Int.toNat (T 0 0 0 0)) 0 0 from (by rw [← hq, haF_s (q := pq) (by omega), if_neg z_8]))⟩ (by first | omega | (dsimp only; omega)) _ _ _ (lv_sub hl [0, 1, 2, 3] rfl) (bd_to rfl B)

theorem mw_93 : (Jvm.Cond.fieldLink "Galleyforge$Layout" (190 : Nat) "Galleyforge$Text" "keys" "[I") ∈ gt := gt_at 163 (by decide +kernel) (by decide +kernel)
theorem mw_251 : (Jvm.Cond.fieldLink "Galleyforge$Layout" (184 : Nat) "Galleyforge$Rows" "termThere" "[Z") ∈ gt := gt_at 321 (by decide +kernel) (by decide +kernel)
theorem dX1_termsAhead_0 : decode cX1_termsAhead 0 = .ok (.iconst 0, 1) := by decide +kernel
theorem dX1_termsAhead_1 : decode cX1_termsAhead 1 = .ok (.istore_n 2, 1) := by decide +kernel
theorem dX1_termsAhead_2 : decode cX1_termsAhead 2 = .ok (.iconst 0, 1) := by decide +kernel
theorem dX1_termsAhead_3 : decode cX1_termsAhead 3 = .ok (.istore_n 3, 1) := by decide +kernel
theorem dX1_termsAhead_4 : decode cX1_termsAhead 4 = .ok (.iload_n 3, 1) := by decide +kernel
theorem dX1_termsAhead_5 : decode cX1_termsAhead 5 = .ok (.bipush 8, 2) := by decide +kernel
theorem dX1_termsAhead_7 : decode cX1_termsAhead 7 = .ok (.if_icmp .ge 83, 3) := by decide +kernel
theorem dX1_termsAhead_10 : decode cX1_termsAhead 10 = .ok (.aload_n 0, 1) := by decide +kernel
theorem dX1_termsAhead_11 : decode cX1_termsAhead 11 = .ok (.getfield 43, 3) := by decide +kernel
theorem dX1_termsAhead_14 : decode cX1_termsAhead 14 = .ok (.getfield 190, 3) := by decide +kernel
theorem dX1_termsAhead_17 : decode cX1_termsAhead 17 = .ok (.iload_n 3, 1) := by decide +kernel
theorem dX1_termsAhead_18 : decode cX1_termsAhead 18 = .ok (.iaload, 1) := by decide +kernel
theorem dX1_termsAhead_19 : decode cX1_termsAhead 19 = .ok (.aload_n 0, 1) := by decide +kernel
theorem dX1_termsAhead_20 : decode cX1_termsAhead 20 = .ok (.getfield 43, 3) := by decide +kernel
theorem dX1_termsAhead_23 : decode cX1_termsAhead 23 = .ok (.getfield 190, 3) := by decide +kernel
theorem dX1_termsAhead_26 : decode cX1_termsAhead 26 = .ok (.iload_n 1, 1) := by decide +kernel
theorem dX1_termsAhead_27 : decode cX1_termsAhead 27 = .ok (.iaload, 1) := by decide +kernel
theorem dX1_termsAhead_28 : decode cX1_termsAhead 28 = .ok (.if_icmp .lt 29, 3) := by decide +kernel
theorem dX1_termsAhead_31 : decode cX1_termsAhead 31 = .ok (.aload_n 0, 1) := by decide +kernel
theorem dX1_termsAhead_32 : decode cX1_termsAhead 32 = .ok (.getfield 43, 3) := by decide +kernel
theorem dX1_termsAhead_35 : decode cX1_termsAhead 35 = .ok (.getfield 190, 3) := by decide +kernel
theorem dX1_termsAhead_38 : decode cX1_termsAhead 38 = .ok (.iload_n 3, 1) := by decide +kernel
theorem dX1_termsAhead_39 : decode cX1_termsAhead 39 = .ok (.iaload, 1) := by decide +kernel
theorem dX1_termsAhead_40 : decode cX1_termsAhead 40 = .ok (.aload_n 0, 1) := by decide +kernel
theorem dX1_termsAhead_41 : decode cX1_termsAhead 41 = .ok (.getfield 43, 3) := by decide +kernel
theorem dX1_termsAhead_44 : decode cX1_termsAhead 44 = .ok (.getfield 190, 3) := by decide +kernel
theorem dX1_termsAhead_47 : decode cX1_termsAhead 47 = .ok (.iload_n 1, 1) := by decide +kernel
theorem dX1_termsAhead_48 : decode cX1_termsAhead 48 = .ok (.iaload, 1) := by decide +kernel
theorem dX1_termsAhead_49 : decode cX1_termsAhead 49 = .ok (.if_icmp .ne 12, 3) := by decide +kernel
theorem dX1_termsAhead_52 : decode cX1_termsAhead 52 = .ok (.iload_n 3, 1) := by decide +kernel
theorem dX1_termsAhead_53 : decode cX1_termsAhead 53 = .ok (.iload_n 1, 1) := by decide +kernel
theorem dX1_termsAhead_54 : decode cX1_termsAhead 54 = .ok (.if_icmp .ge 7, 3) := by decide +kernel
theorem dX1_termsAhead_57 : decode cX1_termsAhead 57 = .ok (.iconst 1, 1) := by decide +kernel
theorem dX1_termsAhead_58 : decode cX1_termsAhead 58 = .ok (.goto 4, 3) := by decide +kernel
theorem dX1_termsAhead_61 : decode cX1_termsAhead 61 = .ok (.iconst 0, 1) := by decide +kernel
theorem dX1_termsAhead_62 : decode cX1_termsAhead 62 = .ok (.istore 4, 2) := by decide +kernel
theorem dX1_termsAhead_64 : decode cX1_termsAhead 64 = .ok (.aload_n 0, 1) := by decide +kernel
theorem dX1_termsAhead_65 : decode cX1_termsAhead 65 = .ok (.getfield 57, 3) := by decide +kernel
theorem dX1_termsAhead_68 : decode cX1_termsAhead 68 = .ok (.getfield 184, 3) := by decide +kernel
theorem dX1_termsAhead_71 : decode cX1_termsAhead 71 = .ok (.iload_n 3, 1) := by decide +kernel
theorem dX1_termsAhead_72 : decode cX1_termsAhead 72 = .ok (.baload, 1) := by decide +kernel
theorem dX1_termsAhead_73 : decode cX1_termsAhead 73 = .ok (.ifCond .eq 11, 3) := by decide +kernel
theorem dX1_termsAhead_76 : decode cX1_termsAhead 76 = .ok (.iload 4, 2) := by decide +kernel
theorem dX1_termsAhead_78 : decode cX1_termsAhead 78 = .ok (.ifCond .eq 6, 3) := by decide +kernel
theorem dX1_termsAhead_81 : decode cX1_termsAhead 81 = .ok (.iinc 2 1, 3) := by decide +kernel
theorem dX1_termsAhead_84 : decode cX1_termsAhead 84 = .ok (.iinc 3 1, 3) := by decide +kernel
theorem dX1_termsAhead_87 : decode cX1_termsAhead 87 = .ok (.goto (-83), 3) := by decide +kernel
theorem dX1_termsAhead_90 : decode cX1_termsAhead 90 = .ok (.iload_n 2, 1) := by decide +kernel
theorem dX1_termsAhead_91 : decode cX1_termsAhead 91 = .ok (.ireturn, 1) := by decide +kernel
set_option maxHeartbeats 4000000 in
set_option maxRecDepth 100000 in
theorem k_termsAhead (l : Launch) (dC : Nat → ClassId) (dI : Nat → Nat → Nat) (k : Nat → ClassId) (ly : Nat) (ln : Nat) (rw : Nat) (pp : Nat) (l1 : Nat) (l2 : Nat) (l3 : Nat) (l4 : Nat) (l5 : Nat) (l6 : Nat) (l7 : Nat) (v : Int) (gO : Int) (iL : Int) (nR : Int) (sT : Int) (dg : Int) (m1 : Int → Int) (m2 : Int → Int) (m3 : Int → Int) (m4 : Int → Int) (m5 : Int → Int) (m6 : Int → Int) (m7 : Int → Int) (T : Nat → Int → Int → Int → Int) (A : Nat → Int → Int → Nat) (X : Nat → Int → Int → Int) (tl : va_W) (M : Nat → Int → Int) (V : Nat → Int → Int) (Aw : Nat → Nat) (t : Int) (hT : TI dI k T A X tl) (hK : TK T) (hR : RI k (T 0 0 0 0) M V Aw tl) (hM : MK M) (hMT : ∀ j, 0 ≤ j → j < M 0 0 → M 2 j < T 0 0 0 0) (h1 : 0 ≤ t ∧ t ≤ 7) : Kn l dC dI k yX1_termsAhead (.code yX1_termsAhead cX1_termsAhead 5 (some .int)) ({ frames := 0, cells := 0, slots := 0, locals := 0 } : Room) [.ref ly, .int (iI t)] ([(ly, .inr (1, [.ref (A 50 0 0), .int (iI v), .ref ln, .ref (Aw 20), .ref pp, .int (iI gO), .int (iI iL), .ref l1, .ref l2, .ref l3, .ref l4, .ref l5, .ref l6, .int (iI nR), .int (iI sT), .int (iI dg), .ref l7]))] ++ tl) (fun r w gc gs => ((0 ≤ taF T M t 8 ∧ taF T M t 8 ≤ 8) ∧ r = some (.int (iI (taF T M t 8))) ∧ w = ([(ly, .inr (1, [.ref (A 50 0 0), .int (iI v), .ref ln, .ref (Aw 20), .ref pp, .int (iI gO), .int (iI iL), .ref l1, .ref l2, .ref l3, .ref l4, .ref l5, .ref l6, .int (iI nR), .int (iI sT), .int (iI dg), .ref l7]))] ++ tl) ∧ gc = 0 ∧ gs = 0)) := by
  refine kn_of (by decide) (Nat.le_of_ble_eq_true rfl) ?_
  intro p e s m args below meth c H locs B hr hnm ls hl
  have hx := B.1.1
  have hb := B.1.2.1
  have hl : lv_has ls 5 [(0, .ref ly), (1, .int (iI t))] := hl
  have hn0 := MK_cnt hM
  have hf0 := MK_17 hM
  refine lv_iconst (v := iI 0) hx hb dX1_termsAhead_0 (by decide) ?_
  refine lv_istore_n (lv' := [(2, .int (iI 0)), (0, .ref ly), (1, .int (iI t))]) hx hb dX1_termsAhead_1 rfl hl (by decide) rfl (fun ls hl => ?_)
  refine lv_iconst (v := iI 0) hx hb dX1_termsAhead_2 (by decide) ?_
  refine lv_istore_n (lv' := [(3, .int (iI 0)), (2, .int (iI 0)), (0, .ref ly), (1, .int (iI t))]) hx hb dX1_termsAhead_3 rfl hl (by decide) rfl (fun ls hl => ?_)
  refine k_loop (σ := Int × Int) B (fun g9 : Int × Int => (0 ≤ g9.1 ∧ g9.1 ≤ 8 ∧ 0 ≤ g9.2 ∧ g9.2 ≤ g9.1) ∧ (g9.2 = taF T M t (Int.toNat g9.1))) (fun g9 : Int × Int => (8 - g9.1).toNat) (fun g9 : Int × Int => [(3, .int (iI g9.1)), (2, .int (iI g9.2)), (0, .ref ly), (1, .int (iI t))]) (fun g9 : Int × Int => ([(ly, .inr (1, [.ref (A 50 0 0), .int (iI v), .ref ln, .ref (Aw 20), .ref pp, .int (iI gO), .int (iI iL), .ref l1, .ref l2, .ref l3, .ref l4, .ref l5, .ref l6, .int (iI nR), .int (iI sT), .int (iI dg), .ref l7]))] ++ tl)) ?_ (0, 0) ⟨(show 0 ≤ 0 ∧ 0 ≤ 8 ∧ 0 ≤ 0 ∧ 0 ≤ 0 from (by omega)), (show 0 = taF T M t (Int.toNat 0) from rfl)⟩ ls H locs (lv_sub hl [0, 1, 2, 3] rfl) (bd_to rfl B)
  clear hl B
  rintro ⟨pq, ah⟩ ⟨hk, hah⟩ ih_1 ls H locs hl B
  have hk : 0 ≤ pq ∧ pq ≤ 8 ∧ 0 ≤ ah ∧ ah ≤ pq := hk
  have hah : ah = taF T M t (Int.toNat pq) := hah
  have hl : lv_has ls 5 [(3, .int (iI pq)), (2, .int (iI ah)), (0, .ref ly), (1, .int (iI t))] := hl
  have B := bd_to (ws' := ([(ly, .inr (1, [.ref (A 50 0 0), .int (iI v), .ref ln, .ref (Aw 20), .ref pp, .int (iI gO), .int (iI iL), .ref l1, .ref l2, .ref l3, .ref l4, .ref l5, .ref l6, .int (iI nR), .int (iI sT), .int (iI dg), .ref l7]))] ++ tl)) rfl B
  refine lv_iload_n hx hb dX1_termsAhead_4 rfl (lv_at hl 0 rfl) ?_
  refine lv_bipush (v := iI 8) hx hb dX1_termsAhead_5 (by decide) ?_
  refine lv_icmp_ge (tgt := 90) hx hb dX1_termsAhead_7 (by decide) (fun c_2 => ?_) (fun c_2 => ?_)
  · have zc_2 : 8 ≤ pq := jle (a := 8) (b := pq) (by omega) (by omega) c_2
    refine lv_iload_n hx hb dX1_termsAhead_90 rfl (lv_at hl 1 rfl) ?_
    have e_3 : (taF T M t 8) = ah := (by rw [hah, show Int.toNat pq = 8 by omega])
    skip
    exact k_iret B hr (⟨(by have e9 : taF T M t 8 = ah := (by rw [hah, show Int.toNat pq = 8 by omega]); omega), (by rw [e_3]), rfl, rfl, rfl⟩) ⟨Nat.le_of_ble_eq_true rfl, Nat.le_of_ble_eq_true rfl⟩ ⟨Nat.le_of_ble_eq_true rfl, Nat.le_of_ble_eq_true rfl⟩ dX1_termsAhead_91
  · have zc_2 : pq < 8 := jnle (a := 8) (b := pq) (by omega) (by omega) c_2
    refine lv_aload_n hx hb dX1_termsAhead_10 rfl (lv_at hl 2 rfl) ?_
    refine x_get (ci := 1) (C := RX1) (T := TX1) (N := 17) (v := .ref (A 50 0 0)) B 0 rfl rfl in_X1 0 (by decide) mw_410 (fun _ h9 => h9) rfl dX1_termsAhead_11 ?_
    obtain ⟨k_4, hk_4⟩ := pk_at (hs := [(ly, .inr (1, [.ref (A 50 0 0), .int (iI v), .ref ln, .ref (Aw 20), .ref pp, .int (iI gO), .int (iI iL), .ref l1, .ref l2, .ref l3, .ref l4, .ref l5, .ref l6, .int (iI nR), .int (iI sT), .int (iI dg), .ref l7]))]) hT.1.1
    refine x_get (ci := 9) (C := RX9) (T := TX9) (N := 8) (v := .ref (A 55 0 0)) B k_4 hk_4 rfl in_X9 5 (by decide) mw_93 (fun _ h9 => h9) rfl dX1_termsAhead_14 ?_
    refine lv_iload_n hx hb dX1_termsAhead_17 rfl (lv_at hl 0 rfl) ?_
    obtain ⟨k_5, hk_5⟩ := pk_at (hs := [(ly, .inr (1, [.ref (A 50 0 0), .int (iI v), .ref ln, .ref (Aw 20), .ref pp, .int (iI gO), .int (iI iL), .ref l1, .ref l2, .ref l3, .ref l4, .ref l5, .ref l6, .int (iI nR), .int (iI sT), .int (iI dg), .ref l7]))]) hT.1.2.2.2
    refine x_iald' (f := (fun j9 : Int => T 15 j9 0 0)) (z := pq) B k_5 hk_5 (by omega) dX1_termsAhead_18 ?_
    have z_6 : 0 ≤ (T 15 pq 0 0) ∧ (T 15 pq 0 0) ≤ 999 := (fun j => TK_key hK j) pq
    refine lv_aload_n hx hb dX1_termsAhead_19 rfl (lv_at hl 2 rfl) ?_
    refine x_get (ci := 1) (C := RX1) (T := TX1) (N := 17) (v := .ref (A 50 0 0)) B 0 rfl rfl in_X1 0 (by decide) mw_410 (fun _ h9 => h9) rfl dX1_termsAhead_20 ?_
    obtain ⟨k_7, hk_7⟩ := pk_at (hs := [(ly, .inr (1, [.ref (A 50 0 0), .int (iI v), .ref ln, .ref (Aw 20), .ref pp, .int (iI gO), .int (iI iL), .ref l1, .ref l2, .ref l3, .ref l4, .ref l5, .ref l6, .int (iI nR), .int (iI sT), .int (iI dg), .ref l7]))]) hT.1.1
    refine x_get (ci := 9) (C := RX9) (T := TX9) (N := 8) (v := .ref (A 55 0 0)) B k_7 hk_7 rfl in_X9 5 (by decide) mw_93 (fun _ h9 => h9) rfl dX1_termsAhead_23 ?_
    refine lv_iload_n hx hb dX1_termsAhead_26 rfl (lv_at hl 3 rfl) ?_
    obtain ⟨k_8, hk_8⟩ := pk_at (hs := [(ly, .inr (1, [.ref (A 50 0 0), .int (iI v), .ref ln, .ref (Aw 20), .ref pp, .int (iI gO), .int (iI iL), .ref l1, .ref l2, .ref l3, .ref l4, .ref l5, .ref l6, .int (iI nR), .int (iI sT), .int (iI dg), .ref l7]))]) hT.1.2.2.2
    refine x_iald' (f := (fun j9 : Int => T 15 j9 0 0)) (z := t) B k_8 hk_8 (by omega) dX1_termsAhead_27 ?_
    have z_9 : 0 ≤ (T 15 t 0 0) ∧ (T 15 t 0 0) ≤ 999 := (fun j => TK_key hK j) t
    refine lv_icmp_lt (tgt := 57) hx hb dX1_termsAhead_28 (by decide) (fun c_10 => ?_) (fun c_10 => ?_)
    · have zc_10 : (T 15 pq 0 0) < (T 15 t 0 0) := jlt (a := (T 15 pq 0 0)) (b := (T 15 t 0 0)) (by omega) (by omega) c_10
      refine lv_iconst (v := iI 1) hx hb dX1_termsAhead_57 (by decide) ?_
      refine lv_goto (tgt := 62) hx hb dX1_termsAhead_58 (by decide) ?_
      refine lv_istore (lv' := [(4, .int (iI 1)), (3, .int (iI pq)), (2, .int (iI ah)), (0, .ref ly), (1, .int (iI t))]) hx hb dX1_termsAhead_62 hl (by decide) rfl (fun ls hl => ?_)
      refine lv_aload_n hx hb dX1_termsAhead_64 rfl (lv_at hl 3 rfl) ?_
      refine x_get (ci := 1) (C := RX1) (T := TX1) (N := 17) (v := .ref (Aw 20)) B 0 rfl rfl in_X1 3 (by decide) mw_413 (fun _ h9 => h9) rfl dX1_termsAhead_65 ?_
      obtain ⟨k_11, hk_11⟩ := pk_at (hs := [(ly, .inr (1, [.ref (A 50 0 0), .int (iI v), .ref ln, .ref (Aw 20), .ref pp, .int (iI gO), .int (iI iL), .ref l1, .ref l2, .ref l3, .ref l4, .ref l5, .ref l6, .int (iI nR), .int (iI sT), .int (iI dg), .ref l7]))]) (RI_o hR)
      refine x_get (ci := 6) (C := RX6) (T := TX6) (N := 18) (v := .ref (Aw 11)) B k_11 hk_11 rfl in_X6 11 (by decide) mw_251 (fun _ h9 => h9) rfl dX1_termsAhead_68 ?_
      refine lv_iload_n hx hb dX1_termsAhead_71 rfl (lv_at hl 1 rfl) ?_
      obtain ⟨k_12, hk_12⟩ := pk_at (hs := [(ly, .inr (1, [.ref (A 50 0 0), .int (iI v), .ref ln, .ref (Aw 20), .ref pp, .int (iI gO), .int (iI iL), .ref l1, .ref l2, .ref l3, .ref l4, .ref l5, .ref l6, .int (iI nR), .int (iI sT), .int (iI dg), .ref l7]))]) (RI_11 hR)
      refine x_zald' (f := (V 11)) (z := pq) B k_12 hk_12 (by omega) dX1_termsAhead_72 ?_
      refine lv_seti (y := iI (M 11 pq)) (congrArg iI (show (V 11) pq = M 11 pq from RA_11 (RI_a hR) _ (by omega) (by omega))) ?_
      have z_13 : 0 ≤ M 11 pq ∧ M 11 pq ≤ 1 := MK_11 hM _
      refine lv_if_eq (tgt := 84) hx hb dX1_termsAhead_73 (by decide) (fun c_14 => ?_) (fun c_14 => ?_)
      · have zc_14 : (M 11 pq) = 0 := jeq (a := (M 11 pq)) (b := 0) (by omega) (by omega) c_14
        refine lv_iinc (v := iI (pq + 1)) (lv' := [(3, .int (iI (pq + 1))), (4, .int (iI 1)), (2, .int (iI ah)), (0, .ref ly), (1, .int (iI t))]) hx hb dX1_termsAhead_84 hl (k := 1) rfl (iI_add _ _) (by decide) rfl (fun ls hl => ?_)
        refine lv_goto (tgt := 4) hx hb dX1_termsAhead_87 (by decide) ?_
        exact ih_1 ((pq + 1), ah) ⟨(show 0 ≤ (pq + 1) ∧ (pq + 1) ≤ 8 ∧ 0 ≤ ah ∧ ah ≤ (pq + 1) from (by omega)), (show ah = taF T M t (Int.toNat (pq + 1)) from (by rw [taF_s (by omega), ← hah, if_neg (by omega)]; omega))⟩ (by first | omega | (dsimp only; omega)) _ _ _ (lv_sub hl [0, 2, 3, 4] rfl) (bd_to rfl B)
      · have zc_14 : (M 11 pq) ≠ 0 := jne (a := (M 11 pq)) (b := 0) (by omega) (by omega) c_14
        refine lv_iload hx hb dX1_termsAhead_76 (lv_at hl 0 rfl) ?_
        refine lv_if_eq (tgt := 84) hx hb dX1_termsAhead_78 (by decide) (fun c9 => absurd c9 (by decide)) (fun _ => ?_)
        refine lv_iinc (v := iI (ah + 1)) (lv' := [(2, .int (iI (ah + 1))), (4, .int (iI 1)), (3, .int (iI pq)), (0, .ref ly), (1, .int (iI t))]) hx hb dX1_termsAhead_81 hl (k := 2) rfl (iI_add _ _) (by decide) rfl (fun ls hl => ?_)
        refine lv_iinc (v := iI (pq + 1)) (lv' := [(3, .int (iI (pq + 1))), (2, .int (iI (ah + 1))), (4, .int (iI 1)), (0, .ref ly), (1, .int (iI t))]) hx hb dX1_termsAhead_84 hl (k := 2) rfl (iI_add _ _) (by decide) rfl (fun ls hl => ?_)
        refine lv_goto (tgt := 4) hx hb dX1_termsAhead_87 (by decide) ?_
        exact ih_1 ((pq + 1), (ah + 1)) ⟨(show 0 ≤ (pq + 1) ∧ (pq + 1) ≤ 8 ∧ 0 ≤ (ah + 1) ∧ (ah + 1) ≤ (pq + 1) from (by omega)), (show (ah + 1) = taF T M t (Int.toNat (pq + 1)) from (by rw [taF_s (by omega), ← hah, if_pos (by omega)]))⟩ (by first | omega | (dsimp only; omega)) _ _ _ (lv_sub hl [0, 1, 3, 4] rfl) (bd_to rfl B)
    · have zc_10 : (T 15 t 0 0) ≤ (T 15 pq 0 0) := jnlt (a := (T 15 pq 0 0)) (b := (T 15 t 0 0)) (by omega) (by omega) c_10
      refine lv_aload_n hx hb dX1_termsAhead_31 rfl (lv_at hl 2 rfl) ?_
      refine x_get (ci := 1) (C := RX1) (T := TX1) (N := 17) (v := .ref (A 50 0 0)) B 0 rfl rfl in_X1 0 (by decide) mw_410 (fun _ h9 => h9) rfl dX1_termsAhead_32 ?_
      obtain ⟨k_15, hk_15⟩ := pk_at (hs := [(ly, .inr (1, [.ref (A 50 0 0), .int (iI v), .ref ln, .ref (Aw 20), .ref pp, .int (iI gO), .int (iI iL), .ref l1, .ref l2, .ref l3, .ref l4, .ref l5, .ref l6, .int (iI nR), .int (iI sT), .int (iI dg), .ref l7]))]) hT.1.1
      refine x_get (ci := 9) (C := RX9) (T := TX9) (N := 8) (v := .ref (A 55 0 0)) B k_15 hk_15 rfl in_X9 5 (by decide) mw_93 (fun _ h9 => h9) rfl dX1_termsAhead_35 ?_
      refine lv_iload_n hx hb dX1_termsAhead_38 rfl (lv_at hl 0 rfl) ?_
      obtain ⟨k_16, hk_16⟩ := pk_at (hs := [(ly, .inr (1, [.ref (A 50 0 0), .int (iI v), .ref ln, .ref (Aw 20), .ref pp, .int (iI gO), .int (iI iL), .ref l1, .ref l2, .ref l3, .ref l4, .ref l5, .ref l6, .int (iI nR), .int (iI sT), .int (iI dg), .ref l7]))]) hT.1.2.2.2
      refine x_iald' (f := (fun j9 : Int => T 15 j9 0 0)) (z := pq) B k_16 hk_16 (by omega) dX1_termsAhead_39 ?_
      have z_17 : 0 ≤ (T 15 pq 0 0) ∧ (T 15 pq 0 0) ≤ 999 := (fun j => TK_key hK j) pq
      refine lv_aload_n hx hb dX1_termsAhead_40 rfl (lv_at hl 2 rfl) ?_
      refine x_get (ci := 1) (C := RX1) (T := TX1) (N := 17) (v := .ref (A 50 0 0)) B 0 rfl rfl in_X1 0 (by decide) mw_410 (fun _ h9 => h9) rfl dX1_termsAhead_41 ?_
      obtain ⟨k_18, hk_18⟩ := pk_at (hs := [(ly, .inr (1, [.ref (A 50 0 0), .int (iI v), .ref ln, .ref (Aw 20), .ref pp, .int (iI gO), .int (iI iL), .ref l1, .ref l2, .ref l3, .ref l4, .ref l5, .ref l6, .int (iI nR), .int (iI sT), .int (iI dg), .ref l7]))]) hT.1.1
      refine x_get (ci := 9) (C := RX9) (T := TX9) (N := 8) (v := .ref (A 55 0 0)) B k_18 hk_18 rfl in_X9 5 (by decide) mw_93 (fun _ h9 => h9) rfl dX1_termsAhead_44 ?_
      refine lv_iload_n hx hb dX1_termsAhead_47 rfl (lv_at hl 3 rfl) ?_
      obtain ⟨k_19, hk_19⟩ := pk_at (hs := [(ly, .inr (1, [.ref (A 50 0 0), .int (iI v), .ref ln, .ref (Aw 20), .ref pp, .int (iI gO), .int (iI iL), .ref l1, .ref l2, .ref l3, .ref l4, .ref l5, .ref l6, .int (iI nR), .int (iI sT), .int (iI dg), .ref l7]))]) hT.1.2.2.2
      refine x_iald' (f := (fun j9 : Int => T 15 j9 0 0)) (z := t) B k_19 hk_19 (by omega) dX1_termsAhead_48 ?_
      have z_20 : 0 ≤ (T 15 t 0 0) ∧ (T 15 t 0 0) ≤ 999 := (fun j => TK_key hK j) t
      refine lv_icmp_ne (tgt := 61) hx hb dX1_termsAhead_49 (by decide) (fun c_21 => ?_) (fun c_21 => ?_)
      · have zc_21 : (T 15 pq 0 0) ≠ (T 15 t 0 0) := jne (a := (T 15 pq 0 0)) (b := (T 15 t 0 0)) (by omega) (by omega) c_21
        refine lv_iconst (v := iI 0) hx hb dX1_termsAhead_61 (by decide) ?_
        refine lv_istore (lv' := [(4, .int (iI 0)), (3, .int (iI pq)), (2, .int (iI ah)), (0, .ref ly), (1, .int (iI t))]) hx hb dX1_termsAhead_62 hl (by decide) rfl (fun ls hl => ?_)
        refine lv_aload_n hx hb dX1_termsAhead_64 rfl (lv_at hl 3 rfl) ?_
        refine x_get (ci := 1) (C := RX1) (T := TX1) (N := 17) (v := .ref (Aw 20)) B 0 rfl rfl in_X1 3 (by decide) mw_413 (fun _ h9 => h9) rfl dX1_termsAhead_65 ?_
        obtain ⟨k_22, hk_22⟩ := pk_at (hs := [(ly, .inr (1, [.ref (A 50 0 0), .int (iI v), .ref ln, .ref (Aw 20), .ref pp, .int (iI gO), .int (iI iL), .ref l1, .ref l2, .ref l3, .ref l4, .ref l5, .ref l6, .int (iI nR), .int (iI sT), .int (iI dg), .ref l7]))]) (RI_o hR)
        refine x_get (ci := 6) (C := RX6) (T := TX6) (N := 18) (v := .ref (Aw 11)) B k_22 hk_22 rfl in_X6 11 (by decide) mw_251 (fun _ h9 => h9) rfl dX1_termsAhead_68 ?_
        refine lv_iload_n hx hb dX1_termsAhead_71 rfl (lv_at hl 1 rfl) ?_
        obtain ⟨k_23, hk_23⟩ := pk_at (hs := [(ly, .inr (1, [.ref (A 50 0 0), .int (iI v), .ref ln, .ref (Aw 20), .ref pp, .int (iI gO), .int (iI iL), .ref l1, .ref l2, .ref l3, .ref l4, .ref l5, .ref l6, .int (iI nR), .int (iI sT), .int (iI dg), .ref l7]))]) (RI_11 hR)
        refine x_zald' (f := (V 11)) (z := pq) B k_23 hk_23 (by omega) dX1_termsAhead_72 ?_
        refine lv_seti (y := iI (M 11 pq)) (congrArg iI (show (V 11) pq = M 11 pq from RA_11 (RI_a hR) _ (by omega) (by omega))) ?_
        have z_24 : 0 ≤ M 11 pq ∧ M 11 pq ≤ 1 := MK_11 hM _
        refine lv_if_eq (tgt := 84) hx hb dX1_termsAhead_73 (by decide) (fun c_25 => ?_) (fun c_25 => ?_)
        · have zc_25 : (M 11 pq) = 0 := jeq (a := (M 11 pq)) (b := 0) (by omega) (by omega) c_25
          refine lv_iinc (v := iI (pq + 1)) (lv' := [(3, .int (iI (pq + 1))), (4, .int (iI 0)), (2, .int (iI ah)), (0, .ref ly), (1, .int (iI t))]) hx hb dX1_termsAhead_84 hl (k := 1) rfl (iI_add _ _) (by decide) rfl (fun ls hl => ?_)
          refine lv_goto (tgt := 4) hx hb dX1_termsAhead_87 (by decide) ?_
          exact ih_1 ((pq + 1), ah) ⟨(show 0 ≤ (pq + 1) ∧ (pq + 1) ≤ 8 ∧ 0 ≤ ah ∧ ah ≤ (pq + 1) from (by omega)), (show ah = taF T M t (Int.toNat (pq + 1)) from (by rw [taF_s (by omega), ← hah, if_neg (by omega)]; omega))⟩ (by first | omega | (dsimp only; omega)) _ _ _ (lv_sub hl [0, 2, 3, 4] rfl) (bd_to rfl B)
        · have zc_25 : (M 11 pq) ≠ 0 := jne (a := (M 11 pq)) (b := 0) (by omega) (by omega) c_25
          refine lv_iload hx hb dX1_termsAhead_76 (lv_at hl 0 rfl) ?_
          refine lv_if_eq (tgt := 84) hx hb dX1_termsAhead_78 (by decide) (fun _ => ?_) (fun c9 => absurd (by decide) c9)
          refine lv_iinc (v := iI (pq + 1)) (lv' := [(3, .int (iI (pq + 1))), (4, .int (iI 0)), (2, .int (iI ah)), (0, .ref ly), (1, .int (iI t))]) hx hb dX1_termsAhead_84 hl (k := 1) rfl (iI_add _ _) (by decide) rfl (fun ls hl => ?_)
          refine lv_goto (tgt := 4) hx hb dX1_termsAhead_87 (by decide) ?_
          exact ih_1 ((pq + 1), ah) ⟨(show 0 ≤ (pq + 1) ∧ (pq + 1) ≤ 8 ∧ 0 ≤ ah ∧ ah ≤ (pq + 1) from (by omega)), (show ah = taF T M t (Int.toNat (pq + 1)) from (by rw [taF_s (by omega), ← hah, if_neg (by omega)]; omega))⟩ (by first | omega | (dsimp only; omega)) _ _ _ (lv_sub hl [0, 2, 3, 4] rfl) (bd_to rfl B)
      · have zc_21 : (T 15 pq 0 0) = (T 15 t 0 0) := jeq (a := (T 15 pq 0 0)) (b := (T 15 t 0 0)) (by omega) (by omega) c_21
        refine lv_iload_n hx hb dX1_termsAhead_52 rfl (lv_at hl 0 rfl) ?_
        refine lv_iload_n hx hb dX1_termsAhead_53 rfl (lv_at hl 3 rfl) ?_
        refine lv_icmp_ge (tgt := 61) hx hb dX1_termsAhead_54 (by decide) (fun c_26 => ?_) (fun c_26 => ?_)
        · have zc_26 : t ≤ pq := jle (a := t) (b := pq) (by omega) (by omega) c_26
          refine lv_iconst (v := iI 0) hx hb dX1_termsAhead_61 (by decide) ?_
          refine lv_istore (lv' := [(4, .int (iI 0)), (3, .int (iI pq)), (2, .int (iI ah)), (0, .ref ly), (1, .int (iI t))]) hx hb dX1_termsAhead_62 hl (by decide) rfl (fun ls hl => ?_)
          refine lv_aload_n hx hb dX1_termsAhead_64 rfl (lv_at hl 3 rfl) ?_
          refine x_get (ci := 1) (C := RX1) (T := TX1) (N := 17) (v := .ref (Aw 20)) B 0 rfl rfl in_X1 3 (by decide) mw_413 (fun _ h9 => h9) rfl dX1_termsAhead_65 ?_
          obtain ⟨k_27, hk_27⟩ := pk_at (hs := [(ly, .inr (1, [.ref (A 50 0 0), .int (iI v), .ref ln, .ref (Aw 20), .ref pp, .int (iI gO), .int (iI iL), .ref l1, .ref l2, .ref l3, .ref l4, .ref l5, .ref l6, .int (iI nR), .int (iI sT), .int (iI dg), .ref l7]))]) (RI_o hR)
          refine x_get (ci := 6) (C := RX6) (T := TX6) (N := 18) (v := .ref (Aw 11)) B k_27 hk_27 rfl in_X6 11 (by decide) mw_251 (fun _ h9 => h9) rfl dX1_termsAhead_68 ?_
          refine lv_iload_n hx hb dX1_termsAhead_71 rfl (lv_at hl 1 rfl) ?_
          obtain ⟨k_28, hk_28⟩ := pk_at (hs := [(ly, .inr (1, [.ref (A 50 0 0), .int (iI v), .ref ln, .ref (Aw 20), .ref pp, .int (iI gO), .int (iI iL), .ref l1, .ref l2, .ref l3, .ref l4, .ref l5, .ref l6, .int (iI nR), .int (iI sT), .int (iI dg), .ref l7]))]) (RI_11 hR)
          refine x_zald' (f := (V 11)) (z := pq) B k_28 hk_28 (by omega) dX1_termsAhead_72 ?_
          refine lv_seti (y := iI (M 11 pq)) (congrArg iI (show (V 11) pq = M 11 pq from RA_11 (RI_a hR) _ (by omega) (by omega))) ?_
          have z_29 : 0 ≤ M 11 pq ∧ M 11 pq ≤ 1 := MK_11 hM _
          refine lv_if_eq (tgt := 84) hx hb dX1_termsAhead_73 (by decide) (fun c_30 => ?_) (fun c_30 => ?_)
          · have zc_30 : (M 11 pq) = 0 := jeq (a := (M 11 pq)) (b := 0) (by omega) (by omega) c_30
            refine lv_iinc (v := iI (pq + 1)) (lv' := [(3, .int (iI (pq + 1))), (4, .int (iI 0)), (2, .int (iI ah)), (0, .ref ly), (1, .int (iI t))]) hx hb dX1_termsAhead_84 hl (k := 1) rfl (iI_add _ _) (by decide) rfl (fun ls hl => ?_)
            refine lv_goto (tgt := 4) hx hb dX1_termsAhead_87 (by decide) ?_
            exact ih_1 ((pq + 1), ah) ⟨(show 0 ≤ (pq + 1) ∧ (pq + 1) ≤ 8 ∧ 0 ≤ ah ∧ ah ≤ (pq + 1) from (by omega)), (show ah = taF T M t (Int.toNat (pq + 1)) from (by rw [taF_s (by omega), ← hah, if_neg (by omega)]; omega))⟩ (by first | omega | (dsimp only; omega)) _ _ _ (lv_sub hl [0, 2, 3, 4] rfl) (bd_to rfl B)
          · have zc_30 : (M 11 pq) ≠ 0 := jne (a := (M 11 pq)) (b := 0) (by omega) (by omega) c_30
            refine lv_iload hx hb dX1_termsAhead_76 (lv_at hl 0 rfl) ?_
            refine lv_if_eq (tgt := 84) hx hb dX1_termsAhead_78 (by decide) (fun _ => ?_) (fun c9 => absurd (by decide) c9)
            refine lv_iinc (v := iI (pq + 1)) (lv' := [(3, .int (iI (pq + 1))), (4, .int (iI 0)), (2, .int (iI ah)), (0, .ref ly), (1, .int (iI t))]) hx hb dX1_termsAhead_84 hl (k := 1) rfl (iI_add _ _) (by decide) rfl (fun ls hl => ?_)
            refine lv_goto (tgt := 4) hx hb dX1_termsAhead_87 (by decide) ?_
            exact ih_1 ((pq + 1), ah) ⟨(show 0 ≤ (pq + 1) ∧ (pq + 1) ≤ 8 ∧ 0 ≤ ah ∧ ah ≤ (pq + 1) from (by omega)), (show ah = taF T M t (Int.toNat (pq + 1)) from (by rw [taF_s (by omega), ← hah, if_neg (by omega)]; omega))⟩ (by first | omega | (dsimp only; omega)) _ _ _ (lv_sub hl [0, 2, 3, 4] rfl) (bd_to rfl B)
        · have zc_26 : pq < t := jnle (a := t) (b := pq) (by omega) (by omega) c_26
          refine lv_iconst (v := iI 1) hx hb dX1_termsAhead_57 (by decide) ?_
          refine lv_goto (tgt := 62) hx hb dX1_termsAhead_58 (by decide) ?_
          refine lv_istore (lv' := [(4, .int (iI 1)), (3, .int (iI pq)), (2, .int (iI ah)), (0, .ref ly), (1, .int (iI t))]) hx hb dX1_termsAhead_62 hl (by decide) rfl (fun ls hl => ?_)
          refine lv_aload_n hx hb dX1_termsAhead_64 rfl (lv_at hl 3 rfl) ?_
          refine x_get (ci := 1) (C := RX1) (T := TX1) (N := 17) (v := .ref (Aw 20)) B 0 rfl rfl in_X1 3 (by decide) mw_413 (fun _ h9 => h9) rfl dX1_termsAhead_65 ?_
          obtain ⟨k_31, hk_31⟩ := pk_at (hs := [(ly, .inr (1, [.ref (A 50 0 0), .int (iI v), .ref ln, .ref (Aw 20), .ref pp, .int (iI gO), .int (iI iL), .ref l1, .ref l2, .ref l3, .ref l4, .ref l5, .ref l6, .int (iI nR), .int (iI sT), .int (iI dg), .ref l7]))]) (RI_o hR)
          refine x_get (ci := 6) (C := RX6) (T := TX6) (N := 18) (v := .ref (Aw 11)) B k_31 hk_31 rfl in_X6 11 (by decide) mw_251 (fun _ h9 => h9) rfl dX1_termsAhead_68 ?_
          refine lv_iload_n hx hb dX1_termsAhead_71 rfl (lv_at hl 1 rfl) ?_
          obtain ⟨k_32, hk_32⟩ := pk_at (hs := [(ly, .inr (1, [.ref (A 50 0 0), .int (iI v), .ref ln, .ref (Aw 20), .ref pp, .int (iI gO), .int (iI iL), .ref l1, .ref l2, .ref l3, .ref l4, .ref l5, .ref l6, .int (iI nR), .int (iI sT), .int (iI dg), .ref l7]))]) (RI_11 hR)
          refine x_zald' (f := (V 11)) (z := pq) B k_32 hk_32 (by omega) dX1_termsAhead_72 ?_
          refine lv_seti (y := iI (M 11 pq)) (congrArg iI (show (V 11) pq = M 11 pq from RA_11 (RI_a hR) _ (by omega) (by omega))) ?_
          have z_33 : 0 ≤ M 11 pq ∧ M 11 pq ≤ 1 := MK_11 hM _
          refine lv_if_eq (tgt := 84) hx hb dX1_termsAhead_73 (by decide) (fun c_34 => ?_) (fun c_34 => ?_)
          · have zc_34 : (M 11 pq) = 0 := jeq (a := (M 11 pq)) (b := 0) (by omega) (by omega) c_34
            refine lv_iinc (v := iI (pq + 1)) (lv' := [(3, .int (iI (pq + 1))), (4, .int (iI 1)), (2, .int (iI ah)), (0, .ref ly), (1, .int (iI t))]) hx hb dX1_termsAhead_84 hl (k := 1) rfl (iI_add _ _) (by decide) rfl (fun ls hl => ?_)
            refine lv_goto (tgt := 4) hx hb dX1_termsAhead_87 (by decide) ?_
            exact ih_1 ((pq + 1), ah) ⟨(show 0 ≤ (pq + 1) ∧ (pq + 1) ≤ 8 ∧ 0 ≤ ah ∧ ah ≤ (pq + 1) from (by omega)), (show ah = taF T M t (Int.toNat (pq + 1)) from (by rw [taF_s (by omega), ← hah, if_neg (by omega)]; omega))⟩ (by first | omega | (dsimp only; omega)) _ _ _ (lv_sub hl [0, 2, 3, 4] rfl) (bd_to rfl B)
          · have zc_34 : (M 11 pq) ≠ 0 := jne (a := (M 11 pq)) (b := 0) (by omega) (by omega) c_34
            refine lv_iload hx hb dX1_termsAhead_76 (lv_at hl 0 rfl) ?_
            refine lv_if_eq (tgt := 84) hx hb dX1_termsAhead_78 (by decide) (fun c9 => absurd c9 (by decide)) (fun _ => ?_)
            refine lv_iinc (v := iI (ah + 1)) (lv' := [(2, .int (iI (ah + 1))), (4, .int (iI 1)), (3, .int (iI pq)), (0, .ref ly), (1, .int (iI t))]) hx hb dX1_termsAhead_81 hl (k := 2) rfl (iI_add _ _) (by decide) rfl (fun ls hl => ?_)
            refine lv_iinc (v := iI (pq + 1)) (lv' := [(3, .int (iI (pq + 1))), (2, .int (iI (ah + 1))), (4, .int (iI 1)), (0, .ref ly), (1, .int (iI t))]) hx hb dX1_termsAhead_84 hl (k := 2) rfl (iI_add _ _) (by decide) rfl (fun ls hl => ?_)
            refine lv_goto (tgt := 4) hx hb dX1_termsAhead_87 (by decide) ?_
            exact ih_1 ((pq + 1), (ah + 1)) ⟨(show 0 ≤ (pq + 1) ∧ (pq + 1) ≤ 8 ∧ 0 ≤ (ah + 1) ∧ (ah + 1) ≤ (pq + 1) from (by omega)), (show (ah + 1) = taF T M t (Int.toNat (pq + 1)) from (by rw [taF_s (by omega), ← hah, if_pos (by omega)]))⟩ (by first | omega | (dsimp only; omega)) _ _ _ (lv_sub hl [0, 1, 3, 4] rfl) (bd_to rfl B)

theorem mw_1838 : (Jvm.Cond.methodLink "Galleyforge$Layout" (187 : Nat) ({ cls := "Galleyforge$Layout", name := "termsAhead", desc := "(I)I" } : Jvm.MethodName)) ∈ gt := gt_at 1908 (by decide +kernel) (by decide +kernel)
theorem mw_1840 : (Jvm.Cond.instanceMethod ({ cls := "Galleyforge$Layout", name := "termsAhead", desc := "(I)I" } : Jvm.MethodName)) ∈ gt := gt_at 1910 (by decide +kernel) (by decide +kernel)
theorem mw_1841 : (Jvm.Cond.code ({ cls := "Galleyforge$Layout", name := "termsAhead", desc := "(I)I" } : Jvm.MethodName) prog_3_method_16_code (5 : Nat) (Option.some Jvm.ClassFile.FieldType.int)) ∈ gt := gt_at 1911 (by decide +kernel) (by decide +kernel)
theorem ms_68 : Cond.selects "Galleyforge$Layout" (⟨"Galleyforge$Layout", "termsAhead", "(I)I"⟩ : MethodName) (⟨"Galleyforge$Layout", "termsAhead", "(I)I"⟩ : MethodName) ∈ gt := gt_at 68 (by decide +kernel) (by decide +kernel)
theorem mV_X1_termsAhead : mV yX1_termsAhead cX1_termsAhead 5 (some .int) 1 := ⟨⟨mw_1841, mw_8, by decide, by decide, by decide +kernel⟩, mw_1840, ms_68⟩
theorem dX1_termAt_0 : decode cX1_termAt 0 = .ok (.iconst 0, 1) := by decide +kernel
theorem dX1_termAt_1 : decode cX1_termAt 1 = .ok (.istore_n 2, 1) := by decide +kernel
theorem dX1_termAt_2 : decode cX1_termAt 2 = .ok (.iload_n 2, 1) := by decide +kernel
theorem dX1_termAt_3 : decode cX1_termAt 3 = .ok (.bipush 8, 2) := by decide +kernel
theorem dX1_termAt_5 : decode cX1_termAt 5 = .ok (.if_icmp .ge 32, 3) := by decide +kernel
theorem dX1_termAt_8 : decode cX1_termAt 8 = .ok (.aload_n 0, 1) := by decide +kernel
theorem dX1_termAt_9 : decode cX1_termAt 9 = .ok (.getfield 57, 3) := by decide +kernel
theorem dX1_termAt_12 : decode cX1_termAt 12 = .ok (.getfield 184, 3) := by decide +kernel
theorem dX1_termAt_15 : decode cX1_termAt 15 = .ok (.iload_n 2, 1) := by decide +kernel
theorem dX1_termAt_16 : decode cX1_termAt 16 = .ok (.baload, 1) := by decide +kernel
theorem dX1_termAt_17 : decode cX1_termAt 17 = .ok (.ifCond .eq 14, 3) := by decide +kernel
theorem dX1_termAt_20 : decode cX1_termAt 20 = .ok (.aload_n 0, 1) := by decide +kernel
theorem dX1_termAt_21 : decode cX1_termAt 21 = .ok (.iload_n 2, 1) := by decide +kernel
theorem dX1_termAt_22 : decode cX1_termAt 22 = .ok (.invokevirtual 187, 3) := by decide +kernel
theorem dX1_termAt_25 : decode cX1_termAt 25 = .ok (.iload_n 1, 1) := by decide +kernel
theorem dX1_termAt_26 : decode cX1_termAt 26 = .ok (.if_icmp .ne 5, 3) := by decide +kernel
theorem dX1_termAt_29 : decode cX1_termAt 29 = .ok (.iload_n 2, 1) := by decide +kernel
theorem dX1_termAt_30 : decode cX1_termAt 30 = .ok (.ireturn, 1) := by decide +kernel
theorem dX1_termAt_31 : decode cX1_termAt 31 = .ok (.iinc 2 1, 3) := by decide +kernel
theorem dX1_termAt_34 : decode cX1_termAt 34 = .ok (.goto (-32), 3) := by decide +kernel
theorem dX1_termAt_37 : decode cX1_termAt 37 = .ok (.iconst (-1), 1) := by decide +kernel
theorem dX1_termAt_38 : decode cX1_termAt 38 = .ok (.ireturn, 1) := by decide +kernel
set_option maxHeartbeats 4000000 in
set_option maxRecDepth 100000 in
theorem k_termAt (l : Launch) (dC : Nat → ClassId) (dI : Nat → Nat → Nat) (k : Nat → ClassId) (ly : Nat) (ln : Nat) (rw : Nat) (pp : Nat) (l1 : Nat) (l2 : Nat) (l3 : Nat) (l4 : Nat) (l5 : Nat) (l6 : Nat) (l7 : Nat) (v : Int) (gO : Int) (iL : Int) (nR : Int) (sT : Int) (dg : Int) (m1 : Int → Int) (m2 : Int → Int) (m3 : Int → Int) (m4 : Int → Int) (m5 : Int → Int) (m6 : Int → Int) (m7 : Int → Int) (T : Nat → Int → Int → Int → Int) (A : Nat → Int → Int → Nat) (X : Nat → Int → Int → Int) (tl : va_W) (M : Nat → Int → Int) (V : Nat → Int → Int) (Aw : Nat → Nat) (ix : Int) (hT : TI dI k T A X tl) (hK : TK T) (hR : RI k (T 0 0 0 0) M V Aw tl) (hM : MK M) (hMT : ∀ j, 0 ≤ j → j < M 0 0 → M 2 j < T 0 0 0 0) (h1 : -2147483648 ≤ ix ∧ ix < 2147483648) : Kn l dC dI k yX1_termAt (.code yX1_termAt cX1_termAt 3 (some .int)) ({ frames := 1, cells := 0, slots := 0, locals := 24 } : Room) [.ref ly, .int (iI ix)] ([(ly, .inr (1, [.ref (A 50 0 0), .int (iI v), .ref ln, .ref (Aw 20), .ref pp, .int (iI gO), .int (iI iL), .ref l1, .ref l2, .ref l3, .ref l4, .ref l5, .ref l6, .int (iI nR), .int (iI sT), .int (iI dg), .ref l7]))] ++ tl) (fun r w gc gs => ((-1 ≤ tmF T M ix 8 0 ∧ tmF T M ix 8 0 ≤ 7) ∧ r = some (.int (iI (tmF T M ix 8 0))) ∧ w = ([(ly, .inr (1, [.ref (A 50 0 0), .int (iI v), .ref ln, .ref (Aw 20), .ref pp, .int (iI gO), .int (iI iL), .ref l1, .ref l2, .ref l3, .ref l4, .ref l5, .ref l6, .int (iI nR), .int (iI sT), .int (iI dg), .ref l7]))] ++ tl) ∧ gc = 0 ∧ gs = 0)) := by
  refine kn_of (by decide) (Nat.le_of_ble_eq_true rfl) ?_
  intro p e s m args below meth c H locs B hr hnm ls hl
  have hx := B.1.1
  have hb := B.1.2.1
  have hl : lv_has ls 3 [(0, .ref ly), (1, .int (iI ix))] := hl
  have hn0 := MK_cnt hM
  have hf0 := MK_17 hM
  refine lv_iconst (v := iI 0) hx hb dX1_termAt_0 (by decide) ?_
  refine lv_istore_n (lv' := [(2, .int (iI 0)), (0, .ref ly), (1, .int (iI ix))]) hx hb dX1_termAt_1 rfl hl (by decide) rfl (fun ls hl => ?_)
  refine k_loop (σ := Int) B (fun g9 : Int => (0 ≤ g9 ∧ g9 ≤ 8) ∧ (tmF T M ix (Int.toNat (8 - g9)) g9 = tmF T M ix 8 0)) (fun g9 : Int => (8 - g9).toNat) (fun g9 : Int => [(2, .int (iI g9)), (0, .ref ly), (1, .int (iI ix))]) (fun g9 : Int => ([(ly, .inr (1, [.ref (A 50 0 0), .int (iI v), .ref ln, .ref (Aw 20), .ref pp, .int (iI gO), .int (iI iL), .ref l1, .ref l2, .ref l3, .ref l4, .ref l5, .ref l6, .int (iI nR), .int (iI sT), .int (iI dg), .ref l7]))] ++ tl)) ?_ 0 ⟨(show 0 ≤ 0 ∧ 0 ≤ 8 from (by omega)), (show tmF T M ix (Int.toNat (8 - 0)) 0 = tmF T M ix 8 0 from rfl)⟩ ls H locs (lv_sub hl [0, 1, 2] rfl) (bd_to rfl B)
  clear hl B
  rintro pq ⟨hk, hq⟩ ih_1 ls H locs hl B
  have hl : lv_has ls 3 [(2, .int (iI pq)), (0, .ref ly), (1, .int (iI ix))] := hl
  have B := bd_to (ws' := ([(ly, .inr (1, [.ref (A 50 0 0), .int (iI v), .ref ln, .ref (Aw 20), .ref pp, .int (iI gO), .int (iI iL), .ref l1, .ref l2, .ref l3, .ref l4, .ref l5, .ref l6, .int (iI nR), .int (iI sT), .int (iI dg), .ref l7]))] ++ tl)) rfl B
  refine lv_iload_n hx hb dX1_termAt_2 rfl (lv_at hl 0 rfl) ?_
  refine lv_bipush (v := iI 8) hx hb dX1_termAt_3 (by decide) ?_
  refine lv_icmp_ge (tgt := 37) hx hb dX1_termAt_5 (by decide) (fun c_2 => ?_) (fun c_2 => ?_)
  · have zc_2 : 8 ≤ pq := jle (a := 8) (b := pq) (by omega) (by omega) c_2
    refine lv_iconst (v := iI (-1)) hx hb dX1_termAt_37 (by decide) ?_
    have e_3 : (tmF T M ix 8 0) = (-1) := (by rw [← hq, show Int.toNat (8 - pq) = 0 by omega]; rfl)
    skip
    exact k_iret B hr (⟨(by have e9 : tmF T M ix 8 0 = (-1) := (by rw [← hq, show Int.toNat (8 - pq) = 0 by omega]; rfl); omega), (by rw [e_3]), rfl, rfl, rfl⟩) ⟨Nat.le_of_ble_eq_true rfl, Nat.le_of_ble_eq_true rfl⟩ ⟨Nat.le_of_ble_eq_true rfl, Nat.le_of_ble_eq_true rfl⟩ dX1_termAt_38
  · have zc_2 : pq < 8 := jnle (a := 8) (b := pq) (by omega) (by omega) c_2
    refine lv_aload_n hx hb dX1_termAt_8 rfl (lv_at hl 1 rfl) ?_
    refine x_get (ci := 1) (C := RX1) (T := TX1) (N := 17) (v := .ref (Aw 20)) B 0 rfl rfl in_X1 3 (by decide) mw_413 (fun _ h9 => h9) rfl dX1_termAt_9 ?_
    obtain ⟨k_4, hk_4⟩ := pk_at (hs := [(ly, .inr (1, [.ref (A 50 0 0), .int (iI v), .ref ln, .ref (Aw 20), .ref pp, .int (iI gO), .int (iI iL), .ref l1, .ref l2, .ref l3, .ref l4, .ref l5, .ref l6, .int (iI nR), .int (iI sT), .int (iI dg), .ref l7]))]) (RI_o hR)
    refine x_get (ci := 6) (C := RX6) (T := TX6) (N := 18) (v := .ref (Aw 11)) B k_4 hk_4 rfl in_X6 11 (by decide) mw_251 (fun _ h9 => h9) rfl dX1_termAt_12 ?_
    refine lv_iload_n hx hb dX1_termAt_15 rfl (lv_at hl 0 rfl) ?_
    obtain ⟨k_5, hk_5⟩ := pk_at (hs := [(ly, .inr (1, [.ref (A 50 0 0), .int (iI v), .ref ln, .ref (Aw 20), .ref pp, .int (iI gO), .int (iI iL), .ref l1, .ref l2, .ref l3, .ref l4, .ref l5, .ref l6, .int (iI nR), .int (iI sT), .int (iI dg), .ref l7]))]) (RI_11 hR)
    refine x_zald' (f := (V 11)) (z := pq) B k_5 hk_5 (by omega) dX1_termAt_16 ?_
    refine lv_seti (y := iI (M 11 pq)) (congrArg iI (show (V 11) pq = M 11 pq from RA_11 (RI_a hR) _ (by omega) (by omega))) ?_
    have z_6 : 0 ≤ M 11 pq ∧ M 11 pq ≤ 1 := MK_11 hM _
    refine lv_if_eq (tgt := 31) hx hb dX1_termAt_17 (by decide) (fun c_7 => ?_) (fun c_7 => ?_)
    · have zc_7 : (M 11 pq) = 0 := jeq (a := (M 11 pq)) (b := 0) (by omega) (by omega) c_7
      refine lv_iinc (v := iI (pq + 1)) (lv' := [(2, .int (iI (pq + 1))), (0, .ref ly), (1, .int (iI ix))]) hx hb dX1_termAt_31 hl (k := 0) rfl (iI_add _ _) (by decide) rfl (fun ls hl => ?_)
      refine lv_goto (tgt := 2) hx hb dX1_termAt_34 (by decide) ?_
      exact ih_1 (pq + 1) ⟨(show 0 ≤ (pq + 1) ∧ (pq + 1) ≤ 8 from (by omega)), (show tmF T M ix (Int.toNat (8 - (pq + 1))) (pq + 1) = tmF T M ix 8 0 from (by rw [← hq, tmF_s (q := pq) (by omega), if_neg (by omega)]))⟩ (by first | omega | (dsimp only; omega)) _ _ _ (lv_sub hl [0, 1, 2] rfl) (bd_to rfl B)
    · have zc_7 : (M 11 pq) ≠ 0 := jne (a := (M 11 pq)) (b := 0) (by omega) (by omega) c_7
      refine lv_aload_n hx hb dX1_termAt_20 rfl (lv_at hl 1 rfl) ?_
      refine lv_iload_n hx hb dX1_termAt_21 rfl (lv_at hl 0 rfl) ?_
      have B := bd_swap (a := [(ly, .inr (1, [.ref (A 50 0 0), .int (iI v), .ref ln, .ref (Aw 20), .ref pp, .int (iI gO), .int (iI iL), .ref l1, .ref l2, .ref l3, .ref l4, .ref l5, .ref l6, .int (iI nR), .int (iI sT), .int (iI dg), .ref l7]))]) (b := []) (d := tl) (bd_to rfl B)
      refine k_V (rest := []) (wc := ([(ly, .inr (1, [.ref (A 50 0 0), .int (iI v), .ref ln, .ref (Aw 20), .ref pp, .int (iI gO), .int (iI iL), .ref l1, .ref l2, .ref l3, .ref l4, .ref l5, .ref l6, .int (iI nR), .int (iI sT), .int (iI dg), .ref l7]))] ++ tl)) (wr := []) (k_termsAhead l dC dI k ly ln rw pp l1 l2 l3 l4 l5 l6 l7 v gO iL nR sT dg m1 m2 m3 m4 m5 m6 m7 T A X tl M V Aw pq hT hK hR hM hMT (by omega)) B mV_X1_termsAhead mw_1838 hl (q0 := 0) rfl rfl rfl ⟨Nat.le_of_ble_eq_true rfl, Nat.le_of_ble_eq_true rfl⟩ (Nat.le_of_ble_eq_true rfl) rfl dX1_termAt_22 ⟨Nat.le_of_ble_eq_true rfl, Nat.le_of_ble_eq_true rfl⟩ (fun r w gc gs H locs hp B => ?_)
      obtain ⟨z_8, rfl, hw9, rfl, rfl⟩ := hp
      rw [hw9] at B; clear hw9
      have B := bd_to (ws' := ([(ly, .inr (1, [.ref (A 50 0 0), .int (iI v), .ref ln, .ref (Aw 20), .ref pp, .int (iI gO), .int (iI iL), .ref l1, .ref l2, .ref l3, .ref l4, .ref l5, .ref l6, .int (iI nR), .int (iI sT), .int (iI dg), .ref l7]))] ++ tl)) rfl B
      refine lv_iload_n hx hb dX1_termAt_25 rfl (lv_at hl 2 rfl) ?_
      refine lv_icmp_ne (tgt := 31) hx hb dX1_termAt_26 (by decide) (fun c_9 => ?_) (fun c_9 => ?_)
      · have zc_9 : (taF T M pq 8) ≠ ix := jne (a := (taF T M pq 8)) (b := ix) (by omega) (by omega) c_9
        refine lv_iinc (v := iI (pq + 1)) (lv' := [(2, .int (iI (pq + 1))), (0, .ref ly), (1, .int (iI ix))]) hx hb dX1_termAt_31 hl (k := 0) rfl (iI_add _ _) (by decide) rfl (fun ls hl => ?_)
        refine lv_goto (tgt := 2) hx hb dX1_termAt_34 (by decide) ?_
        exact ih_1 (pq + 1) ⟨(show 0 ≤ (pq + 1) ∧ (pq + 1) ≤ 8 from (by omega)), (show tmF T M ix (Int.toNat (8 - (pq + 1))) (pq + 1) = tmF T M ix 8 0 from (by rw [← hq, tmF_s (q := pq) (by omega), if_neg (by omega)]))⟩ (by first | omega | (dsimp only; omega)) _ _ _ (lv_sub hl [0, 1, 2] rfl) (bd_to rfl B)
      · have zc_9 : (taF T M pq 8) = ix := jeq (a := (taF T M pq 8)) (b := ix) (by omega) (by omega) c_9
        refine lv_iload_n hx hb dX1_termAt_29 rfl (lv_at hl 0 rfl) ?_
        have e_10 : (tmF T M ix 8 0) = pq := (by rw [← hq, tmF_s (by omega), if_pos (by omega)])
        skip
        exact k_iret B hr (⟨(by have e9 : tmF T M ix 8 0 = pq := (by rw [← hq, tmF_s (by omega), if_pos (by omega)]); omega), (by rw [e_10]), rfl, rfl, rfl⟩) ⟨Nat.le_of_ble_eq_true rfl, Nat.le_of_ble_eq_true rfl⟩ ⟨Nat.le_of_ble_eq_true rfl, Nat.le_of_ble_eq_true rfl⟩ dX1_termAt_30

end
