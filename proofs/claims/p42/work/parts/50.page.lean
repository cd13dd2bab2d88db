section
theorem bShl_k1 {q : Int} (h : 0 ≤ q ∧ q ≤ 1) : 0 < bShl 1 q ∧ bShl 1 q < 4 := by
  have e : q = 0 ∨ q = 1 := by omega
  rcases e with rfl | rfl <;> decide
theorem bShl_k5 {q : Int} (h : 0 ≤ q ∧ q < 5) : 0 < bShl 1 q ∧ bShl 1 q < 32 := by
  have e : q = 0 ∨ q = 1 ∨ q = 2 ∨ q = 3 ∨ q = 4 := by omega
  rcases e with rfl | rfl | rfl | rfl | rfl <;> decide

theorem mw_99 : (Jvm.Cond.fieldLink "Galleyforge$Page" (64 : Nat) "Galleyforge$Text" "height" "I") ∈ gt := gt_at 169 (by decide +kernel) (by decide +kernel)
theorem mw_313 : (Jvm.Cond.fieldLink "Galleyforge$Page" (9 : Nat) "Galleyforge$Page" "text" "LGalleyforge$Text;") ∈ gt := gt_at 383 (by decide +kernel) (by decide +kernel)
theorem mw_319 : (Jvm.Cond.fieldLink "Galleyforge$Page" (32 : Nat) "Galleyforge$Page" "height" "I") ∈ gt := gt_at 389 (by decide +kernel) (by decide +kernel)
theorem in_X3 : ∀ w ∈ u_ws RX3 TX3 15, w ∈ gt := in_of _ [404, 406, 408, 410, 412, 414, 416, 418, 420, 422, 424, 426, 428, 430, 432] (by decide +kernel) (by decide +kernel)
theorem in_X9 : ∀ w ∈ u_ws RX9 TX9 8, w ∈ gt := in_of _ [172, 174, 176, 178, 180, 182, 184, 186] (by decide +kernel) (by decide +kernel)
theorem dX3_isTooHigh_0 : decode cX3_isTooHigh 0 = .ok (.aload_n 0, 1) := by decide +kernel
theorem dX3_isTooHigh_1 : decode cX3_isTooHigh 1 = .ok (.getfield 32, 3) := by decide +kernel
theorem dX3_isTooHigh_4 : decode cX3_isTooHigh 4 = .ok (.aload_n 0, 1) := by decide +kernel
theorem dX3_isTooHigh_5 : decode cX3_isTooHigh 5 = .ok (.getfield 9, 3) := by decide +kernel
theorem dX3_isTooHigh_8 : decode cX3_isTooHigh 8 = .ok (.getfield 64, 3) := by decide +kernel
theorem dX3_isTooHigh_11 : decode cX3_isTooHigh 11 = .ok (.if_icmp .le 7, 3) := by decide +kernel
theorem dX3_isTooHigh_14 : decode cX3_isTooHigh 14 = .ok (.iconst 1, 1) := by decide +kernel
theorem dX3_isTooHigh_15 : decode cX3_isTooHigh 15 = .ok (.goto 4, 3) := by decide +kernel
theorem dX3_isTooHigh_18 : decode cX3_isTooHigh 18 = .ok (.iconst 0, 1) := by decide +kernel
theorem dX3_isTooHigh_19 : decode cX3_isTooHigh 19 = .ok (.ireturn, 1) := by decide +kernel
set_option maxHeartbeats 4000000 in
set_option maxRecDepth 100000 in
theorem k_isTooHigh (l : Launch) (dC : Nat → ClassId) (dI : Nat → Nat → Nat) (k : Nat → ClassId) (pg : Nat) (pR : Int) (pC : Int) (pW : Int) (pL : Int) (pH : Int) (pN : Int) (pQ : Int) (pT : Int) (pB : Int) (pX : Int) (pY : Int) (pM : Int) (pU : Int) (rw : Nat) (T : Nat → Int → Int → Int → Int) (A : Nat → Int → Int → Nat) (X : Nat → Int → Int → Int) (tl : va_W) (hT : TI dI k T A X tl) (hK : TK T) (h1 : 0 ≤ pH ∧ pH < 1000000) : Kn l dC dI k yX3_isTooHigh (.code yX3_isTooHigh cX3_isTooHigh 1 (some .boolean)) ({ frames := 0, cells := 0, slots := 0, locals := 0 } : Room) [.ref pg] ([(pg, .inr (3, [.ref (A 50 0 0), .ref rw, .int (iI pR), .int (iI pC), .int (iI pW), .int (iI pL), .int (iI pH), .int (iI pN), .int (iI pQ), .int (iI pT), .int (iI pB), .int (iI pX), .int (iI pY), .int (iI pM), .int (iI pU)]))] ++ tl) (fun r w gc gs => (((T 17 0 0 0) < pH) ∧ r = some (.int (iI 1)) ∧ w = ([(pg, .inr (3, [.ref (A 50 0 0), .ref rw, .int (iI pR), .int (iI pC), .int (iI pW), .int (iI pL), .int (iI pH), .int (iI pN), .int (iI pQ), .int (iI pT), .int (iI pB), .int (iI pX), .int (iI pY), .int (iI pM), .int (iI pU)]))] ++ tl) ∧ gc = 0 ∧ gs = 0) ∨ ((¬ (T 17 0 0 0) < pH) ∧ r = some (.int (iI 0)) ∧ w = ([(pg, .inr (3, [.ref (A 50 0 0), .ref rw, .int (iI pR), .int (iI pC), .int (iI pW), .int (iI pL), .int (iI pH), .int (iI pN), .int (iI pQ), .int (iI pT), .int (iI pB), .int (iI pX), .int (iI pY), .int (iI pM), .int (iI pU)]))] ++ tl) ∧ gc = 0 ∧ gs = 0)) := by
  refine kn_of (by decide) (Nat.le_of_ble_eq_true rfl) ?_
  intro p e s m args below meth c H locs B hr hnm ls hl
  have hx := B.1.1
  have hb := B.1.2.1
  have hl : lv_has ls 1 [(0, .ref pg)] := hl
  refine lv_aload_n hx hb dX3_isTooHigh_0 rfl (lv_at hl 0 rfl) ?_
  refine x_get (ci := 3) (C := RX3) (T := TX3) (N := 15) (v := .int (iI pH)) B 0 rfl rfl in_X3 6 (by decide) mw_319 (fun _ h9 => h9) rfl dX3_isTooHigh_1 ?_
  refine lv_aload_n hx hb dX3_isTooHigh_4 rfl (lv_at hl 0 rfl) ?_
  refine x_get (ci := 3) (C := RX3) (T := TX3) (N := 15) (v := .ref (A 50 0 0)) B 0 rfl rfl in_X3 0 (by decide) mw_313 (fun _ h9 => h9) rfl dX3_isTooHigh_5 ?_
  obtain ⟨k_1, hk_1⟩ := pk_at (hs := [(pg, .inr (3, [.ref (A 50 0 0), .ref rw, .int (iI pR), .int (iI pC), .int (iI pW), .int (iI pL), .int (iI pH), .int (iI pN), .int (iI pQ), .int (iI pT), .int (iI pB), .int (iI pX), .int (iI pY), .int (iI pM), .int (iI pU)]))]) hT.1.1
  refine x_get (ci := 9) (C := RX9) (T := TX9) (N := 8) (v := .int (iI (T 17 0 0 0))) B k_1 hk_1 rfl in_X9 7 (by decide) mw_99 (fun _ h9 => h9) rfl dX3_isTooHigh_8 ?_
  have z_2 : 6 ≤ T 17 0 0 0 ∧ T 17 0 0 0 ≤ 40 := TK_hei hK
  refine lv_icmp_le (tgt := 18) hx hb dX3_isTooHigh_11 (by decide) (fun c_3 => ?_) (fun c_3 => ?_)
  · have zc_3 : pH ≤ (T 17 0 0 0) := jle (a := pH) (b := (T 17 0 0 0)) (by omega) (by omega) c_3
    refine lv_iconst (v := iI 0) hx hb dX3_isTooHigh_18 (by decide) ?_
    exact k_zret B hr (by omega) (Or.inr (⟨(by omega), rfl, rfl, rfl, rfl⟩)) ⟨Nat.le_of_ble_eq_true rfl, Nat.le_of_ble_eq_true rfl⟩ ⟨Nat.le_of_ble_eq_true rfl, Nat.le_of_ble_eq_true rfl⟩ dX3_isTooHigh_19
  · have zc_3 : (T 17 0 0 0) < pH := jnle (a := pH) (b := (T 17 0 0 0)) (by omega) (by omega) c_3
    refine lv_iconst (v := iI 1) hx hb dX3_isTooHigh_14 (by decide) ?_
    refine lv_goto (tgt := 19) hx hb dX3_isTooHigh_15 (by decide) ?_
    exact k_zret B hr (by omega) (Or.inl (⟨(by omega), rfl, rfl, rfl, rfl⟩)) ⟨Nat.le_of_ble_eq_true rfl, Nat.le_of_ble_eq_true rfl⟩ ⟨Nat.le_of_ble_eq_true rfl, Nat.le_of_ble_eq_true rfl⟩ dX3_isTooHigh_19

theorem mw_316 : (Jvm.Cond.fieldLink "Galleyforge$Page" (23 : Nat) "Galleyforge$Page" "count" "I") ∈ gt := gt_at 386 (by decide +kernel) (by decide +kernel)
theorem mw_318 : (Jvm.Cond.fieldLink "Galleyforge$Page" (29 : Nat) "Galleyforge$Page" "left" "I") ∈ gt := gt_at 388 (by decide +kernel) (by decide +kernel)
theorem mw_320 : (Jvm.Cond.fieldLink "Galleyforge$Page" (35 : Nat) "Galleyforge$Page" "notes" "I") ∈ gt := gt_at 390 (by decide +kernel) (by decide +kernel)
theorem mw_321 : (Jvm.Cond.fieldLink "Galleyforge$Page" (38 : Nat) "Galleyforge$Page" "lastNote" "I") ∈ gt := gt_at 391 (by decide +kernel) (by decide +kernel)
theorem dX3_mayEnd_0 : decode cX3_mayEnd 0 = .ok (.aload_n 0, 1) := by decide +kernel
theorem dX3_mayEnd_1 : decode cX3_mayEnd 1 = .ok (.getfield 9, 3) := by decide +kernel
theorem dX3_mayEnd_4 : decode cX3_mayEnd 4 = .ok (.getfield 64, 3) := by decide +kernel
theorem dX3_mayEnd_7 : decode cX3_mayEnd 7 = .ok (.aload_n 0, 1) := by decide +kernel
theorem dX3_mayEnd_8 : decode cX3_mayEnd 8 = .ok (.getfield 32, 3) := by decide +kernel
theorem dX3_mayEnd_11 : decode cX3_mayEnd 11 = .ok (.isub, 1) := by decide +kernel
theorem dX3_mayEnd_12 : decode cX3_mayEnd 12 = .ok (.istore_n 1, 1) := by decide +kernel
theorem dX3_mayEnd_13 : decode cX3_mayEnd 13 = .ok (.aload_n 0, 1) := by decide +kernel
theorem dX3_mayEnd_14 : decode cX3_mayEnd 14 = .ok (.getfield 23, 3) := by decide +kernel
theorem dX3_mayEnd_17 : decode cX3_mayEnd 17 = .ok (.iconst 1, 1) := by decide +kernel
theorem dX3_mayEnd_18 : decode cX3_mayEnd 18 = .ok (.if_icmp .ne 5, 3) := by decide +kernel
theorem dX3_mayEnd_21 : decode cX3_mayEnd 21 = .ok (.iconst 1, 1) := by decide +kernel
theorem dX3_mayEnd_22 : decode cX3_mayEnd 22 = .ok (.ireturn, 1) := by decide +kernel
theorem dX3_mayEnd_23 : decode cX3_mayEnd 23 = .ok (.aload_n 0, 1) := by decide +kernel
theorem dX3_mayEnd_24 : decode cX3_mayEnd 24 = .ok (.getfield 35, 3) := by decide +kernel
theorem dX3_mayEnd_27 : decode cX3_mayEnd 27 = .ok (.ifCond .le 29, 3) := by decide +kernel
theorem dX3_mayEnd_30 : decode cX3_mayEnd 30 = .ok (.iload_n 1, 1) := by decide +kernel
theorem dX3_mayEnd_31 : decode cX3_mayEnd 31 = .ok (.aload_n 0, 1) := by decide +kernel
theorem dX3_mayEnd_32 : decode cX3_mayEnd 32 = .ok (.getfield 29, 3) := by decide +kernel
theorem dX3_mayEnd_35 : decode cX3_mayEnd 35 = .ok (.aload_n 0, 1) := by decide +kernel
theorem dX3_mayEnd_36 : decode cX3_mayEnd 36 = .ok (.getfield 35, 3) := by decide +kernel
theorem dX3_mayEnd_39 : decode cX3_mayEnd 39 = .ok (.iadd, 1) := by decide +kernel
theorem dX3_mayEnd_40 : decode cX3_mayEnd 40 = .ok (.aload_n 0, 1) := by decide +kernel
theorem dX3_mayEnd_41 : decode cX3_mayEnd 41 = .ok (.getfield 38, 3) := by decide +kernel
theorem dX3_mayEnd_44 : decode cX3_mayEnd 44 = .ok (.isub, 1) := by decide +kernel
theorem dX3_mayEnd_45 : decode cX3_mayEnd 45 = .ok (.iconst 2, 1) := by decide +kernel
theorem dX3_mayEnd_46 : decode cX3_mayEnd 46 = .ok (.iadd, 1) := by decide +kernel
theorem dX3_mayEnd_47 : decode cX3_mayEnd 47 = .ok (.if_icmp .lt 7, 3) := by decide +kernel
theorem dX3_mayEnd_50 : decode cX3_mayEnd 50 = .ok (.iconst 1, 1) := by decide +kernel
theorem dX3_mayEnd_51 : decode cX3_mayEnd 51 = .ok (.goto 4, 3) := by decide +kernel
theorem dX3_mayEnd_54 : decode cX3_mayEnd 54 = .ok (.iconst 0, 1) := by decide +kernel
theorem dX3_mayEnd_55 : decode cX3_mayEnd 55 = .ok (.ireturn, 1) := by decide +kernel
theorem dX3_mayEnd_56 : decode cX3_mayEnd 56 = .ok (.iload_n 1, 1) := by decide +kernel
theorem dX3_mayEnd_57 : decode cX3_mayEnd 57 = .ok (.aload_n 0, 1) := by decide +kernel
theorem dX3_mayEnd_58 : decode cX3_mayEnd 58 = .ok (.getfield 29, 3) := by decide +kernel
theorem dX3_mayEnd_61 : decode cX3_mayEnd 61 = .ok (.ifCond .le 7, 3) := by decide +kernel
theorem dX3_mayEnd_64 : decode cX3_mayEnd 64 = .ok (.iconst 2, 1) := by decide +kernel
theorem dX3_mayEnd_65 : decode cX3_mayEnd 65 = .ok (.goto 4, 3) := by decide +kernel
theorem dX3_mayEnd_68 : decode cX3_mayEnd 68 = .ok (.iconst 0, 1) := by decide +kernel
theorem dX3_mayEnd_69 : decode cX3_mayEnd 69 = .ok (.if_icmp .lt 7, 3) := by decide +kernel
theorem dX3_mayEnd_72 : decode cX3_mayEnd 72 = .ok (.iconst 1, 1) := by decide +kernel
theorem dX3_mayEnd_73 : decode cX3_mayEnd 73 = .ok (.goto 4, 3) := by decide +kernel
theorem dX3_mayEnd_76 : decode cX3_mayEnd 76 = .ok (.iconst 0, 1) := by decide +kernel
theorem dX3_mayEnd_77 : decode cX3_mayEnd 77 = .ok (.ireturn, 1) := by decide +kernel
set_option maxHeartbeats 4000000 in
set_option maxRecDepth 100000 in
theorem k_mayEnd (l : Launch) (dC : Nat → ClassId) (dI : Nat → Nat → Nat) (k : Nat → ClassId) (pg : Nat) (pR : Int) (pC : Int) (pW : Int) (pL : Int) (pH : Int) (pN : Int) (pQ : Int) (pT : Int) (pB : Int) (pX : Int) (pY : Int) (pM : Int) (pU : Int) (rw : Nat) (T : Nat → Int → Int → Int → Int) (A : Nat → Int → Int → Nat) (X : Nat → Int → Int → Int) (tl : va_W) (hT : TI dI k T A X tl) (hK : TK T) (h1 : 0 ≤ pH ∧ pH < 1000000) (h2 : 0 ≤ pC ∧ pC ≤ 768 ∧ 0 ≤ pR ∧ pR + pC ≤ 768) (h3 : 0 ≤ pN ∧ pN < 1000000 ∧ 0 ≤ pL ∧ pL < 1000000 ∧ 0 ≤ pQ ∧ pQ ≤ 5) : Kn l dC dI k yX3_mayEnd (.code yX3_mayEnd cX3_mayEnd 2 (some .boolean)) ({ frames := 0, cells := 0, slots := 0, locals := 0 } : Room) [.ref pg] ([(pg, .inr (3, [.ref (A 50 0 0), .ref rw, .int (iI pR), .int (iI pC), .int (iI pW), .int (iI pL), .int (iI pH), .int (iI pN), .int (iI pQ), .int (iI pT), .int (iI pB), .int (iI pX), .int (iI pY), .int (iI pM), .int (iI pU)]))] ++ tl) (fun r w gc gs => (((pC = 1 ∨ (0 < pN ∧ pL + pN - pQ + 2 ≤ T 17 0 0 0 - pH) ∨ (pN ≤ 0 ∧ 0 < pL ∧ 2 ≤ T 17 0 0 0 - pH) ∨ (pN ≤ 0 ∧ pL ≤ 0 ∧ 0 ≤ T 17 0 0 0 - pH))) ∧ r = some (.int (iI 1)) ∧ w = ([(pg, .inr (3, [.ref (A 50 0 0), .ref rw, .int (iI pR), .int (iI pC), .int (iI pW), .int (iI pL), .int (iI pH), .int (iI pN), .int (iI pQ), .int (iI pT), .int (iI pB), .int (iI pX), .int (iI pY), .int (iI pM), .int (iI pU)]))] ++ tl) ∧ gc = 0 ∧ gs = 0) ∨ ((¬ (pC = 1 ∨ (0 < pN ∧ pL + pN - pQ + 2 ≤ T 17 0 0 0 - pH) ∨ (pN ≤ 0 ∧ 0 < pL ∧ 2 ≤ T 17 0 0 0 - pH) ∨ (pN ≤ 0 ∧ pL ≤ 0 ∧ 0 ≤ T 17 0 0 0 - pH))) ∧ r = some (.int (iI 0)) ∧ w = ([(pg, .inr (3, [.ref (A 50 0 0), .ref rw, .int (iI pR), .int (iI pC), .int (iI pW), .int (iI pL), .int (iI pH), .int (iI pN), .int (iI pQ), .int (iI pT), .int (iI pB), .int (iI pX), .int (iI pY), .int (iI pM), .int (iI pU)]))] ++ tl) ∧ gc = 0 ∧ gs = 0)) := by
  refine kn_of (by decide) (Nat.le_of_ble_eq_true rfl) ?_
  intro p e s m args below meth c H locs B hr hnm ls hl
  have hx := B.1.1
  have hb := B.1.2.1
  have hl : lv_has ls 2 [(0, .ref pg)] := hl
  refine lv_aload_n hx hb dX3_mayEnd_0 rfl (lv_at hl 0 rfl) ?_
  refine x_get (ci := 3) (C := RX3) (T := TX3) (N := 15) (v := .ref (A 50 0 0)) B 0 rfl rfl in_X3 0 (by decide) mw_313 (fun _ h9 => h9) rfl dX3_mayEnd_1 ?_
  obtain ⟨k_1, hk_1⟩ := pk_at (hs := [(pg, .inr (3, [.ref (A 50 0 0), .ref rw, .int (iI pR), .int (iI pC), .int (iI pW), .int (iI pL), .int (iI pH), .int (iI pN), .int (iI pQ), .int (iI pT), .int (iI pB), .int (iI pX), .int (iI pY), .int (iI pM), .int (iI pU)]))]) hT.1.1
  refine x_get (ci := 9) (C := RX9) (T := TX9) (N := 8) (v := .int (iI (T 17 0 0 0))) B k_1 hk_1 rfl in_X9 7 (by decide) mw_99 (fun _ h9 => h9) rfl dX3_mayEnd_4 ?_
  have z_2 : 6 ≤ T 17 0 0 0 ∧ T 17 0 0 0 ≤ 40 := TK_hei hK
  refine lv_aload_n hx hb dX3_mayEnd_7 rfl (lv_at hl 0 rfl) ?_
  refine x_get (ci := 3) (C := RX3) (T := TX3) (N := 15) (v := .int (iI pH)) B 0 rfl rfl in_X3 6 (by decide) mw_319 (fun _ h9 => h9) rfl dX3_mayEnd_8 ?_
  refine y_sub hx hb dX3_mayEnd_11 ?_
  refine lv_istore_n (lv' := [(1, .int (iI ((T 17 0 0 0) - pH))), (0, .ref pg)]) hx hb dX3_mayEnd_12 rfl hl (by decide) rfl (fun ls hl => ?_)
  refine lv_aload_n hx hb dX3_mayEnd_13 rfl (lv_at hl 1 rfl) ?_
  refine x_get (ci := 3) (C := RX3) (T := TX3) (N := 15) (v := .int (iI pC)) B 0 rfl rfl in_X3 3 (by decide) mw_316 (fun _ h9 => h9) rfl dX3_mayEnd_14 ?_
  refine lv_iconst (v := iI 1) hx hb dX3_mayEnd_17 (by decide) ?_
  refine lv_icmp_ne (tgt := 23) hx hb dX3_mayEnd_18 (by decide) (fun c_3 => ?_) (fun c_3 => ?_)
  · have zc_3 : pC ≠ 1 := jne (a := pC) (b := 1) (by omega) (by omega) c_3
    refine lv_aload_n hx hb dX3_mayEnd_23 rfl (lv_at hl 1 rfl) ?_
    refine x_get (ci := 3) (C := RX3) (T := TX3) (N := 15) (v := .int (iI pN)) B 0 rfl rfl in_X3 7 (by decide) mw_320 (fun _ h9 => h9) rfl dX3_mayEnd_24 ?_
    refine lv_if_le (tgt := 56) hx hb dX3_mayEnd_27 (by decide) (fun c_4 => ?_) (fun c_4 => ?_)
    · have zc_4 : pN ≤ 0 := jle (a := pN) (b := 0) (by omega) (by omega) c_4
      refine lv_iload_n hx hb dX3_mayEnd_56 rfl (lv_at hl 0 rfl) ?_
      refine lv_aload_n hx hb dX3_mayEnd_57 rfl (lv_at hl 1 rfl) ?_
      refine x_get (ci := 3) (C := RX3) (T := TX3) (N := 15) (v := .int (iI pL)) B 0 rfl rfl in_X3 5 (by decide) mw_318 (fun _ h9 => h9) rfl dX3_mayEnd_58 ?_
      refine lv_if_le (tgt := 68) hx hb dX3_mayEnd_61 (by decide) (fun c_5 => ?_) (fun c_5 => ?_)
      · have zc_5 : pL ≤ 0 := jle (a := pL) (b := 0) (by omega) (by omega) c_5
        refine lv_iconst (v := iI 0) hx hb dX3_mayEnd_68 (by decide) ?_
        refine lv_icmp_lt (tgt := 76) hx hb dX3_mayEnd_69 (by decide) (fun c_6 => ?_) (fun c_6 => ?_)
        · have zc_6 : ((T 17 0 0 0) - pH) < 0 := jlt (a := ((T 17 0 0 0) - pH)) (b := 0) (by omega) (by omega) c_6
          refine lv_iconst (v := iI 0) hx hb dX3_mayEnd_76 (by decide) ?_
          exact k_zret B hr (by omega) (Or.inr (⟨(by omega), rfl, rfl, rfl, rfl⟩)) ⟨Nat.le_of_ble_eq_true rfl, Nat.le_of_ble_eq_true rfl⟩ ⟨Nat.le_of_ble_eq_true rfl, Nat.le_of_ble_eq_true rfl⟩ dX3_mayEnd_77
        · have zc_6 : 0 ≤ ((T 17 0 0 0) - pH) := jnlt (a := ((T 17 0 0 0) - pH)) (b := 0) (by omega) (by omega) c_6
          refine lv_iconst (v := iI 1) hx hb dX3_mayEnd_72 (by decide) ?_
          refine lv_goto (tgt := 77) hx hb dX3_mayEnd_73 (by decide) ?_
          exact k_zret B hr (by omega) (Or.inl (⟨(by omega), rfl, rfl, rfl, rfl⟩)) ⟨Nat.le_of_ble_eq_true rfl, Nat.le_of_ble_eq_true rfl⟩ ⟨Nat.le_of_ble_eq_true rfl, Nat.le_of_ble_eq_true rfl⟩ dX3_mayEnd_77
      · have zc_5 : 0 < pL := jnle (a := pL) (b := 0) (by omega) (by omega) c_5
        refine lv_iconst (v := iI 2) hx hb dX3_mayEnd_64 (by decide) ?_
        refine lv_goto (tgt := 69) hx hb dX3_mayEnd_65 (by decide) ?_
        refine lv_icmp_lt (tgt := 76) hx hb dX3_mayEnd_69 (by decide) (fun c_7 => ?_) (fun c_7 => ?_)
        · have zc_7 : ((T 17 0 0 0) - pH) < 2 := jlt (a := ((T 17 0 0 0) - pH)) (b := 2) (by omega) (by omega) c_7
          refine lv_iconst (v := iI 0) hx hb dX3_mayEnd_76 (by decide) ?_
          exact k_zret B hr (by omega) (Or.inr (⟨(by omega), rfl, rfl, rfl, rfl⟩)) ⟨Nat.le_of_ble_eq_true rfl, Nat.le_of_ble_eq_true rfl⟩ ⟨Nat.le_of_ble_eq_true rfl, Nat.le_of_ble_eq_true rfl⟩ dX3_mayEnd_77
        · have zc_7 : 2 ≤ ((T 17 0 0 0) - pH) := jnlt (a := ((T 17 0 0 0) - pH)) (b := 2) (by omega) (by omega) c_7
          refine lv_iconst (v := iI 1) hx hb dX3_mayEnd_72 (by decide) ?_
          refine lv_goto (tgt := 77) hx hb dX3_mayEnd_73 (by decide) ?_
          exact k_zret B hr (by omega) (Or.inl (⟨(by omega), rfl, rfl, rfl, rfl⟩)) ⟨Nat.le_of_ble_eq_true rfl, Nat.le_of_ble_eq_true rfl⟩ ⟨Nat.le_of_ble_eq_true rfl, Nat.le_of_ble_eq_true rfl⟩ dX3_mayEnd_77
    · have zc_4 : 0 < pN := jnle (a := pN) (b := 0) (by omega) (by omega) c_4
      refine lv_iload_n hx hb dX3_mayEnd_30 rfl (lv_at hl 0 rfl) ?_
      refine lv_aload_n hx hb dX3_mayEnd_31 rfl (lv_at hl 1 rfl) ?_
      refine x_get (ci := 3) (C := RX3) (T := TX3) (N := 15) (v := .int (iI pL)) B 0 rfl rfl in_X3 5 (by decide) mw_318 (fun _ h9 => h9) rfl dX3_mayEnd_32 ?_
      refine lv_aload_n hx hb dX3_mayEnd_35 rfl (lv_at hl 1 rfl) ?_
      refine x_get (ci := 3) (C := RX3) (T := TX3) (N := 15) (v := .int (iI pN)) B 0 rfl rfl in_X3 7 (by decide) mw_320 (fun _ h9 => h9) rfl dX3_mayEnd_36 ?_
      refine y_add hx hb dX3_mayEnd_39 ?_
      refine lv_aload_n hx hb dX3_mayEnd_40 rfl (lv_at hl 1 rfl) ?_
      refine x_get (ci := 3) (C := RX3) (T := TX3) (N := 15) (v := .int (iI pQ)) B 0 rfl rfl in_X3 8 (by decide) mw_321 (fun _ h9 => h9) rfl dX3_mayEnd_41 ?_
      refine y_sub hx hb dX3_mayEnd_44 ?_
      refine lv_iconst (v := iI 2) hx hb dX3_mayEnd_45 (by decide) ?_
      refine y_add hx hb dX3_mayEnd_46 ?_
      refine lv_icmp_lt (tgt := 54) hx hb dX3_mayEnd_47 (by decide) (fun c_8 => ?_) (fun c_8 => ?_)
      · have zc_8 : ((T 17 0 0 0) - pH) < (((pL + pN) - pQ) + 2) := jlt (a := ((T 17 0 0 0) - pH)) (b := (((pL + pN) - pQ) + 2)) (by omega) (by omega) c_8
        refine lv_iconst (v := iI 0) hx hb dX3_mayEnd_54 (by decide) ?_
        exact k_zret B hr (by omega) (Or.inr (⟨(by omega), rfl, rfl, rfl, rfl⟩)) ⟨Nat.le_of_ble_eq_true rfl, Nat.le_of_ble_eq_true rfl⟩ ⟨Nat.le_of_ble_eq_true rfl, Nat.le_of_ble_eq_true rfl⟩ dX3_mayEnd_55
      · have zc_8 : (((pL + pN) - pQ) + 2) ≤ ((T 17 0 0 0) - pH) := jnlt (a := ((T 17 0 0 0) - pH)) (b := (((pL + pN) - pQ) + 2)) (by omega) (by omega) c_8
        refine lv_iconst (v := iI 1) hx hb dX3_mayEnd_50 (by decide) ?_
        refine lv_goto (tgt := 55) hx hb dX3_mayEnd_51 (by decide) ?_
        exact k_zret B hr (by omega) (Or.inl (⟨(by omega), rfl, rfl, rfl, rfl⟩)) ⟨Nat.le_of_ble_eq_true rfl, Nat.le_of_ble_eq_true rfl⟩ ⟨Nat.le_of_ble_eq_true rfl, Nat.le_of_ble_eq_true rfl⟩ dX3_mayEnd_55
  · have zc_3 : pC = 1 := jeq (a := pC) (b := 1) (by omega) (by omega) c_3
    refine lv_iconst (v := iI 1) hx hb dX3_mayEnd_21 (by decide) ?_
    exact k_zret B hr (by omega) (Or.inl (⟨(by omega), rfl, rfl, rfl, rfl⟩)) ⟨Nat.le_of_ble_eq_true rfl, Nat.le_of_ble_eq_true rfl⟩ ⟨Nat.le_of_ble_eq_true rfl, Nat.le_of_ble_eq_true rfl⟩ dX3_mayEnd_22

theorem mw_225 : (Jvm.Cond.fieldLink "Galleyforge$Page" (65 : Nat) "Galleyforge$Rows" "count" "I") ∈ gt := gt_at 295 (by decide +kernel) (by decide +kernel)
theorem mw_227 : (Jvm.Cond.fieldLink "Galleyforge$Page" (70 : Nat) "Galleyforge$Rows" "heights" "[I") ∈ gt := gt_at 297 (by decide +kernel) (by decide +kernel)
theorem mw_235 : (Jvm.Cond.fieldLink "Galleyforge$Page" (73 : Nat) "Galleyforge$Rows" "noteLines" "[I") ∈ gt := gt_at 305 (by decide +kernel) (by decide +kernel)
theorem mw_237 : (Jvm.Cond.fieldLink "Galleyforge$Page" (76 : Nat) "Galleyforge$Rows" "lastNotes" "[I") ∈ gt := gt_at 307 (by decide +kernel) (by decide +kernel)
theorem mw_239 : (Jvm.Cond.fieldLink "Galleyforge$Page" (66 : Nat) "Galleyforge$Rows" "breakBehind" "[Z") ∈ gt := gt_at 309 (by decide +kernel) (by decide +kernel)
theorem mw_314 : (Jvm.Cond.fieldLink "Galleyforge$Page" (15 : Nat) "Galleyforge$Page" "rows" "LGalleyforge$Rows;") ∈ gt := gt_at 384 (by decide +kernel) (by decide +kernel)
theorem mw_315 : (Jvm.Cond.fieldLink "Galleyforge$Page" (19 : Nat) "Galleyforge$Page" "row" "I") ∈ gt := gt_at 385 (by decide +kernel) (by decide +kernel)
theorem dX3_addRow_0 : decode cX3_addRow 0 = .ok (.aload_n 0, 1) := by decide +kernel
theorem dX3_addRow_1 : decode cX3_addRow 1 = .ok (.getfield 19, 3) := by decide +kernel
theorem dX3_addRow_4 : decode cX3_addRow 4 = .ok (.aload_n 0, 1) := by decide +kernel
theorem dX3_addRow_5 : decode cX3_addRow 5 = .ok (.getfield 23, 3) := by decide +kernel
theorem dX3_addRow_8 : decode cX3_addRow 8 = .ok (.iadd, 1) := by decide +kernel
theorem dX3_addRow_9 : decode cX3_addRow 9 = .ok (.istore_n 1, 1) := by decide +kernel
theorem dX3_addRow_10 : decode cX3_addRow 10 = .ok (.iload_n 1, 1) := by decide +kernel
theorem dX3_addRow_11 : decode cX3_addRow 11 = .ok (.aload_n 0, 1) := by decide +kernel
theorem dX3_addRow_12 : decode cX3_addRow 12 = .ok (.getfield 15, 3) := by decide +kernel
theorem dX3_addRow_15 : decode cX3_addRow 15 = .ok (.getfield 65, 3) := by decide +kernel
theorem dX3_addRow_18 : decode cX3_addRow 18 = .ok (.if_icmp .ge 24, 3) := by decide +kernel
theorem dX3_addRow_21 : decode cX3_addRow 21 = .ok (.aload_n 0, 1) := by decide +kernel
theorem dX3_addRow_22 : decode cX3_addRow 22 = .ok (.getfield 23, 3) := by decide +kernel
theorem dX3_addRow_25 : decode cX3_addRow 25 = .ok (.ifCond .le 19, 3) := by decide +kernel
theorem dX3_addRow_28 : decode cX3_addRow 28 = .ok (.aload_n 0, 1) := by decide +kernel
theorem dX3_addRow_29 : decode cX3_addRow 29 = .ok (.getfield 15, 3) := by decide +kernel
theorem dX3_addRow_32 : decode cX3_addRow 32 = .ok (.getfield 66, 3) := by decide +kernel
theorem dX3_addRow_35 : decode cX3_addRow 35 = .ok (.iload_n 1, 1) := by decide +kernel
theorem dX3_addRow_36 : decode cX3_addRow 36 = .ok (.iconst 1, 1) := by decide +kernel
theorem dX3_addRow_37 : decode cX3_addRow 37 = .ok (.isub, 1) := by decide +kernel
theorem dX3_addRow_38 : decode cX3_addRow 38 = .ok (.baload, 1) := by decide +kernel
theorem dX3_addRow_39 : decode cX3_addRow 39 = .ok (.ifCond .eq 5, 3) := by decide +kernel
theorem dX3_addRow_42 : decode cX3_addRow 42 = .ok (.iconst 0, 1) := by decide +kernel
theorem dX3_addRow_43 : decode cX3_addRow 43 = .ok (.ireturn, 1) := by decide +kernel
theorem dX3_addRow_44 : decode cX3_addRow 44 = .ok (.aload_n 0, 1) := by decide +kernel
theorem dX3_addRow_45 : decode cX3_addRow 45 = .ok (.dup, 1) := by decide +kernel
theorem dX3_addRow_46 : decode cX3_addRow 46 = .ok (.getfield 23, 3) := by decide +kernel
theorem dX3_addRow_49 : decode cX3_addRow 49 = .ok (.iconst 1, 1) := by decide +kernel
theorem dX3_addRow_50 : decode cX3_addRow 50 = .ok (.iadd, 1) := by decide +kernel
theorem dX3_addRow_51 : decode cX3_addRow 51 = .ok (.putfield 23, 3) := by decide +kernel
theorem dX3_addRow_54 : decode cX3_addRow 54 = .ok (.aload_n 0, 1) := by decide +kernel
theorem dX3_addRow_55 : decode cX3_addRow 55 = .ok (.dup, 1) := by decide +kernel
theorem dX3_addRow_56 : decode cX3_addRow 56 = .ok (.getfield 32, 3) := by decide +kernel
theorem dX3_addRow_59 : decode cX3_addRow 59 = .ok (.aload_n 0, 1) := by decide +kernel
theorem dX3_addRow_60 : decode cX3_addRow 60 = .ok (.getfield 15, 3) := by decide +kernel
theorem dX3_addRow_63 : decode cX3_addRow 63 = .ok (.getfield 70, 3) := by decide +kernel
theorem dX3_addRow_66 : decode cX3_addRow 66 = .ok (.iload_n 1, 1) := by decide +kernel
theorem dX3_addRow_67 : decode cX3_addRow 67 = .ok (.iaload, 1) := by decide +kernel
theorem dX3_addRow_68 : decode cX3_addRow 68 = .ok (.iadd, 1) := by decide +kernel
theorem dX3_addRow_69 : decode cX3_addRow 69 = .ok (.putfield 32, 3) := by decide +kernel
theorem dX3_addRow_72 : decode cX3_addRow 72 = .ok (.aload_n 0, 1) := by decide +kernel
theorem dX3_addRow_73 : decode cX3_addRow 73 = .ok (.dup, 1) := by decide +kernel
theorem dX3_addRow_74 : decode cX3_addRow 74 = .ok (.getfield 35, 3) := by decide +kernel
theorem dX3_addRow_77 : decode cX3_addRow 77 = .ok (.aload_n 0, 1) := by decide +kernel
theorem dX3_addRow_78 : decode cX3_addRow 78 = .ok (.getfield 15, 3) := by decide +kernel
theorem dX3_addRow_81 : decode cX3_addRow 81 = .ok (.getfield 73, 3) := by decide +kernel
theorem dX3_addRow_84 : decode cX3_addRow 84 = .ok (.iload_n 1, 1) := by decide +kernel
theorem dX3_addRow_85 : decode cX3_addRow 85 = .ok (.iaload, 1) := by decide +kernel
theorem dX3_addRow_86 : decode cX3_addRow 86 = .ok (.iadd, 1) := by decide +kernel
theorem dX3_addRow_87 : decode cX3_addRow 87 = .ok (.putfield 35, 3) := by decide +kernel
theorem dX3_addRow_90 : decode cX3_addRow 90 = .ok (.aload_n 0, 1) := by decide +kernel
theorem dX3_addRow_91 : decode cX3_addRow 91 = .ok (.aload_n 0, 1) := by decide +kernel
theorem dX3_addRow_92 : decode cX3_addRow 92 = .ok (.getfield 15, 3) := by decide +kernel
theorem dX3_addRow_95 : decode cX3_addRow 95 = .ok (.getfield 76, 3) := by decide +kernel
theorem dX3_addRow_98 : decode cX3_addRow 98 = .ok (.iload_n 1, 1) := by decide +kernel
theorem dX3_addRow_99 : decode cX3_addRow 99 = .ok (.iaload, 1) := by decide +kernel
theorem dX3_addRow_100 : decode cX3_addRow 100 = .ok (.ifCond .le 15, 3) := by decide +kernel
theorem dX3_addRow_103 : decode cX3_addRow 103 = .ok (.aload_n 0, 1) := by decide +kernel
theorem dX3_addRow_104 : decode cX3_addRow 104 = .ok (.getfield 15, 3) := by decide +kernel
theorem dX3_addRow_107 : decode cX3_addRow 107 = .ok (.getfield 76, 3) := by decide +kernel
theorem dX3_addRow_110 : decode cX3_addRow 110 = .ok (.iload_n 1, 1) := by decide +kernel
theorem dX3_addRow_111 : decode cX3_addRow 111 = .ok (.iaload, 1) := by decide +kernel
theorem dX3_addRow_112 : decode cX3_addRow 112 = .ok (.goto 7, 3) := by decide +kernel
theorem dX3_addRow_115 : decode cX3_addRow 115 = .ok (.aload_n 0, 1) := by decide +kernel
theorem dX3_addRow_116 : decode cX3_addRow 116 = .ok (.getfield 38, 3) := by decide +kernel
theorem dX3_addRow_119 : decode cX3_addRow 119 = .ok (.putfield 38, 3) := by decide +kernel
theorem dX3_addRow_122 : decode cX3_addRow 122 = .ok (.iconst 1, 1) := by decide +kernel
theorem dX3_addRow_123 : decode cX3_addRow 123 = .ok (.ireturn, 1) := by decide +kernel
set_option maxHeartbeats 4000000 in
set_option maxRecDepth 100000 in
theorem k_pgAdd (l : Launch) (dC : Nat → ClassId) (dI : Nat → Nat → Nat) (k : Nat → ClassId) (pg : Nat) (pR : Int) (pC : Int) (pW : Int) (pL : Int) (pH : Int) (pN : Int) (pQ : Int) (pT : Int) (pB : Int) (pX : Int) (pY : Int) (pM : Int) (pU : Int) (rw : Nat) (w1 : Nat) (w2 : Nat) (w3 : Nat) (w4 : Nat) (w5 : Nat) (w6 : Nat) (w7 : Nat) (w8 : Nat) (w9 : Nat) (w10 : Nat) (w11 : Nat) (w14 : Nat) (w15 : Nat) (w16 : Nat) (n : Int) (hn : Int) (tn : Int) (fn : Int) (v1 : Int → Int) (v4 : Int → Int) (v5 : Int → Int) (v6 : Int → Int) (A : Nat → Int → Int → Nat) (hv1 : Bd 0 200 v1) (hv4 : Bd 0 1000 v4) (hv5 : Bd 0 5 v5) (hv6 : Bd 0 1 v6) (hn : 0 ≤ n ∧ n ≤ 768) (h1 : 0 ≤ pH ∧ pH < 1000000) (h2 : 0 ≤ pC ∧ pC ≤ 768 ∧ 0 ≤ pR ∧ pR + pC ≤ 768) (h3 : 0 ≤ pN ∧ pN < 1000000 ∧ 0 ≤ pL ∧ pL < 1000000 ∧ 0 ≤ pQ ∧ pQ ≤ 5) : Kn l dC dI k yX3_addRow (.code yX3_addRow cX3_addRow 2 (some .boolean)) ({ frames := 0, cells := 0, slots := 0, locals := 0 } : Room) [.ref pg] [(pg, .inr (3, [.ref (A 50 0 0), .ref rw, .int (iI pR), .int (iI pC), .int (iI pW), .int (iI pL), .int (iI pH), .int (iI pN), .int (iI pQ), .int (iI pT), .int (iI pB), .int (iI pX), .int (iI pY), .int (iI pM), .int (iI pU)])), (rw, .inr (6, [.int (iI n), .ref w1, .ref w2, .ref w3, .ref w4, .ref w5, .ref w6, .ref w7, .ref w8, .ref w9, .ref w10, .ref w11, .int (iI hn), .int (iI tn), .ref w14, .ref w15, .ref w16, .int (iI fn)])), (w1, .inl (k 0, 768, .inl (fun i9 : Nat => iI (v1 i9)))), (w4, .inl (k 0, 768, .inl (fun i9 : Nat => iI (v4 i9)))), (w5, .inl (k 0, 768, .inl (fun i9 : Nat => iI (v5 i9)))), (w6, .inl (k 1, 768, .inl (fun i9 : Nat => iI (v6 i9))))] (fun r w gc gs => (((n ≤ pR + pC ∨ (0 < pC ∧ v6 ((pR + pC) - 1) = 1))) ∧ r = some (.int (iI 0)) ∧ w = [(pg, .inr (3, [.ref (A 50 0 0), .ref rw, .int (iI pR), .int (iI pC), .int (iI pW), .int (iI pL), .int (iI pH), .int (iI pN), .int (iI pQ), .int (iI pT), .int (iI pB), .int (iI pX), .int (iI pY), .int (iI pM), .int (iI pU)])), (rw, .inr (6, [.int (iI n), .ref w1, .ref w2, .ref w3, .ref w4, .ref w5, .ref w6, .ref w7, .ref w8, .ref w9, .ref w10, .ref w11, .int (iI hn), .int (iI tn), .ref w14, .ref w15, .ref w16, .int (iI fn)])), (w1, .inl (k 0, 768, .inl (fun i9 : Nat => iI (v1 i9)))), (w4, .inl (k 0, 768, .inl (fun i9 : Nat => iI (v4 i9)))), (w5, .inl (k 0, 768, .inl (fun i9 : Nat => iI (v5 i9)))), (w6, .inl (k 1, 768, .inl (fun i9 : Nat => iI (v6 i9))))] ∧ gc = 0 ∧ gs = 0) ∨ ((¬ (n ≤ pR + pC ∨ (0 < pC ∧ v6 ((pR + pC) - 1) = 1))) ∧ r = some (.int (iI 1)) ∧ w = [(pg, .inr (3, [.ref (A 50 0 0), .ref rw, .int (iI pR), .int (iI (pC + 1)), .int (iI pW), .int (iI pL), .int (iI (pH + v1 (pR + pC))), .int (iI (pN + v4 (pR + pC))), .int (iI (if 0 < v5 (pR + pC) then v5 (pR + pC) else pQ)), .int (iI pT), .int (iI pB), .int (iI pX), .int (iI pY), .int (iI pM), .int (iI pU)])), (rw, .inr (6, [.int (iI n), .ref w1, .ref w2, .ref w3, .ref w4, .ref w5, .ref w6, .ref w7, .ref w8, .ref w9, .ref w10, .ref w11, .int (iI hn), .int (iI tn), .ref w14, .ref w15, .ref w16, .int (iI fn)])), (w1, .inl (k 0, 768, .inl (fun i9 : Nat => iI (v1 i9)))), (w4, .inl (k 0, 768, .inl (fun i9 : Nat => iI (v4 i9)))), (w5, .inl (k 0, 768, .inl (fun i9 : Nat => iI (v5 i9)))), (w6, .inl (k 1, 768, .inl (fun i9 : Nat => iI (v6 i9))))] ∧ gc = 0 ∧ gs = 0)) := by
  refine kn_of (by decide) (Nat.le_of_ble_eq_true rfl) ?_
  intro p e s m args below meth c H locs B hr hnm ls hl
  have hx := B.1.1
  have hb := B.1.2.1
  have hl : lv_has ls 2 [(0, .ref pg)] := hl
  refine lv_aload_n hx hb dX3_addRow_0 rfl (lv_at hl 0 rfl) ?_
  refine x_get (ci := 3) (C := RX3) (T := TX3) (N := 15) (v := .int (iI pR)) B 0 rfl rfl in_X3 2 (by decide) mw_315 (fun _ h9 => h9) rfl dX3_addRow_1 ?_
  refine lv_aload_n hx hb dX3_addRow_4 rfl (lv_at hl 0 rfl) ?_
  refine x_get (ci := 3) (C := RX3) (T := TX3) (N := 15) (v := .int (iI pC)) B 0 rfl rfl in_X3 3 (by decide) mw_316 (fun _ h9 => h9) rfl dX3_addRow_5 ?_
  refine y_add hx hb dX3_addRow_8 ?_
  refine lv_istore_n (lv' := [(1, .int (iI (pR + pC))), (0, .ref pg)]) hx hb dX3_addRow_9 rfl hl (by decide) rfl (fun ls hl => ?_)
  refine lv_iload_n hx hb dX3_addRow_10 rfl (lv_at hl 0 rfl) ?_
  refine lv_aload_n hx hb dX3_addRow_11 rfl (lv_at hl 1 rfl) ?_
  refine x_get (ci := 3) (C := RX3) (T := TX3) (N := 15) (v := .ref rw) B 0 rfl rfl in_X3 1 (by decide) mw_314 (fun _ h9 => h9) rfl dX3_addRow_12 ?_
  refine x_get (ci := 6) (C := RX6) (T := TX6) (N := 18) (v := .int (iI n)) B 1 rfl rfl in_X6 0 (by decide) mw_225 (fun _ h9 => h9) rfl dX3_addRow_15 ?_
  refine lv_icmp_ge (tgt := 42) hx hb dX3_addRow_18 (by decide) (fun c_1 => ?_) (fun c_1 => ?_)
  · have zc_1 : n ≤ (pR + pC) := jle (a := n) (b := (pR + pC)) (by omega) (by omega) c_1
    refine lv_iconst (v := iI 0) hx hb dX3_addRow_42 (by decide) ?_
    exact k_zret B hr (by omega) (Or.inl (⟨(by omega), rfl, rfl, rfl, rfl⟩)) ⟨Nat.le_of_ble_eq_true rfl, Nat.le_of_ble_eq_true rfl⟩ ⟨Nat.le_of_ble_eq_true rfl, Nat.le_of_ble_eq_true rfl⟩ dX3_addRow_43
  · have zc_1 : (pR + pC) < n := jnle (a := n) (b := (pR + pC)) (by omega) (by omega) c_1
    refine lv_aload_n hx hb dX3_addRow_21 rfl (lv_at hl 1 rfl) ?_
    refine x_get (ci := 3) (C := RX3) (T := TX3) (N := 15) (v := .int (iI pC)) B 0 rfl rfl in_X3 3 (by decide) mw_316 (fun _ h9 => h9) rfl dX3_addRow_22 ?_
    refine lv_if_le (tgt := 44) hx hb dX3_addRow_25 (by decide) (fun c_2 => ?_) (fun c_2 => ?_)
    · have zc_2 : pC ≤ 0 := jle (a := pC) (b := 0) (by omega) (by omega) c_2
      refine lv_aload_n hx hb dX3_addRow_44 rfl (lv_at hl 1 rfl) ?_
      refine lv_dup hx hb dX3_addRow_45 rfl ?_
      refine x_get (ci := 3) (C := RX3) (T := TX3) (N := 15) (v := .int (iI pC)) B 0 rfl rfl in_X3 3 (by decide) mw_316 (fun _ h9 => h9) rfl dX3_addRow_46 ?_
      refine lv_iconst (v := iI 1) hx hb dX3_addRow_49 (by decide) ?_
      refine y_add hx hb dX3_addRow_50 ?_
      refine x_put (ci := 3) (C := RX3) (T := TX3) (N := 15) (ty := .int) (v := .int (iI (pC + 1))) B tyX3_ok nmX3 0 rfl rfl in_X3 3 (by decide) mw_316 (fun _ h9 => h9) rfl (by decide +kernel) rfl rfl (Nat.le_of_ble_eq_true rfl) dX3_addRow_51 (fun H locs B => ?_)
      have B := bd_to (ws' := [(pg, .inr (3, [.ref (A 50 0 0), .ref rw, .int (iI pR), .int (iI (pC + 1)), .int (iI pW), .int (iI pL), .int (iI pH), .int (iI pN), .int (iI pQ), .int (iI pT), .int (iI pB), .int (iI pX), .int (iI pY), .int (iI pM), .int (iI pU)])), (rw, .inr (6, [.int (iI n), .ref w1, .ref w2, .ref w3, .ref w4, .ref w5, .ref w6, .ref w7, .ref w8, .ref w9, .ref w10, .ref w11, .int (iI hn), .int (iI tn), .ref w14, .ref w15, .ref w16, .int (iI fn)])), (w1, .inl (k 0, 768, .inl (fun i9 : Nat => iI (v1 i9)))), (w4, .inl (k 0, 768, .inl (fun i9 : Nat => iI (v4 i9)))), (w5, .inl (k 0, 768, .inl (fun i9 : Nat => iI (v5 i9)))), (w6, .inl (k 1, 768, .inl (fun i9 : Nat => iI (v6 i9))))]) rfl B
      refine lv_aload_n hx hb dX3_addRow_54 rfl (lv_at hl 1 rfl) ?_
      refine lv_dup hx hb dX3_addRow_55 rfl ?_
      refine x_get (ci := 3) (C := RX3) (T := TX3) (N := 15) (v := .int (iI pH)) B 0 rfl rfl in_X3 6 (by decide) mw_319 (fun _ h9 => h9) rfl dX3_addRow_56 ?_
      refine lv_aload_n hx hb dX3_addRow_59 rfl (lv_at hl 1 rfl) ?_
      refine x_get (ci := 3) (C := RX3) (T := TX3) (N := 15) (v := .ref rw) B 0 rfl rfl in_X3 1 (by decide) mw_314 (fun _ h9 => h9) rfl dX3_addRow_60 ?_
      refine x_get (ci := 6) (C := RX6) (T := TX6) (N := 18) (v := .ref w1) B 1 rfl rfl in_X6 1 (by decide) mw_227 (fun _ h9 => h9) rfl dX3_addRow_63 ?_
      refine lv_iload_n hx hb dX3_addRow_66 rfl (lv_at hl 0 rfl) ?_
      refine x_iald' (f := v1) (z := (pR + pC)) B 2 rfl (by omega) dX3_addRow_67 ?_
      have z_3 : 0 ≤ (v1 (pR + pC)) ∧ (v1 (pR + pC)) ≤ 200 := hv1 (pR + pC)
      refine y_add hx hb dX3_addRow_68 ?_
      refine x_put (ci := 3) (C := RX3) (T := TX3) (N := 15) (ty := .int) (v := .int (iI (pH + (v1 (pR + pC))))) B tyX3_ok nmX3 0 rfl rfl in_X3 6 (by decide) mw_319 (fun _ h9 => h9) rfl (by decide +kernel) rfl rfl (Nat.le_of_ble_eq_true rfl) dX3_addRow_69 (fun H locs B => ?_)
      have B := bd_to (ws' := [(pg, .inr (3, [.ref (A 50 0 0), .ref rw, .int (iI pR), .int (iI (pC + 1)), .int (iI pW), .int (iI pL), .int (iI (pH + (v1 (pR + pC)))), .int (iI pN), .int (iI pQ), .int (iI pT), .int (iI pB), .int (iI pX), .int (iI pY), .int (iI pM), .int (iI pU)])), (rw, .inr (6, [.int (iI n), .ref w1, .ref w2, .ref w3, .ref w4, .ref w5, .ref w6, .ref w7, .ref w8, .ref w9, .ref w10, .ref w11, .int (iI hn), .int (iI tn), .ref w14, .ref w15, .ref w16, .int (iI fn)])), (w1, .inl (k 0, 768, .inl (fun i9 : Nat => iI (v1 i9)))), (w4, .inl (k 0, 768, .inl (fun i9 : Nat => iI (v4 i9)))), (w5, .inl (k 0, 768, .inl (fun i9 : Nat => iI (v5 i9)))), (w6, .inl (k 1, 768, .inl (fun i9 : Nat => iI (v6 i9))))]) rfl B
      refine lv_aload_n hx hb dX3_addRow_72 rfl (lv_at hl 1 rfl) ?_
      refine lv_dup hx hb dX3_addRow_73 rfl ?_
      refine x_get (ci := 3) (C := RX3) (T := TX3) (N := 15) (v := .int (iI pN)) B 0 rfl rfl in_X3 7 (by decide) mw_320 (fun _ h9 => h9) rfl dX3_addRow_74 ?_
      refine lv_aload_n hx hb dX3_addRow_77 rfl (lv_at hl 1 rfl) ?_
      refine x_get (ci := 3) (C := RX3) (T := TX3) (N := 15) (v := .ref rw) B 0 rfl rfl in_X3 1 (by decide) mw_314 (fun _ h9 => h9) rfl dX3_addRow_78 ?_
      refine x_get (ci := 6) (C := RX6) (T := TX6) (N := 18) (v := .ref w4) B 1 rfl rfl in_X6 4 (by decide) mw_235 (fun _ h9 => h9) rfl dX3_addRow_81 ?_
      refine lv_iload_n hx hb dX3_addRow_84 rfl (lv_at hl 0 rfl) ?_
      refine x_iald' (f := v4) (z := (pR + pC)) B 3 rfl (by omega) dX3_addRow_85 ?_
      have z_4 : 0 ≤ (v4 (pR + pC)) ∧ (v4 (pR + pC)) ≤ 1000 := hv4 (pR + pC)
      refine y_add hx hb dX3_addRow_86 ?_
      refine x_put (ci := 3) (C := RX3) (T := TX3) (N := 15) (ty := .int) (v := .int (iI (pN + (v4 (pR + pC))))) B tyX3_ok nmX3 0 rfl rfl in_X3 7 (by decide) mw_320 (fun _ h9 => h9) rfl (by decide +kernel) rfl rfl (Nat.le_of_ble_eq_true rfl) dX3_addRow_87 (fun H locs B => ?_)
      have B := bd_to (ws' := [(pg, .inr (3, [.ref (A 50 0 0), .ref rw, .int (iI pR), .int (iI (pC + 1)), .int (iI pW), .int (iI pL), .int (iI (pH + (v1 (pR + pC)))), .int (iI (pN + (v4 (pR + pC)))), .int (iI pQ), .int (iI pT), .int (iI pB), .int (iI pX), .int (iI pY), .int (iI pM), .int (iI pU)])), (rw, .inr (6, [.int (iI n), .ref w1, .ref w2, .ref w3, .ref w4, .ref w5, .ref w6, .ref w7, .ref w8, .ref w9, .ref w10, .ref w11, .int (iI hn), .int (iI tn), .ref w14, .ref w15, .ref w16, .int (iI fn)])), (w1, .inl (k 0, 768, .inl (fun i9 : Nat => iI (v1 i9)))), (w4, .inl (k 0, 768, .inl (fun i9 : Nat => iI (v4 i9)))), (w5, .inl (k 0, 768, .inl (fun i9 : Nat => iI (v5 i9)))), (w6, .inl (k 1, 768, .inl (fun i9 : Nat => iI (v6 i9))))]) rfl B
      refine lv_aload_n hx hb dX3_addRow_90 rfl (lv_at hl 1 rfl) ?_
      refine lv_aload_n hx hb dX3_addRow_91 rfl (lv_at hl 1 rfl) ?_
      refine x_get (ci := 3) (C := RX3) (T := TX3) (N := 15) (v := .ref rw) B 0 rfl rfl in_X3 1 (by decide) mw_314 (fun _ h9 => h9) rfl dX3_addRow_92 ?_
      refine x_get (ci := 6) (C := RX6) (T := TX6) (N := 18) (v := .ref w5) B 1 rfl rfl in_X6 5 (by decide) mw_237 (fun _ h9 => h9) rfl dX3_addRow_95 ?_
      refine lv_iload_n hx hb dX3_addRow_98 rfl (lv_at hl 0 rfl) ?_
      refine x_iald' (f := v5) (z := (pR + pC)) B 4 rfl (by omega) dX3_addRow_99 ?_
      have z_5 : 0 ≤ (v5 (pR + pC)) ∧ (v5 (pR + pC)) ≤ 5 := hv5 (pR + pC)
      refine lv_if_le (tgt := 115) hx hb dX3_addRow_100 (by decide) (fun c_6 => ?_) (fun c_6 => ?_)
      · have zc_6 : (v5 (pR + pC)) ≤ 0 := jle (a := (v5 (pR + pC))) (b := 0) (by omega) (by omega) c_6
        refine lv_aload_n hx hb dX3_addRow_115 rfl (lv_at hl 1 rfl) ?_
        refine x_get (ci := 3) (C := RX3) (T := TX3) (N := 15) (v := .int (iI pQ)) B 0 rfl rfl in_X3 8 (by decide) mw_321 (fun _ h9 => h9) rfl dX3_addRow_116 ?_
        refine x_put (ci := 3) (C := RX3) (T := TX3) (N := 15) (ty := .int) (v := .int (iI pQ)) B tyX3_ok nmX3 0 rfl rfl in_X3 8 (by decide) mw_321 (fun _ h9 => h9) rfl (by decide +kernel) rfl rfl (Nat.le_of_ble_eq_true rfl) dX3_addRow_119 (fun H locs B => ?_)
        have B := bd_to (ws' := [(pg, .inr (3, [.ref (A 50 0 0), .ref rw, .int (iI pR), .int (iI (pC + 1)), .int (iI pW), .int (iI pL), .int (iI (pH + (v1 (pR + pC)))), .int (iI (pN + (v4 (pR + pC)))), .int (iI pQ), .int (iI pT), .int (iI pB), .int (iI pX), .int (iI pY), .int (iI pM), .int (iI pU)])), (rw, .inr (6, [.int (iI n), .ref w1, .ref w2, .ref w3, .ref w4, .ref w5, .ref w6, .ref w7, .ref w8, .ref w9, .ref w10, .ref w11, .int (iI hn), .int (iI tn), .ref w14, .ref w15, .ref w16, .int (iI fn)])), (w1, .inl (k 0, 768, .inl (fun i9 : Nat => iI (v1 i9)))), (w4, .inl (k 0, 768, .inl (fun i9 : Nat => iI (v4 i9)))), (w5, .inl (k 0, 768, .inl (fun i9 : Nat => iI (v5 i9)))), (w6, .inl (k 1, 768, .inl (fun i9 : Nat => iI (v6 i9))))]) rfl B
        refine lv_iconst (v := iI 1) hx hb dX3_addRow_122 (by decide) ?_
        have e_7 : (pH + v1 (pR + pC)) = (pH + (v1 (pR + pC))) := (by first | rfl | omega)
        have e_8 : (pN + v4 (pR + pC)) = (pN + (v4 (pR + pC))) := (by first | rfl | omega)
        have e_9 : (if 0 < v5 (pR + pC) then v5 (pR + pC) else pQ) = pQ := (by first | exact if_pos (by omega) | exact if_neg (by omega))
        have B := bd_to (ws' := [(pg, .inr (3, [.ref (A 50 0 0), .ref rw, .int (iI pR), .int (iI (pC + 1)), .int (iI pW), .int (iI pL), .int (iI (pH + v1 (pR + pC))), .int (iI (pN + v4 (pR + pC))), .int (iI (if 0 < v5 (pR + pC) then v5 (pR + pC) else pQ)), .int (iI pT), .int (iI pB), .int (iI pX), .int (iI pY), .int (iI pM), .int (iI pU)])), (rw, .inr (6, [.int (iI n), .ref w1, .ref w2, .ref w3, .ref w4, .ref w5, .ref w6, .ref w7, .ref w8, .ref w9, .ref w10, .ref w11, .int (iI hn), .int (iI tn), .ref w14, .ref w15, .ref w16, .int (iI fn)])), (w1, .inl (k 0, 768, .inl (fun i9 : Nat => iI (v1 i9)))), (w4, .inl (k 0, 768, .inl (fun i9 : Nat => iI (v4 i9)))), (w5, .inl (k 0, 768, .inl (fun i9 : Nat => iI (v5 i9)))), (w6, .inl (k 1, 768, .inl (fun i9 : Nat => iI (v6 i9))))]) (by first | rfl | (rw [e_7, e_8, e_9]) | (rw [e_9, e_8, e_7])) B
        exact k_zret B hr (by omega) (Or.inr (⟨(by omega), rfl, rfl, rfl, rfl⟩)) ⟨Nat.le_of_ble_eq_true rfl, Nat.le_of_ble_eq_true rfl⟩ ⟨Nat.le_of_ble_eq_true rfl, Nat.le_of_ble_eq_true rfl⟩ dX3_addRow_123
      · have zc_6 : 0 < (v5 (pR + pC)) := jnle (a := (v5 (pR + pC))) (b := 0) (by omega) (by omega) c_6
        refine lv_aload_n hx hb dX3_addRow_103 rfl (lv_at hl 1 rfl) ?_
        refine x_get (ci := 3) (C := RX3) (T := TX3) (N := 15) (v := .ref rw) B 0 rfl rfl in_X3 1 (by decide) mw_314 (fun _ h9 => h9) rfl dX3_addRow_104 ?_
        refine x_get (ci := 6) (C := RX6) (T := TX6) (N := 18) (v := .ref w5) B 1 rfl rfl in_X6 5 (by decide) mw_237 (fun _ h9 => h9) rfl dX3_addRow_107 ?_
        refine lv_iload_n hx hb dX3_addRow_110 rfl (lv_at hl 0 rfl) ?_
        refine x_iald' (f := v5) (z := (pR + pC)) B 4 rfl (by omega) dX3_addRow_111 ?_
        have z_10 : 0 ≤ (v5 (pR + pC)) ∧ (v5 (pR + pC)) ≤ 5 := hv5 (pR + pC)
        refine lv_goto (tgt := 119) hx hb dX3_addRow_112 (by decide) ?_
        refine x_put (ci := 3) (C := RX3) (T := TX3) (N := 15) (ty := .int) (v := .int (iI (v5 (pR + pC)))) B tyX3_ok nmX3 0 rfl rfl in_X3 8 (by decide) mw_321 (fun _ h9 => h9) rfl (by decide +kernel) rfl rfl (Nat.le_of_ble_eq_true rfl) dX3_addRow_119 (fun H locs B => ?_)
        have B := bd_to (ws' := [(pg, .inr (3, [.ref (A 50 0 0), .ref rw, .int (iI pR), .int (iI (pC + 1)), .int (iI pW), .int (iI pL), .int (iI (pH + (v1 (pR + pC)))), .int (iI (pN + (v4 (pR + pC)))), .int (iI (v5 (pR + pC))), .int (iI pT), .int (iI pB), .int (iI pX), .int (iI pY), .int (iI pM), .int (iI pU)])), (rw, .inr (6, [.int (iI n), .ref w1, .ref w2, .ref w3, .ref w4, .ref w5, .ref w6, .ref w7, .ref w8, .ref w9, .ref w10, .ref w11, .int (iI hn), .int (iI tn), .ref w14, .ref w15, .ref w16, .int (iI fn)])), (w1, .inl (k 0, 768, .inl (fun i9 : Nat => iI (v1 i9)))), (w4, .inl (k 0, 768, .inl (fun i9 : Nat => iI (v4 i9)))), (w5, .inl (k 0, 768, .inl (fun i9 : Nat => iI (v5 i9)))), (w6, .inl (k 1, 768, .inl (fun i9 : Nat => iI (v6 i9))))]) rfl B
        refine lv_iconst (v := iI 1) hx hb dX3_addRow_122 (by decide) ?_
        have e_11 : (pH + v1 (pR + pC)) = (pH + (v1 (pR + pC))) := (by first | rfl | omega)
        have e_12 : (pN + v4 (pR + pC)) = (pN + (v4 (pR + pC))) := (by first | rfl | omega)
        have e_13 : (if 0 < v5 (pR + pC) then v5 (pR + pC) else pQ) = (v5 (pR + pC)) := (by first | exact if_pos (by omega) | exact if_neg (by omega))
        have B := bd_to (ws' := [(pg, .inr (3, [.ref (A 50 0 0), .ref rw, .int (iI pR), .int (iI (pC + 1)), .int (iI pW), .int (iI pL), .int (iI (pH + v1 (pR + pC))), .int (iI (pN + v4 (pR + pC))), .int (iI (if 0 < v5 (pR + pC) then v5 (pR + pC) else pQ)), .int (iI pT), .int (iI pB), .int (iI pX), .int (iI pY), .int (iI pM), .int (iI pU)])), (rw, .inr (6, [.int (iI n), .ref w1, .ref w2, .ref w3, .ref w4, .ref w5, .ref w6, .ref w7, .ref w8, .ref w9, .ref w10, .ref w11, .int (iI hn), .int (iI tn), .ref w14, .ref w15, .ref w16, .int (iI fn)])), (w1, .inl (k 0, 768, .inl (fun i9 : Nat => iI (v1 i9)))), (w4, .inl (k 0, 768, .inl (fun i9 : Nat => iI (v4 i9)))), (w5, .inl (k 0, 768, .inl (fun i9 : Nat => iI (v5 i9)))), (w6, .inl (k 1, 768, .inl (fun i9 : Nat => iI (v6 i9))))]) (by first | rfl | (rw [e_11, e_12, e_13]) | (rw [e_13, e_12, e_11])) B
        exact k_zret B hr (by omega) (Or.inr (⟨(by omega), rfl, rfl, rfl, rfl⟩)) ⟨Nat.le_of_ble_eq_true rfl, Nat.le_of_ble_eq_true rfl⟩ ⟨Nat.le_of_ble_eq_true rfl, Nat.le_of_ble_eq_true rfl⟩ dX3_addRow_123
    · have zc_2 : 0 < pC := jnle (a := pC) (b := 0) (by omega) (by omega) c_2
      refine lv_aload_n hx hb dX3_addRow_28 rfl (lv_at hl 1 rfl) ?_
      refine x_get (ci := 3) (C := RX3) (T := TX3) (N := 15) (v := .ref rw) B 0 rfl rfl in_X3 1 (by decide) mw_314 (fun _ h9 => h9) rfl dX3_addRow_29 ?_
      refine x_get (ci := 6) (C := RX6) (T := TX6) (N := 18) (v := .ref w6) B 1 rfl rfl in_X6 6 (by decide) mw_239 (fun _ h9 => h9) rfl dX3_addRow_32 ?_
      refine lv_iload_n hx hb dX3_addRow_35 rfl (lv_at hl 0 rfl) ?_
      refine lv_iconst (v := iI 1) hx hb dX3_addRow_36 (by decide) ?_
      refine y_sub hx hb dX3_addRow_37 ?_
      refine x_zald' (f := v6) (z := ((pR + pC) - 1)) B 5 rfl (by omega) dX3_addRow_38 ?_
      have z_14 : 0 ≤ (v6 ((pR + pC) - 1)) ∧ (v6 ((pR + pC) - 1)) ≤ 1 := hv6 ((pR + pC) - 1)
      refine lv_if_eq (tgt := 44) hx hb dX3_addRow_39 (by decide) (fun c_15 => ?_) (fun c_15 => ?_)
      · have zc_15 : (v6 ((pR + pC) - 1)) = 0 := jeq (a := (v6 ((pR + pC) - 1))) (b := 0) (by omega) (by omega) c_15
        refine lv_aload_n hx hb dX3_addRow_44 rfl (lv_at hl 1 rfl) ?_
        refine lv_dup hx hb dX3_addRow_45 rfl ?_
        refine x_get (ci := 3) (C := RX3) (T := TX3) (N := 15) (v := .int (iI pC)) B 0 rfl rfl in_X3 3 (by decide) mw_316 (fun _ h9 => h9) rfl dX3_addRow_46 ?_
        refine lv_iconst (v := iI 1) hx hb dX3_addRow_49 (by decide) ?_
        refine y_add hx hb dX3_addRow_50 ?_
        refine x_put (ci := 3) (C := RX3) (T := TX3) (N := 15) (ty := .int) (v := .int (iI (pC + 1))) B tyX3_ok nmX3 0 rfl rfl in_X3 3 (by decide) mw_316 (fun _ h9 => h9) rfl (by decide +kernel) rfl rfl (Nat.le_of_ble_eq_true rfl) dX3_addRow_51 (fun H locs B => ?_)
        have B := bd_to (ws' := [(pg, .inr (3, [.ref (A 50 0 0), .ref rw, .int (iI pR), .int (iI (pC + 1)), .int (iI pW), .int (iI pL), .int (iI pH), .int (iI pN), .int (iI pQ), .int (iI pT), .int (iI pB), .int (iI pX), .int (iI pY), .int (iI pM), .int (iI pU)])), (rw, .inr (6, [.int (iI n), .ref w1, .ref w2, .ref w3, .ref w4, .ref w5, .ref w6, .ref w7, .ref w8, .ref w9, .ref w10, .ref w11, .int (iI hn), .int (iI tn), .ref w14, .ref w15, .ref w16, .int (iI fn)])), (w1, .inl (k 0, 768, .inl (fun i9 : Nat => iI (v1 i9)))), (w4, .inl (k 0, 768, .inl (fun i9 : Nat => iI (v4 i9)))), (w5, .inl (k 0, 768, .inl (fun i9 : Nat => iI (v5 i9)))), (w6, .inl (k 1, 768, .inl (fun i9 : Nat => iI (v6 i9))))]) rfl B
        refine lv_aload_n hx hb dX3_addRow_54 rfl (lv_at hl 1 rfl) ?_
        refine lv_dup hx hb dX3_addRow_55 rfl ?_
        refine x_get (ci := 3) (C := RX3) (T := TX3) (N := 15) (v := .int (iI pH)) B 0 rfl rfl in_X3 6 (by decide) mw_319 (fun _ h9 => h9) rfl dX3_addRow_56 ?_
        refine lv_aload_n hx hb dX3_addRow_59 rfl (lv_at hl 1 rfl) ?_
        refine x_get (ci := 3) (C := RX3) (T := TX3) (N := 15) (v := .ref rw) B 0 rfl rfl in_X3 1 (by decide) mw_314 (fun _ h9 => h9) rfl dX3_addRow_60 ?_
        refine x_get (ci := 6) (C := RX6) (T := TX6) (N := 18) (v := .ref w1) B 1 rfl rfl in_X6 1 (by decide) mw_227 (fun _ h9 => h9) rfl dX3_addRow_63 ?_
        refine lv_iload_n hx hb dX3_addRow_66 rfl (lv_at hl 0 rfl) ?_
        refine x_iald' (f := v1) (z := (pR + pC)) B 2 rfl (by omega) dX3_addRow_67 ?_
        have z_16 : 0 ≤ (v1 (pR + pC)) ∧ (v1 (pR + pC)) ≤ 200 := hv1 (pR + pC)
        refine y_add hx hb dX3_addRow_68 ?_
        refine x_put (ci := 3) (C := RX3) (T := TX3) (N := 15) (ty := .int) (v := .int (iI (pH + (v1 (pR + pC))))) B tyX3_ok nmX3 0 rfl rfl in_X3 6 (by decide) mw_319 (fun _ h9 => h9) rfl (by decide +kernel) rfl rfl (Nat.le_of_ble_eq_true rfl) dX3_addRow_69 (fun H locs B => ?_)
        have B := bd_to (ws' := [(pg, .inr (3, [.ref (A 50 0 0), .ref rw, .int (iI pR), .int (iI (pC + 1)), .int (iI pW), .int (iI pL), .int (iI (pH + (v1 (pR + pC)))), .int (iI pN), .int (iI pQ), .int (iI pT), .int (iI pB), .int (iI pX), .int (iI pY), .int (iI pM), .int (iI pU)])), (rw, .inr (6, [.int (iI n), .ref w1, .ref w2, .ref w3, .ref w4, .ref w5, .ref w6, .ref w7, .ref w8, .ref w9, .ref w10, .ref w11, .int (iI hn), .int (iI tn), .ref w14, .ref w15, .ref w16, .int (iI fn)])), (w1, .inl (k 0, 768, .inl (fun i9 : Nat => iI (v1 i9)))), (w4, .inl (k 0, 768, .inl (fun i9 : Nat => iI (v4 i9)))), (w5, .inl (k 0, 768, .inl (fun i9 : Nat => iI (v5 i9)))), (w6, .inl (k 1, 768, .inl (fun i9 : Nat => iI (v6 i9))))]) rfl B
        refine lv_aload_n hx hb dX3_addRow_72 rfl (lv_at hl 1 rfl) ?_
        refine lv_dup hx hb dX3_addRow_73 rfl ?_
        refine x_get (ci := 3) (C := RX3) (T := TX3) (N := 15) (v := .int (iI pN)) B 0 rfl rfl in_X3 7 (by decide) mw_320 (fun _ h9 => h9) rfl dX3_addRow_74 ?_
        refine lv_aload_n hx hb dX3_addRow_77 rfl (lv_at hl 1 rfl) ?_
        refine x_get (ci := 3) (C := RX3) (T := TX3) (N := 15) (v := .ref rw) B 0 rfl rfl in_X3 1 (by decide) mw_314 (fun _ h9 => h9) rfl dX3_addRow_78 ?_
        refine x_get (ci := 6) (C := RX6) (T := TX6) (N := 18) (v := .ref w4) B 1 rfl rfl in_X6 4 (by decide) mw_235 (fun _ h9 => h9) rfl dX3_addRow_81 ?_
        refine lv_iload_n hx hb dX3_addRow_84 rfl (lv_at hl 0 rfl) ?_
        refine x_iald' (f := v4) (z := (pR + pC)) B 3 rfl (by omega) dX3_addRow_85 ?_
        have z_17 : 0 ≤ (v4 (pR + pC)) ∧ (v4 (pR + pC)) ≤ 1000 := hv4 (pR + pC)
        refine y_add hx hb dX3_addRow_86 ?_
        refine x_put (ci := 3) (C := RX3) (T := TX3) (N := 15) (ty := .int) (v := .int (iI (pN + (v4 (pR + pC))))) B tyX3_ok nmX3 0 rfl rfl in_X3 7 (by decide) mw_320 (fun _ h9 => h9) rfl (by decide +kernel) rfl rfl (Nat.le_of_ble_eq_true rfl) dX3_addRow_87 (fun H locs B => ?_)
        have B := bd_to (ws' := [(pg, .inr (3, [.ref (A 50 0 0), .ref rw, .int (iI pR), .int (iI (pC + 1)), .int (iI pW), .int (iI pL), .int (iI (pH + (v1 (pR + pC)))), .int (iI (pN + (v4 (pR + pC)))), .int (iI pQ), .int (iI pT), .int (iI pB), .int (iI pX), .int (iI pY), .int (iI pM), .int (iI pU)])), (rw, .inr (6, [.int (iI n), .ref w1, .ref w2, .ref w3, .ref w4, .ref w5, .ref w6, .ref w7, .ref w8, .ref w9, .ref w10, .ref w11, .int (iI hn), .int (iI tn), .ref w14, .ref w15, .ref w16, .int (iI fn)])), (w1, .inl (k 0, 768, .inl (fun i9 : Nat => iI (v1 i9)))), (w4, .inl (k 0, 768, .inl (fun i9 : Nat => iI (v4 i9)))), (w5, .inl (k 0, 768, .inl (fun i9 : Nat => iI (v5 i9)))), (w6, .inl (k 1, 768, .inl (fun i9 : Nat => iI (v6 i9))))]) rfl B
        refine lv_aload_n hx hb dX3_addRow_90 rfl (lv_at hl 1 rfl) ?_
        refine lv_aload_n hx hb dX3_addRow_91 rfl (lv_at hl 1 rfl) ?_
        refine x_get (ci := 3) (C := RX3) (T := TX3) (N := 15) (v := .ref rw) B 0 rfl rfl in_X3 1 (by decide) mw_314 (fun _ h9 => h9) rfl dX3_addRow_92 ?_
        refine x_get (ci := 6) (C := RX6) (T := TX6) (N := 18) (v := .ref w5) B 1 rfl rfl in_X6 5 (by decide) mw_237 (fun _ h9 => h9) rfl dX3_addRow_95 ?_
        refine lv_iload_n hx hb dX3_addRow_98 rfl (lv_at hl 0 rfl) ?_
        refine x_iald' (f := v5) (z := (pR + pC)) B 4 rfl (by omega) dX3_addRow_99 ?_
        have z_18 : 0 ≤ (v5 (pR + pC)) ∧ (v5 (pR + pC)) ≤ 5 := hv5 (pR + pC)
        refine lv_if_le (tgt := 115) hx hb dX3_addRow_100 (by decide) (fun c_19 => ?_) (fun c_19 => ?_)
        · have zc_19 : (v5 (pR + pC)) ≤ 0 := jle (a := (v5 (pR + pC))) (b := 0) (by omega) (by omega) c_19
          refine lv_aload_n hx hb dX3_addRow_115 rfl (lv_at hl 1 rfl) ?_
          refine x_get (ci := 3) (C := RX3) (T := TX3) (N := 15) (v := .int (iI pQ)) B 0 rfl rfl in_X3 8 (by decide) mw_321 (fun _ h9 => h9) rfl dX3_addRow_116 ?_
          refine x_put (ci := 3) (C := RX3) (T := TX3) (N := 15) (ty := .int) (v := .int (iI pQ)) B tyX3_ok nmX3 0 rfl rfl in_X3 8 (by decide) mw_321 (fun _ h9 => h9) rfl (by decide +kernel) rfl rfl (Nat.le_of_ble_eq_true rfl) dX3_addRow_119 (fun H locs B => ?_)
          have B := bd_to (ws' := [(pg, .inr (3, [.ref (A 50 0 0), .ref rw, .int (iI pR), .int (iI (pC + 1)), .int (iI pW), .int (iI pL), .int (iI (pH + (v1 (pR + pC)))), .int (iI (pN + (v4 (pR + pC)))), .int (iI pQ), .int (iI pT), .int (iI pB), .int (iI pX), .int (iI pY), .int (iI pM), .int (iI pU)])), (rw, .inr (6, [.int (iI n), .ref w1, .ref w2, .ref w3, .ref w4, .ref w5, .ref w6, .ref w7, .ref w8, .ref w9, .ref w10, .ref w11, .int (iI hn), .int (iI tn), .ref w14, .ref w15, .ref w16, .int (iI fn)])), (w1, .inl (k 0, 768, .inl (fun i9 : Nat => iI (v1 i9)))), (w4, .inl (k 0, 768, .inl (fun i9 : Nat => iI (v4 i9)))), (w5, .inl (k 0, 768, .inl (fun i9 : Nat => iI (v5 i9)))), (w6, .inl (k 1, 768, .inl (fun i9 : Nat => iI (v6 i9))))]) rfl B
          refine lv_iconst (v := iI 1) hx hb dX3_addRow_122 (by decide) ?_
          have e_20 : (pH + v1 (pR + pC)) = (pH + (v1 (pR + pC))) := (by first | rfl | omega)
          have e_21 : (pN + v4 (pR + pC)) = (pN + (v4 (pR + pC))) := (by first | rfl | omega)
          have e_22 : (if 0 < v5 (pR + pC) then v5 (pR + pC) else pQ) = pQ := (by first | exact if_pos (by omega) | exact if_neg (by omega))
          have B := bd_to (ws' := [(pg, .inr (3, [.ref (A 50 0 0), .ref rw, .int (iI pR), .int (iI (pC + 1)), .int (iI pW), .int (iI pL), .int (iI (pH + v1 (pR + pC))), .int (iI (pN + v4 (pR + pC))), .int (iI (if 0 < v5 (pR + pC) then v5 (pR + pC) else pQ)), .int (iI pT), .int (iI pB), .int (iI pX), .int (iI pY), .int (iI pM), .int (iI pU)])), (rw, .inr (6, [.int (iI n), .ref w1, .ref w2, .ref w3, .ref w4, .ref w5, .ref w6, .ref w7, .ref w8, .ref w9, .ref w10, .ref w11, .int (iI hn), .int (iI tn), .ref w14, .ref w15, .ref w16, .int (iI fn)])), (w1, .inl (k 0, 768, .inl (fun i9 : Nat => iI (v1 i9)))), (w4, .inl (k 0, 768, .inl (fun i9 : Nat => iI (v4 i9)))), (w5, .inl (k 0, 768, .inl (fun i9 : Nat => iI (v5 i9)))), (w6, .inl (k 1, 768, .inl (fun i9 : Nat => iI (v6 i9))))]) (by first | rfl | (rw [e_20, e_21, e_22]) | (rw [e_22, e_21, e_20])) B
          exact k_zret B hr (by omega) (Or.inr (⟨(by omega), rfl, rfl, rfl, rfl⟩)) ⟨Nat.le_of_ble_eq_true rfl, Nat.le_of_ble_eq_true rfl⟩ ⟨Nat.le_of_ble_eq_true rfl, Nat.le_of_ble_eq_true rfl⟩ dX3_addRow_123
        · have zc_19 : 0 < (v5 (pR + pC)) := jnle (a := (v5 (pR + pC))) (b := 0) (by omega) (by omega) c_19
          refine lv_aload_n hx hb dX3_addRow_103 rfl (lv_at hl 1 rfl) ?_
          refine x_get (ci := 3) (C := RX3) (T := TX3) (N := 15) (v := .ref rw) B 0 rfl rfl in_X3 1 (by decide) mw_314 (fun _ h9 => h9) rfl dX3_addRow_104 ?_
          refine x_get (ci := 6) (C := RX6) (T := TX6) (N := 18) (v := .ref w5) B 1 rfl rfl in_X6 5 (by decide) mw_237 (fun _ h9 => h9) rfl dX3_addRow_107 ?_
          refine lv_iload_n hx hb dX3_addRow_110 rfl (lv_at hl 0 rfl) ?_
          refine x_iald' (f := v5) (z := (pR + pC)) B 4 rfl (by omega) dX3_addRow_111 ?_
          have z_23 : 0 ≤ (v5 (pR + pC)) ∧ (v5 (pR + pC)) ≤ 5 := hv5 (pR + pC)
          refine lv_goto (tgt := 119) hx hb dX3_addRow_112 (by decide) ?_
          refine x_put (ci := 3) (C := RX3) (T := TX3) (N := 15) (ty := .int) (v := .int (iI (v5 (pR + pC)))) B tyX3_ok nmX3 0 rfl rfl in_X3 8 (by decide) mw_321 (fun _ h9 => h9) rfl (by decide +kernel) rfl rfl (Nat.le_of_ble_eq_true rfl) dX3_addRow_119 (fun H locs B => ?_)
          have B := bd_to (ws' := [(pg, .inr (3, [.ref (A 50 0 0), .ref rw, .int (iI pR), .int (iI (pC + 1)), .int (iI pW), .int (iI pL), .int (iI (pH + (v1 (pR + pC)))), .int (iI (pN + (v4 (pR + pC)))), .int (iI (v5 (pR + pC))), .int (iI pT), .int (iI pB), .int (iI pX), .int (iI pY), .int (iI pM), .int (iI pU)])), (rw, .inr (6, [.int (iI n), .ref w1, .ref w2, .ref w3, .ref w4, .ref w5, .ref w6, .ref w7, .ref w8, .ref w9, .ref w10, .ref w11, .int (iI hn), .int (iI tn), .ref w14, .ref w15, .ref w16, .int (iI fn)])), (w1, .inl (k 0, 768, .inl (fun i9 : Nat => iI (v1 i9)))), (w4, .inl (k 0, 768, .inl (fun i9 : Nat => iI (v4 i9)))), (w5, .inl (k 0, 768, .inl (fun i9 : Nat => iI (v5 i9)))), (w6, .inl (k 1, 768, .inl (fun i9 : Nat => iI (v6 i9))))]) rfl B
          refine lv_iconst (v := iI 1) hx hb dX3_addRow_122 (by decide) ?_
          have e_24 : (pH + v1 (pR + pC)) = (pH + (v1 (pR + pC))) := (by first | rfl | omega)
          have e_25 : (pN + v4 (pR + pC)) = (pN + (v4 (pR + pC))) := (by first | rfl | omega)
          have e_26 : (if 0 < v5 (pR + pC) then v5 (pR + pC) else pQ) = (v5 (pR + pC)) := (by first | exact if_pos (by omega) | exact if_neg (by omega))
          have B := bd_to (ws' := [(pg, .inr (3, [.ref (A 50 0 0), .ref rw, .int (iI pR), .int (iI (pC + 1)), .int (iI pW), .int (iI pL), .int (iI (pH + v1 (pR + pC))), .int (iI (pN + v4 (pR + pC))), .int (iI (if 0 < v5 (pR + pC) then v5 (pR + pC) else pQ)), .int (iI pT), .int (iI pB), .int (iI pX), .int (iI pY), .int (iI pM), .int (iI pU)])), (rw, .inr (6, [.int (iI n), .ref w1, .ref w2, .ref w3, .ref w4, .ref w5, .ref w6, .ref w7, .ref w8, .ref w9, .ref w10, .ref w11, .int (iI hn), .int (iI tn), .ref w14, .ref w15, .ref w16, .int (iI fn)])), (w1, .inl (k 0, 768, .inl (fun i9 : Nat => iI (v1 i9)))), (w4, .inl (k 0, 768, .inl (fun i9 : Nat => iI (v4 i9)))), (w5, .inl (k 0, 768, .inl (fun i9 : Nat => iI (v5 i9)))), (w6, .inl (k 1, 768, .inl (fun i9 : Nat => iI (v6 i9))))]) (by first | rfl | (rw [e_24, e_25, e_26]) | (rw [e_26, e_25, e_24])) B
          exact k_zret B hr (by omega) (Or.inr (⟨(by omega), rfl, rfl, rfl, rfl⟩)) ⟨Nat.le_of_ble_eq_true rfl, Nat.le_of_ble_eq_true rfl⟩ ⟨Nat.le_of_ble_eq_true rfl, Nat.le_of_ble_eq_true rfl⟩ dX3_addRow_123
      · have zc_15 : (v6 ((pR + pC) - 1)) ≠ 0 := jne (a := (v6 ((pR + pC) - 1))) (b := 0) (by omega) (by omega) c_15
        refine lv_iconst (v := iI 0) hx hb dX3_addRow_42 (by decide) ?_
        exact k_zret B hr (by omega) (Or.inl (⟨(by omega), rfl, rfl, rfl, rfl⟩)) ⟨Nat.le_of_ble_eq_true rfl, Nat.le_of_ble_eq_true rfl⟩ ⟨Nat.le_of_ble_eq_true rfl, Nat.le_of_ble_eq_true rfl⟩ dX3_addRow_43

/-- the figures that stand at the top: kinds that are blocked, the set, the height, after the first k in order -/
def tpS (T : Nat → Int → Int → Int → Int) (od : Int → Int) (wz h0 : Int) : Nat → Int × Int × Int
  | 0 => (0, 0, h0)
  | k + 1 => if bAnd (bShr wz (k : Int)) 1 = 0 then tpS T od wz h0 k
    else if bAnd (tpS T od wz h0 k).1 (bShl 1 (T 13 (od (k : Int)) 0 0)) = 0 ∧ (tpS T od wz h0 k).2.2 + T 14 (od (k : Int)) 0 0 ≤ T 17 0 0 0 / 2
      then ((tpS T od wz h0 k).1, bOr (tpS T od wz h0 k).2.1 (bShl 1 (k : Int)), (tpS T od wz h0 k).2.2 + T 14 (od (k : Int)) 0 0)
      else (bOr (tpS T od wz h0 k).1 (bShl 1 (T 13 (od (k : Int)) 0 0)), (tpS T od wz h0 k).2.1, (tpS T od wz h0 k).2.2)
theorem tpS_s {T : Nat → Int → Int → Int → Int} {od : Int → Int} {wz h0 q bk ts hh : Int} (h : 0 ≤ q) (e : (bk, ts, hh) = tpS T od wz h0 (Int.toNat q)) : tpS T od wz h0 (Int.toNat (q + 1)) = if bAnd (bShr wz q) 1 = 0 then (bk, ts, hh)
    else if bAnd bk (bShl 1 (T 13 (od q) 0 0)) = 0 ∧ hh + T 14 (od q) 0 0 ≤ T 17 0 0 0 / 2 then (bk, bOr ts (bShl 1 q), hh + T 14 (od q) 0 0) else (bOr bk (bShl 1 (T 13 (od q) 0 0)), ts, hh) := by
  rw [show Int.toNat (q + 1) = Int.toNat q + 1 by omega]
  simp only [tpS]
  rw [← e, show ((Int.toNat q : Nat) : Int) = q by omega]

theorem mw_83 : (Jvm.Cond.fieldLink "Galleyforge$Page" (56 : Nat) "Galleyforge$Text" "figureKinds" "[I") ∈ gt := gt_at 153 (by decide +kernel) (by decide +kernel)
theorem mw_86 : (Jvm.Cond.fieldLink "Galleyforge$Page" (61 : Nat) "Galleyforge$Text" "figureHeights" "[I") ∈ gt := gt_at 156 (by decide +kernel) (by decide +kernel)
theorem mw_258 : (Jvm.Cond.fieldLink "Galleyforge$Page" (52 : Nat) "Galleyforge$Rows" "figuresInOrder" "[I") ∈ gt := gt_at 328 (by decide +kernel) (by decide +kernel)
theorem mw_260 : (Jvm.Cond.fieldLink "Galleyforge$Page" (47 : Nat) "Galleyforge$Rows" "figureCount" "I") ∈ gt := gt_at 330 (by decide +kernel) (by decide +kernel)
theorem mw_317 : (Jvm.Cond.fieldLink "Galleyforge$Page" (26 : Nat) "Galleyforge$Page" "wait" "I") ∈ gt := gt_at 387 (by decide +kernel) (by decide +kernel)
theorem mw_322 : (Jvm.Cond.fieldLink "Galleyforge$Page" (44 : Nat) "Galleyforge$Page" "topSet" "I") ∈ gt := gt_at 392 (by decide +kernel) (by decide +kernel)
theorem dX3_standAtTop_0 : decode cX3_standAtTop 0 = .ok (.iconst 0, 1) := by decide +kernel
theorem dX3_standAtTop_1 : decode cX3_standAtTop 1 = .ok (.istore_n 1, 1) := by decide +kernel
theorem dX3_standAtTop_2 : decode cX3_standAtTop 2 = .ok (.aload_n 0, 1) := by decide +kernel
theorem dX3_standAtTop_3 : decode cX3_standAtTop 3 = .ok (.iconst 0, 1) := by decide +kernel
theorem dX3_standAtTop_4 : decode cX3_standAtTop 4 = .ok (.putfield 44, 3) := by decide +kernel
theorem dX3_standAtTop_7 : decode cX3_standAtTop 7 = .ok (.iconst 0, 1) := by decide +kernel
theorem dX3_standAtTop_8 : decode cX3_standAtTop 8 = .ok (.istore_n 2, 1) := by decide +kernel
theorem dX3_standAtTop_9 : decode cX3_standAtTop 9 = .ok (.iload_n 2, 1) := by decide +kernel
theorem dX3_standAtTop_10 : decode cX3_standAtTop 10 = .ok (.aload_n 0, 1) := by decide +kernel
theorem dX3_standAtTop_11 : decode cX3_standAtTop 11 = .ok (.getfield 15, 3) := by decide +kernel
theorem dX3_standAtTop_14 : decode cX3_standAtTop 14 = .ok (.getfield 47, 3) := by decide +kernel
theorem dX3_standAtTop_17 : decode cX3_standAtTop 17 = .ok (.if_icmp .ge 117, 3) := by decide +kernel
theorem dX3_standAtTop_20 : decode cX3_standAtTop 20 = .ok (.aload_n 0, 1) := by decide +kernel
theorem dX3_standAtTop_21 : decode cX3_standAtTop 21 = .ok (.getfield 26, 3) := by decide +kernel
theorem dX3_standAtTop_24 : decode cX3_standAtTop 24 = .ok (.iload_n 2, 1) := by decide +kernel
theorem dX3_standAtTop_25 : decode cX3_standAtTop 25 = .ok (.ishr, 1) := by decide +kernel
theorem dX3_standAtTop_26 : decode cX3_standAtTop 26 = .ok (.iconst 1, 1) := by decide +kernel
theorem dX3_standAtTop_27 : decode cX3_standAtTop 27 = .ok (.iand, 1) := by decide +kernel
theorem dX3_standAtTop_28 : decode cX3_standAtTop 28 = .ok (.ifCond .ne 6, 3) := by decide +kernel
theorem dX3_standAtTop_31 : decode cX3_standAtTop 31 = .ok (.goto 97, 3) := by decide +kernel
theorem dX3_standAtTop_34 : decode cX3_standAtTop 34 = .ok (.aload_n 0, 1) := by decide +kernel
theorem dX3_standAtTop_35 : decode cX3_standAtTop 35 = .ok (.getfield 15, 3) := by decide +kernel
theorem dX3_standAtTop_38 : decode cX3_standAtTop 38 = .ok (.getfield 52, 3) := by decide +kernel
theorem dX3_standAtTop_41 : decode cX3_standAtTop 41 = .ok (.iload_n 2, 1) := by decide +kernel
theorem dX3_standAtTop_42 : decode cX3_standAtTop 42 = .ok (.iaload, 1) := by decide +kernel
theorem dX3_standAtTop_43 : decode cX3_standAtTop 43 = .ok (.istore_n 3, 1) := by decide +kernel
theorem dX3_standAtTop_44 : decode cX3_standAtTop 44 = .ok (.iconst 1, 1) := by decide +kernel
theorem dX3_standAtTop_45 : decode cX3_standAtTop 45 = .ok (.aload_n 0, 1) := by decide +kernel
theorem dX3_standAtTop_46 : decode cX3_standAtTop 46 = .ok (.getfield 9, 3) := by decide +kernel
theorem dX3_standAtTop_49 : decode cX3_standAtTop 49 = .ok (.getfield 56, 3) := by decide +kernel
theorem dX3_standAtTop_52 : decode cX3_standAtTop 52 = .ok (.iload_n 3, 1) := by decide +kernel
theorem dX3_standAtTop_53 : decode cX3_standAtTop 53 = .ok (.iaload, 1) := by decide +kernel
theorem dX3_standAtTop_54 : decode cX3_standAtTop 54 = .ok (.ishl, 1) := by decide +kernel
theorem dX3_standAtTop_55 : decode cX3_standAtTop 55 = .ok (.istore 4, 2) := by decide +kernel
theorem dX3_standAtTop_57 : decode cX3_standAtTop 57 = .ok (.iload_n 1, 1) := by decide +kernel
theorem dX3_standAtTop_58 : decode cX3_standAtTop 58 = .ok (.iload 4, 2) := by decide +kernel
theorem dX3_standAtTop_60 : decode cX3_standAtTop 60 = .ok (.iand, 1) := by decide +kernel
theorem dX3_standAtTop_61 : decode cX3_standAtTop 61 = .ok (.ifCond .ne 62, 3) := by decide +kernel
theorem dX3_standAtTop_64 : decode cX3_standAtTop 64 = .ok (.aload_n 0, 1) := by decide +kernel
theorem dX3_standAtTop_65 : decode cX3_standAtTop 65 = .ok (.getfield 32, 3) := by decide +kernel
theorem dX3_standAtTop_68 : decode cX3_standAtTop 68 = .ok (.aload_n 0, 1) := by decide +kernel
theorem dX3_standAtTop_69 : decode cX3_standAtTop 69 = .ok (.getfield 9, 3) := by decide +kernel
theorem dX3_standAtTop_72 : decode cX3_standAtTop 72 = .ok (.getfield 61, 3) := by decide +kernel
theorem dX3_standAtTop_75 : decode cX3_standAtTop 75 = .ok (.iload_n 3, 1) := by decide +kernel
theorem dX3_standAtTop_76 : decode cX3_standAtTop 76 = .ok (.iaload, 1) := by decide +kernel
theorem dX3_standAtTop_77 : decode cX3_standAtTop 77 = .ok (.iadd, 1) := by decide +kernel
theorem dX3_standAtTop_78 : decode cX3_standAtTop 78 = .ok (.aload_n 0, 1) := by decide +kernel
theorem dX3_standAtTop_79 : decode cX3_standAtTop 79 = .ok (.getfield 9, 3) := by decide +kernel
theorem dX3_standAtTop_82 : decode cX3_standAtTop 82 = .ok (.getfield 64, 3) := by decide +kernel
theorem dX3_standAtTop_85 : decode cX3_standAtTop 85 = .ok (.iconst 2, 1) := by decide +kernel
theorem dX3_standAtTop_86 : decode cX3_standAtTop 86 = .ok (.idiv, 1) := by decide +kernel
theorem dX3_standAtTop_87 : decode cX3_standAtTop 87 = .ok (.if_icmp .gt 36, 3) := by decide +kernel
theorem dX3_standAtTop_90 : decode cX3_standAtTop 90 = .ok (.aload_n 0, 1) := by decide +kernel
theorem dX3_standAtTop_91 : decode cX3_standAtTop 91 = .ok (.dup, 1) := by decide +kernel
theorem dX3_standAtTop_92 : decode cX3_standAtTop 92 = .ok (.getfield 44, 3) := by decide +kernel
theorem dX3_standAtTop_95 : decode cX3_standAtTop 95 = .ok (.iconst 1, 1) := by decide +kernel
theorem dX3_standAtTop_96 : decode cX3_standAtTop 96 = .ok (.iload_n 2, 1) := by decide +kernel
theorem dX3_standAtTop_97 : decode cX3_standAtTop 97 = .ok (.ishl, 1) := by decide +kernel
theorem dX3_standAtTop_98 : decode cX3_standAtTop 98 = .ok (.ior, 1) := by decide +kernel
theorem dX3_standAtTop_99 : decode cX3_standAtTop 99 = .ok (.putfield 44, 3) := by decide +kernel
theorem dX3_standAtTop_102 : decode cX3_standAtTop 102 = .ok (.aload_n 0, 1) := by decide +kernel
theorem dX3_standAtTop_103 : decode cX3_standAtTop 103 = .ok (.dup, 1) := by decide +kernel
theorem dX3_standAtTop_104 : decode cX3_standAtTop 104 = .ok (.getfield 32, 3) := by decide +kernel
theorem dX3_standAtTop_107 : decode cX3_standAtTop 107 = .ok (.aload_n 0, 1) := by decide +kernel
theorem dX3_standAtTop_108 : decode cX3_standAtTop 108 = .ok (.getfield 9, 3) := by decide +kernel
theorem dX3_standAtTop_111 : decode cX3_standAtTop 111 = .ok (.getfield 61, 3) := by decide +kernel
theorem dX3_standAtTop_114 : decode cX3_standAtTop 114 = .ok (.iload_n 3, 1) := by decide +kernel
theorem dX3_standAtTop_115 : decode cX3_standAtTop 115 = .ok (.iaload, 1) := by decide +kernel
theorem dX3_standAtTop_116 : decode cX3_standAtTop 116 = .ok (.iadd, 1) := by decide +kernel
theorem dX3_standAtTop_117 : decode cX3_standAtTop 117 = .ok (.putfield 32, 3) := by decide +kernel
theorem dX3_standAtTop_120 : decode cX3_standAtTop 120 = .ok (.goto 8, 3) := by decide +kernel
theorem dX3_standAtTop_123 : decode cX3_standAtTop 123 = .ok (.iload_n 1, 1) := by decide +kernel
theorem dX3_standAtTop_124 : decode cX3_standAtTop 124 = .ok (.iload 4, 2) := by decide +kernel
theorem dX3_standAtTop_126 : decode cX3_standAtTop 126 = .ok (.ior, 1) := by decide +kernel
theorem dX3_standAtTop_127 : decode cX3_standAtTop 127 = .ok (.istore_n 1, 1) := by decide +kernel
theorem dX3_standAtTop_128 : decode cX3_standAtTop 128 = .ok (.iinc 2 1, 3) := by decide +kernel
theorem dX3_standAtTop_131 : decode cX3_standAtTop 131 = .ok (.goto (-122), 3) := by decide +kernel
theorem dX3_standAtTop_134 : decode cX3_standAtTop 134 = .ok (.return_, 1) := by decide +kernel
set_option maxHeartbeats 4000000 in
set_option maxRecDepth 100000 in
theorem k_standTop (l : Launch) (dC : Nat → ClassId) (dI : Nat → Nat → Nat) (k : Nat → ClassId) (pg : Nat) (pR : Int) (pC : Int) (pW : Int) (pL : Int) (pH : Int) (pN : Int) (pQ : Int) (pT : Int) (pB : Int) (pX : Int) (pY : Int) (pM : Int) (pU : Int) (rw : Nat) (w1 : Nat) (w2 : Nat) (w3 : Nat) (w4 : Nat) (w5 : Nat) (w6 : Nat) (w7 : Nat) (w8 : Nat) (w9 : Nat) (w10 : Nat) (w11 : Nat) (w14 : Nat) (w15 : Nat) (w16 : Nat) (n : Int) (hn : Int) (tn : Int) (fn : Int) (T : Nat → Int → Int → Int → Int) (A : Nat → Int → Int → Nat) (X : Nat → Int → Int → Int) (tl : va_W) (v16 : Int → Int) (hT : TI dI k T A X tl) (hK : TK T) (hv16 : Bd 0 4 v16) (h1 : 0 ≤ pH ∧ pH < 1000000 ∧ 0 ≤ pW ∧ pW < 32 ∧ 0 ≤ fn ∧ fn ≤ 5) : Kn l dC dI k yX3_standAtTop (.code yX3_standAtTop cX3_standAtTop 5 none) ({ frames := 0, cells := 0, slots := 0, locals := 0 } : Room) [.ref pg] ([(pg, .inr (3, [.ref (A 50 0 0), .ref rw, .int (iI pR), .int (iI pC), .int (iI pW), .int (iI pL), .int (iI pH), .int (iI pN), .int (iI pQ), .int (iI pT), .int (iI pB), .int (iI pX), .int (iI pY), .int (iI pM), .int (iI pU)])), (rw, .inr (6, [.int (iI n), .ref w1, .ref w2, .ref w3, .ref w4, .ref w5, .ref w6, .ref w7, .ref w8, .ref w9, .ref w10, .ref w11, .int (iI hn), .int (iI tn), .ref w14, .ref w15, .ref w16, .int (iI fn)])), (w16, .inl (k 0, 5, .inl (fun i9 : Nat => iI (v16 i9))))] ++ tl) (fun r w gc gs => ((0 ≤ (tpS T v16 pW pH (Int.toNat fn)).2.1 ∧ (tpS T v16 pW pH (Int.toNat fn)).2.1 < 32 ∧ pH ≤ (tpS T v16 pW pH (Int.toNat fn)).2.2 ∧ (tpS T v16 pW pH (Int.toNat fn)).2.2 ≤ pH + 200) ∧ r = none ∧ w = ([(pg, .inr (3, [.ref (A 50 0 0), .ref rw, .int (iI pR), .int (iI pC), .int (iI pW), .int (iI pL), .int (iI ((tpS T v16 pW pH (Int.toNat fn)).2.2)), .int (iI pN), .int (iI pQ), .int (iI ((tpS T v16 pW pH (Int.toNat fn)).2.1)), .int (iI pB), .int (iI pX), .int (iI pY), .int (iI pM), .int (iI pU)])), (rw, .inr (6, [.int (iI n), .ref w1, .ref w2, .ref w3, .ref w4, .ref w5, .ref w6, .ref w7, .ref w8, .ref w9, .ref w10, .ref w11, .int (iI hn), .int (iI tn), .ref w14, .ref w15, .ref w16, .int (iI fn)])), (w16, .inl (k 0, 5, .inl (fun i9 : Nat => iI (v16 i9))))] ++ tl) ∧ gc = 0 ∧ gs = 0)) := by
  refine kn_of (by decide) (Nat.le_of_ble_eq_true rfl) ?_
  intro p e s m args below meth c H locs B hr hnm ls hl
  have hx := B.1.1
  have hb := B.1.2.1
  have hl : lv_has ls 5 [(0, .ref pg)] := hl
  refine lv_iconst (v := iI 0) hx hb dX3_standAtTop_0 (by decide) ?_
  refine lv_istore_n (lv' := [(1, .int (iI 0)), (0, .ref pg)]) hx hb dX3_standAtTop_1 rfl hl (by decide) rfl (fun ls hl => ?_)
  refine lv_aload_n hx hb dX3_standAtTop_2 rfl (lv_at hl 1 rfl) ?_
  refine lv_iconst (v := iI 0) hx hb dX3_standAtTop_3 (by decide) ?_
  refine x_put (ci := 3) (C := RX3) (T := TX3) (N := 15) (ty := .int) (v := .int (iI 0)) B tyX3_ok nmX3 0 rfl rfl in_X3 9 (by decide) mw_322 (fun _ h9 => h9) rfl (by decide +kernel) rfl rfl (Nat.le_of_ble_eq_true rfl) dX3_standAtTop_4 (fun H locs B => ?_)
  have B := bd_to (ws' := ([(pg, .inr (3, [.ref (A 50 0 0), .ref rw, .int (iI pR), .int (iI pC), .int (iI pW), .int (iI pL), .int (iI pH), .int (iI pN), .int (iI pQ), .int (iI 0), .int (iI pB), .int (iI pX), .int (iI pY), .int (iI pM), .int (iI pU)])), (rw, .inr (6, [.int (iI n), .ref w1, .ref w2, .ref w3, .ref w4, .ref w5, .ref w6, .ref w7, .ref w8, .ref w9, .ref w10, .ref w11, .int (iI hn), .int (iI tn), .ref w14, .ref w15, .ref w16, .int (iI fn)])), (w16, .inl (k 0, 5, .inl (fun i9 : Nat => iI (v16 i9))))] ++ tl)) rfl B
  refine lv_iconst (v := iI 0) hx hb dX3_standAtTop_7 (by decide) ?_
  refine lv_istore_n (lv' := [(2, .int (iI 0)), (1, .int (iI 0)), (0, .ref pg)]) hx hb dX3_standAtTop_8 rfl hl (by decide) rfl (fun ls hl => ?_)
  refine k_loop (σ := Int × Int × Int × Int) B (fun g9 : Int × Int × Int × Int => (0 ≤ g9.1 ∧ g9.1 ≤ fn ∧ 0 ≤ g9.2.1 ∧ g9.2.1 < 4 ∧ 0 ≤ g9.2.2.1 ∧ g9.2.2.1 < 32 ∧ pH ≤ g9.2.2.2 ∧ g9.2.2.2 ≤ pH + 40 * g9.1) ∧ ((g9.2.1, g9.2.2.1, g9.2.2.2) = tpS T v16 pW pH (Int.toNat g9.1))) (fun g9 : Int × Int × Int × Int => (fn - g9.1).toNat) (fun g9 : Int × Int × Int × Int => [(2, .int (iI g9.1)), (1, .int (iI g9.2.1)), (0, .ref pg)]) (fun g9 : Int × Int × Int × Int => ([(pg, .inr (3, [.ref (A 50 0 0), .ref rw, .int (iI pR), .int (iI pC), .int (iI pW), .int (iI pL), .int (iI g9.2.2.2), .int (iI pN), .int (iI pQ), .int (iI g9.2.2.1), .int (iI pB), .int (iI pX), .int (iI pY), .int (iI pM), .int (iI pU)])), (rw, .inr (6, [.int (iI n), .ref w1, .ref w2, .ref w3, .ref w4, .ref w5, .ref w6, .ref w7, .ref w8, .ref w9, .ref w10, .ref w11, .int (iI hn), .int (iI tn), .ref w14, .ref w15, .ref w16, .int (iI fn)])), (w16, .inl (k 0, 5, .inl (fun i9 : Nat => iI (v16 i9))))] ++ tl)) ?_ (0, 0, 0, pH) ⟨(show 0 ≤ 0 ∧ 0 ≤ fn ∧ 0 ≤ 0 ∧ 0 < 4 ∧ 0 ≤ 0 ∧ 0 < 32 ∧ pH ≤ pH ∧ pH ≤ pH + 40 * 0 from (by omega)), (show (0, 0, pH) = tpS T v16 pW pH (Int.toNat 0) from rfl)⟩ ls H locs (lv_sub hl [0, 1, 2] rfl) (bd_to rfl B)
  clear hl B
  rintro ⟨q, bk, ts, hh⟩ ⟨hq, hts⟩ ih_1 ls H locs hl B
  have hq : 0 ≤ q ∧ q ≤ fn ∧ 0 ≤ bk ∧ bk < 4 ∧ 0 ≤ ts ∧ ts < 32 ∧ pH ≤ hh ∧ hh ≤ pH + 40 * q := hq
  have hts : (bk, ts, hh) = tpS T v16 pW pH (Int.toNat q) := hts
  have hl : lv_has ls 5 [(2, .int (iI q)), (1, .int (iI bk)), (0, .ref pg)] := hl
  have B := bd_to (ws' := ([(pg, .inr (3, [.ref (A 50 0 0), .ref rw, .int (iI pR), .int (iI pC), .int (iI pW), .int (iI pL), .int (iI hh), .int (iI pN), .int (iI pQ), .int (iI ts), .int (iI pB), .int (iI pX), .int (iI pY), .int (iI pM), .int (iI pU)])), (rw, .inr (6, [.int (iI n), .ref w1, .ref w2, .ref w3, .ref w4, .ref w5, .ref w6, .ref w7, .ref w8, .ref w9, .ref w10, .ref w11, .int (iI hn), .int (iI tn), .ref w14, .ref w15, .ref w16, .int (iI fn)])), (w16, .inl (k 0, 5, .inl (fun i9 : Nat => iI (v16 i9))))] ++ tl)) rfl B
  refine lv_iload_n hx hb dX3_standAtTop_9 rfl (lv_at hl 0 rfl) ?_
  refine lv_aload_n hx hb dX3_standAtTop_10 rfl (lv_at hl 2 rfl) ?_
  refine x_get (ci := 3) (C := RX3) (T := TX3) (N := 15) (v := .ref rw) B 0 rfl rfl in_X3 1 (by decide) mw_314 (fun _ h9 => h9) rfl dX3_standAtTop_11 ?_
  refine x_get (ci := 6) (C := RX6) (T := TX6) (N := 18) (v := .int (iI fn)) B 1 rfl rfl in_X6 17 (by decide) mw_260 (fun _ h9 => h9) rfl dX3_standAtTop_14 ?_
  refine lv_icmp_ge (tgt := 134) hx hb dX3_standAtTop_17 (by decide) (fun c_2 => ?_) (fun c_2 => ?_)
  · have zc_2 : fn ≤ q := jle (a := fn) (b := q) (by omega) (by omega) c_2
    have e_3 : ((tpS T v16 pW pH (Int.toNat fn)).2.2) = hh := (by rw [show fn = q by omega, ← hts])
    have e_4 : ((tpS T v16 pW pH (Int.toNat fn)).2.1) = ts := (by rw [show fn = q by omega, ← hts])
    have B := bd_to (ws' := ([(pg, .inr (3, [.ref (A 50 0 0), .ref rw, .int (iI pR), .int (iI pC), .int (iI pW), .int (iI pL), .int (iI ((tpS T v16 pW pH (Int.toNat fn)).2.2)), .int (iI pN), .int (iI pQ), .int (iI ((tpS T v16 pW pH (Int.toNat fn)).2.1)), .int (iI pB), .int (iI pX), .int (iI pY), .int (iI pM), .int (iI pU)])), (rw, .inr (6, [.int (iI n), .ref w1, .ref w2, .ref w3, .ref w4, .ref w5, .ref w6, .ref w7, .ref w8, .ref w9, .ref w10, .ref w11, .int (iI hn), .int (iI tn), .ref w14, .ref w15, .ref w16, .int (iI fn)])), (w16, .inl (k 0, 5, .inl (fun i9 : Nat => iI (v16 i9))))] ++ tl)) (by first | rfl | (rw [e_3, e_4]) | (rw [e_4, e_3])) B
    exact k_vret B hr (⟨(by rw [show fn = q by omega, ← hts]; omega), rfl, rfl, rfl, rfl⟩) ⟨Nat.le_of_ble_eq_true rfl, Nat.le_of_ble_eq_true rfl⟩ ⟨Nat.le_of_ble_eq_true rfl, Nat.le_of_ble_eq_true rfl⟩ dX3_standAtTop_134
  · have zc_2 : q < fn := jnle (a := fn) (b := q) (by omega) (by omega) c_2
    refine lv_aload_n hx hb dX3_standAtTop_20 rfl (lv_at hl 2 rfl) ?_
    refine x_get (ci := 3) (C := RX3) (T := TX3) (N := 15) (v := .int (iI pW)) B 0 rfl rfl in_X3 4 (by decide) mw_317 (fun _ h9 => h9) rfl dX3_standAtTop_21 ?_
    refine lv_iload_n hx hb dX3_standAtTop_24 rfl (lv_at hl 0 rfl) ?_
    refine y_shr hx hb (a := pW) (b := q) (by omega) (by omega) dX3_standAtTop_25 ?_
    have z_5 : 0 ≤ (bShr pW q) ∧ (bShr pW q) ≤ pW := bShr_le (by omega)
    refine lv_iconst (v := iI 1) hx hb dX3_standAtTop_26 (by decide) ?_
    refine y_and hx hb (a := (bShr pW q)) (b := 1) (by omega) (by omega) dX3_standAtTop_27 ?_
    have z_6 : 0 ≤ (bAnd (bShr pW q) 1) ∧ (bAnd (bShr pW q) 1) ≤ (bShr pW q) := bAnd_le (by omega)
    have z_7 : 0 ≤ (bAnd (bShr pW q) 1) ∧ (bAnd (bShr pW q) 1) ≤ 1 := bAnd_le' (by omega)
    refine lv_if_ne (tgt := 34) hx hb dX3_standAtTop_28 (by decide) (fun c_8 => ?_) (fun c_8 => ?_)
    · have zc_8 : (bAnd (bShr pW q) 1) ≠ 0 := jne (a := (bAnd (bShr pW q) 1)) (b := 0) (by omega) (by omega) c_8
      refine lv_aload_n hx hb dX3_standAtTop_34 rfl (lv_at hl 2 rfl) ?_
      refine x_get (ci := 3) (C := RX3) (T := TX3) (N := 15) (v := .ref rw) B 0 rfl rfl in_X3 1 (by decide) mw_314 (fun _ h9 => h9) rfl dX3_standAtTop_35 ?_
      refine x_get (ci := 6) (C := RX6) (T := TX6) (N := 18) (v := .ref w16) B 1 rfl rfl in_X6 16 (by decide) mw_258 (fun _ h9 => h9) rfl dX3_standAtTop_38 ?_
      refine lv_iload_n hx hb dX3_standAtTop_41 rfl (lv_at hl 0 rfl) ?_
      refine x_iald' (f := v16) (z := q) B 2 rfl (by omega) dX3_standAtTop_42 ?_
      have z_9 : 0 ≤ (v16 q) ∧ (v16 q) ≤ 4 := hv16 q
      refine lv_istore_n (lv' := [(3, .int (iI (v16 q))), (2, .int (iI q)), (1, .int (iI bk)), (0, .ref pg)]) hx hb dX3_standAtTop_43 rfl hl (by decide) rfl (fun ls hl => ?_)
      refine lv_iconst (v := iI 1) hx hb dX3_standAtTop_44 (by decide) ?_
      refine lv_aload_n hx hb dX3_standAtTop_45 rfl (lv_at hl 3 rfl) ?_
      refine x_get (ci := 3) (C := RX3) (T := TX3) (N := 15) (v := .ref (A 50 0 0)) B 0 rfl rfl in_X3 0 (by decide) mw_313 (fun _ h9 => h9) rfl dX3_standAtTop_46 ?_
      obtain ⟨k_10, hk_10⟩ := pk_at (hs := [(pg, .inr (3, [.ref (A 50 0 0), .ref rw, .int (iI pR), .int (iI pC), .int (iI pW), .int (iI pL), .int (iI hh), .int (iI pN), .int (iI pQ), .int (iI ts), .int (iI pB), .int (iI pX), .int (iI pY), .int (iI pM), .int (iI pU)])), (rw, .inr (6, [.int (iI n), .ref w1, .ref w2, .ref w3, .ref w4, .ref w5, .ref w6, .ref w7, .ref w8, .ref w9, .ref w10, .ref w11, .int (iI hn), .int (iI tn), .ref w14, .ref w15, .ref w16, .int (iI fn)])), (w16, .inl (k 0, 5, .inl (fun i9 : Nat => iI (v16 i9))))]) hT.1.1
      refine x_get (ci := 9) (C := RX9) (T := TX9) (N := 8) (v := .ref (A 53 0 0)) B k_10 hk_10 rfl in_X9 2 (by decide) mw_83 (fun _ h9 => h9) rfl dX3_standAtTop_49 ?_
      refine lv_iload_n hx hb dX3_standAtTop_52 rfl (lv_at hl 0 rfl) ?_
      obtain ⟨k_11, hk_11⟩ := pk_at (hs := [(pg, .inr (3, [.ref (A 50 0 0), .ref rw, .int (iI pR), .int (iI pC), .int (iI pW), .int (iI pL), .int (iI hh), .int (iI pN), .int (iI pQ), .int (iI ts), .int (iI pB), .int (iI pX), .int (iI pY), .int (iI pM), .int (iI pU)])), (rw, .inr (6, [.int (iI n), .ref w1, .ref w2, .ref w3, .ref w4, .ref w5, .ref w6, .ref w7, .ref w8, .ref w9, .ref w10, .ref w11, .int (iI hn), .int (iI tn), .ref w14, .ref w15, .ref w16, .int (iI fn)])), (w16, .inl (k 0, 5, .inl (fun i9 : Nat => iI (v16 i9))))]) hT.1.2.1
      refine x_iald' (f := (fun j9 : Int => T 13 j9 0 0)) (z := (v16 q)) B k_11 hk_11 (by omega) dX3_standAtTop_53 ?_
      have z_12 : 0 ≤ (T 13 (v16 q) 0 0) ∧ (T 13 (v16 q) 0 0) ≤ 1 := (fun j => TK_fk hK j) (v16 q)
      have z_13 : 0 < (bShl 1 (T 13 (v16 q) 0 0)) ∧ (bShl 1 (T 13 (v16 q) 0 0)) < 4 := bShl_k1 (TK_fk hK _)
      refine y_shl hx hb (a := 1) (b := (T 13 (v16 q) 0 0)) (by omega) (by omega) (by omega) dX3_standAtTop_54 ?_
      refine lv_istore (lv' := [(4, .int (iI (bShl 1 (T 13 (v16 q) 0 0)))), (3, .int (iI (v16 q))), (2, .int (iI q)), (1, .int (iI bk)), (0, .ref pg)]) hx hb dX3_standAtTop_55 hl (by decide) rfl (fun ls hl => ?_)
      refine lv_iload_n hx hb dX3_standAtTop_57 rfl (lv_at hl 3 rfl) ?_
      refine lv_iload hx hb dX3_standAtTop_58 (lv_at hl 0 rfl) ?_
      refine y_and hx hb (a := bk) (b := (bShl 1 (T 13 (v16 q) 0 0))) (by omega) (by omega) dX3_standAtTop_60 ?_
      have z_14 : 0 ≤ (bAnd bk (bShl 1 (T 13 (v16 q) 0 0))) ∧ (bAnd bk (bShl 1 (T 13 (v16 q) 0 0))) ≤ bk := bAnd_le (by omega)
      have z_15 : 0 ≤ (bAnd bk (bShl 1 (T 13 (v16 q) 0 0))) ∧ (bAnd bk (bShl 1 (T 13 (v16 q) 0 0))) ≤ (bShl 1 (T 13 (v16 q) 0 0)) := bAnd_le' (by omega)
      refine lv_if_ne (tgt := 123) hx hb dX3_standAtTop_61 (by decide) (fun c_16 => ?_) (fun c_16 => ?_)
      · have zc_16 : (bAnd bk (bShl 1 (T 13 (v16 q) 0 0))) ≠ 0 := jne (a := (bAnd bk (bShl 1 (T 13 (v16 q) 0 0)))) (b := 0) (by omega) (by omega) c_16
        refine lv_iload_n hx hb dX3_standAtTop_123 rfl (lv_at hl 3 rfl) ?_
        refine lv_iload hx hb dX3_standAtTop_124 (lv_at hl 0 rfl) ?_
        refine y_or hx hb (a := bk) (b := (bShl 1 (T 13 (v16 q) 0 0))) (by omega) (by omega) dX3_standAtTop_126 ?_
        have z_17 : 0 ≤ (bOr bk (bShl 1 (T 13 (v16 q) 0 0))) ∧ (bOr bk (bShl 1 (T 13 (v16 q) 0 0))) < 4 := bOr_lt 2 (by omega) (by omega)
        refine lv_istore_n (lv' := [(1, .int (iI (bOr bk (bShl 1 (T 13 (v16 q) 0 0))))), (4, .int (iI (bShl 1 (T 13 (v16 q) 0 0)))), (3, .int (iI (v16 q))), (2, .int (iI q)), (0, .ref pg)]) hx hb dX3_standAtTop_127 rfl hl (by decide) rfl (fun ls hl => ?_)
        refine lv_iinc (v := iI (q + 1)) (lv' := [(2, .int (iI (q + 1))), (1, .int (iI (bOr bk (bShl 1 (T 13 (v16 q) 0 0))))), (4, .int (iI (bShl 1 (T 13 (v16 q) 0 0)))), (3, .int (iI (v16 q))), (0, .ref pg)]) hx hb dX3_standAtTop_128 hl (k := 3) rfl (iI_add _ _) (by decide) rfl (fun ls hl => ?_)
        refine lv_goto (tgt := 9) hx hb dX3_standAtTop_131 (by decide) ?_
        exact ih_1 ((q + 1), (bOr bk (bShl 1 (T 13 (v16 q) 0 0))), ts, hh) ⟨(show 0 ≤ (q + 1) ∧ (q + 1) ≤ fn ∧ 0 ≤ (bOr bk (bShl 1 (T 13 (v16 q) 0 0))) ∧ (bOr bk (bShl 1 (T 13 (v16 q) 0 0))) < 4 ∧ 0 ≤ ts ∧ ts < 32 ∧ pH ≤ hh ∧ hh ≤ pH + 40 * (q + 1) from (by omega)), (show ((bOr bk (bShl 1 (T 13 (v16 q) 0 0))), ts, hh) = tpS T v16 pW pH (Int.toNat (q + 1)) from (by rw [tpS_s (by omega) hts]; first | (rw [if_pos (by omega)]; done) | (rw [if_neg (by omega), if_pos (by omega)]; done) | (rw [if_neg (by omega), if_neg (by omega)]; done)))⟩ (by first | omega | (dsimp only; omega)) _ _ _ (lv_sub hl [0, 1, 4] rfl) (bd_to rfl B)
      · have zc_16 : (bAnd bk (bShl 1 (T 13 (v16 q) 0 0))) = 0 := jeq (a := (bAnd bk (bShl 1 (T 13 (v16 q) 0 0)))) (b := 0) (by omega) (by omega) c_16
        refine lv_aload_n hx hb dX3_standAtTop_64 rfl (lv_at hl 4 rfl) ?_
        refine x_get (ci := 3) (C := RX3) (T := TX3) (N := 15) (v := .int (iI hh)) B 0 rfl rfl in_X3 6 (by decide) mw_319 (fun _ h9 => h9) rfl dX3_standAtTop_65 ?_
        refine lv_aload_n hx hb dX3_standAtTop_68 rfl (lv_at hl 4 rfl) ?_
        refine x_get (ci := 3) (C := RX3) (T := TX3) (N := 15) (v := .ref (A 50 0 0)) B 0 rfl rfl in_X3 0 (by decide) mw_313 (fun _ h9 => h9) rfl dX3_standAtTop_69 ?_
        obtain ⟨k_18, hk_18⟩ := pk_at (hs := [(pg, .inr (3, [.ref (A 50 0 0), .ref rw, .int (iI pR), .int (iI pC), .int (iI pW), .int (iI pL), .int (iI hh), .int (iI pN), .int (iI pQ), .int (iI ts), .int (iI pB), .int (iI pX), .int (iI pY), .int (iI pM), .int (iI pU)])), (rw, .inr (6, [.int (iI n), .ref w1, .ref w2, .ref w3, .ref w4, .ref w5, .ref w6, .ref w7, .ref w8, .ref w9, .ref w10, .ref w11, .int (iI hn), .int (iI tn), .ref w14, .ref w15, .ref w16, .int (iI fn)])), (w16, .inl (k 0, 5, .inl (fun i9 : Nat => iI (v16 i9))))]) hT.1.1
        refine x_get (ci := 9) (C := RX9) (T := TX9) (N := 8) (v := .ref (A 54 0 0)) B k_18 hk_18 rfl in_X9 3 (by decide) mw_86 (fun _ h9 => h9) rfl dX3_standAtTop_72 ?_
        refine lv_iload_n hx hb dX3_standAtTop_75 rfl (lv_at hl 1 rfl) ?_
        obtain ⟨k_19, hk_19⟩ := pk_at (hs := [(pg, .inr (3, [.ref (A 50 0 0), .ref rw, .int (iI pR), .int (iI pC), .int (iI pW), .int (iI pL), .int (iI hh), .int (iI pN), .int (iI pQ), .int (iI ts), .int (iI pB), .int (iI pX), .int (iI pY), .int (iI pM), .int (iI pU)])), (rw, .inr (6, [.int (iI n), .ref w1, .ref w2, .ref w3, .ref w4, .ref w5, .ref w6, .ref w7, .ref w8, .ref w9, .ref w10, .ref w11, .int (iI hn), .int (iI tn), .ref w14, .ref w15, .ref w16, .int (iI fn)])), (w16, .inl (k 0, 5, .inl (fun i9 : Nat => iI (v16 i9))))]) hT.1.2.2.1
        refine x_iald' (f := (fun j9 : Int => T 14 j9 0 0)) (z := (v16 q)) B k_19 hk_19 (by omega) dX3_standAtTop_76 ?_
        have z_20 : 0 ≤ (T 14 (v16 q) 0 0) ∧ (T 14 (v16 q) 0 0) ≤ 40 := (fun j => TK_fh hK j) (v16 q)
        refine y_add hx hb dX3_standAtTop_77 ?_
        refine lv_aload_n hx hb dX3_standAtTop_78 rfl (lv_at hl 4 rfl) ?_
        refine x_get (ci := 3) (C := RX3) (T := TX3) (N := 15) (v := .ref (A 50 0 0)) B 0 rfl rfl in_X3 0 (by decide) mw_313 (fun _ h9 => h9) rfl dX3_standAtTop_79 ?_
        obtain ⟨k_21, hk_21⟩ := pk_at (hs := [(pg, .inr (3, [.ref (A 50 0 0), .ref rw, .int (iI pR), .int (iI pC), .int (iI pW), .int (iI pL), .int (iI hh), .int (iI pN), .int (iI pQ), .int (iI ts), .int (iI pB), .int (iI pX), .int (iI pY), .int (iI pM), .int (iI pU)])), (rw, .inr (6, [.int (iI n), .ref w1, .ref w2, .ref w3, .ref w4, .ref w5, .ref w6, .ref w7, .ref w8, .ref w9, .ref w10, .ref w11, .int (iI hn), .int (iI tn), .ref w14, .ref w15, .ref w16, .int (iI fn)])), (w16, .inl (k 0, 5, .inl (fun i9 : Nat => iI (v16 i9))))]) hT.1.1
        refine x_get (ci := 9) (C := RX9) (T := TX9) (N := 8) (v := .int (iI (T 17 0 0 0))) B k_21 hk_21 rfl in_X9 7 (by decide) mw_99 (fun _ h9 => h9) rfl dX3_standAtTop_82 ?_
        have z_22 : 6 ≤ T 17 0 0 0 ∧ T 17 0 0 0 ≤ 40 := TK_hei hK
        refine lv_iconst (v := iI 2) hx hb dX3_standAtTop_85 (by decide) ?_
        refine y_div hx hb (a := (T 17 0 0 0)) (b := 2) (by omega) (by omega) dX3_standAtTop_86 ?_
        refine lv_icmp_gt (tgt := 123) hx hb dX3_standAtTop_87 (by decide) (fun c_23 => ?_) (fun c_23 => ?_)
        · have zc_23 : ((T 17 0 0 0) / 2) < (hh + (T 14 (v16 q) 0 0)) := jlt (a := ((T 17 0 0 0) / 2)) (b := (hh + (T 14 (v16 q) 0 0))) (by omega) (by omega) c_23
          refine lv_iload_n hx hb dX3_standAtTop_123 rfl (lv_at hl 3 rfl) ?_
          refine lv_iload hx hb dX3_standAtTop_124 (lv_at hl 0 rfl) ?_
          refine y_or hx hb (a := bk) (b := (bShl 1 (T 13 (v16 q) 0 0))) (by omega) (by omega) dX3_standAtTop_126 ?_
          have z_24 : 0 ≤ (bOr bk (bShl 1 (T 13 (v16 q) 0 0))) ∧ (bOr bk (bShl 1 (T 13 (v16 q) 0 0))) < 4 := bOr_lt 2 (by omega) (by omega)
          refine lv_istore_n (lv' := [(1, .int (iI (bOr bk (bShl 1 (T 13 (v16 q) 0 0))))), (4, .int (iI (bShl 1 (T 13 (v16 q) 0 0)))), (3, .int (iI (v16 q))), (2, .int (iI q)), (0, .ref pg)]) hx hb dX3_standAtTop_127 rfl hl (by decide) rfl (fun ls hl => ?_)
          refine lv_iinc (v := iI (q + 1)) (lv' := [(2, .int (iI (q + 1))), (1, .int (iI (bOr bk (bShl 1 (T 13 (v16 q) 0 0))))), (4, .int (iI (bShl 1 (T 13 (v16 q) 0 0)))), (3, .int (iI (v16 q))), (0, .ref pg)]) hx hb dX3_standAtTop_128 hl (k := 3) rfl (iI_add _ _) (by decide) rfl (fun ls hl => ?_)
          refine lv_goto (tgt := 9) hx hb dX3_standAtTop_131 (by decide) ?_
          exact ih_1 ((q + 1), (bOr bk (bShl 1 (T 13 (v16 q) 0 0))), ts, hh) ⟨(show 0 ≤ (q + 1) ∧ (q + 1) ≤ fn ∧ 0 ≤ (bOr bk (bShl 1 (T 13 (v16 q) 0 0))) ∧ (bOr bk (bShl 1 (T 13 (v16 q) 0 0))) < 4 ∧ 0 ≤ ts ∧ ts < 32 ∧ pH ≤ hh ∧ hh ≤ pH + 40 * (q + 1) from (by omega)), (show ((bOr bk (bShl 1 (T 13 (v16 q) 0 0))), ts, hh) = tpS T v16 pW pH (Int.toNat (q + 1)) from (by rw [tpS_s (by omega) hts]; first | (rw [if_pos (by omega)]; done) | (rw [if_neg (by omega), if_pos (by omega)]; done) | (rw [if_neg (by omega), if_neg (by omega)]; done)))⟩ (by first | omega | (dsimp only; omega)) _ _ _ (lv_sub hl [0, 1, 4] rfl) (bd_to rfl B)
        · have zc_23 : (hh + (T 14 (v16 q) 0 0)) ≤ ((T 17 0 0 0) / 2) := jnlt (a := ((T 17 0 0 0) / 2)) (b := (hh + (T 14 (v16 q) 0 0))) (by omega) (by omega) c_23
          refine lv_aload_n hx hb dX3_standAtTop_90 rfl (lv_at hl 4 rfl) ?_
          refine lv_dup hx hb dX3_standAtTop_91 rfl ?_
          refine x_get (ci := 3) (C := RX3) (T := TX3) (N := 15) (v := .int (iI ts)) B 0 rfl rfl in_X3 9 (by decide) mw_322 (fun _ h9 => h9) rfl dX3_standAtTop_92 ?_
          refine lv_iconst (v := iI 1) hx hb dX3_standAtTop_95 (by decide) ?_
          refine lv_iload_n hx hb dX3_standAtTop_96 rfl (lv_at hl 2 rfl) ?_
          have z_25 : 0 < (bShl 1 q) ∧ (bShl 1 q) < 32 := bShl_k5 (by omega)
          refine y_shl hx hb (a := 1) (b := q) (by omega) (by omega) (by omega) dX3_standAtTop_97 ?_
          refine y_or hx hb (a := ts) (b := (bShl 1 q)) (by omega) (by omega) dX3_standAtTop_98 ?_
          have z_26 : 0 ≤ (bOr ts (bShl 1 q)) ∧ (bOr ts (bShl 1 q)) < 32 := bOr_lt 5 (by omega) (by omega)
          refine x_put (ci := 3) (C := RX3) (T := TX3) (N := 15) (ty := .int) (v := .int (iI (bOr ts (bShl 1 q)))) B tyX3_ok nmX3 0 rfl rfl in_X3 9 (by decide) mw_322 (fun _ h9 => h9) rfl (by decide +kernel) rfl rfl (Nat.le_of_ble_eq_true rfl) dX3_standAtTop_99 (fun H locs B => ?_)
          have B := bd_to (ws' := ([(pg, .inr (3, [.ref (A 50 0 0), .ref rw, .int (iI pR), .int (iI pC), .int (iI pW), .int (iI pL), .int (iI hh), .int (iI pN), .int (iI pQ), .int (iI (bOr ts (bShl 1 q))), .int (iI pB), .int (iI pX), .int (iI pY), .int (iI pM), .int (iI pU)])), (rw, .inr (6, [.int (iI n), .ref w1, .ref w2, .ref w3, .ref w4, .ref w5, .ref w6, .ref w7, .ref w8, .ref w9, .ref w10, .ref w11, .int (iI hn), .int (iI tn), .ref w14, .ref w15, .ref w16, .int (iI fn)])), (w16, .inl (k 0, 5, .inl (fun i9 : Nat => iI (v16 i9))))] ++ tl)) rfl B
          refine lv_aload_n hx hb dX3_standAtTop_102 rfl (lv_at hl 4 rfl) ?_
          refine lv_dup hx hb dX3_standAtTop_103 rfl ?_
          refine x_get (ci := 3) (C := RX3) (T := TX3) (N := 15) (v := .int (iI hh)) B 0 rfl rfl in_X3 6 (by decide) mw_319 (fun _ h9 => h9) rfl dX3_standAtTop_104 ?_
          refine lv_aload_n hx hb dX3_standAtTop_107 rfl (lv_at hl 4 rfl) ?_
          refine x_get (ci := 3) (C := RX3) (T := TX3) (N := 15) (v := .ref (A 50 0 0)) B 0 rfl rfl in_X3 0 (by decide) mw_313 (fun _ h9 => h9) rfl dX3_standAtTop_108 ?_
          obtain ⟨k_27, hk_27⟩ := pk_at (hs := [(pg, .inr (3, [.ref (A 50 0 0), .ref rw, .int (iI pR), .int (iI pC), .int (iI pW), .int (iI pL), .int (iI hh), .int (iI pN), .int (iI pQ), .int (iI (bOr ts (bShl 1 q))), .int (iI pB), .int (iI pX), .int (iI pY), .int (iI pM), .int (iI pU)])), (rw, .inr (6, [.int (iI n), .ref w1, .ref w2, .ref w3, .ref w4, .ref w5, .ref w6, .ref w7, .ref w8, .ref w9, .ref w10, .ref w11, .int (iI hn), .int (iI tn), .ref w14, .ref w15, .ref w16, .int (iI fn)])), (w16, .inl (k 0, 5, .inl (fun i9 : Nat => iI (v16 i9))))]) hT.1.1
          refine x_get (ci := 9) (C := RX9) (T := TX9) (N := 8) (v := .ref (A 54 0 0)) B k_27 hk_27 rfl in_X9 3 (by decide) mw_86 (fun _ h9 => h9) rfl dX3_standAtTop_111 ?_
          refine lv_iload_n hx hb dX3_standAtTop_114 rfl (lv_at hl 1 rfl) ?_
          obtain ⟨k_28, hk_28⟩ := pk_at (hs := [(pg, .inr (3, [.ref (A 50 0 0), .ref rw, .int (iI pR), .int (iI pC), .int (iI pW), .int (iI pL), .int (iI hh), .int (iI pN), .int (iI pQ), .int (iI (bOr ts (bShl 1 q))), .int (iI pB), .int (iI pX), .int (iI pY), .int (iI pM), .int (iI pU)])), (rw, .inr (6, [.int (iI n), .ref w1, .ref w2, .ref w3, .ref w4, .ref w5, .ref w6, .ref w7, .ref w8, .ref w9, .ref w10, .ref w11, .int (iI hn), .int (iI tn), .ref w14, .ref w15, .ref w16, .int (iI fn)])), (w16, .inl (k 0, 5, .inl (fun i9 : Nat => iI (v16 i9))))]) hT.1.2.2.1
          refine x_iald' (f := (fun j9 : Int => T 14 j9 0 0)) (z := (v16 q)) B k_28 hk_28 (by omega) dX3_standAtTop_115 ?_
          have z_29 : 0 ≤ (T 14 (v16 q) 0 0) ∧ (T 14 (v16 q) 0 0) ≤ 40 := (fun j => TK_fh hK j) (v16 q)
          refine y_add hx hb dX3_standAtTop_116 ?_
          refine x_put (ci := 3) (C := RX3) (T := TX3) (N := 15) (ty := .int) (v := .int (iI (hh + (T 14 (v16 q) 0 0)))) B tyX3_ok nmX3 0 rfl rfl in_X3 6 (by decide) mw_319 (fun _ h9 => h9) rfl (by decide +kernel) rfl rfl (Nat.le_of_ble_eq_true rfl) dX3_standAtTop_117 (fun H locs B => ?_)
          have B := bd_to (ws' := ([(pg, .inr (3, [.ref (A 50 0 0), .ref rw, .int (iI pR), .int (iI pC), .int (iI pW), .int (iI pL), .int (iI (hh + (T 14 (v16 q) 0 0))), .int (iI pN), .int (iI pQ), .int (iI (bOr ts (bShl 1 q))), .int (iI pB), .int (iI pX), .int (iI pY), .int (iI pM), .int (iI pU)])), (rw, .inr (6, [.int (iI n), .ref w1, .ref w2, .ref w3, .ref w4, .ref w5, .ref w6, .ref w7, .ref w8, .ref w9, .ref w10, .ref w11, .int (iI hn), .int (iI tn), .ref w14, .ref w15, .ref w16, .int (iI fn)])), (w16, .inl (k 0, 5, .inl (fun i9 : Nat => iI (v16 i9))))] ++ tl)) rfl B
          refine lv_goto (tgt := 128) hx hb dX3_standAtTop_120 (by decide) ?_
          refine lv_iinc (v := iI (q + 1)) (lv' := [(2, .int (iI (q + 1))), (4, .int (iI (bShl 1 (T 13 (v16 q) 0 0)))), (3, .int (iI (v16 q))), (1, .int (iI bk)), (0, .ref pg)]) hx hb dX3_standAtTop_128 hl (k := 2) rfl (iI_add _ _) (by decide) rfl (fun ls hl => ?_)
          refine lv_goto (tgt := 9) hx hb dX3_standAtTop_131 (by decide) ?_
          exact ih_1 ((q + 1), bk, (bOr ts (bShl 1 q)), (hh + (T 14 (v16 q) 0 0))) ⟨(show 0 ≤ (q + 1) ∧ (q + 1) ≤ fn ∧ 0 ≤ bk ∧ bk < 4 ∧ 0 ≤ (bOr ts (bShl 1 q)) ∧ (bOr ts (bShl 1 q)) < 32 ∧ pH ≤ (hh + (T 14 (v16 q) 0 0)) ∧ (hh + (T 14 (v16 q) 0 0)) ≤ pH + 40 * (q + 1) from (by omega)), (show (bk, (bOr ts (bShl 1 q)), (hh + (T 14 (v16 q) 0 0))) = tpS T v16 pW pH (Int.toNat (q + 1)) from (by rw [tpS_s (by omega) hts]; first | (rw [if_pos (by omega)]; done) | (rw [if_neg (by omega), if_pos (by omega)]; done) | (rw [if_neg (by omega), if_neg (by omega)]; done)))⟩ (by first | omega | (dsimp only; omega)) _ _ _ (lv_sub hl [0, 3, 4] rfl) (bd_to rfl B)
    · have zc_8 : (bAnd (bShr pW q) 1) = 0 := jeq (a := (bAnd (bShr pW q) 1)) (b := 0) (by omega) (by omega) c_8
      refine lv_goto (tgt := 128) hx hb dX3_standAtTop_31 (by decide) ?_
      refine lv_iinc (v := iI (q + 1)) (lv' := [(2, .int (iI (q + 1))), (1, .int (iI bk)), (0, .ref pg)]) hx hb dX3_standAtTop_128 hl (k := 0) rfl (iI_add _ _) (by decide) rfl (fun ls hl => ?_)
      refine lv_goto (tgt := 9) hx hb dX3_standAtTop_131 (by decide) ?_
      exact ih_1 ((q + 1), bk, ts, hh) ⟨(show 0 ≤ (q + 1) ∧ (q + 1) ≤ fn ∧ 0 ≤ bk ∧ bk < 4 ∧ 0 ≤ ts ∧ ts < 32 ∧ pH ≤ hh ∧ hh ≤ pH + 40 * (q + 1) from (by omega)), (show (bk, ts, hh) = tpS T v16 pW pH (Int.toNat (q + 1)) from (by rw [tpS_s (by omega) hts]; first | (rw [if_pos (by omega)]; done) | (rw [if_neg (by omega), if_pos (by omega)]; done) | (rw [if_neg (by omega), if_neg (by omega)]; done)))⟩ (by first | omega | (dsimp only; omega)) _ _ _ (lv_sub hl [0, 1, 2] rfl) (bd_to rfl B)

end
