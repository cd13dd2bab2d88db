section
/-- a run of places that tell how far from its beginning they are -/
def ixF (f : Int → Int) (b n : Int) : Int → Int := fun i => if b ≤ i ∧ i < b + n then i - b else f i
theorem ixF_0 (f : Int → Int) (b : Int) : f = ixF f b 0 := by
  funext i
  exact (if_neg (by omega)).symm
theorem ixF_s (f : Int → Int) {b n : Int} (hn : 0 ≤ n) : uz (ixF f b n) (b + n) n = ixF f b (n + 1) := by
  funext i
  simp only [uz, ixF]
  by_cases h : i = b + n
  · rw [if_pos h, if_pos (by omega)]
    omega
  · rw [if_neg h]
    by_cases h2 : b ≤ i ∧ i < b + n
    · rw [if_pos h2, if_pos (by omega)]
    · rw [if_neg h2, if_neg (by omega)]
theorem ixF_Bd {f : Int → Int} {b n lo hi : Int} (h : Bd lo hi f) (hv : lo ≤ 0 ∧ n ≤ hi + 1) : Bd lo hi (ixF f b n) := fun i => by
  have := h i
  simp only [ixF]
  split <;> omega
theorem fil_one {f : Int → Int} {b v : Int} : uz f b v = fil f b 1 v := by
  funext i
  simp only [uz, fil]
  by_cases h : i = b
  · rw [if_pos h, if_pos (by omega)]
  · rw [if_neg h, if_neg (by omega)]

theorem dX6_halfOf_0 : decode cX6_halfOf 0 = .ok (.iload_n 0, 1) := by decide +kernel
theorem dX6_halfOf_1 : decode cX6_halfOf 1 = .ok (.iconst 1, 1) := by decide +kernel
theorem dX6_halfOf_2 : decode cX6_halfOf 2 = .ok (.iadd, 1) := by decide +kernel
theorem dX6_halfOf_3 : decode cX6_halfOf 3 = .ok (.iconst 2, 1) := by decide +kernel
theorem dX6_halfOf_4 : decode cX6_halfOf 4 = .ok (.idiv, 1) := by decide +kernel
theorem dX6_halfOf_5 : decode cX6_halfOf 5 = .ok (.ireturn, 1) := by decide +kernel
set_option maxHeartbeats 4000000 in
set_option maxRecDepth 100000 in
theorem k_halfOf (l : Launch) (dC : Nat → ClassId) (dI : Nat → Nat → Nat) (k : Nat → ClassId) (i : Int) (h1 : 0 ≤ i ∧ i < 1000) : Kn l dC dI k yX6_halfOf (.code yX6_halfOf cX6_halfOf 1 (some .int)) ({ frames := 0, cells := 0, slots := 0, locals := 0 } : Room) [.int (iI i)] [] (fun r w gc gs => (r = some (.int (iI ((i + 1) / 2))) ∧ w = [] ∧ gc = 0 ∧ gs = 0)) := by
  refine kn_of (by decide) (Nat.le_of_ble_eq_true rfl) ?_
  intro p e s m args below meth c H locs B hr hnm ls hl
  have hx := B.1.1
  have hb := B.1.2.1
  have hl : lv_has ls 1 [(0, .int (iI i))] := hl
  refine lv_iload_n hx hb dX6_halfOf_0 rfl (lv_at hl 0 rfl) ?_
  refine lv_iconst (v := iI 1) hx hb dX6_halfOf_1 (by decide) ?_
  refine y_add hx hb dX6_halfOf_2 ?_
  refine lv_iconst (v := iI 2) hx hb dX6_halfOf_3 (by decide) ?_
  refine y_div hx hb (a := (i + 1)) (b := 2) (by omega) (by omega) dX6_halfOf_4 ?_
  exact k_iret B hr (⟨rfl, rfl, rfl, rfl⟩) ⟨Nat.le_of_ble_eq_true rfl, Nat.le_of_ble_eq_true rfl⟩ ⟨Nat.le_of_ble_eq_true rfl, Nat.le_of_ble_eq_true rfl⟩ dX6_halfOf_5

theorem mw_250 : (Jvm.Cond.fieldLink "Galleyforge$Rows" (43 : Nat) "Galleyforge$Rows" "termThere" "[Z") ∈ gt := gt_at 320 (by decide +kernel) (by decide +kernel)
theorem in_X6 : ∀ w ∈ u_ws RX6 TX6 18, w ∈ gt := in_of _ [333, 335, 337, 339, 341, 343, 345, 347, 349, 351, 353, 355, 357, 359, 361, 363, 365, 367] (by decide +kernel) (by decide +kernel)
theorem dX6_forgetTerms_0 : decode cX6_forgetTerms 0 = .ok (.iconst 0, 1) := by decide +kernel
theorem dX6_forgetTerms_1 : decode cX6_forgetTerms 1 = .ok (.istore_n 1, 1) := by decide +kernel
theorem dX6_forgetTerms_2 : decode cX6_forgetTerms 2 = .ok (.iload_n 1, 1) := by decide +kernel
theorem dX6_forgetTerms_3 : decode cX6_forgetTerms 3 = .ok (.bipush 8, 2) := by decide +kernel
theorem dX6_forgetTerms_5 : decode cX6_forgetTerms 5 = .ok (.if_icmp .ge 16, 3) := by decide +kernel
theorem dX6_forgetTerms_8 : decode cX6_forgetTerms 8 = .ok (.aload_n 0, 1) := by decide +kernel
theorem dX6_forgetTerms_9 : decode cX6_forgetTerms 9 = .ok (.getfield 43, 3) := by decide +kernel
theorem dX6_forgetTerms_12 : decode cX6_forgetTerms 12 = .ok (.iload_n 1, 1) := by decide +kernel
theorem dX6_forgetTerms_13 : decode cX6_forgetTerms 13 = .ok (.iconst 0, 1) := by decide +kernel
theorem dX6_forgetTerms_14 : decode cX6_forgetTerms 14 = .ok (.bastore, 1) := by decide +kernel
theorem dX6_forgetTerms_15 : decode cX6_forgetTerms 15 = .ok (.iinc 1 1, 3) := by decide +kernel
theorem dX6_forgetTerms_18 : decode cX6_forgetTerms 18 = .ok (.goto (-16), 3) := by decide +kernel
theorem dX6_forgetTerms_21 : decode cX6_forgetTerms 21 = .ok (.return_, 1) := by decide +kernel
set_option maxHeartbeats 4000000 in
set_option maxRecDepth 100000 in
theorem k_forgetTerms (l : Launch) (dC : Nat → ClassId) (dI : Nat → Nat → Nat) (k : Nat → ClassId) (rw : Nat) (w1 : Nat) (w2 : Nat) (w3 : Nat) (w4 : Nat) (w5 : Nat) (w6 : Nat) (w7 : Nat) (w8 : Nat) (w9 : Nat) (w10 : Nat) (w11 : Nat) (w14 : Nat) (w15 : Nat) (w16 : Nat) (n : Int) (hn : Int) (tn : Int) (fn : Int) (v11 : Int → Int) (hv11 : Bd 0 1 v11) : Kn l dC dI k yX6_forgetTerms (.code yX6_forgetTerms cX6_forgetTerms 2 none) ({ frames := 0, cells := 0, slots := 0, locals := 0 } : Room) [.ref rw] [(rw, .inr (6, [.int (iI n), .ref w1, .ref w2, .ref w3, .ref w4, .ref w5, .ref w6, .ref w7, .ref w8, .ref w9, .ref w10, .ref w11, .int (iI hn), .int (iI tn), .ref w14, .ref w15, .ref w16, .int (iI fn)])), (w11, .inl (k 1, 8, .inl (fun i9 : Nat => iI (v11 i9))))] (fun r w gc gs => (r = none ∧ w = [(rw, .inr (6, [.int (iI n), .ref w1, .ref w2, .ref w3, .ref w4, .ref w5, .ref w6, .ref w7, .ref w8, .ref w9, .ref w10, .ref w11, .int (iI hn), .int (iI tn), .ref w14, .ref w15, .ref w16, .int (iI fn)])), (w11, .inl (k 1, 8, .inl (fun i9 : Nat => iI ((fil v11 0 8 0) i9))))] ∧ gc = 0 ∧ gs = 0)) := by
  refine kn_of (by decide) (Nat.le_of_ble_eq_true rfl) ?_
  intro p e s m args below meth c H locs B hr hnm ls hl
  have hx := B.1.1
  have hb := B.1.2.1
  have hl : lv_has ls 2 [(0, .ref rw)] := hl
  refine lv_iconst (v := iI 0) hx hb dX6_forgetTerms_0 (by decide) ?_
  refine lv_istore_n (lv' := [(1, .int (iI 0)), (0, .ref rw)]) hx hb dX6_forgetTerms_1 rfl hl (by decide) rfl (fun ls hl => ?_)
  have e_1 : v11 = (fil v11 0 0 0) := (fil_0 _ _ _)
  have hl : lv_has ls 2 [(1, .int (iI 0)), (0, .ref rw)] := by first | exact lv_sub hl [0, 1] rfl | (try rw [← e_1]; exact lv_sub hl [0, 1] rfl)
  have B := bd_to (ws' := [(rw, .inr (6, [.int (iI n), .ref w1, .ref w2, .ref w3, .ref w4, .ref w5, .ref w6, .ref w7, .ref w8, .ref w9, .ref w10, .ref w11, .int (iI hn), .int (iI tn), .ref w14, .ref w15, .ref w16, .int (iI fn)])), (w11, .inl (k 1, 8, .inl (fun i9 : Nat => iI ((fil v11 0 0 0) i9))))]) (by first | rfl | (try rw [← e_1]; done) | (try rw [← e_1]; rfl)) B
  refine k_loop (σ := Int) B (fun g9 : Int => (0 ≤ g9 ∧ g9 ≤ 8)) (fun g9 : Int => (8 - g9).toNat) (fun g9 : Int => [(1, .int (iI g9)), (0, .ref rw)]) (fun g9 : Int => [(rw, .inr (6, [.int (iI n), .ref w1, .ref w2, .ref w3, .ref w4, .ref w5, .ref w6, .ref w7, .ref w8, .ref w9, .ref w10, .ref w11, .int (iI hn), .int (iI tn), .ref w14, .ref w15, .ref w16, .int (iI fn)])), (w11, .inl (k 1, 8, .inl (fun i9 : Nat => iI ((fil v11 0 g9 0) i9))))]) ?_ 0 (show 0 ≤ 0 ∧ 0 ≤ 8 from (by omega)) ls H locs (lv_sub hl [0, 1] rfl) (bd_to rfl B)
  clear hl B
  rintro j hj ih_2 ls H locs hl B
  have hl : lv_has ls 2 [(1, .int (iI j)), (0, .ref rw)] := hl
  have B := bd_to (ws' := [(rw, .inr (6, [.int (iI n), .ref w1, .ref w2, .ref w3, .ref w4, .ref w5, .ref w6, .ref w7, .ref w8, .ref w9, .ref w10, .ref w11, .int (iI hn), .int (iI tn), .ref w14, .ref w15, .ref w16, .int (iI fn)])), (w11, .inl (k 1, 8, .inl (fun i9 : Nat => iI ((fil v11 0 j 0) i9))))]) rfl B
  refine lv_iload_n hx hb dX6_forgetTerms_2 rfl (lv_at hl 0 rfl) ?_
  refine lv_bipush (v := iI 8) hx hb dX6_forgetTerms_3 (by decide) ?_
  refine lv_icmp_ge (tgt := 21) hx hb dX6_forgetTerms_5 (by decide) (fun c_3 => ?_) (fun c_3 => ?_)
  · have zc_3 : 8 ≤ j := jle (a := 8) (b := j) (by omega) (by omega) c_3
    have e_4 : (fil v11 0 8 0) = (fil v11 0 j 0) := (by rw [show j = 8 by omega])
    have B := bd_to (ws' := [(rw, .inr (6, [.int (iI n), .ref w1, .ref w2, .ref w3, .ref w4, .ref w5, .ref w6, .ref w7, .ref w8, .ref w9, .ref w10, .ref w11, .int (iI hn), .int (iI tn), .ref w14, .ref w15, .ref w16, .int (iI fn)])), (w11, .inl (k 1, 8, .inl (fun i9 : Nat => iI ((fil v11 0 8 0) i9))))]) (by first | rfl | (rw [e_4])) B
    exact k_vret B hr (⟨rfl, rfl, rfl, rfl⟩) ⟨Nat.le_of_ble_eq_true rfl, Nat.le_of_ble_eq_true rfl⟩ ⟨Nat.le_of_ble_eq_true rfl, Nat.le_of_ble_eq_true rfl⟩ dX6_forgetTerms_21
  · have zc_3 : j < 8 := jnle (a := 8) (b := j) (by omega) (by omega) c_3
    refine lv_aload_n hx hb dX6_forgetTerms_8 rfl (lv_at hl 1 rfl) ?_
    refine x_get (ci := 6) (C := RX6) (T := TX6) (N := 18) (v := .ref w11) B 0 rfl rfl in_X6 11 (by decide) mw_250 (fun _ h9 => h9) rfl dX6_forgetTerms_9 ?_
    refine lv_iload_n hx hb dX6_forgetTerms_12 rfl (lv_at hl 0 rfl) ?_
    refine lv_iconst (v := iI 0) hx hb dX6_forgetTerms_13 (by decide) ?_
    refine x_zast' (f := (fil v11 0 j 0)) (z := j) (v := 0) B 1 rfl (by omega) (by omega) dX6_forgetTerms_14 (fun H locs B => ?_)
    have B := bd_to (ws' := [(rw, .inr (6, [.int (iI n), .ref w1, .ref w2, .ref w3, .ref w4, .ref w5, .ref w6, .ref w7, .ref w8, .ref w9, .ref w10, .ref w11, .int (iI hn), .int (iI tn), .ref w14, .ref w15, .ref w16, .int (iI fn)])), (w11, .inl (k 1, 8, .inl (fun i9 : Nat => iI ((uz (fil v11 0 j 0) j 0) i9))))]) rfl B
    refine lv_iinc (v := iI (j + 1)) (lv' := [(1, .int (iI (j + 1))), (0, .ref rw)]) hx hb dX6_forgetTerms_15 hl (k := 0) rfl (iI_add _ _) (by decide) rfl (fun ls hl => ?_)
    refine lv_goto (tgt := 2) hx hb dX6_forgetTerms_18 (by decide) ?_
    have e_5 : (uz (fil v11 0 j 0) j 0) = (fil v11 0 (j + 1) 0) := (by have q9 := fil_s v11 (b := 0) (n := j) (v := 0) (by omega); rw [Int.zero_add] at q9; exact q9)
    have hl : lv_has ls 2 [(1, .int (iI (j + 1))), (0, .ref rw)] := by first | exact lv_sub hl [0, 1] rfl | (try rw [← e_5]; exact lv_sub hl [0, 1] rfl)
    have B := bd_sub (ws' := [(rw, .inr (6, [.int (iI n), .ref w1, .ref w2, .ref w3, .ref w4, .ref w5, .ref w6, .ref w7, .ref w8, .ref w9, .ref w10, .ref w11, .int (iI hn), .int (iI tn), .ref w14, .ref w15, .ref w16, .int (iI fn)])), (w11, .inl (k 1, 8, .inl (fun i9 : Nat => iI ((uz (fil v11 0 j 0) j 0) i9))))]) [0, 1] (by decide) rfl B
    have B := bd_to (ws' := [(rw, .inr (6, [.int (iI n), .ref w1, .ref w2, .ref w3, .ref w4, .ref w5, .ref w6, .ref w7, .ref w8, .ref w9, .ref w10, .ref w11, .int (iI hn), .int (iI tn), .ref w14, .ref w15, .ref w16, .int (iI fn)])), (w11, .inl (k 1, 8, .inl (fun i9 : Nat => iI ((fil v11 0 (j + 1) 0) i9))))]) (by first | rfl | (try rw [e_5]; done) | (try rw [e_5]; rfl)) B
    exact ih_2 (j + 1) (show 0 ≤ (j + 1) ∧ (j + 1) ≤ 8 from (by omega)) (by first | omega | (dsimp only; omega)) _ _ _ (lv_sub hl [0, 1] rfl) (bd_to rfl B)

/-- the terms that are there, and how many, once one more word has told its term -/
def ctF (f : Int → Int) (i : Int) : Int → Int := if i = -1 then f else if f i = 0 then uz f i 1 else f
def ctN (f : Int → Int) (i n : Int) : Int := if i = -1 then n else if f i = 0 then n + 1 else n

theorem mw_253 : (Jvm.Cond.fieldLink "Galleyforge$Rows" (114 : Nat) "Galleyforge$Rows" "terms" "I") ∈ gt := gt_at 323 (by decide +kernel) (by decide +kernel)
theorem dX6_countTerm_0 : decode cX6_countTerm 0 = .ok (.iload_n 1, 1) := by decide +kernel
theorem dX6_countTerm_1 : decode cX6_countTerm 1 = .ok (.iconst (-1), 1) := by decide +kernel
theorem dX6_countTerm_2 : decode cX6_countTerm 2 = .ok (.if_icmp .eq 29, 3) := by decide +kernel
theorem dX6_countTerm_5 : decode cX6_countTerm 5 = .ok (.aload_n 0, 1) := by decide +kernel
theorem dX6_countTerm_6 : decode cX6_countTerm 6 = .ok (.getfield 43, 3) := by decide +kernel
theorem dX6_countTerm_9 : decode cX6_countTerm 9 = .ok (.iload_n 1, 1) := by decide +kernel
theorem dX6_countTerm_10 : decode cX6_countTerm 10 = .ok (.baload, 1) := by decide +kernel
theorem dX6_countTerm_11 : decode cX6_countTerm 11 = .ok (.ifCond .ne 20, 3) := by decide +kernel
theorem dX6_countTerm_14 : decode cX6_countTerm 14 = .ok (.aload_n 0, 1) := by decide +kernel
theorem dX6_countTerm_15 : decode cX6_countTerm 15 = .ok (.getfield 43, 3) := by decide +kernel
theorem dX6_countTerm_18 : decode cX6_countTerm 18 = .ok (.iload_n 1, 1) := by decide +kernel
theorem dX6_countTerm_19 : decode cX6_countTerm 19 = .ok (.iconst 1, 1) := by decide +kernel
theorem dX6_countTerm_20 : decode cX6_countTerm 20 = .ok (.bastore, 1) := by decide +kernel
theorem dX6_countTerm_21 : decode cX6_countTerm 21 = .ok (.aload_n 0, 1) := by decide +kernel
theorem dX6_countTerm_22 : decode cX6_countTerm 22 = .ok (.dup, 1) := by decide +kernel
theorem dX6_countTerm_23 : decode cX6_countTerm 23 = .ok (.getfield 114, 3) := by decide +kernel
theorem dX6_countTerm_26 : decode cX6_countTerm 26 = .ok (.iconst 1, 1) := by decide +kernel
theorem dX6_countTerm_27 : decode cX6_countTerm 27 = .ok (.iadd, 1) := by decide +kernel
theorem dX6_countTerm_28 : decode cX6_countTerm 28 = .ok (.putfield 114, 3) := by decide +kernel
theorem dX6_countTerm_31 : decode cX6_countTerm 31 = .ok (.return_, 1) := by decide +kernel
set_option maxHeartbeats 4000000 in
set_option maxRecDepth 100000 in
theorem k_countTerm (l : Launch) (dC : Nat → ClassId) (dI : Nat → Nat → Nat) (k : Nat → ClassId) (rw : Nat) (w1 : Nat) (w2 : Nat) (w3 : Nat) (w4 : Nat) (w5 : Nat) (w6 : Nat) (w7 : Nat) (w8 : Nat) (w9 : Nat) (w10 : Nat) (w11 : Nat) (w14 : Nat) (w15 : Nat) (w16 : Nat) (n : Int) (hn : Int) (tn : Int) (fn : Int) (v11 : Int → Int) (i : Int) (hv11 : Bd 0 1 v11) (h1 : -1 ≤ i ∧ i ≤ 7) : Kn l dC dI k yX6_countTerm (.code yX6_countTerm cX6_countTerm 2 none) ({ frames := 0, cells := 0, slots := 0, locals := 0 } : Room) [.ref rw, .int (iI i)] [(rw, .inr (6, [.int (iI n), .ref w1, .ref w2, .ref w3, .ref w4, .ref w5, .ref w6, .ref w7, .ref w8, .ref w9, .ref w10, .ref w11, .int (iI hn), .int (iI tn), .ref w14, .ref w15, .ref w16, .int (iI fn)])), (w11, .inl (k 1, 8, .inl (fun i9 : Nat => iI (v11 i9))))] (fun r w gc gs => (r = none ∧ w = [(rw, .inr (6, [.int (iI n), .ref w1, .ref w2, .ref w3, .ref w4, .ref w5, .ref w6, .ref w7, .ref w8, .ref w9, .ref w10, .ref w11, .int (iI hn), .int (iI (ctN v11 i tn)), .ref w14, .ref w15, .ref w16, .int (iI fn)])), (w11, .inl (k 1, 8, .inl (fun i9 : Nat => iI ((ctF v11 i) i9))))] ∧ gc = 0 ∧ gs = 0)) := by
  refine kn_of (by decide) (Nat.le_of_ble_eq_true rfl) ?_
  intro p e s m args below meth c H locs B hr hnm ls hl
  have hx := B.1.1
  have hb := B.1.2.1
  have hl : lv_has ls 2 [(0, .ref rw), (1, .int (iI i))] := hl
  refine lv_iload_n hx hb dX6_countTerm_0 rfl (lv_at hl 1 rfl) ?_
  refine lv_iconst (v := iI (-1)) hx hb dX6_countTerm_1 (by decide) ?_
  refine lv_icmp_eq (tgt := 31) hx hb dX6_countTerm_2 (by decide) (fun c_1 => ?_) (fun c_1 => ?_)
  · have zc_1 : i = (-1) := jeq (a := i) (b := (-1)) (by omega) (by omega) c_1
    have e_2 : (ctN v11 i tn) = tn := (by simp only [ctF, ctN]; first | (rw [if_pos (by omega)]; done) | (rw [if_neg (by omega), if_pos (by omega)]; done) | (rw [if_neg (by omega), if_neg (by omega)]; done))
    have e_3 : (ctF v11 i) = v11 := (by simp only [ctF, ctN]; first | (rw [if_pos (by omega)]; done) | (rw [if_neg (by omega), if_pos (by omega)]; done) | (rw [if_neg (by omega), if_neg (by omega)]; done))
    have B := bd_to (ws' := [(rw, .inr (6, [.int (iI n), .ref w1, .ref w2, .ref w3, .ref w4, .ref w5, .ref w6, .ref w7, .ref w8, .ref w9, .ref w10, .ref w11, .int (iI hn), .int (iI (ctN v11 i tn)), .ref w14, .ref w15, .ref w16, .int (iI fn)])), (w11, .inl (k 1, 8, .inl (fun i9 : Nat => iI ((ctF v11 i) i9))))]) (by first | rfl | (rw [e_2, e_3]) | (rw [e_3, e_2])) B
    exact k_vret B hr (⟨rfl, rfl, rfl, rfl⟩) ⟨Nat.le_of_ble_eq_true rfl, Nat.le_of_ble_eq_true rfl⟩ ⟨Nat.le_of_ble_eq_true rfl, Nat.le_of_ble_eq_true rfl⟩ dX6_countTerm_31
  · have zc_1 : i ≠ (-1) := jne (a := i) (b := (-1)) (by omega) (by omega) c_1
    refine lv_aload_n hx hb dX6_countTerm_5 rfl (lv_at hl 0 rfl) ?_
    refine x_get (ci := 6) (C := RX6) (T := TX6) (N := 18) (v := .ref w11) B 0 rfl rfl in_X6 11 (by decide) mw_250 (fun _ h9 => h9) rfl dX6_countTerm_6 ?_
    refine lv_iload_n hx hb dX6_countTerm_9 rfl (lv_at hl 1 rfl) ?_
    refine x_zald' (f := v11) (z := i) B 1 rfl (by omega) dX6_countTerm_10 ?_
    have z_4 : 0 ≤ (v11 i) ∧ (v11 i) ≤ 1 := hv11 i
    refine lv_if_ne (tgt := 31) hx hb dX6_countTerm_11 (by decide) (fun c_5 => ?_) (fun c_5 => ?_)
    · have zc_5 : (v11 i) ≠ 0 := jne (a := (v11 i)) (b := 0) (by omega) (by omega) c_5
      have e_6 : (ctN v11 i tn) = tn := (by simp only [ctF, ctN]; first | (rw [if_pos (by omega)]; done) | (rw [if_neg (by omega), if_pos (by omega)]; done) | (rw [if_neg (by omega), if_neg (by omega)]; done))
      have e_7 : (ctF v11 i) = v11 := (by simp only [ctF, ctN]; first | (rw [if_pos (by omega)]; done) | (rw [if_neg (by omega), if_pos (by omega)]; done) | (rw [if_neg (by omega), if_neg (by omega)]; done))
      have B := bd_to (ws' := [(rw, .inr (6, [.int (iI n), .ref w1, .ref w2, .ref w3, .ref w4, .ref w5, .ref w6, .ref w7, .ref w8, .ref w9, .ref w10, .ref w11, .int (iI hn), .int (iI (ctN v11 i tn)), .ref w14, .ref w15, .ref w16, .int (iI fn)])), (w11, .inl (k 1, 8, .inl (fun i9 : Nat => iI ((ctF v11 i) i9))))]) (by first | rfl | (rw [e_6, e_7]) | (rw [e_7, e_6])) B
      exact k_vret B hr (⟨rfl, rfl, rfl, rfl⟩) ⟨Nat.le_of_ble_eq_true rfl, Nat.le_of_ble_eq_true rfl⟩ ⟨Nat.le_of_ble_eq_true rfl, Nat.le_of_ble_eq_true rfl⟩ dX6_countTerm_31
    · have zc_5 : (v11 i) = 0 := jeq (a := (v11 i)) (b := 0) (by omega) (by omega) c_5
      refine lv_aload_n hx hb dX6_countTerm_14 rfl (lv_at hl 0 rfl) ?_
      refine x_get (ci := 6) (C := RX6) (T := TX6) (N := 18) (v := .ref w11) B 0 rfl rfl in_X6 11 (by decide) mw_250 (fun _ h9 => h9) rfl dX6_countTerm_15 ?_
      refine lv_iload_n hx hb dX6_countTerm_18 rfl (lv_at hl 1 rfl) ?_
      refine lv_iconst (v := iI 1) hx hb dX6_countTerm_19 (by decide) ?_
      refine x_zast' (f := v11) (z := i) (v := 1) B 1 rfl (by omega) (by omega) dX6_countTerm_20 (fun H locs B => ?_)
      have b_8 : Bd 0 1 (uz v11 i 1) := Bd_uz hv11 (by omega)
      have B := bd_to (ws' := [(rw, .inr (6, [.int (iI n), .ref w1, .ref w2, .ref w3, .ref w4, .ref w5, .ref w6, .ref w7, .ref w8, .ref w9, .ref w10, .ref w11, .int (iI hn), .int (iI tn), .ref w14, .ref w15, .ref w16, .int (iI fn)])), (w11, .inl (k 1, 8, .inl (fun i9 : Nat => iI ((uz v11 i 1) i9))))]) rfl B
      refine lv_aload_n hx hb dX6_countTerm_21 rfl (lv_at hl 0 rfl) ?_
      refine lv_dup hx hb dX6_countTerm_22 rfl ?_
      refine x_get (ci := 6) (C := RX6) (T := TX6) (N := 18) (v := .int (iI tn)) B 0 rfl rfl in_X6 13 (by decide) mw_253 (fun _ h9 => h9) rfl dX6_countTerm_23 ?_
      refine lv_iconst (v := iI 1) hx hb dX6_countTerm_26 (by decide) ?_
      refine y_add hx hb dX6_countTerm_27 ?_
      refine x_put (ci := 6) (C := RX6) (T := TX6) (N := 18) (ty := .int) (v := .int (iI (tn + 1))) B tyX6_ok nmX6 0 rfl rfl in_X6 13 (by decide) mw_253 (fun _ h9 => h9) rfl (by decide +kernel) rfl rfl (Nat.le_of_ble_eq_true rfl) dX6_countTerm_28 (fun H locs B => ?_)
      have B := bd_to (ws' := [(rw, .inr (6, [.int (iI n), .ref w1, .ref w2, .ref w3, .ref w4, .ref w5, .ref w6, .ref w7, .ref w8, .ref w9, .ref w10, .ref w11, .int (iI hn), .int (iI (tn + 1)), .ref w14, .ref w15, .ref w16, .int (iI fn)])), (w11, .inl (k 1, 8, .inl (fun i9 : Nat => iI ((uz v11 i 1) i9))))]) rfl B
      have e_9 : (ctN v11 i tn) = (tn + 1) := (by simp only [ctF, ctN]; first | (rw [if_pos (by omega)]; done) | (rw [if_neg (by omega), if_pos (by omega)]; done) | (rw [if_neg (by omega), if_neg (by omega)]; done))
      have e_10 : (ctF v11 i) = (uz v11 i 1) := (by simp only [ctF, ctN]; first | (rw [if_pos (by omega)]; done) | (rw [if_neg (by omega), if_pos (by omega)]; done) | (rw [if_neg (by omega), if_neg (by omega)]; done))
      have B := bd_to (ws' := [(rw, .inr (6, [.int (iI n), .ref w1, .ref w2, .ref w3, .ref w4, .ref w5, .ref w6, .ref w7, .ref w8, .ref w9, .ref w10, .ref w11, .int (iI hn), .int (iI (ctN v11 i tn)), .ref w14, .ref w15, .ref w16, .int (iI fn)])), (w11, .inl (k 1, 8, .inl (fun i9 : Nat => iI ((ctF v11 i) i9))))]) (by first | rfl | (rw [e_9, e_10]) | (rw [e_10, e_9])) B
      exact k_vret B hr (⟨rfl, rfl, rfl, rfl⟩) ⟨Nat.le_of_ble_eq_true rfl, Nat.le_of_ble_eq_true rfl⟩ ⟨Nat.le_of_ble_eq_true rfl, Nat.le_of_ble_eq_true rfl⟩ dX6_countTerm_31

theorem mw_223 : (Jvm.Cond.fieldLink "Galleyforge$Rows" (55 : Nat) "Galleyforge$Rows" "count" "I") ∈ gt := gt_at 293 (by decide +kernel) (by decide +kernel)
theorem mw_226 : (Jvm.Cond.fieldLink "Galleyforge$Rows" (9 : Nat) "Galleyforge$Rows" "heights" "[I") ∈ gt := gt_at 296 (by decide +kernel) (by decide +kernel)
theorem mw_228 : (Jvm.Cond.fieldLink "Galleyforge$Rows" (15 : Nat) "Galleyforge$Rows" "blocks" "[I") ∈ gt := gt_at 298 (by decide +kernel) (by decide +kernel)
theorem mw_231 : (Jvm.Cond.fieldLink "Galleyforge$Rows" (18 : Nat) "Galleyforge$Rows" "indexes" "[I") ∈ gt := gt_at 301 (by decide +kernel) (by decide +kernel)
theorem mw_234 : (Jvm.Cond.fieldLink "Galleyforge$Rows" (21 : Nat) "Galleyforge$Rows" "noteLines" "[I") ∈ gt := gt_at 304 (by decide +kernel) (by decide +kernel)
theorem mw_236 : (Jvm.Cond.fieldLink "Galleyforge$Rows" (24 : Nat) "Galleyforge$Rows" "lastNotes" "[I") ∈ gt := gt_at 306 (by decide +kernel) (by decide +kernel)
theorem mw_238 : (Jvm.Cond.fieldLink "Galleyforge$Rows" (27 : Nat) "Galleyforge$Rows" "breakBehind" "[Z") ∈ gt := gt_at 308 (by decide +kernel) (by decide +kernel)
theorem dX6_addRow_0 : decode cX6_addRow 0 = .ok (.aload_n 0, 1) := by decide +kernel
theorem dX6_addRow_1 : decode cX6_addRow 1 = .ok (.getfield 55, 3) := by decide +kernel
theorem dX6_addRow_4 : decode cX6_addRow 4 = .ok (.sipush 768, 3) := by decide +kernel
theorem dX6_addRow_7 : decode cX6_addRow 7 = .ok (.if_icmp .ge 73, 3) := by decide +kernel
theorem dX6_addRow_10 : decode cX6_addRow 10 = .ok (.aload_n 0, 1) := by decide +kernel
theorem dX6_addRow_11 : decode cX6_addRow 11 = .ok (.getfield 9, 3) := by decide +kernel
theorem dX6_addRow_14 : decode cX6_addRow 14 = .ok (.aload_n 0, 1) := by decide +kernel
theorem dX6_addRow_15 : decode cX6_addRow 15 = .ok (.getfield 55, 3) := by decide +kernel
theorem dX6_addRow_18 : decode cX6_addRow 18 = .ok (.iload_n 3, 1) := by decide +kernel
theorem dX6_addRow_19 : decode cX6_addRow 19 = .ok (.iastore, 1) := by decide +kernel
theorem dX6_addRow_20 : decode cX6_addRow 20 = .ok (.aload_n 0, 1) := by decide +kernel
theorem dX6_addRow_21 : decode cX6_addRow 21 = .ok (.getfield 15, 3) := by decide +kernel
theorem dX6_addRow_24 : decode cX6_addRow 24 = .ok (.aload_n 0, 1) := by decide +kernel
theorem dX6_addRow_25 : decode cX6_addRow 25 = .ok (.getfield 55, 3) := by decide +kernel
theorem dX6_addRow_28 : decode cX6_addRow 28 = .ok (.iload_n 1, 1) := by decide +kernel
theorem dX6_addRow_29 : decode cX6_addRow 29 = .ok (.iastore, 1) := by decide +kernel
theorem dX6_addRow_30 : decode cX6_addRow 30 = .ok (.aload_n 0, 1) := by decide +kernel
theorem dX6_addRow_31 : decode cX6_addRow 31 = .ok (.getfield 18, 3) := by decide +kernel
theorem dX6_addRow_34 : decode cX6_addRow 34 = .ok (.aload_n 0, 1) := by decide +kernel
theorem dX6_addRow_35 : decode cX6_addRow 35 = .ok (.getfield 55, 3) := by decide +kernel
theorem dX6_addRow_38 : decode cX6_addRow 38 = .ok (.iload_n 2, 1) := by decide +kernel
theorem dX6_addRow_39 : decode cX6_addRow 39 = .ok (.iastore, 1) := by decide +kernel
theorem dX6_addRow_40 : decode cX6_addRow 40 = .ok (.aload_n 0, 1) := by decide +kernel
theorem dX6_addRow_41 : decode cX6_addRow 41 = .ok (.getfield 21, 3) := by decide +kernel
theorem dX6_addRow_44 : decode cX6_addRow 44 = .ok (.aload_n 0, 1) := by decide +kernel
theorem dX6_addRow_45 : decode cX6_addRow 45 = .ok (.getfield 55, 3) := by decide +kernel
theorem dX6_addRow_48 : decode cX6_addRow 48 = .ok (.iconst 0, 1) := by decide +kernel
theorem dX6_addRow_49 : decode cX6_addRow 49 = .ok (.iastore, 1) := by decide +kernel
theorem dX6_addRow_50 : decode cX6_addRow 50 = .ok (.aload_n 0, 1) := by decide +kernel
theorem dX6_addRow_51 : decode cX6_addRow 51 = .ok (.getfield 24, 3) := by decide +kernel
theorem dX6_addRow_54 : decode cX6_addRow 54 = .ok (.aload_n 0, 1) := by decide +kernel
theorem dX6_addRow_55 : decode cX6_addRow 55 = .ok (.getfield 55, 3) := by decide +kernel
theorem dX6_addRow_58 : decode cX6_addRow 58 = .ok (.iconst 0, 1) := by decide +kernel
theorem dX6_addRow_59 : decode cX6_addRow 59 = .ok (.iastore, 1) := by decide +kernel
theorem dX6_addRow_60 : decode cX6_addRow 60 = .ok (.aload_n 0, 1) := by decide +kernel
theorem dX6_addRow_61 : decode cX6_addRow 61 = .ok (.getfield 27, 3) := by decide +kernel
theorem dX6_addRow_64 : decode cX6_addRow 64 = .ok (.aload_n 0, 1) := by decide +kernel
theorem dX6_addRow_65 : decode cX6_addRow 65 = .ok (.getfield 55, 3) := by decide +kernel
theorem dX6_addRow_68 : decode cX6_addRow 68 = .ok (.iconst 0, 1) := by decide +kernel
theorem dX6_addRow_69 : decode cX6_addRow 69 = .ok (.bastore, 1) := by decide +kernel
theorem dX6_addRow_70 : decode cX6_addRow 70 = .ok (.aload_n 0, 1) := by decide +kernel
theorem dX6_addRow_71 : decode cX6_addRow 71 = .ok (.dup, 1) := by decide +kernel
theorem dX6_addRow_72 : decode cX6_addRow 72 = .ok (.getfield 55, 3) := by decide +kernel
theorem dX6_addRow_75 : decode cX6_addRow 75 = .ok (.iconst 1, 1) := by decide +kernel
theorem dX6_addRow_76 : decode cX6_addRow 76 = .ok (.iadd, 1) := by decide +kernel
theorem dX6_addRow_77 : decode cX6_addRow 77 = .ok (.putfield 55, 3) := by decide +kernel
theorem dX6_addRow_80 : decode cX6_addRow 80 = .ok (.return_, 1) := by decide +kernel
set_option maxHeartbeats 4000000 in
set_option maxRecDepth 100000 in
theorem k_addRow (l : Launch) (dC : Nat → ClassId) (dI : Nat → Nat → Nat) (k : Nat → ClassId) (rw : Nat) (w1 : Nat) (w2 : Nat) (w3 : Nat) (w4 : Nat) (w5 : Nat) (w6 : Nat) (w7 : Nat) (w8 : Nat) (w9 : Nat) (w10 : Nat) (w11 : Nat) (w14 : Nat) (w15 : Nat) (w16 : Nat) (n : Int) (hn : Int) (tn : Int) (fn : Int) (v1 : Int → Int) (v2 : Int → Int) (v3 : Int → Int) (v4 : Int → Int) (v5 : Int → Int) (v6 : Int → Int) (pl : Int) (ix : Int) (hg : Int) (hv1 : Bd 0 200 v1) (hv2 : Bd 0 15 v2) (hv3 : Bd 0 47 v3) (hv4 : Bd 0 1000 v4) (hv5 : Bd 0 5 v5) (hv6 : Bd 0 1 v6) (h1 : 0 ≤ n ∧ n < 768 ∧ 0 ≤ pl ∧ pl ≤ 15 ∧ 0 ≤ ix ∧ ix ≤ 47 ∧ 0 ≤ hg ∧ hg ≤ 200) : Kn l dC dI k yX6_addRow (.code yX6_addRow cX6_addRow 4 none) ({ frames := 0, cells := 0, slots := 0, locals := 0 } : Room) [.ref rw, .int (iI pl), .int (iI ix), .int (iI hg)] [(rw, .inr (6, [.int (iI n), .ref w1, .ref w2, .ref w3, .ref w4, .ref w5, .ref w6, .ref w7, .ref w8, .ref w9, .ref w10, .ref w11, .int (iI hn), .int (iI tn), .ref w14, .ref w15, .ref w16, .int (iI fn)])), (w1, .inl (k 0, 768, .inl (fun i9 : Nat => iI (v1 i9)))), (w2, .inl (k 0, 768, .inl (fun i9 : Nat => iI (v2 i9)))), (w3, .inl (k 0, 768, .inl (fun i9 : Nat => iI (v3 i9)))), (w4, .inl (k 0, 768, .inl (fun i9 : Nat => iI (v4 i9)))), (w5, .inl (k 0, 768, .inl (fun i9 : Nat => iI (v5 i9)))), (w6, .inl (k 1, 768, .inl (fun i9 : Nat => iI (v6 i9))))] (fun r w gc gs => ((Bd 0 200 (uz v1 n hg)) ∧ (Bd 0 15 (uz v2 n pl)) ∧ (Bd 0 47 (uz v3 n ix)) ∧ (Bd 0 1000 (uz v4 n 0)) ∧ (Bd 0 5 (uz v5 n 0)) ∧ (Bd 0 1 (uz v6 n 0)) ∧ r = none ∧ w = [(rw, .inr (6, [.int (iI (n + 1)), .ref w1, .ref w2, .ref w3, .ref w4, .ref w5, .ref w6, .ref w7, .ref w8, .ref w9, .ref w10, .ref w11, .int (iI hn), .int (iI tn), .ref w14, .ref w15, .ref w16, .int (iI fn)])), (w1, .inl (k 0, 768, .inl (fun i9 : Nat => iI ((uz v1 n hg) i9)))), (w2, .inl (k 0, 768, .inl (fun i9 : Nat => iI ((uz v2 n pl) i9)))), (w3, .inl (k 0, 768, .inl (fun i9 : Nat => iI ((uz v3 n ix) i9)))), (w4, .inl (k 0, 768, .inl (fun i9 : Nat => iI ((uz v4 n 0) i9)))), (w5, .inl (k 0, 768, .inl (fun i9 : Nat => iI ((uz v5 n 0) i9)))), (w6, .inl (k 1, 768, .inl (fun i9 : Nat => iI ((uz v6 n 0) i9))))] ∧ gc = 0 ∧ gs = 0)) := by
  refine kn_of (by decide) (Nat.le_of_ble_eq_true rfl) ?_
  intro p e s m args below meth c H locs B hr hnm ls hl
  have hx := B.1.1
  have hb := B.1.2.1
  have hl : lv_has ls 4 [(0, .ref rw), (1, .int (iI pl)), (2, .int (iI ix)), (3, .int (iI hg))] := hl
  refine lv_aload_n hx hb dX6_addRow_0 rfl (lv_at hl 0 rfl) ?_
  refine x_get (ci := 6) (C := RX6) (T := TX6) (N := 18) (v := .int (iI n)) B 0 rfl rfl in_X6 0 (by decide) mw_223 (fun _ h9 => h9) rfl dX6_addRow_1 ?_
  refine lv_sipush (v := iI 768) hx hb dX6_addRow_4 (by decide) ?_
  refine lv_icmp_ge (tgt := 80) hx hb dX6_addRow_7 (by decide) (fun c_1 => ?_) (fun c_1 => ?_)
  · have zc_1 : 768 ≤ n := jle (a := 768) (b := n) (by omega) (by omega) c_1
    exfalso; omega
  · have zc_1 : n < 768 := jnle (a := 768) (b := n) (by omega) (by omega) c_1
    refine lv_aload_n hx hb dX6_addRow_10 rfl (lv_at hl 0 rfl) ?_
    refine x_get (ci := 6) (C := RX6) (T := TX6) (N := 18) (v := .ref w1) B 0 rfl rfl in_X6 1 (by decide) mw_226 (fun _ h9 => h9) rfl dX6_addRow_11 ?_
    refine lv_aload_n hx hb dX6_addRow_14 rfl (lv_at hl 0 rfl) ?_
    refine x_get (ci := 6) (C := RX6) (T := TX6) (N := 18) (v := .int (iI n)) B 0 rfl rfl in_X6 0 (by decide) mw_223 (fun _ h9 => h9) rfl dX6_addRow_15 ?_
    refine lv_iload_n hx hb dX6_addRow_18 rfl (lv_at hl 3 rfl) ?_
    refine x_iast' (f := v1) (z := n) (v := hg) B 1 rfl (by omega) dX6_addRow_19 (fun H locs B => ?_)
    have b_2 : Bd 0 200 (uz v1 n hg) := Bd_uz hv1 (by omega)
    have B := bd_to (ws' := [(rw, .inr (6, [.int (iI n), .ref w1, .ref w2, .ref w3, .ref w4, .ref w5, .ref w6, .ref w7, .ref w8, .ref w9, .ref w10, .ref w11, .int (iI hn), .int (iI tn), .ref w14, .ref w15, .ref w16, .int (iI fn)])), (w1, .inl (k 0, 768, .inl (fun i9 : Nat => iI ((uz v1 n hg) i9)))), (w2, .inl (k 0, 768, .inl (fun i9 : Nat => iI (v2 i9)))), (w3, .inl (k 0, 768, .inl (fun i9 : Nat => iI (v3 i9)))), (w4, .inl (k 0, 768, .inl (fun i9 : Nat => iI (v4 i9)))), (w5, .inl (k 0, 768, .inl (fun i9 : Nat => iI (v5 i9)))), (w6, .inl (k 1, 768, .inl (fun i9 : Nat => iI (v6 i9))))]) rfl B
    refine lv_aload_n hx hb dX6_addRow_20 rfl (lv_at hl 0 rfl) ?_
    refine x_get (ci := 6) (C := RX6) (T := TX6) (N := 18) (v := .ref w2) B 0 rfl rfl in_X6 2 (by decide) mw_228 (fun _ h9 => h9) rfl dX6_addRow_21 ?_
    refine lv_aload_n hx hb dX6_addRow_24 rfl (lv_at hl 0 rfl) ?_
    refine x_get (ci := 6) (C := RX6) (T := TX6) (N := 18) (v := .int (iI n)) B 0 rfl rfl in_X6 0 (by decide) mw_223 (fun _ h9 => h9) rfl dX6_addRow_25 ?_
    refine lv_iload_n hx hb dX6_addRow_28 rfl (lv_at hl 1 rfl) ?_
    refine x_iast' (f := v2) (z := n) (v := pl) B 2 rfl (by omega) dX6_addRow_29 (fun H locs B => ?_)
    have b_3 : Bd 0 15 (uz v2 n pl) := Bd_uz hv2 (by omega)
    have B := bd_to (ws' := [(rw, .inr (6, [.int (iI n), .ref w1, .ref w2, .ref w3, .ref w4, .ref w5, .ref w6, .ref w7, .ref w8, .ref w9, .ref w10, .ref w11, .int (iI hn), .int (iI tn), .ref w14, .ref w15, .ref w16, .int (iI fn)])), (w1, .inl (k 0, 768, .inl (fun i9 : Nat => iI ((uz v1 n hg) i9)))), (w2, .inl (k 0, 768, .inl (fun i9 : Nat => iI ((uz v2 n pl) i9)))), (w3, .inl (k 0, 768, .inl (fun i9 : Nat => iI (v3 i9)))), (w4, .inl (k 0, 768, .inl (fun i9 : Nat => iI (v4 i9)))), (w5, .inl (k 0, 768, .inl (fun i9 : Nat => iI (v5 i9)))), (w6, .inl (k 1, 768, .inl (fun i9 : Nat => iI (v6 i9))))]) rfl B
    refine lv_aload_n hx hb dX6_addRow_30 rfl (lv_at hl 0 rfl) ?_
    refine x_get (ci := 6) (C := RX6) (T := TX6) (N := 18) (v := .ref w3) B 0 rfl rfl in_X6 3 (by decide) mw_231 (fun _ h9 => h9) rfl dX6_addRow_31 ?_
    refine lv_aload_n hx hb dX6_addRow_34 rfl (lv_at hl 0 rfl) ?_
    refine x_get (ci := 6) (C := RX6) (T := TX6) (N := 18) (v := .int (iI n)) B 0 rfl rfl in_X6 0 (by decide) mw_223 (fun _ h9 => h9) rfl dX6_addRow_35 ?_
    refine lv_iload_n hx hb dX6_addRow_38 rfl (lv_at hl 2 rfl) ?_
    refine x_iast' (f := v3) (z := n) (v := ix) B 3 rfl (by omega) dX6_addRow_39 (fun H locs B => ?_)
    have b_4 : Bd 0 47 (uz v3 n ix) := Bd_uz hv3 (by omega)
    have B := bd_to (ws' := [(rw, .inr (6, [.int (iI n), .ref w1, .ref w2, .ref w3, .ref w4, .ref w5, .ref w6, .ref w7, .ref w8, .ref w9, .ref w10, .ref w11, .int (iI hn), .int (iI tn), .ref w14, .ref w15, .ref w16, .int (iI fn)])), (w1, .inl (k 0, 768, .inl (fun i9 : Nat => iI ((uz v1 n hg) i9)))), (w2, .inl (k 0, 768, .inl (fun i9 : Nat => iI ((uz v2 n pl) i9)))), (w3, .inl (k 0, 768, .inl (fun i9 : Nat => iI ((uz v3 n ix) i9)))), (w4, .inl (k 0, 768, .inl (fun i9 : Nat => iI (v4 i9)))), (w5, .inl (k 0, 768, .inl (fun i9 : Nat => iI (v5 i9)))), (w6, .inl (k 1, 768, .inl (fun i9 : Nat => iI (v6 i9))))]) rfl B
    refine lv_aload_n hx hb dX6_addRow_40 rfl (lv_at hl 0 rfl) ?_
    refine x_get (ci := 6) (C := RX6) (T := TX6) (N := 18) (v := .ref w4) B 0 rfl rfl in_X6 4 (by decide) mw_234 (fun _ h9 => h9) rfl dX6_addRow_41 ?_
    refine lv_aload_n hx hb dX6_addRow_44 rfl (lv_at hl 0 rfl) ?_
    refine x_get (ci := 6) (C := RX6) (T := TX6) (N := 18) (v := .int (iI n)) B 0 rfl rfl in_X6 0 (by decide) mw_223 (fun _ h9 => h9) rfl dX6_addRow_45 ?_
    refine lv_iconst (v := iI 0) hx hb dX6_addRow_48 (by decide) ?_
    refine x_iast' (f := v4) (z := n) (v := 0) B 4 rfl (by omega) dX6_addRow_49 (fun H locs B => ?_)
    have b_5 : Bd 0 1000 (uz v4 n 0) := Bd_uz hv4 (by omega)
    have B := bd_to (ws' := [(rw, .inr (6, [.int (iI n), .ref w1, .ref w2, .ref w3, .ref w4, .ref w5, .ref w6, .ref w7, .ref w8, .ref w9, .ref w10, .ref w11, .int (iI hn), .int (iI tn), .ref w14, .ref w15, .ref w16, .int (iI fn)])), (w1, .inl (k 0, 768, .inl (fun i9 : Nat => iI ((uz v1 n hg) i9)))), (w2, .inl (k 0, 768, .inl (fun i9 : Nat => iI ((uz v2 n pl) i9)))), (w3, .inl (k 0, 768, .inl (fun i9 : Nat => iI ((uz v3 n ix) i9)))), (w4, .inl (k 0, 768, .inl (fun i9 : Nat => iI ((uz v4 n 0) i9)))), (w5, .inl (k 0, 768, .inl (fun i9 : Nat => iI (v5 i9)))), (w6, .inl (k 1, 768, .inl (fun i9 : Nat => iI (v6 i9))))]) rfl B
    refine lv_aload_n hx hb dX6_addRow_50 rfl (lv_at hl 0 rfl) ?_
    refine x_get (ci := 6) (C := RX6) (T := TX6) (N := 18) (v := .ref w5) B 0 rfl rfl in_X6 5 (by decide) mw_236 (fun _ h9 => h9) rfl dX6_addRow_51 ?_
    refine lv_aload_n hx hb dX6_addRow_54 rfl (lv_at hl 0 rfl) ?_
    refine x_get (ci := 6) (C := RX6) (T := TX6) (N := 18) (v := .int (iI n)) B 0 rfl rfl in_X6 0 (by decide) mw_223 (fun _ h9 => h9) rfl dX6_addRow_55 ?_
    refine lv_iconst (v := iI 0) hx hb dX6_addRow_58 (by decide) ?_
    refine x_iast' (f := v5) (z := n) (v := 0) B 5 rfl (by omega) dX6_addRow_59 (fun H locs B => ?_)
    have b_6 : Bd 0 5 (uz v5 n 0) := Bd_uz hv5 (by omega)
    have B := bd_to (ws' := [(rw, .inr (6, [.int (iI n), .ref w1, .ref w2, .ref w3, .ref w4, .ref w5, .ref w6, .ref w7, .ref w8, .ref w9, .ref w10, .ref w11, .int (iI hn), .int (iI tn), .ref w14, .ref w15, .ref w16, .int (iI fn)])), (w1, .inl (k 0, 768, .inl (fun i9 : Nat => iI ((uz v1 n hg) i9)))), (w2, .inl (k 0, 768, .inl (fun i9 : Nat => iI ((uz v2 n pl) i9)))), (w3, .inl (k 0, 768, .inl (fun i9 : Nat => iI ((uz v3 n ix) i9)))), (w4, .inl (k 0, 768, .inl (fun i9 : Nat => iI ((uz v4 n 0) i9)))), (w5, .inl (k 0, 768, .inl (fun i9 : Nat => iI ((uz v5 n 0) i9)))), (w6, .inl (k 1, 768, .inl (fun i9 : Nat => iI (v6 i9))))]) rfl B
    refine lv_aload_n hx hb dX6_addRow_60 rfl (lv_at hl 0 rfl) ?_
    refine x_get (ci := 6) (C := RX6) (T := TX6) (N := 18) (v := .ref w6) B 0 rfl rfl in_X6 6 (by decide) mw_238 (fun _ h9 => h9) rfl dX6_addRow_61 ?_
    refine lv_aload_n hx hb dX6_addRow_64 rfl (lv_at hl 0 rfl) ?_
    refine x_get (ci := 6) (C := RX6) (T := TX6) (N := 18) (v := .int (iI n)) B 0 rfl rfl in_X6 0 (by decide) mw_223 (fun _ h9 => h9) rfl dX6_addRow_65 ?_
    refine lv_iconst (v := iI 0) hx hb dX6_addRow_68 (by decide) ?_
    refine x_zast' (f := v6) (z := n) (v := 0) B 6 rfl (by omega) (by omega) dX6_addRow_69 (fun H locs B => ?_)
    have b_7 : Bd 0 1 (uz v6 n 0) := Bd_uz hv6 (by omega)
    have B := bd_to (ws' := [(rw, .inr (6, [.int (iI n), .ref w1, .ref w2, .ref w3, .ref w4, .ref w5, .ref w6, .ref w7, .ref w8, .ref w9, .ref w10, .ref w11, .int (iI hn), .int (iI tn), .ref w14, .ref w15, .ref w16, .int (iI fn)])), (w1, .inl (k 0, 768, .inl (fun i9 : Nat => iI ((uz v1 n hg) i9)))), (w2, .inl (k 0, 768, .inl (fun i9 : Nat => iI ((uz v2 n pl) i9)))), (w3, .inl (k 0, 768, .inl (fun i9 : Nat => iI ((uz v3 n ix) i9)))), (w4, .inl (k 0, 768, .inl (fun i9 : Nat => iI ((uz v4 n 0) i9)))), (w5, .inl (k 0, 768, .inl (fun i9 : Nat => iI ((uz v5 n 0) i9)))), (w6, .inl (k 1, 768, .inl (fun i9 : Nat => iI ((uz v6 n 0) i9))))]) rfl B
    refine lv_aload_n hx hb dX6_addRow_70 rfl (lv_at hl 0 rfl) ?_
    refine lv_dup hx hb dX6_addRow_71 rfl ?_
    refine x_get (ci := 6) (C := RX6) (T := TX6) (N := 18) (v := .int (iI n)) B 0 rfl rfl in_X6 0 (by decide) mw_223 (fun _ h9 => h9) rfl dX6_addRow_72 ?_
    refine lv_iconst (v := iI 1) hx hb dX6_addRow_75 (by decide) ?_
    refine y_add hx hb dX6_addRow_76 ?_
    refine x_put (ci := 6) (C := RX6) (T := TX6) (N := 18) (ty := .int) (v := .int (iI (n + 1))) B tyX6_ok nmX6 0 rfl rfl in_X6 0 (by decide) mw_223 (fun _ h9 => h9) rfl (by decide +kernel) rfl rfl (Nat.le_of_ble_eq_true rfl) dX6_addRow_77 (fun H locs B => ?_)
    have B := bd_to (ws' := [(rw, .inr (6, [.int (iI (n + 1)), .ref w1, .ref w2, .ref w3, .ref w4, .ref w5, .ref w6, .ref w7, .ref w8, .ref w9, .ref w10, .ref w11, .int (iI hn), .int (iI tn), .ref w14, .ref w15, .ref w16, .int (iI fn)])), (w1, .inl (k 0, 768, .inl (fun i9 : Nat => iI ((uz v1 n hg) i9)))), (w2, .inl (k 0, 768, .inl (fun i9 : Nat => iI ((uz v2 n pl) i9)))), (w3, .inl (k 0, 768, .inl (fun i9 : Nat => iI ((uz v3 n ix) i9)))), (w4, .inl (k 0, 768, .inl (fun i9 : Nat => iI ((uz v4 n 0) i9)))), (w5, .inl (k 0, 768, .inl (fun i9 : Nat => iI ((uz v5 n 0) i9)))), (w6, .inl (k 1, 768, .inl (fun i9 : Nat => iI ((uz v6 n 0) i9))))]) rfl B
    exact k_vret B hr (⟨(Bd_uz hv1 (by omega)), (Bd_uz hv2 (by omega)), (Bd_uz hv3 (by omega)), (Bd_uz hv4 (by omega)), (Bd_uz hv5 (by omega)), (Bd_uz hv6 (by omega)), rfl, rfl, rfl, rfl⟩) ⟨Nat.le_of_ble_eq_true rfl, Nat.le_of_ble_eq_true rfl⟩ ⟨Nat.le_of_ble_eq_true rfl, Nat.le_of_ble_eq_true rfl⟩ dX6_addRow_80

theorem mw_9 : (Jvm.Cond.initialized "Galleyforge$Rows") ∈ gt := gt_at 79 (by decide +kernel) (by decide +kernel)
theorem mw_1493 : (Jvm.Cond.methodLink "Galleyforge$Rows" (153 : Nat) ({ cls := "Galleyforge$Rows", name := "addRow", desc := "(III)V" } : Jvm.MethodName)) ∈ gt := gt_at 1563 (by decide +kernel) (by decide +kernel)
theorem mw_1495 : (Jvm.Cond.instanceMethod ({ cls := "Galleyforge$Rows", name := "addRow", desc := "(III)V" } : Jvm.MethodName)) ∈ gt := gt_at 1565 (by decide +kernel) (by decide +kernel)
theorem mw_1496 : (Jvm.Cond.code ({ cls := "Galleyforge$Rows", name := "addRow", desc := "(III)V" } : Jvm.MethodName) prog_8_method_10_code (4 : Nat) (Option.none : Option Jvm.ClassFile.FieldType)) ∈ gt := gt_at 1566 (by decide +kernel) (by decide +kernel)
theorem ms_37 : Cond.selects "Galleyforge$Rows" (⟨"Galleyforge$Rows", "addRow", "(III)V"⟩ : MethodName) (⟨"Galleyforge$Rows", "addRow", "(III)V"⟩ : MethodName) ∈ gt := gt_at 37 (by decide +kernel) (by decide +kernel)
theorem mV_X6_addRow : mV yX6_addRow cX6_addRow 4 none 3 := ⟨⟨mw_1496, mw_9, by decide, by decide, by decide +kernel⟩, mw_1495, ms_37⟩
theorem dX6_addRows_0 : decode cX6_addRows 0 = .ok (.iconst 0, 1) := by decide +kernel
theorem dX6_addRows_1 : decode cX6_addRows 1 = .ok (.istore 4, 2) := by decide +kernel
theorem dX6_addRows_3 : decode cX6_addRows 3 = .ok (.iload 4, 2) := by decide +kernel
theorem dX6_addRows_5 : decode cX6_addRows 5 = .ok (.iload_n 2, 1) := by decide +kernel
theorem dX6_addRows_6 : decode cX6_addRows 6 = .ok (.if_icmp .ge 17, 3) := by decide +kernel
theorem dX6_addRows_9 : decode cX6_addRows 9 = .ok (.aload_n 0, 1) := by decide +kernel
theorem dX6_addRows_10 : decode cX6_addRows 10 = .ok (.iload_n 1, 1) := by decide +kernel
theorem dX6_addRows_11 : decode cX6_addRows 11 = .ok (.iload 4, 2) := by decide +kernel
theorem dX6_addRows_13 : decode cX6_addRows 13 = .ok (.iload_n 3, 1) := by decide +kernel
theorem dX6_addRows_14 : decode cX6_addRows 14 = .ok (.invokevirtual 153, 3) := by decide +kernel
theorem dX6_addRows_17 : decode cX6_addRows 17 = .ok (.iinc 4 1, 3) := by decide +kernel
theorem dX6_addRows_20 : decode cX6_addRows 20 = .ok (.goto (-17), 3) := by decide +kernel
theorem dX6_addRows_23 : decode cX6_addRows 23 = .ok (.return_, 1) := by decide +kernel
set_option maxHeartbeats 4000000 in
set_option maxRecDepth 100000 in
theorem k_addRows (l : Launch) (dC : Nat → ClassId) (dI : Nat → Nat → Nat) (k : Nat → ClassId) (rw : Nat) (w1 : Nat) (w2 : Nat) (w3 : Nat) (w4 : Nat) (w5 : Nat) (w6 : Nat) (w7 : Nat) (w8 : Nat) (w9 : Nat) (w10 : Nat) (w11 : Nat) (w14 : Nat) (w15 : Nat) (w16 : Nat) (n : Int) (hn : Int) (tn : Int) (fn : Int) (v1 : Int → Int) (v2 : Int → Int) (v3 : Int → Int) (v4 : Int → Int) (v5 : Int → Int) (v6 : Int → Int) (pl : Int) (rn : Int) (hg : Int) (hv1 : Bd 0 200 v1) (hv2 : Bd 0 15 v2) (hv3 : Bd 0 47 v3) (hv4 : Bd 0 1000 v4) (hv5 : Bd 0 5 v5) (hv6 : Bd 0 1 v6) (h1 : 0 ≤ n ∧ n + rn ≤ 768 ∧ 0 ≤ pl ∧ pl ≤ 15 ∧ 0 ≤ rn ∧ rn ≤ 48 ∧ 0 ≤ hg ∧ hg ≤ 200) : Kn l dC dI k yX6_addRows (.code yX6_addRows cX6_addRows 5 none) ({ frames := 1, cells := 0, slots := 0, locals := 23 } : Room) [.ref rw, .int (iI pl), .int (iI rn), .int (iI hg)] [(rw, .inr (6, [.int (iI n), .ref w1, .ref w2, .ref w3, .ref w4, .ref w5, .ref w6, .ref w7, .ref w8, .ref w9, .ref w10, .ref w11, .int (iI hn), .int (iI tn), .ref w14, .ref w15, .ref w16, .int (iI fn)])), (w1, .inl (k 0, 768, .inl (fun i9 : Nat => iI (v1 i9)))), (w2, .inl (k 0, 768, .inl (fun i9 : Nat => iI (v2 i9)))), (w3, .inl (k 0, 768, .inl (fun i9 : Nat => iI (v3 i9)))), (w4, .inl (k 0, 768, .inl (fun i9 : Nat => iI (v4 i9)))), (w5, .inl (k 0, 768, .inl (fun i9 : Nat => iI (v5 i9)))), (w6, .inl (k 1, 768, .inl (fun i9 : Nat => iI (v6 i9))))] (fun r w gc gs => ((Bd 0 200 (fil v1 n rn hg)) ∧ (Bd 0 15 (fil v2 n rn pl)) ∧ (Bd 0 47 (ixF v3 n rn)) ∧ (Bd 0 1000 (fil v4 n rn 0)) ∧ (Bd 0 5 (fil v5 n rn 0)) ∧ (Bd 0 1 (fil v6 n rn 0)) ∧ r = none ∧ w = [(rw, .inr (6, [.int (iI (n + rn)), .ref w1, .ref w2, .ref w3, .ref w4, .ref w5, .ref w6, .ref w7, .ref w8, .ref w9, .ref w10, .ref w11, .int (iI hn), .int (iI tn), .ref w14, .ref w15, .ref w16, .int (iI fn)])), (w1, .inl (k 0, 768, .inl (fun i9 : Nat => iI ((fil v1 n rn hg) i9)))), (w2, .inl (k 0, 768, .inl (fun i9 : Nat => iI ((fil v2 n rn pl) i9)))), (w3, .inl (k 0, 768, .inl (fun i9 : Nat => iI ((ixF v3 n rn) i9)))), (w4, .inl (k 0, 768, .inl (fun i9 : Nat => iI ((fil v4 n rn 0) i9)))), (w5, .inl (k 0, 768, .inl (fun i9 : Nat => iI ((fil v5 n rn 0) i9)))), (w6, .inl (k 1, 768, .inl (fun i9 : Nat => iI ((fil v6 n rn 0) i9))))] ∧ gc = 0 ∧ gs = 0)) := by
  refine kn_of (by decide) (Nat.le_of_ble_eq_true rfl) ?_
  intro p e s m args below meth c H locs B hr hnm ls hl
  have hx := B.1.1
  have hb := B.1.2.1
  have hl : lv_has ls 5 [(0, .ref rw), (1, .int (iI pl)), (2, .int (iI rn)), (3, .int (iI hg))] := hl
  refine lv_iconst (v := iI 0) hx hb dX6_addRows_0 (by decide) ?_
  refine lv_istore (lv' := [(4, .int (iI 0)), (0, .ref rw), (1, .int (iI pl)), (2, .int (iI rn)), (3, .int (iI hg))]) hx hb dX6_addRows_1 hl (by decide) rfl (fun ls hl => ?_)
  have e_1 : n = (n + 0) := (by first | rfl | omega)
  have e_2 : v1 = (fil v1 n 0 hg) := (fil_0 _ _ _)
  have e_3 : v2 = (fil v2 n 0 pl) := (fil_0 _ _ _)
  have e_4 : v3 = (ixF v3 n 0) := (ixF_0 _ _)
  have e_5 : v4 = (fil v4 n 0 0) := (fil_0 _ _ _)
  have e_6 : v5 = (fil v5 n 0 0) := (fil_0 _ _ _)
  have e_7 : v6 = (fil v6 n 0 0) := (fil_0 _ _ _)
  have hl : lv_has ls 5 [(4, .int (iI 0)), (0, .ref rw), (1, .int (iI pl)), (2, .int (iI rn)), (3, .int (iI hg))] := by first | exact lv_sub hl [0, 1, 2, 3, 4] rfl | (try rw [← e_1]; try rw [← e_2]; try rw [← e_3]; try rw [← e_4]; try rw [← e_5]; try rw [← e_6]; try rw [← e_7]; exact lv_sub hl [0, 1, 2, 3, 4] rfl)
  have B := bd_to (ws' := [(rw, .inr (6, [.int (iI (n + 0)), .ref w1, .ref w2, .ref w3, .ref w4, .ref w5, .ref w6, .ref w7, .ref w8, .ref w9, .ref w10, .ref w11, .int (iI hn), .int (iI tn), .ref w14, .ref w15, .ref w16, .int (iI fn)])), (w1, .inl (k 0, 768, .inl (fun i9 : Nat => iI ((fil v1 n 0 hg) i9)))), (w2, .inl (k 0, 768, .inl (fun i9 : Nat => iI ((fil v2 n 0 pl) i9)))), (w3, .inl (k 0, 768, .inl (fun i9 : Nat => iI ((ixF v3 n 0) i9)))), (w4, .inl (k 0, 768, .inl (fun i9 : Nat => iI ((fil v4 n 0 0) i9)))), (w5, .inl (k 0, 768, .inl (fun i9 : Nat => iI ((fil v5 n 0 0) i9)))), (w6, .inl (k 1, 768, .inl (fun i9 : Nat => iI ((fil v6 n 0 0) i9))))]) (by first | rfl | (try rw [← e_1]; try rw [← e_2]; try rw [← e_3]; try rw [← e_4]; try rw [← e_5]; try rw [← e_6]; try rw [← e_7]; done) | (try rw [← e_1]; try rw [← e_2]; try rw [← e_3]; try rw [← e_4]; try rw [← e_5]; try rw [← e_6]; try rw [← e_7]; rfl)) B
  refine k_loop (σ := Int) B (fun g9 : Int => (0 ≤ g9 ∧ g9 ≤ rn)) (fun g9 : Int => (rn - g9).toNat) (fun g9 : Int => [(4, .int (iI g9)), (0, .ref rw), (1, .int (iI pl)), (2, .int (iI rn)), (3, .int (iI hg))]) (fun g9 : Int => [(rw, .inr (6, [.int (iI (n + g9)), .ref w1, .ref w2, .ref w3, .ref w4, .ref w5, .ref w6, .ref w7, .ref w8, .ref w9, .ref w10, .ref w11, .int (iI hn), .int (iI tn), .ref w14, .ref w15, .ref w16, .int (iI fn)])), (w1, .inl (k 0, 768, .inl (fun i9 : Nat => iI ((fil v1 n g9 hg) i9)))), (w2, .inl (k 0, 768, .inl (fun i9 : Nat => iI ((fil v2 n g9 pl) i9)))), (w3, .inl (k 0, 768, .inl (fun i9 : Nat => iI ((ixF v3 n g9) i9)))), (w4, .inl (k 0, 768, .inl (fun i9 : Nat => iI ((fil v4 n g9 0) i9)))), (w5, .inl (k 0, 768, .inl (fun i9 : Nat => iI ((fil v5 n g9 0) i9)))), (w6, .inl (k 1, 768, .inl (fun i9 : Nat => iI ((fil v6 n g9 0) i9))))]) ?_ 0 (show 0 ≤ 0 ∧ 0 ≤ rn from (by omega)) ls H locs (lv_sub hl [0, 1, 2, 3, 4] rfl) (bd_to rfl B)
  clear hl B
  rintro j hj ih_8 ls H locs hl B
  have hl : lv_has ls 5 [(4, .int (iI j)), (0, .ref rw), (1, .int (iI pl)), (2, .int (iI rn)), (3, .int (iI hg))] := hl
  have B := bd_to (ws' := [(rw, .inr (6, [.int (iI (n + j)), .ref w1, .ref w2, .ref w3, .ref w4, .ref w5, .ref w6, .ref w7, .ref w8, .ref w9, .ref w10, .ref w11, .int (iI hn), .int (iI tn), .ref w14, .ref w15, .ref w16, .int (iI fn)])), (w1, .inl (k 0, 768, .inl (fun i9 : Nat => iI ((fil v1 n j hg) i9)))), (w2, .inl (k 0, 768, .inl (fun i9 : Nat => iI ((fil v2 n j pl) i9)))), (w3, .inl (k 0, 768, .inl (fun i9 : Nat => iI ((ixF v3 n j) i9)))), (w4, .inl (k 0, 768, .inl (fun i9 : Nat => iI ((fil v4 n j 0) i9)))), (w5, .inl (k 0, 768, .inl (fun i9 : Nat => iI ((fil v5 n j 0) i9)))), (w6, .inl (k 1, 768, .inl (fun i9 : Nat => iI ((fil v6 n j 0) i9))))]) rfl B
  refine lv_iload hx hb dX6_addRows_3 (lv_at hl 0 rfl) ?_
  refine lv_iload_n hx hb dX6_addRows_5 rfl (lv_at hl 3 rfl) ?_
  refine lv_icmp_ge (tgt := 23) hx hb dX6_addRows_6 (by decide) (fun c_9 => ?_) (fun c_9 => ?_)
  · have zc_9 : rn ≤ j := jle (a := rn) (b := j) (by omega) (by omega) c_9
    have e_10 : (n + rn) = (n + j) := (by rw [show j = rn by omega])
    have e_11 : (fil v1 n rn hg) = (fil v1 n j hg) := (by rw [show j = rn by omega])
    have e_12 : (fil v2 n rn pl) = (fil v2 n j pl) := (by rw [show j = rn by omega])
    have e_13 : (ixF v3 n rn) = (ixF v3 n j) := (by rw [show j = rn by omega])
    have e_14 : (fil v4 n rn 0) = (fil v4 n j 0) := (by rw [show j = rn by omega])
    have e_15 : (fil v5 n rn 0) = (fil v5 n j 0) := (by rw [show j = rn by omega])
    have e_16 : (fil v6 n rn 0) = (fil v6 n j 0) := (by rw [show j = rn by omega])
    have B := bd_to (ws' := [(rw, .inr (6, [.int (iI (n + rn)), .ref w1, .ref w2, .ref w3, .ref w4, .ref w5, .ref w6, .ref w7, .ref w8, .ref w9, .ref w10, .ref w11, .int (iI hn), .int (iI tn), .ref w14, .ref w15, .ref w16, .int (iI fn)])), (w1, .inl (k 0, 768, .inl (fun i9 : Nat => iI ((fil v1 n rn hg) i9)))), (w2, .inl (k 0, 768, .inl (fun i9 : Nat => iI ((fil v2 n rn pl) i9)))), (w3, .inl (k 0, 768, .inl (fun i9 : Nat => iI ((ixF v3 n rn) i9)))), (w4, .inl (k 0, 768, .inl (fun i9 : Nat => iI ((fil v4 n rn 0) i9)))), (w5, .inl (k 0, 768, .inl (fun i9 : Nat => iI ((fil v5 n rn 0) i9)))), (w6, .inl (k 1, 768, .inl (fun i9 : Nat => iI ((fil v6 n rn 0) i9))))]) (by first | rfl | (rw [e_10, e_11, e_12, e_13, e_14, e_15, e_16]) | (rw [e_16, e_15, e_14, e_13, e_12, e_11, e_10])) B
    exact k_vret B hr (⟨(fil_Bd hv1 (by omega)), (fil_Bd hv2 (by omega)), (ixF_Bd hv3 (by omega)), (fil_Bd hv4 (by omega)), (fil_Bd hv5 (by omega)), (fil_Bd hv6 (by omega)), rfl, rfl, rfl, rfl⟩) ⟨Nat.le_of_ble_eq_true rfl, Nat.le_of_ble_eq_true rfl⟩ ⟨Nat.le_of_ble_eq_true rfl, Nat.le_of_ble_eq_true rfl⟩ dX6_addRows_23
  · have zc_9 : j < rn := jnle (a := rn) (b := j) (by omega) (by omega) c_9
    refine lv_aload_n hx hb dX6_addRows_9 rfl (lv_at hl 1 rfl) ?_
    refine lv_iload_n hx hb dX6_addRows_10 rfl (lv_at hl 2 rfl) ?_
    refine lv_iload hx hb dX6_addRows_11 (lv_at hl 0 rfl) ?_
    refine lv_iload_n hx hb dX6_addRows_13 rfl (lv_at hl 4 rfl) ?_
    have B := bd_to (ws' := [(rw, .inr (6, [.int (iI (n + j)), .ref w1, .ref w2, .ref w3, .ref w4, .ref w5, .ref w6, .ref w7, .ref w8, .ref w9, .ref w10, .ref w11, .int (iI hn), .int (iI tn), .ref w14, .ref w15, .ref w16, .int (iI fn)])), (w1, .inl (k 0, 768, .inl (fun i9 : Nat => iI ((fil v1 n j hg) i9)))), (w2, .inl (k 0, 768, .inl (fun i9 : Nat => iI ((fil v2 n j pl) i9)))), (w3, .inl (k 0, 768, .inl (fun i9 : Nat => iI ((ixF v3 n j) i9)))), (w4, .inl (k 0, 768, .inl (fun i9 : Nat => iI ((fil v4 n j 0) i9)))), (w5, .inl (k 0, 768, .inl (fun i9 : Nat => iI ((fil v5 n j 0) i9)))), (w6, .inl (k 1, 768, .inl (fun i9 : Nat => iI ((fil v6 n j 0) i9))))] ++ []) rfl B
    refine k_V (rest := []) (wc := [(rw, .inr (6, [.int (iI (n + j)), .ref w1, .ref w2, .ref w3, .ref w4, .ref w5, .ref w6, .ref w7, .ref w8, .ref w9, .ref w10, .ref w11, .int (iI hn), .int (iI tn), .ref w14, .ref w15, .ref w16, .int (iI fn)])), (w1, .inl (k 0, 768, .inl (fun i9 : Nat => iI ((fil v1 n j hg) i9)))), (w2, .inl (k 0, 768, .inl (fun i9 : Nat => iI ((fil v2 n j pl) i9)))), (w3, .inl (k 0, 768, .inl (fun i9 : Nat => iI ((ixF v3 n j) i9)))), (w4, .inl (k 0, 768, .inl (fun i9 : Nat => iI ((fil v4 n j 0) i9)))), (w5, .inl (k 0, 768, .inl (fun i9 : Nat => iI ((fil v5 n j 0) i9)))), (w6, .inl (k 1, 768, .inl (fun i9 : Nat => iI ((fil v6 n j 0) i9))))]) (wr := []) (k_addRow l dC dI k rw w1 w2 w3 w4 w5 w6 w7 w8 w9 w10 w11 w14 w15 w16 (n + j) hn tn fn (fil v1 n j hg) (fil v2 n j pl) (ixF v3 n j) (fil v4 n j 0) (fil v5 n j 0) (fil v6 n j 0) pl j hg (fil_Bd hv1 (by omega)) (fil_Bd hv2 (by omega)) (ixF_Bd hv3 (by omega)) (fil_Bd hv4 (by omega)) (fil_Bd hv5 (by omega)) (fil_Bd hv6 (by omega)) (by omega)) B mV_X6_addRow mw_1493 hl (q0 := 0) rfl rfl rfl ⟨Nat.le_of_ble_eq_true rfl, Nat.le_of_ble_eq_true rfl⟩ (Nat.le_of_ble_eq_true rfl) rfl dX6_addRows_14 ⟨Nat.le_of_ble_eq_true rfl, Nat.le_of_ble_eq_true rfl⟩ (fun r w gc gs H locs hp B => ?_)
    obtain ⟨z_17, z_18, z_19, z_20, z_21, z_22, rfl, hw9, rfl, rfl⟩ := hp
    rw [hw9] at B; clear hw9
    have B := bd_to (ws' := [(rw, .inr (6, [.int (iI ((n + j) + 1)), .ref w1, .ref w2, .ref w3, .ref w4, .ref w5, .ref w6, .ref w7, .ref w8, .ref w9, .ref w10, .ref w11, .int (iI hn), .int (iI tn), .ref w14, .ref w15, .ref w16, .int (iI fn)])), (w1, .inl (k 0, 768, .inl (fun i9 : Nat => iI ((uz (fil v1 n j hg) (n + j) hg) i9)))), (w2, .inl (k 0, 768, .inl (fun i9 : Nat => iI ((uz (fil v2 n j pl) (n + j) pl) i9)))), (w3, .inl (k 0, 768, .inl (fun i9 : Nat => iI ((uz (ixF v3 n j) (n + j) j) i9)))), (w4, .inl (k 0, 768, .inl (fun i9 : Nat => iI ((uz (fil v4 n j 0) (n + j) 0) i9)))), (w5, .inl (k 0, 768, .inl (fun i9 : Nat => iI ((uz (fil v5 n j 0) (n + j) 0) i9)))), (w6, .inl (k 1, 768, .inl (fun i9 : Nat => iI ((uz (fil v6 n j 0) (n + j) 0) i9))))]) rfl B
    refine lv_iinc (v := iI (j + 1)) (lv' := [(4, .int (iI (j + 1))), (0, .ref rw), (1, .int (iI pl)), (2, .int (iI rn)), (3, .int (iI hg))]) hx hb dX6_addRows_17 hl (k := 0) rfl (iI_add _ _) (by decide) rfl (fun ls hl => ?_)
    refine lv_goto (tgt := 3) hx hb dX6_addRows_20 (by decide) ?_
    have e_23 : ((n + j) + 1) = (n + (j + 1)) := (by first | rfl | omega)
    have e_24 : (uz (fil v1 n j hg) (n + j) hg) = (fil v1 n (j + 1) hg) := (fil_s _ (by omega))
    have e_25 : (uz (fil v2 n j pl) (n + j) pl) = (fil v2 n (j + 1) pl) := (fil_s _ (by omega))
    have e_26 : (uz (ixF v3 n j) (n + j) j) = (ixF v3 n (j + 1)) := (ixF_s _ (by omega))
    have e_27 : (uz (fil v4 n j 0) (n + j) 0) = (fil v4 n (j + 1) 0) := (fil_s _ (by omega))
    have e_28 : (uz (fil v5 n j 0) (n + j) 0) = (fil v5 n (j + 1) 0) := (fil_s _ (by omega))
    have e_29 : (uz (fil v6 n j 0) (n + j) 0) = (fil v6 n (j + 1) 0) := (fil_s _ (by omega))
    have hl : lv_has ls 5 [(4, .int (iI (j + 1))), (0, .ref rw), (1, .int (iI pl)), (2, .int (iI rn)), (3, .int (iI hg))] := by first | exact lv_sub hl [0, 1, 2, 3, 4] rfl | (try rw [← e_23]; try rw [← e_24]; try rw [← e_25]; try rw [← e_26]; try rw [← e_27]; try rw [← e_28]; try rw [← e_29]; exact lv_sub hl [0, 1, 2, 3, 4] rfl)
    have B := bd_sub (ws' := [(rw, .inr (6, [.int (iI ((n + j) + 1)), .ref w1, .ref w2, .ref w3, .ref w4, .ref w5, .ref w6, .ref w7, .ref w8, .ref w9, .ref w10, .ref w11, .int (iI hn), .int (iI tn), .ref w14, .ref w15, .ref w16, .int (iI fn)])), (w1, .inl (k 0, 768, .inl (fun i9 : Nat => iI ((uz (fil v1 n j hg) (n + j) hg) i9)))), (w2, .inl (k 0, 768, .inl (fun i9 : Nat => iI ((uz (fil v2 n j pl) (n + j) pl) i9)))), (w3, .inl (k 0, 768, .inl (fun i9 : Nat => iI ((uz (ixF v3 n j) (n + j) j) i9)))), (w4, .inl (k 0, 768, .inl (fun i9 : Nat => iI ((uz (fil v4 n j 0) (n + j) 0) i9)))), (w5, .inl (k 0, 768, .inl (fun i9 : Nat => iI ((uz (fil v5 n j 0) (n + j) 0) i9)))), (w6, .inl (k 1, 768, .inl (fun i9 : Nat => iI ((uz (fil v6 n j 0) (n + j) 0) i9))))]) [0, 1, 2, 3, 4, 5, 6] (by decide) rfl B
    have B := bd_to (ws' := [(rw, .inr (6, [.int (iI (n + (j + 1))), .ref w1, .ref w2, .ref w3, .ref w4, .ref w5, .ref w6, .ref w7, .ref w8, .ref w9, .ref w10, .ref w11, .int (iI hn), .int (iI tn), .ref w14, .ref w15, .ref w16, .int (iI fn)])), (w1, .inl (k 0, 768, .inl (fun i9 : Nat => iI ((fil v1 n (j + 1) hg) i9)))), (w2, .inl (k 0, 768, .inl (fun i9 : Nat => iI ((fil v2 n (j + 1) pl) i9)))), (w3, .inl (k 0, 768, .inl (fun i9 : Nat => iI ((ixF v3 n (j + 1)) i9)))), (w4, .inl (k 0, 768, .inl (fun i9 : Nat => iI ((fil v4 n (j + 1) 0) i9)))), (w5, .inl (k 0, 768, .inl (fun i9 : Nat => iI ((fil v5 n (j + 1) 0) i9)))), (w6, .inl (k 1, 768, .inl (fun i9 : Nat => iI ((fil v6 n (j + 1) 0) i9))))]) (by first | rfl | (try rw [e_23]; try rw [e_24]; try rw [e_25]; try rw [e_26]; try rw [e_27]; try rw [e_28]; try rw [e_29]; done) | (try rw [e_23]; try rw [e_24]; try rw [e_25]; try rw [e_26]; try rw [e_27]; try rw [e_28]; try rw [e_29]; rfl)) B
    exact ih_8 (j + 1) (show 0 ≤ (j + 1) ∧ (j + 1) ≤ rn from (by omega)) (by first | omega | (dsimp only; omega)) _ _ _ (lv_sub hl [0, 1, 2, 3, 4] rfl) (bd_to rfl B)

theorem mw_254 : (Jvm.Cond.fieldLink "Galleyforge$Rows" (46 : Nat) "Galleyforge$Rows" "figureRows" "[I") ∈ gt := gt_at 324 (by decide +kernel) (by decide +kernel)
theorem mw_256 : (Jvm.Cond.fieldLink "Galleyforge$Rows" (49 : Nat) "Galleyforge$Rows" "figureWords" "[I") ∈ gt := gt_at 326 (by decide +kernel) (by decide +kernel)
theorem dX6_isAhead_0 : decode cX6_isAhead 0 = .ok (.aload_n 0, 1) := by decide +kernel
theorem dX6_isAhead_1 : decode cX6_isAhead 1 = .ok (.getfield 46, 3) := by decide +kernel
theorem dX6_isAhead_4 : decode cX6_isAhead 4 = .ok (.iload_n 1, 1) := by decide +kernel
theorem dX6_isAhead_5 : decode cX6_isAhead 5 = .ok (.iaload, 1) := by decide +kernel
theorem dX6_isAhead_6 : decode cX6_isAhead 6 = .ok (.aload_n 0, 1) := by decide +kernel
theorem dX6_isAhead_7 : decode cX6_isAhead 7 = .ok (.getfield 46, 3) := by decide +kernel
theorem dX6_isAhead_10 : decode cX6_isAhead 10 = .ok (.iload_n 2, 1) := by decide +kernel
theorem dX6_isAhead_11 : decode cX6_isAhead 11 = .ok (.iaload, 1) := by decide +kernel
theorem dX6_isAhead_12 : decode cX6_isAhead 12 = .ok (.if_icmp .lt 33, 3) := by decide +kernel
theorem dX6_isAhead_15 : decode cX6_isAhead 15 = .ok (.aload_n 0, 1) := by decide +kernel
theorem dX6_isAhead_16 : decode cX6_isAhead 16 = .ok (.getfield 46, 3) := by decide +kernel
theorem dX6_isAhead_19 : decode cX6_isAhead 19 = .ok (.iload_n 1, 1) := by decide +kernel
theorem dX6_isAhead_20 : decode cX6_isAhead 20 = .ok (.iaload, 1) := by decide +kernel
theorem dX6_isAhead_21 : decode cX6_isAhead 21 = .ok (.aload_n 0, 1) := by decide +kernel
theorem dX6_isAhead_22 : decode cX6_isAhead 22 = .ok (.getfield 46, 3) := by decide +kernel
theorem dX6_isAhead_25 : decode cX6_isAhead 25 = .ok (.iload_n 2, 1) := by decide +kernel
theorem dX6_isAhead_26 : decode cX6_isAhead 26 = .ok (.iaload, 1) := by decide +kernel
theorem dX6_isAhead_27 : decode cX6_isAhead 27 = .ok (.if_icmp .ne 22, 3) := by decide +kernel
theorem dX6_isAhead_30 : decode cX6_isAhead 30 = .ok (.aload_n 0, 1) := by decide +kernel
theorem dX6_isAhead_31 : decode cX6_isAhead 31 = .ok (.getfield 49, 3) := by decide +kernel
theorem dX6_isAhead_34 : decode cX6_isAhead 34 = .ok (.iload_n 1, 1) := by decide +kernel
theorem dX6_isAhead_35 : decode cX6_isAhead 35 = .ok (.iaload, 1) := by decide +kernel
theorem dX6_isAhead_36 : decode cX6_isAhead 36 = .ok (.aload_n 0, 1) := by decide +kernel
theorem dX6_isAhead_37 : decode cX6_isAhead 37 = .ok (.getfield 49, 3) := by decide +kernel
theorem dX6_isAhead_40 : decode cX6_isAhead 40 = .ok (.iload_n 2, 1) := by decide +kernel
theorem dX6_isAhead_41 : decode cX6_isAhead 41 = .ok (.iaload, 1) := by decide +kernel
theorem dX6_isAhead_42 : decode cX6_isAhead 42 = .ok (.if_icmp .ge 7, 3) := by decide +kernel
theorem dX6_isAhead_45 : decode cX6_isAhead 45 = .ok (.iconst 1, 1) := by decide +kernel
theorem dX6_isAhead_46 : decode cX6_isAhead 46 = .ok (.goto 4, 3) := by decide +kernel
theorem dX6_isAhead_49 : decode cX6_isAhead 49 = .ok (.iconst 0, 1) := by decide +kernel
theorem dX6_isAhead_50 : decode cX6_isAhead 50 = .ok (.ireturn, 1) := by decide +kernel
set_option maxHeartbeats 4000000 in
set_option maxRecDepth 100000 in
theorem k_isAhead (l : Launch) (dC : Nat → ClassId) (dI : Nat → Nat → Nat) (k : Nat → ClassId) (rw : Nat) (w1 : Nat) (w2 : Nat) (w3 : Nat) (w4 : Nat) (w5 : Nat) (w6 : Nat) (w7 : Nat) (w8 : Nat) (w9 : Nat) (w10 : Nat) (w11 : Nat) (w14 : Nat) (w15 : Nat) (w16 : Nat) (n : Int) (hn : Int) (tn : Int) (fn : Int) (v14 : Int → Int) (v15 : Int → Int) (a9 : Int) (b9 : Int) (hv14 : Bd (-1) 767 v14) (hv15 : Bd 0 191 v15) (h1 : 0 ≤ a9 ∧ a9 ≤ 4 ∧ 0 ≤ b9 ∧ b9 ≤ 4) : Kn l dC dI k yX6_isAhead (.code yX6_isAhead cX6_isAhead 3 (some .boolean)) ({ frames := 0, cells := 0, slots := 0, locals := 0 } : Room) [.ref rw, .int (iI a9), .int (iI b9)] [(rw, .inr (6, [.int (iI n), .ref w1, .ref w2, .ref w3, .ref w4, .ref w5, .ref w6, .ref w7, .ref w8, .ref w9, .ref w10, .ref w11, .int (iI hn), .int (iI tn), .ref w14, .ref w15, .ref w16, .int (iI fn)])), (w14, .inl (k 0, 5, .inl (fun i9 : Nat => iI (v14 i9)))), (w15, .inl (k 0, 5, .inl (fun i9 : Nat => iI (v15 i9))))] (fun r w gc gs => (((v14 a9 < v14 b9 ∨ (v14 a9 = v14 b9 ∧ v15 a9 < v15 b9))) ∧ r = some (.int (iI 1)) ∧ w = [(rw, .inr (6, [.int (iI n), .ref w1, .ref w2, .ref w3, .ref w4, .ref w5, .ref w6, .ref w7, .ref w8, .ref w9, .ref w10, .ref w11, .int (iI hn), .int (iI tn), .ref w14, .ref w15, .ref w16, .int (iI fn)])), (w14, .inl (k 0, 5, .inl (fun i9 : Nat => iI (v14 i9)))), (w15, .inl (k 0, 5, .inl (fun i9 : Nat => iI (v15 i9))))] ∧ gc = 0 ∧ gs = 0) ∨ ((¬ (v14 a9 < v14 b9 ∨ (v14 a9 = v14 b9 ∧ v15 a9 < v15 b9))) ∧ r = some (.int (iI 0)) ∧ w = [(rw, .inr (6, [.int (iI n), .ref w1, .ref w2, .ref w3, .ref w4, .ref w5, .ref w6, .ref w7, .ref w8, .ref w9, .ref w10, .ref w11, .int (iI hn), .int (iI tn), .ref w14, .ref w15, .ref w16, .int (iI fn)])), (w14, .inl (k 0, 5, .inl (fun i9 : Nat => iI (v14 i9)))), (w15, .inl (k 0, 5, .inl (fun i9 : Nat => iI (v15 i9))))] ∧ gc = 0 ∧ gs = 0)) := by
  refine kn_of (by decide) (Nat.le_of_ble_eq_true rfl) ?_
  intro p e s m args below meth c H locs B hr hnm ls hl
  have hx := B.1.1
  have hb := B.1.2.1
  have hl : lv_has ls 3 [(0, .ref rw), (1, .int (iI a9)), (2, .int (iI b9))] := hl
  refine lv_aload_n hx hb dX6_isAhead_0 rfl (lv_at hl 0 rfl) ?_
  refine x_get (ci := 6) (C := RX6) (T := TX6) (N := 18) (v := .ref w14) B 0 rfl rfl in_X6 14 (by decide) mw_254 (fun _ h9 => h9) rfl dX6_isAhead_1 ?_
  refine lv_iload_n hx hb dX6_isAhead_4 rfl (lv_at hl 1 rfl) ?_
  refine x_iald' (f := v14) (z := a9) B 1 rfl (by omega) dX6_isAhead_5 ?_
  have z_1 : -1 ≤ (v14 a9) ∧ (v14 a9) ≤ 767 := hv14 a9
  refine lv_aload_n hx hb dX6_isAhead_6 rfl (lv_at hl 0 rfl) ?_
  refine x_get (ci := 6) (C := RX6) (T := TX6) (N := 18) (v := .ref w14) B 0 rfl rfl in_X6 14 (by decide) mw_254 (fun _ h9 => h9) rfl dX6_isAhead_7 ?_
  refine lv_iload_n hx hb dX6_isAhead_10 rfl (lv_at hl 2 rfl) ?_
  refine x_iald' (f := v14) (z := b9) B 1 rfl (by omega) dX6_isAhead_11 ?_
  have z_2 : -1 ≤ (v14 b9) ∧ (v14 b9) ≤ 767 := hv14 b9
  refine lv_icmp_lt (tgt := 45) hx hb dX6_isAhead_12 (by decide) (fun c_3 => ?_) (fun c_3 => ?_)
  · have zc_3 : (v14 a9) < (v14 b9) := jlt (a := (v14 a9)) (b := (v14 b9)) (by omega) (by omega) c_3
    refine lv_iconst (v := iI 1) hx hb dX6_isAhead_45 (by decide) ?_
    refine lv_goto (tgt := 50) hx hb dX6_isAhead_46 (by decide) ?_
    exact k_zret B hr (by omega) (Or.inl (⟨(by omega), rfl, rfl, rfl, rfl⟩)) ⟨Nat.le_of_ble_eq_true rfl, Nat.le_of_ble_eq_true rfl⟩ ⟨Nat.le_of_ble_eq_true rfl, Nat.le_of_ble_eq_true rfl⟩ dX6_isAhead_50
  · have zc_3 : (v14 b9) ≤ (v14 a9) := jnlt (a := (v14 a9)) (b := (v14 b9)) (by omega) (by omega) c_3
    refine lv_aload_n hx hb dX6_isAhead_15 rfl (lv_at hl 0 rfl) ?_
    refine x_get (ci := 6) (C := RX6) (T := TX6) (N := 18) (v := .ref w14) B 0 rfl rfl in_X6 14 (by decide) mw_254 (fun _ h9 => h9) rfl dX6_isAhead_16 ?_
    refine lv_iload_n hx hb dX6_isAhead_19 rfl (lv_at hl 1 rfl) ?_
    refine x_iald' (f := v14) (z := a9) B 1 rfl (by omega) dX6_isAhead_20 ?_
    have z_4 : -1 ≤ (v14 a9) ∧ (v14 a9) ≤ 767 := hv14 a9
    refine lv_aload_n hx hb dX6_isAhead_21 rfl (lv_at hl 0 rfl) ?_
    refine x_get (ci := 6) (C := RX6) (T := TX6) (N := 18) (v := .ref w14) B 0 rfl rfl in_X6 14 (by decide) mw_254 (fun _ h9 => h9) rfl dX6_isAhead_22 ?_
    refine lv_iload_n hx hb dX6_isAhead_25 rfl (lv_at hl 2 rfl) ?_
    refine x_iald' (f := v14) (z := b9) B 1 rfl (by omega) dX6_isAhead_26 ?_
    have z_5 : -1 ≤ (v14 b9) ∧ (v14 b9) ≤ 767 := hv14 b9
    refine lv_icmp_ne (tgt := 49) hx hb dX6_isAhead_27 (by decide) (fun c_6 => ?_) (fun c_6 => ?_)
    · have zc_6 : (v14 a9) ≠ (v14 b9) := jne (a := (v14 a9)) (b := (v14 b9)) (by omega) (by omega) c_6
      refine lv_iconst (v := iI 0) hx hb dX6_isAhead_49 (by decide) ?_
      exact k_zret B hr (by omega) (Or.inr (⟨(by omega), rfl, rfl, rfl, rfl⟩)) ⟨Nat.le_of_ble_eq_true rfl, Nat.le_of_ble_eq_true rfl⟩ ⟨Nat.le_of_ble_eq_true rfl, Nat.le_of_ble_eq_true rfl⟩ dX6_isAhead_50
    · have zc_6 : (v14 a9) = (v14 b9) := jeq (a := (v14 a9)) (b := (v14 b9)) (by omega) (by omega) c_6
      refine lv_aload_n hx hb dX6_isAhead_30 rfl (lv_at hl 0 rfl) ?_
      refine x_get (ci := 6) (C := RX6) (T := TX6) (N := 18) (v := .ref w15) B 0 rfl rfl in_X6 15 (by decide) mw_256 (fun _ h9 => h9) rfl dX6_isAhead_31 ?_
      refine lv_iload_n hx hb dX6_isAhead_34 rfl (lv_at hl 1 rfl) ?_
      refine x_iald' (f := v15) (z := a9) B 2 rfl (by omega) dX6_isAhead_35 ?_
      have z_7 : 0 ≤ (v15 a9) ∧ (v15 a9) ≤ 191 := hv15 a9
      refine lv_aload_n hx hb dX6_isAhead_36 rfl (lv_at hl 0 rfl) ?_
      refine x_get (ci := 6) (C := RX6) (T := TX6) (N := 18) (v := .ref w15) B 0 rfl rfl in_X6 15 (by decide) mw_256 (fun _ h9 => h9) rfl dX6_isAhead_37 ?_
      refine lv_iload_n hx hb dX6_isAhead_40 rfl (lv_at hl 2 rfl) ?_
      refine x_iald' (f := v15) (z := b9) B 2 rfl (by omega) dX6_isAhead_41 ?_
      have z_8 : 0 ≤ (v15 b9) ∧ (v15 b9) ≤ 191 := hv15 b9
      refine lv_icmp_ge (tgt := 49) hx hb dX6_isAhead_42 (by decide) (fun c_9 => ?_) (fun c_9 => ?_)
      · have zc_9 : (v15 b9) ≤ (v15 a9) := jle (a := (v15 b9)) (b := (v15 a9)) (by omega) (by omega) c_9
        refine lv_iconst (v := iI 0) hx hb dX6_isAhead_49 (by decide) ?_
        exact k_zret B hr (by omega) (Or.inr (⟨(by omega), rfl, rfl, rfl, rfl⟩)) ⟨Nat.le_of_ble_eq_true rfl, Nat.le_of_ble_eq_true rfl⟩ ⟨Nat.le_of_ble_eq_true rfl, Nat.le_of_ble_eq_true rfl⟩ dX6_isAhead_50
      · have zc_9 : (v15 a9) < (v15 b9) := jnle (a := (v15 b9)) (b := (v15 a9)) (by omega) (by omega) c_9
        refine lv_iconst (v := iI 1) hx hb dX6_isAhead_45 (by decide) ?_
        refine lv_goto (tgt := 50) hx hb dX6_isAhead_46 (by decide) ?_
        exact k_zret B hr (by omega) (Or.inl (⟨(by omega), rfl, rfl, rfl, rfl⟩)) ⟨Nat.le_of_ble_eq_true rfl, Nat.le_of_ble_eq_true rfl⟩ ⟨Nat.le_of_ble_eq_true rfl, Nat.le_of_ble_eq_true rfl⟩ dX6_isAhead_50

end
