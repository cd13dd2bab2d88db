section
theorem dX4_putFigures_0 : decode cX4_putFigures 0 = .ok (.aload_n 0, 1) := by decide +kernel
theorem dX4_putFigures_1 : decode cX4_putFigures 1 = .ok (.getfield 51, 3) := by decide +kernel
theorem dX4_putFigures_4 : decode cX4_putFigures 4 = .ok (.sipush 965, 3) := by decide +kernel
theorem dX4_putFigures_7 : decode cX4_putFigures 7 = .ok (.if_icmp .ge 34, 3) := by decide +kernel
theorem dX4_putFigures_10 : decode cX4_putFigures 10 = .ok (.aload_n 0, 1) := by decide +kernel
theorem dX4_putFigures_11 : decode cX4_putFigures 11 = .ok (.aload_n 0, 1) := by decide +kernel
theorem dX4_putFigures_12 : decode cX4_putFigures 12 = .ok (.getfield 34, 3) := by decide +kernel
theorem dX4_putFigures_15 : decode cX4_putFigures 15 = .ok (.getfield 64, 3) := by decide +kernel
theorem dX4_putFigures_18 : decode cX4_putFigures 18 = .ok (.iconst 0, 1) := by decide +kernel
theorem dX4_putFigures_19 : decode cX4_putFigures 19 = .ok (.iconst 0, 1) := by decide +kernel
theorem dX4_putFigures_20 : decode cX4_putFigures 20 = .ok (.iconst 0, 1) := by decide +kernel
theorem dX4_putFigures_21 : decode cX4_putFigures 21 = .ok (.invokevirtual 191, 3) := by decide +kernel
theorem dX4_putFigures_24 : decode cX4_putFigures 24 = .ok (.aload_n 0, 1) := by decide +kernel
theorem dX4_putFigures_25 : decode cX4_putFigures 25 = .ok (.getfield 21, 3) := by decide +kernel
theorem dX4_putFigures_28 : decode cX4_putFigures 28 = .ok (.aload_n 0, 1) := by decide +kernel
theorem dX4_putFigures_29 : decode cX4_putFigures 29 = .ok (.getfield 51, 3) := by decide +kernel
theorem dX4_putFigures_32 : decode cX4_putFigures 32 = .ok (.iconst 1, 1) := by decide +kernel
theorem dX4_putFigures_33 : decode cX4_putFigures 33 = .ok (.isub, 1) := by decide +kernel
theorem dX4_putFigures_34 : decode cX4_putFigures 34 = .ok (.aload_n 0, 1) := by decide +kernel
theorem dX4_putFigures_35 : decode cX4_putFigures 35 = .ok (.iload_n 1, 1) := by decide +kernel
theorem dX4_putFigures_36 : decode cX4_putFigures 36 = .ok (.iconst 2, 1) := by decide +kernel
theorem dX4_putFigures_37 : decode cX4_putFigures 37 = .ok (.invokevirtual 197, 3) := by decide +kernel
theorem dX4_putFigures_40 : decode cX4_putFigures 40 = .ok (.iastore, 1) := by decide +kernel
theorem dX4_putFigures_41 : decode cX4_putFigures 41 = .ok (.return_, 1) := by decide +kernel
set_option maxHeartbeats 4000000 in
set_option maxRecDepth 100000 in
theorem k_putFigures (l : Launch) (dC : Nat → ClassId) (dI : Nat → Nat → Nat) (k : Nat → ClassId) (pp : Nat) (pg : Nat) (so : Nat) (p1 : Nat) (p2 : Nat) (p3 : Nat) (p4 : Nat) (p5 : Nat) (p6 : Nat) (T : Nat → Int → Int → Int → Int) (A : Nat → Int → Int → Nat) (X : Nat → Int → Int → Int) (tl : va_W) (M : Nat → Int → Int) (V : Nat → Int → Int) (Aw : Nat → Nat) (f1 : Int → Int) (f2 : Int → Int) (f3 : Int → Int) (f4 : Int → Int) (f5 : Int → Int) (f6 : Int → Int) (P : Nat → Int → Int) (rr : Int) (st_ : Int) (hT : TI dI k T A X tl) (hK : TK T) (hR : RI k (T 0 0 0 0) M V Aw tl) (hM : MK M) (hMT : ∀ j, 0 ≤ j → j < M 0 0 → M 2 j < T 0 0 0 0) (hPA : PA P rr f1 f2 f3 f4 f5 f6) (hPn : 0 ≤ P 0 0 ∧ P 0 0 ≤ 965) (h1 : 0 ≤ st_ ∧ st_ < 32) : Kn l dC dI k yX4_putFigures (.code yX4_putFigures cX4_putFigures 2 none) ({ frames := 1, cells := 0, slots := 0, locals := 25 } : Room) [.ref pp, .int (iI st_)] ([(pp, .inr (4, [.ref (A 50 0 0), .ref (Aw 20), .ref pg, .ref so, .int (iI (P 0 0)), .int (iI (P 0 1)), .ref p1, .ref p2, .ref p3, .ref p4, .ref p5, .ref p6])), (p1, .inl (k 0, 965, .inl (fun i9 : Nat => iI (f1 i9)))), (p2, .inl (k 0, 965, .inl (fun i9 : Nat => iI (f2 i9)))), (p3, .inl (k 0, 965, .inl (fun i9 : Nat => iI (f3 i9)))), (p4, .inl (k 0, 965, .inl (fun i9 : Nat => iI (f4 i9)))), (p5, .inl (k 0, 768, .inl (fun i9 : Nat => iI (f5 i9)))), (p6, .inl (k 0, 5, .inl (fun i9 : Nat => iI (f6 i9))))] ++ tl) (fun r w gc gs => (∃ (P2 : Nat → Int → Int) (u1 : Int → Int) (u2 : Int → Int) (u3 : Int → Int) (u4 : Int → Int) (u6 : Int → Int), (P2 = pfZ T M P st_) ∧ (PA P2 rr u1 u2 u3 u4 f5 u6) ∧ (0 ≤ P2 0 0 ∧ P2 0 0 ≤ 965) ∧ r = none ∧ w = ([(pp, .inr (4, [.ref (A 50 0 0), .ref (Aw 20), .ref pg, .ref so, .int (iI (P2 0 0)), .int (iI (P2 0 1)), .ref p1, .ref p2, .ref p3, .ref p4, .ref p5, .ref p6])), (p1, .inl (k 0, 965, .inl (fun i9 : Nat => iI (u1 i9)))), (p2, .inl (k 0, 965, .inl (fun i9 : Nat => iI (u2 i9)))), (p3, .inl (k 0, 965, .inl (fun i9 : Nat => iI (u3 i9)))), (p4, .inl (k 0, 965, .inl (fun i9 : Nat => iI (u4 i9)))), (p5, .inl (k 0, 768, .inl (fun i9 : Nat => iI (f5 i9)))), (p6, .inl (k 0, 5, .inl (fun i9 : Nat => iI (u6 i9))))] ++ tl) ∧ gc = 0 ∧ gs = 0)) := by
  refine kn_of (by decide) (Nat.le_of_ble_eq_true rfl) ?_
  intro p e s m args below meth c H locs B hr hnm ls hl
  have hx := B.1.1
  have hb := B.1.2.1
  have hl : lv_has ls 2 [(0, .ref pp), (1, .int (iI st_))] := hl
  have hn0 := MK_cnt hM
  have hf0 := MK_17 hM
  refine lv_aload_n hx hb dX4_putFigures_0 rfl (lv_at hl 0 rfl) ?_
  refine x_get (ci := 4) (C := RX4) (T := TX4) (N := 12) (v := .int (iI (P 0 0))) B 0 rfl rfl in_X4 4 (by decide) mw_369 (fun _ h9 => h9) rfl dX4_putFigures_1 ?_
  refine lv_sipush (v := iI 965) hx hb dX4_putFigures_4 (by decide) ?_
  refine lv_icmp_ge (tgt := 41) hx hb dX4_putFigures_7 (by decide) (fun c_1 => ?_) (fun c_1 => ?_)
  · have zc_1 : 965 ≤ (P 0 0) := jle (a := 965) (b := (P 0 0)) (by omega) (by omega) c_1
    exact k_vret B hr (⟨P, f1, f2, f3, f4, f6, (pfZ_n (by omega)).symm, hPA, hPn, rfl, rfl, rfl, rfl⟩) ⟨Nat.le_of_ble_eq_true rfl, Nat.le_of_ble_eq_true rfl⟩ ⟨Nat.le_of_ble_eq_true rfl, Nat.le_of_ble_eq_true rfl⟩ dX4_putFigures_41
  · have zc_1 : (P 0 0) < 965 := jnle (a := 965) (b := (P 0 0)) (by omega) (by omega) c_1
    refine lv_aload_n hx hb dX4_putFigures_10 rfl (lv_at hl 0 rfl) ?_
    refine lv_aload_n hx hb dX4_putFigures_11 rfl (lv_at hl 0 rfl) ?_
    refine x_get (ci := 4) (C := RX4) (T := TX4) (N := 12) (v := .ref (Aw 20)) B 0 rfl rfl in_X4 1 (by decide) mw_366 (fun _ h9 => h9) rfl dX4_putFigures_12 ?_
    obtain ⟨k_2, hk_2⟩ := pk_at (hs := [(pp, .inr (4, [.ref (A 50 0 0), .ref (Aw 20), .ref pg, .ref so, .int (iI (P 0 0)), .int (iI (P 0 1)), .ref p1, .ref p2, .ref p3, .ref p4, .ref p5, .ref p6])), (p1, .inl (k 0, 965, .inl (fun i9 : Nat => iI (f1 i9)))), (p2, .inl (k 0, 965, .inl (fun i9 : Nat => iI (f2 i9)))), (p3, .inl (k 0, 965, .inl (fun i9 : Nat => iI (f3 i9)))), (p4, .inl (k 0, 965, .inl (fun i9 : Nat => iI (f4 i9)))), (p5, .inl (k 0, 768, .inl (fun i9 : Nat => iI (f5 i9)))), (p6, .inl (k 0, 5, .inl (fun i9 : Nat => iI (f6 i9))))]) (RI_o hR)
    refine x_get (ci := 6) (C := RX6) (T := TX6) (N := 18) (v := .int (iI (M 0 0))) B k_2 hk_2 rfl in_X6 0 (by decide) mw_224 (fun _ h9 => h9) rfl dX4_putFigures_15 ?_
    refine lv_iconst (v := iI 0) hx hb dX4_putFigures_18 (by decide) ?_
    refine lv_iconst (v := iI 0) hx hb dX4_putFigures_19 (by decide) ?_
    refine lv_iconst (v := iI 0) hx hb dX4_putFigures_20 (by decide) ?_
    have B := bd_to (ws' := [(pp, .inr (4, [.ref (A 50 0 0), .ref (Aw 20), .ref pg, .ref so, .int (iI (P 0 0)), .int (iI (P 0 1)), .ref p1, .ref p2, .ref p3, .ref p4, .ref p5, .ref p6])), (p1, .inl (k 0, 965, .inl (fun i9 : Nat => iI (f1 i9)))), (p2, .inl (k 0, 965, .inl (fun i9 : Nat => iI (f2 i9)))), (p3, .inl (k 0, 965, .inl (fun i9 : Nat => iI (f3 i9)))), (p4, .inl (k 0, 965, .inl (fun i9 : Nat => iI (f4 i9)))), (p5, .inl (k 0, 768, .inl (fun i9 : Nat => iI (f5 i9)))), (p6, .inl (k 0, 5, .inl (fun i9 : Nat => iI (f6 i9))))] ++ ([] ++ tl)) rfl B
    refine k_V (rest := []) (wc := [(pp, .inr (4, [.ref (A 50 0 0), .ref (Aw 20), .ref pg, .ref so, .int (iI (P 0 0)), .int (iI (P 0 1)), .ref p1, .ref p2, .ref p3, .ref p4, .ref p5, .ref p6])), (p1, .inl (k 0, 965, .inl (fun i9 : Nat => iI (f1 i9)))), (p2, .inl (k 0, 965, .inl (fun i9 : Nat => iI (f2 i9)))), (p3, .inl (k 0, 965, .inl (fun i9 : Nat => iI (f3 i9)))), (p4, .inl (k 0, 965, .inl (fun i9 : Nat => iI (f4 i9)))), (p5, .inl (k 0, 768, .inl (fun i9 : Nat => iI (f5 i9)))), (p6, .inl (k 0, 5, .inl (fun i9 : Nat => iI (f6 i9))))]) (wr := ([] ++ tl)) (k_put l dC dI k pp pg so p1 p2 p3 p4 p5 p6 T A X tl M V Aw f1 f2 f3 f4 f5 f6 P rr (M 0 0) 0 0 0 hPA hPn) B mV_X4_put mw_1626 hl (q0 := 0) rfl rfl rfl ⟨Nat.le_of_ble_eq_true rfl, Nat.le_of_ble_eq_true rfl⟩ (Nat.le_of_ble_eq_true rfl) rfl dX4_putFigures_21 ⟨Nat.le_of_ble_eq_true rfl, Nat.le_of_ble_eq_true rfl⟩ (fun r w gc gs H locs hp B => ?_)
    obtain ⟨P2_3, u1_4, u2_5, u3_6, u4_7, z_8, z_9, z_10, rfl, hw9, rfl, rfl⟩ := hp
    rw [hw9] at B; clear hw9
    have B := bd_swap (a := []) (b := tl) (d := [(pp, .inr (4, [.ref (A 50 0 0), .ref (Aw 20), .ref pg, .ref so, .int (iI (P2_3 0 0)), .int (iI (P2_3 0 1)), .ref p1, .ref p2, .ref p3, .ref p4, .ref p5, .ref p6])), (p1, .inl (k 0, 965, .inl (fun i9 : Nat => iI (u1_4 i9)))), (p2, .inl (k 0, 965, .inl (fun i9 : Nat => iI (u2_5 i9)))), (p3, .inl (k 0, 965, .inl (fun i9 : Nat => iI (u3_6 i9)))), (p4, .inl (k 0, 965, .inl (fun i9 : Nat => iI (u4_7 i9)))), (p5, .inl (k 0, 768, .inl (fun i9 : Nat => iI (f5 i9)))), (p6, .inl (k 0, 5, .inl (fun i9 : Nat => iI (f6 i9))))]) B
    have B := bd_to (ws' := ([(pp, .inr (4, [.ref (A 50 0 0), .ref (Aw 20), .ref pg, .ref so, .int (iI (P2_3 0 0)), .int (iI (P2_3 0 1)), .ref p1, .ref p2, .ref p3, .ref p4, .ref p5, .ref p6])), (p1, .inl (k 0, 965, .inl (fun i9 : Nat => iI (u1_4 i9)))), (p2, .inl (k 0, 965, .inl (fun i9 : Nat => iI (u2_5 i9)))), (p3, .inl (k 0, 965, .inl (fun i9 : Nat => iI (u3_6 i9)))), (p4, .inl (k 0, 965, .inl (fun i9 : Nat => iI (u4_7 i9)))), (p5, .inl (k 0, 768, .inl (fun i9 : Nat => iI (f5 i9)))), (p6, .inl (k 0, 5, .inl (fun i9 : Nat => iI (f6 i9))))] ++ tl)) rfl B
    have hPA : PA P2_3 rr u1_4 u2_5 u3_6 u4_7 f5 f6 := z_9
    have hPn : 0 ≤ P2_3 0 0 ∧ P2_3 0 0 ≤ 965 := z_10
    refine lv_aload_n hx hb dX4_putFigures_24 rfl (lv_at hl 0 rfl) ?_
    refine x_get (ci := 4) (C := RX4) (T := TX4) (N := 12) (v := .ref p4) B 0 rfl rfl in_X4 9 (by decide) mw_380 (fun _ h9 => h9) rfl dX4_putFigures_25 ?_
    refine lv_aload_n hx hb dX4_putFigures_28 rfl (lv_at hl 0 rfl) ?_
    refine x_get (ci := 4) (C := RX4) (T := TX4) (N := 12) (v := .int (iI (P2_3 0 0))) B 0 rfl rfl in_X4 4 (by decide) mw_369 (fun _ h9 => h9) rfl dX4_putFigures_29 ?_
    refine lv_iconst (v := iI 1) hx hb dX4_putFigures_32 (by decide) ?_
    refine y_sub hx hb dX4_putFigures_33 ?_
    refine lv_aload_n hx hb dX4_putFigures_34 rfl (lv_at hl 0 rfl) ?_
    refine lv_iload_n hx hb dX4_putFigures_35 rfl (lv_at hl 1 rfl) ?_
    refine lv_iconst (v := iI 2) hx hb dX4_putFigures_36 (by decide) ?_
    have B := bd_swap (a := [(pp, .inr (4, [.ref (A 50 0 0), .ref (Aw 20), .ref pg, .ref so, .int (iI (P2_3 0 0)), .int (iI (P2_3 0 1)), .ref p1, .ref p2, .ref p3, .ref p4, .ref p5, .ref p6])), (p1, .inl (k 0, 965, .inl (fun i9 : Nat => iI (u1_4 i9)))), (p2, .inl (k 0, 965, .inl (fun i9 : Nat => iI (u2_5 i9)))), (p3, .inl (k 0, 965, .inl (fun i9 : Nat => iI (u3_6 i9)))), (p4, .inl (k 0, 965, .inl (fun i9 : Nat => iI (u4_7 i9)))), (p5, .inl (k 0, 768, .inl (fun i9 : Nat => iI (f5 i9)))), (p6, .inl (k 0, 5, .inl (fun i9 : Nat => iI (f6 i9))))]) (b := []) (d := tl) (bd_to rfl B)
    refine k_V (rest := [.int (iI ((P2_3 0 0) - 1)), .ref p4]) (wc := ([(pp, .inr (4, [.ref (A 50 0 0), .ref (Aw 20), .ref pg, .ref so, .int (iI (P2_3 0 0)), .int (iI (P2_3 0 1)), .ref p1, .ref p2, .ref p3, .ref p4, .ref p5, .ref p6])), (p1, .inl (k 0, 965, .inl (fun i9 : Nat => iI (u1_4 i9)))), (p2, .inl (k 0, 965, .inl (fun i9 : Nat => iI (u2_5 i9)))), (p3, .inl (k 0, 965, .inl (fun i9 : Nat => iI (u3_6 i9)))), (p4, .inl (k 0, 965, .inl (fun i9 : Nat => iI (u4_7 i9)))), (p5, .inl (k 0, 768, .inl (fun i9 : Nat => iI (f5 i9)))), (p6, .inl (k 0, 5, .inl (fun i9 : Nat => iI (f6 i9))))] ++ tl)) (wr := []) (k_placeFigures l dC dI k pp pg so p1 p2 p3 p4 p5 p6 T A X tl M V Aw u1_4 u2_5 u3_6 u4_7 f5 f6 P2_3 rr st_ 2 hT hK hR hM hMT z_9 z_10 (by omega)) B mV_X4_placeFigures mw_1630 hl (q0 := 0) rfl rfl rfl ⟨Nat.le_of_ble_eq_true rfl, Nat.le_of_ble_eq_true rfl⟩ (Nat.le_of_ble_eq_true rfl) rfl dX4_putFigures_37 ⟨Nat.le_of_ble_eq_true rfl, Nat.le_of_ble_eq_true rfl⟩ (fun r w gc gs H locs hp B => ?_)
    obtain ⟨P2_11, u6_12, z_13, z_14, z_15, z_16, rfl, hw9, rfl, rfl⟩ := hp
    rw [hw9] at B; clear hw9
    have B := bd_to (ws' := ([(pp, .inr (4, [.ref (A 50 0 0), .ref (Aw 20), .ref pg, .ref so, .int (iI (P2_11 0 0)), .int (iI (P2_11 0 1)), .ref p1, .ref p2, .ref p3, .ref p4, .ref p5, .ref p6])), (p1, .inl (k 0, 965, .inl (fun i9 : Nat => iI (u1_4 i9)))), (p2, .inl (k 0, 965, .inl (fun i9 : Nat => iI (u2_5 i9)))), (p3, .inl (k 0, 965, .inl (fun i9 : Nat => iI (u3_6 i9)))), (p4, .inl (k 0, 965, .inl (fun i9 : Nat => iI (u4_7 i9)))), (p5, .inl (k 0, 768, .inl (fun i9 : Nat => iI (f5 i9)))), (p6, .inl (k 0, 5, .inl (fun i9 : Nat => iI (u6_12 i9))))] ++ tl)) rfl B
    have hPA : PA P2_11 rr u1_4 u2_5 u3_6 u4_7 f5 u6_12 := z_14
    have hPn : 0 ≤ P2_11 0 0 ∧ P2_11 0 0 ≤ 965 := z_15
    have z_17 : P2_3 0 0 = P 0 0 + 1 := by rw [z_8, puP_y (by omega)]; exact puQ_0
    have z_18 : P2_11 0 0 = P2_3 0 0 := by rw [z_13]; rfl
    refine x_iast' (f := u4_7) (z := ((P2_3 0 0) - 1)) (v := ((plZ T M st_ (10 * P2_3 0 0 + 2) (P2_3 6)).2)) B 4 rfl (by omega) dX4_putFigures_40 (fun H locs B => ?_)
    have B := bd_to (ws' := ([(pp, .inr (4, [.ref (A 50 0 0), .ref (Aw 20), .ref pg, .ref so, .int (iI (P2_11 0 0)), .int (iI (P2_11 0 1)), .ref p1, .ref p2, .ref p3, .ref p4, .ref p5, .ref p6])), (p1, .inl (k 0, 965, .inl (fun i9 : Nat => iI (u1_4 i9)))), (p2, .inl (k 0, 965, .inl (fun i9 : Nat => iI (u2_5 i9)))), (p3, .inl (k 0, 965, .inl (fun i9 : Nat => iI (u3_6 i9)))), (p4, .inl (k 0, 965, .inl (fun i9 : Nat => iI ((uz u4_7 ((P2_3 0 0) - 1) ((plZ T M st_ (10 * P2_3 0 0 + 2) (P2_3 6)).2)) i9)))), (p5, .inl (k 0, 768, .inl (fun i9 : Nat => iI (f5 i9)))), (p6, .inl (k 0, 5, .inl (fun i9 : Nat => iI (u6_12 i9))))] ++ tl)) rfl B
    have e_19 : ((seP P2_11 4 (uz (uz (P 4) (P 0 0) 0) (P 0 0) ((plZ T M st_ (10 * P2_3 0 0 + 2) (P2_3 6)).2))) 0 0) = (P2_11 0 0) := rfl
    have e_20 : ((seP P2_11 4 (uz (uz (P 4) (P 0 0) 0) (P 0 0) ((plZ T M st_ (10 * P2_3 0 0 + 2) (P2_3 6)).2))) 0 1) = (P2_11 0 1) := rfl
    have B := bd_to (ws' := ([(pp, .inr (4, [.ref (A 50 0 0), .ref (Aw 20), .ref pg, .ref so, .int (iI ((seP P2_11 4 (uz (uz (P 4) (P 0 0) 0) (P 0 0) ((plZ T M st_ (10 * P2_3 0 0 + 2) (P2_3 6)).2))) 0 0)), .int (iI ((seP P2_11 4 (uz (uz (P 4) (P 0 0) 0) (P 0 0) ((plZ T M st_ (10 * P2_3 0 0 + 2) (P2_3 6)).2))) 0 1)), .ref p1, .ref p2, .ref p3, .ref p4, .ref p5, .ref p6])), (p1, .inl (k 0, 965, .inl (fun i9 : Nat => iI (u1_4 i9)))), (p2, .inl (k 0, 965, .inl (fun i9 : Nat => iI (u2_5 i9)))), (p3, .inl (k 0, 965, .inl (fun i9 : Nat => iI (u3_6 i9)))), (p4, .inl (k 0, 965, .inl (fun i9 : Nat => iI ((uz u4_7 ((P2_3 0 0) - 1) ((plZ T M st_ (10 * P2_3 0 0 + 2) (P2_3 6)).2)) i9)))), (p5, .inl (k 0, 768, .inl (fun i9 : Nat => iI (f5 i9)))), (p6, .inl (k 0, 5, .inl (fun i9 : Nat => iI (u6_12 i9))))] ++ tl)) (by first | rfl | (rw [e_19, e_20]) | (rw [e_20, e_19])) B
    exact k_vret B hr (⟨(seP P2_11 4 (uz (uz (P 4) (P 0 0) 0) (P 0 0) ((plZ T M st_ (10 * P2_3 0 0 + 2) (P2_3 6)).2))), u1_4, u2_5, u3_6, (uz u4_7 ((P2_3 0 0) - 1) ((plZ T M st_ (10 * P2_3 0 0 + 2) (P2_3 6)).2)), u6_12, (pf_eq (by omega) z_8 z_13 rfl), (PA_4 hPA (fun j a9 b9 => by have q9 := (hPA.1 j a9 b9).2.2.2; have q8 : P2_11 4 j = uz (P 4) (P 0 0) 0 j := (by rw [z_13, z_8, puP_y (by omega)]; rfl); rw [q8] at q9; rw [show (P2_3 0 0) - 1 = P 0 0 by omega]; by_cases e9 : j = P 0 0; (rw [e9, uz_s, uz_s]); (rw [uz_n e9, uz_n e9]; exact q9))), hPn, rfl, rfl, rfl, rfl⟩) ⟨Nat.le_of_ble_eq_true rfl, Nat.le_of_ble_eq_true rfl⟩ ⟨Nat.le_of_ble_eq_true rfl, Nat.le_of_ble_eq_true rfl⟩ dX4_putFigures_41

theorem mw_1638 : (Jvm.Cond.methodLink "Galleyforge$Pages" (203 : Nat) ({ cls := "Galleyforge$Pages", name := "putFigures", desc := "(I)V" } : Jvm.MethodName)) ∈ gt := gt_at 1708 (by decide +kernel) (by decide +kernel)
theorem mw_1640 : (Jvm.Cond.instanceMethod ({ cls := "Galleyforge$Pages", name := "putFigures", desc := "(I)V" } : Jvm.MethodName)) ∈ gt := gt_at 1710 (by decide +kernel) (by decide +kernel)
theorem mw_1641 : (Jvm.Cond.code ({ cls := "Galleyforge$Pages", name := "putFigures", desc := "(I)V" } : Jvm.MethodName) prog_6_method_16_code (2 : Nat) (Option.none : Option Jvm.ClassFile.FieldType)) ∈ gt := gt_at 1711 (by decide +kernel) (by decide +kernel)
theorem ms_58 : Cond.selects "Galleyforge$Pages" (⟨"Galleyforge$Pages", "putFigures", "(I)V"⟩ : MethodName) (⟨"Galleyforge$Pages", "putFigures", "(I)V"⟩ : MethodName) ∈ gt := gt_at 58 (by decide +kernel) (by decide +kernel)
theorem mV_X4_putFigures : mV yX4_putFigures cX4_putFigures 2 none 1 := ⟨⟨mw_1641, mw_10, by decide, by decide, by decide +kernel⟩, mw_1640, ms_58⟩
theorem dX4_putAlone_0 : decode cX4_putAlone 0 = .ok (.iconst 0, 1) := by decide +kernel
theorem dX4_putAlone_1 : decode cX4_putAlone 1 = .ok (.istore_n 2, 1) := by decide +kernel
theorem dX4_putAlone_2 : decode cX4_putAlone 2 = .ok (.iload_n 2, 1) := by decide +kernel
theorem dX4_putAlone_3 : decode cX4_putAlone 3 = .ok (.aload_n 0, 1) := by decide +kernel
theorem dX4_putAlone_4 : decode cX4_putAlone 4 = .ok (.getfield 34, 3) := by decide +kernel
theorem dX4_putAlone_7 : decode cX4_putAlone 7 = .ok (.getfield 152, 3) := by decide +kernel
theorem dX4_putAlone_10 : decode cX4_putAlone 10 = .ok (.if_icmp .ge 25, 3) := by decide +kernel
theorem dX4_putAlone_13 : decode cX4_putAlone 13 = .ok (.iload_n 1, 1) := by decide +kernel
theorem dX4_putAlone_14 : decode cX4_putAlone 14 = .ok (.iload_n 2, 1) := by decide +kernel
theorem dX4_putAlone_15 : decode cX4_putAlone 15 = .ok (.ishr, 1) := by decide +kernel
theorem dX4_putAlone_16 : decode cX4_putAlone 16 = .ok (.iconst 1, 1) := by decide +kernel
theorem dX4_putAlone_17 : decode cX4_putAlone 17 = .ok (.iand, 1) := by decide +kernel
theorem dX4_putAlone_18 : decode cX4_putAlone 18 = .ok (.iconst 1, 1) := by decide +kernel
theorem dX4_putAlone_19 : decode cX4_putAlone 19 = .ok (.if_icmp .ne 10, 3) := by decide +kernel
theorem dX4_putAlone_22 : decode cX4_putAlone 22 = .ok (.aload_n 0, 1) := by decide +kernel
theorem dX4_putAlone_23 : decode cX4_putAlone 23 = .ok (.iconst 1, 1) := by decide +kernel
theorem dX4_putAlone_24 : decode cX4_putAlone 24 = .ok (.iload_n 2, 1) := by decide +kernel
theorem dX4_putAlone_25 : decode cX4_putAlone 25 = .ok (.ishl, 1) := by decide +kernel
theorem dX4_putAlone_26 : decode cX4_putAlone 26 = .ok (.invokevirtual 203, 3) := by decide +kernel
theorem dX4_putAlone_29 : decode cX4_putAlone 29 = .ok (.iinc 2 1, 3) := by decide +kernel
theorem dX4_putAlone_32 : decode cX4_putAlone 32 = .ok (.goto (-30), 3) := by decide +kernel
theorem dX4_putAlone_35 : decode cX4_putAlone 35 = .ok (.return_, 1) := by decide +kernel
set_option maxHeartbeats 4000000 in
set_option maxRecDepth 100000 in
theorem k_putAlone (l : Launch) (dC : Nat → ClassId) (dI : Nat → Nat → Nat) (k : Nat → ClassId) (pp : Nat) (pg : Nat) (so : Nat) (p1 : Nat) (p2 : Nat) (p3 : Nat) (p4 : Nat) (p5 : Nat) (p6 : Nat) (T : Nat → Int → Int → Int → Int) (A : Nat → Int → Int → Nat) (X : Nat → Int → Int → Int) (tl : va_W) (M : Nat → Int → Int) (V : Nat → Int → Int) (Aw : Nat → Nat) (f1 : Int → Int) (f2 : Int → Int) (f3 : Int → Int) (f4 : Int → Int) (f5 : Int → Int) (f6 : Int → Int) (P : Nat → Int → Int) (rr : Int) (st_ : Int) (hT : TI dI k T A X tl) (hK : TK T) (hR : RI k (T 0 0 0 0) M V Aw tl) (hM : MK M) (hMT : ∀ j, 0 ≤ j → j < M 0 0 → M 2 j < T 0 0 0 0) (hPA : PA P rr f1 f2 f3 f4 f5 f6) (hPn : 0 ≤ P 0 0 ∧ P 0 0 ≤ 965) (h1 : 0 ≤ st_ ∧ st_ < 32) : Kn l dC dI k yX4_putAlone (.code yX4_putAlone cX4_putAlone 3 none) ({ frames := 2, cells := 0, slots := 0, locals := 46 } : Room) [.ref pp, .int (iI st_)] ([(pp, .inr (4, [.ref (A 50 0 0), .ref (Aw 20), .ref pg, .ref so, .int (iI (P 0 0)), .int (iI (P 0 1)), .ref p1, .ref p2, .ref p3, .ref p4, .ref p5, .ref p6])), (p1, .inl (k 0, 965, .inl (fun i9 : Nat => iI (f1 i9)))), (p2, .inl (k 0, 965, .inl (fun i9 : Nat => iI (f2 i9)))), (p3, .inl (k 0, 965, .inl (fun i9 : Nat => iI (f3 i9)))), (p4, .inl (k 0, 965, .inl (fun i9 : Nat => iI (f4 i9)))), (p5, .inl (k 0, 768, .inl (fun i9 : Nat => iI (f5 i9)))), (p6, .inl (k 0, 5, .inl (fun i9 : Nat => iI (f6 i9))))] ++ tl) (fun r w gc gs => (∃ (P2 : Nat → Int → Int) (u1 : Int → Int) (u2 : Int → Int) (u3 : Int → Int) (u4 : Int → Int) (u6 : Int → Int), (P2 = paZ T M st_ P) ∧ (PA P2 rr u1 u2 u3 u4 f5 u6) ∧ (0 ≤ P2 0 0 ∧ P2 0 0 ≤ 965) ∧ r = none ∧ w = ([(pp, .inr (4, [.ref (A 50 0 0), .ref (Aw 20), .ref pg, .ref so, .int (iI (P2 0 0)), .int (iI (P2 0 1)), .ref p1, .ref p2, .ref p3, .ref p4, .ref p5, .ref p6])), (p1, .inl (k 0, 965, .inl (fun i9 : Nat => iI (u1 i9)))), (p2, .inl (k 0, 965, .inl (fun i9 : Nat => iI (u2 i9)))), (p3, .inl (k 0, 965, .inl (fun i9 : Nat => iI (u3 i9)))), (p4, .inl (k 0, 965, .inl (fun i9 : Nat => iI (u4 i9)))), (p5, .inl (k 0, 768, .inl (fun i9 : Nat => iI (f5 i9)))), (p6, .inl (k 0, 5, .inl (fun i9 : Nat => iI (u6 i9))))] ++ tl) ∧ gc = 0 ∧ gs = 0)) := by
  refine kn_of (by decide) (Nat.le_of_ble_eq_true rfl) ?_
  intro p e s m args below meth c H locs B hr hnm ls hl
  have hx := B.1.1
  have hb := B.1.2.1
  have hl : lv_has ls 3 [(0, .ref pp), (1, .int (iI st_))] := hl
  have hn0 := MK_cnt hM
  have hf0 := MK_17 hM
  refine lv_iconst (v := iI 0) hx hb dX4_putAlone_0 (by decide) ?_
  refine lv_istore_n (lv' := [(2, .int (iI 0)), (0, .ref pp), (1, .int (iI st_))]) hx hb dX4_putAlone_1 rfl hl (by decide) rfl (fun ls hl => ?_)
  refine k_loop (σ := Int × (Nat → Int → Int) × (Int → Int) × (Int → Int) × (Int → Int) × (Int → Int) × (Int → Int)) B (fun g9 : Int × (Nat → Int → Int) × (Int → Int) × (Int → Int) × (Int → Int) × (Int → Int) × (Int → Int) => (0 ≤ g9.1 ∧ g9.1 ≤ M 17 0) ∧ (g9.2.1 = paS T M st_ P (Int.toNat g9.1)) ∧ (PA g9.2.1 rr g9.2.2.1 g9.2.2.2.1 g9.2.2.2.2.1 g9.2.2.2.2.2.1 f5 g9.2.2.2.2.2.2) ∧ (0 ≤ g9.2.1 0 0 ∧ g9.2.1 0 0 ≤ 965)) (fun g9 : Int × (Nat → Int → Int) × (Int → Int) × (Int → Int) × (Int → Int) × (Int → Int) × (Int → Int) => (M 17 0 - g9.1).toNat) (fun g9 : Int × (Nat → Int → Int) × (Int → Int) × (Int → Int) × (Int → Int) × (Int → Int) × (Int → Int) => [(2, .int (iI g9.1)), (0, .ref pp), (1, .int (iI st_))]) (fun g9 : Int × (Nat → Int → Int) × (Int → Int) × (Int → Int) × (Int → Int) × (Int → Int) × (Int → Int) => ([(pp, .inr (4, [.ref (A 50 0 0), .ref (Aw 20), .ref pg, .ref so, .int (iI (g9.2.1 0 0)), .int (iI (g9.2.1 0 1)), .ref p1, .ref p2, .ref p3, .ref p4, .ref p5, .ref p6])), (p1, .inl (k 0, 965, .inl (fun i9 : Nat => iI (g9.2.2.1 i9)))), (p2, .inl (k 0, 965, .inl (fun i9 : Nat => iI (g9.2.2.2.1 i9)))), (p3, .inl (k 0, 965, .inl (fun i9 : Nat => iI (g9.2.2.2.2.1 i9)))), (p4, .inl (k 0, 965, .inl (fun i9 : Nat => iI (g9.2.2.2.2.2.1 i9)))), (p5, .inl (k 0, 768, .inl (fun i9 : Nat => iI (f5 i9)))), (p6, .inl (k 0, 5, .inl (fun i9 : Nat => iI (g9.2.2.2.2.2.2 i9))))] ++ tl)) ?_ (0, P, f1, f2, f3, f4, f6) ⟨(show 0 ≤ 0 ∧ 0 ≤ M 17 0 from (by omega)), (show P = paS T M st_ P (Int.toNat 0) from rfl), (show PA P rr f1 f2 f3 f4 f5 f6 from hPA), (show 0 ≤ P 0 0 ∧ P 0 0 ≤ 965 from hPn)⟩ ls H locs (lv_sub hl [0, 1, 2] rfl) (bd_to rfl B)
  clear hl B
  rintro ⟨q, P9, v1, v2, v3, v4, v6⟩ ⟨hk, hq, hPA, hPn⟩ ih_1 ls H locs hl B
  have hk : 0 ≤ q ∧ q ≤ M 17 0 := hk
  have hq : P9 = paS T M st_ P (Int.toNat q) := hq
  have hPA : PA P9 rr v1 v2 v3 v4 f5 v6 := hPA
  have hPn : 0 ≤ P9 0 0 ∧ P9 0 0 ≤ 965 := hPn
  have hl : lv_has ls 3 [(2, .int (iI q)), (0, .ref pp), (1, .int (iI st_))] := hl
  have B := bd_to (ws' := ([(pp, .inr (4, [.ref (A 50 0 0), .ref (Aw 20), .ref pg, .ref so, .int (iI (P9 0 0)), .int (iI (P9 0 1)), .ref p1, .ref p2, .ref p3, .ref p4, .ref p5, .ref p6])), (p1, .inl (k 0, 965, .inl (fun i9 : Nat => iI (v1 i9)))), (p2, .inl (k 0, 965, .inl (fun i9 : Nat => iI (v2 i9)))), (p3, .inl (k 0, 965, .inl (fun i9 : Nat => iI (v3 i9)))), (p4, .inl (k 0, 965, .inl (fun i9 : Nat => iI (v4 i9)))), (p5, .inl (k 0, 768, .inl (fun i9 : Nat => iI (f5 i9)))), (p6, .inl (k 0, 5, .inl (fun i9 : Nat => iI (v6 i9))))] ++ tl)) rfl B
  refine lv_iload_n hx hb dX4_putAlone_2 rfl (lv_at hl 0 rfl) ?_
  refine lv_aload_n hx hb dX4_putAlone_3 rfl (lv_at hl 1 rfl) ?_
  refine x_get (ci := 4) (C := RX4) (T := TX4) (N := 12) (v := .ref (Aw 20)) B 0 rfl rfl in_X4 1 (by decide) mw_366 (fun _ h9 => h9) rfl dX4_putAlone_4 ?_
  obtain ⟨k_2, hk_2⟩ := pk_at (hs := [(pp, .inr (4, [.ref (A 50 0 0), .ref (Aw 20), .ref pg, .ref so, .int (iI (P9 0 0)), .int (iI (P9 0 1)), .ref p1, .ref p2, .ref p3, .ref p4, .ref p5, .ref p6])), (p1, .inl (k 0, 965, .inl (fun i9 : Nat => iI (v1 i9)))), (p2, .inl (k 0, 965, .inl (fun i9 : Nat => iI (v2 i9)))), (p3, .inl (k 0, 965, .inl (fun i9 : Nat => iI (v3 i9)))), (p4, .inl (k 0, 965, .inl (fun i9 : Nat => iI (v4 i9)))), (p5, .inl (k 0, 768, .inl (fun i9 : Nat => iI (f5 i9)))), (p6, .inl (k 0, 5, .inl (fun i9 : Nat => iI (v6 i9))))]) (RI_o hR)
  refine x_get (ci := 6) (C := RX6) (T := TX6) (N := 18) (v := .int (iI (M 17 0))) B k_2 hk_2 rfl in_X6 17 (by decide) mw_261 (fun _ h9 => h9) rfl dX4_putAlone_7 ?_
  refine lv_icmp_ge (tgt := 35) hx hb dX4_putAlone_10 (by decide) (fun c_3 => ?_) (fun c_3 => ?_)
  · have zc_3 : (M 17 0) ≤ q := jle (a := (M 17 0)) (b := q) (by omega) (by omega) c_3
    exact k_vret B hr (⟨P9, v1, v2, v3, v4, v6, (by show P9 = paS T M st_ P (Int.toNat (M 17 0)); rw [show M 17 0 = q by omega]; exact hq), hPA, hPn, rfl, rfl, rfl, rfl⟩) ⟨Nat.le_of_ble_eq_true rfl, Nat.le_of_ble_eq_true rfl⟩ ⟨Nat.le_of_ble_eq_true rfl, Nat.le_of_ble_eq_true rfl⟩ dX4_putAlone_35
  · have zc_3 : q < (M 17 0) := jnle (a := (M 17 0)) (b := q) (by omega) (by omega) c_3
    refine lv_iload_n hx hb dX4_putAlone_13 rfl (lv_at hl 2 rfl) ?_
    refine lv_iload_n hx hb dX4_putAlone_14 rfl (lv_at hl 0 rfl) ?_
    refine y_shr hx hb (a := st_) (b := q) (by omega) (by omega) dX4_putAlone_15 ?_
    have z_4 : 0 ≤ (bShr st_ q) ∧ (bShr st_ q) ≤ st_ := bShr_le (by omega)
    refine lv_iconst (v := iI 1) hx hb dX4_putAlone_16 (by decide) ?_
    refine y_and hx hb (a := (bShr st_ q)) (b := 1) (by omega) (by omega) dX4_putAlone_17 ?_
    have z_5 : 0 ≤ (bAnd (bShr st_ q) 1) ∧ (bAnd (bShr st_ q) 1) ≤ (bShr st_ q) := bAnd_le (by omega)
    have z_6 : 0 ≤ (bAnd (bShr st_ q) 1) ∧ (bAnd (bShr st_ q) 1) ≤ 1 := bAnd_le' (by omega)
    refine lv_iconst (v := iI 1) hx hb dX4_putAlone_18 (by decide) ?_
    refine lv_icmp_ne (tgt := 29) hx hb dX4_putAlone_19 (by decide) (fun c_7 => ?_) (fun c_7 => ?_)
    · have zc_7 : (bAnd (bShr st_ q) 1) ≠ 1 := jne (a := (bAnd (bShr st_ q) 1)) (b := 1) (by omega) (by omega) c_7
      refine lv_iinc (v := iI (q + 1)) (lv' := [(2, .int (iI (q + 1))), (0, .ref pp), (1, .int (iI st_))]) hx hb dX4_putAlone_29 hl (k := 0) rfl (iI_add _ _) (by decide) rfl (fun ls hl => ?_)
      refine lv_goto (tgt := 2) hx hb dX4_putAlone_32 (by decide) ?_
      exact ih_1 ((q + 1), P9, v1, v2, v3, v4, v6) ⟨(show 0 ≤ (q + 1) ∧ (q + 1) ≤ M 17 0 from (by omega)), (show P9 = paS T M st_ P (Int.toNat (q + 1)) from (by rw [paS_s (by omega), if_neg (by omega)]; exact hq)), (show PA P9 rr v1 v2 v3 v4 f5 v6 from hPA), (show 0 ≤ P9 0 0 ∧ P9 0 0 ≤ 965 from hPn)⟩ (by first | omega | (dsimp only; omega)) _ _ _ (lv_sub hl [0, 1, 2] rfl) (bd_to rfl B)
    · have zc_7 : (bAnd (bShr st_ q) 1) = 1 := jeq (a := (bAnd (bShr st_ q) 1)) (b := 1) (by omega) (by omega) c_7
      refine lv_aload_n hx hb dX4_putAlone_22 rfl (lv_at hl 1 rfl) ?_
      refine lv_iconst (v := iI 1) hx hb dX4_putAlone_23 (by decide) ?_
      refine lv_iload_n hx hb dX4_putAlone_24 rfl (lv_at hl 0 rfl) ?_
      have z_8 : 0 < (bShl 1 q) ∧ (bShl 1 q) < 32 := bShl_k5 (by omega)
      refine y_shl hx hb (a := 1) (b := q) (by omega) (by omega) (by omega) dX4_putAlone_25 ?_
      have B := bd_swap (a := [(pp, .inr (4, [.ref (A 50 0 0), .ref (Aw 20), .ref pg, .ref so, .int (iI (P9 0 0)), .int (iI (P9 0 1)), .ref p1, .ref p2, .ref p3, .ref p4, .ref p5, .ref p6])), (p1, .inl (k 0, 965, .inl (fun i9 : Nat => iI (v1 i9)))), (p2, .inl (k 0, 965, .inl (fun i9 : Nat => iI (v2 i9)))), (p3, .inl (k 0, 965, .inl (fun i9 : Nat => iI (v3 i9)))), (p4, .inl (k 0, 965, .inl (fun i9 : Nat => iI (v4 i9)))), (p5, .inl (k 0, 768, .inl (fun i9 : Nat => iI (f5 i9)))), (p6, .inl (k 0, 5, .inl (fun i9 : Nat => iI (v6 i9))))]) (b := []) (d := tl) (bd_to rfl B)
      refine k_V (rest := []) (wc := ([(pp, .inr (4, [.ref (A 50 0 0), .ref (Aw 20), .ref pg, .ref so, .int (iI (P9 0 0)), .int (iI (P9 0 1)), .ref p1, .ref p2, .ref p3, .ref p4, .ref p5, .ref p6])), (p1, .inl (k 0, 965, .inl (fun i9 : Nat => iI (v1 i9)))), (p2, .inl (k 0, 965, .inl (fun i9 : Nat => iI (v2 i9)))), (p3, .inl (k 0, 965, .inl (fun i9 : Nat => iI (v3 i9)))), (p4, .inl (k 0, 965, .inl (fun i9 : Nat => iI (v4 i9)))), (p5, .inl (k 0, 768, .inl (fun i9 : Nat => iI (f5 i9)))), (p6, .inl (k 0, 5, .inl (fun i9 : Nat => iI (v6 i9))))] ++ tl)) (wr := []) (k_putFigures l dC dI k pp pg so p1 p2 p3 p4 p5 p6 T A X tl M V Aw v1 v2 v3 v4 f5 v6 P9 rr (bShl 1 q) hT hK hR hM hMT hPA hPn (by omega)) B mV_X4_putFigures mw_1638 hl (q0 := 0) rfl rfl rfl ⟨Nat.le_of_ble_eq_true rfl, Nat.le_of_ble_eq_true rfl⟩ (Nat.le_of_ble_eq_true rfl) rfl dX4_putAlone_26 ⟨Nat.le_of_ble_eq_true rfl, Nat.le_of_ble_eq_true rfl⟩ (fun r w gc gs H locs hp B => ?_)
      obtain ⟨P2_9, u1_10, u2_11, u3_12, u4_13, u6_14, z_15, z_16, z_17, rfl, hw9, rfl, rfl⟩ := hp
      rw [hw9] at B; clear hw9
      have B := bd_to (ws' := ([(pp, .inr (4, [.ref (A 50 0 0), .ref (Aw 20), .ref pg, .ref so, .int (iI (P2_9 0 0)), .int (iI (P2_9 0 1)), .ref p1, .ref p2, .ref p3, .ref p4, .ref p5, .ref p6])), (p1, .inl (k 0, 965, .inl (fun i9 : Nat => iI (u1_10 i9)))), (p2, .inl (k 0, 965, .inl (fun i9 : Nat => iI (u2_11 i9)))), (p3, .inl (k 0, 965, .inl (fun i9 : Nat => iI (u3_12 i9)))), (p4, .inl (k 0, 965, .inl (fun i9 : Nat => iI (u4_13 i9)))), (p5, .inl (k 0, 768, .inl (fun i9 : Nat => iI (f5 i9)))), (p6, .inl (k 0, 5, .inl (fun i9 : Nat => iI (u6_14 i9))))] ++ tl)) rfl B
      have hPA : PA P2_9 rr u1_10 u2_11 u3_12 u4_13 f5 u6_14 := z_16
      have hPn : 0 ≤ P2_9 0 0 ∧ P2_9 0 0 ≤ 965 := z_17
      refine lv_iinc (v := iI (q + 1)) (lv' := [(2, .int (iI (q + 1))), (0, .ref pp), (1, .int (iI st_))]) hx hb dX4_putAlone_29 hl (k := 0) rfl (iI_add _ _) (by decide) rfl (fun ls hl => ?_)
      refine lv_goto (tgt := 2) hx hb dX4_putAlone_32 (by decide) ?_
      exact ih_1 ((q + 1), P2_9, u1_10, u2_11, u3_12, u4_13, u6_14) ⟨(show 0 ≤ (q + 1) ∧ (q + 1) ≤ M 17 0 from (by omega)), (show P2_9 = paS T M st_ P (Int.toNat (q + 1)) from (by rw [paS_s (by omega), if_pos (by omega), ← hq]; exact z_15)), (show PA P2_9 rr u1_10 u2_11 u3_12 u4_13 f5 u6_14 from z_16), (show 0 ≤ P2_9 0 0 ∧ P2_9 0 0 ≤ 965 from z_17)⟩ (by first | omega | (dsimp only; omega)) _ _ _ (lv_sub hl [0, 1, 2] rfl) (bd_to rfl B)

theorem bhF_s {T : Nat → Int → Int → Int → Int} {M P : Nat → Int → Int} {w q : Int} (h : q < 5) : bhF T M (Int.toNat (5 - q)) w P = if w = 0 then P else bhF T M (Int.toNat (5 - (q + 1))) (bDif w (fbZ T M w)) (pfZ T M P (fbZ T M w)) := by
  rw [show Int.toNat (5 - q) = Int.toNat (5 - (q + 1)) + 1 by omega]
  rfl
theorem bnF_s {T : Nat → Int → Int → Int → Int} {M P : Nat → Int → Int} {lf q : Int} (h : q < 965) : bnF T M (Int.toNat (965 - q)) lf P = if lf ≤ 0 then P else bnF T M (Int.toNat (965 - (q + 1))) (lf - min lf (T 17 0 0 0 - 1)) (puP P (M 0 0) 0 (min lf (T 17 0 0 0 - 1)) (min lf (T 17 0 0 0 - 1) + 1)) := by
  rw [show Int.toNat (965 - q) = Int.toNat (965 - (q + 1)) + 1 by omega]
  rfl

theorem dX4_putFiguresBehind_0 : decode cX4_putFiguresBehind 0 = .ok (.iload_n 1, 1) := by decide +kernel
theorem dX4_putFiguresBehind_1 : decode cX4_putFiguresBehind 1 = .ok (.istore_n 2, 1) := by decide +kernel
theorem dX4_putFiguresBehind_2 : decode cX4_putFiguresBehind 2 = .ok (.iconst 0, 1) := by decide +kernel
theorem dX4_putFiguresBehind_3 : decode cX4_putFiguresBehind 3 = .ok (.istore_n 3, 1) := by decide +kernel
theorem dX4_putFiguresBehind_4 : decode cX4_putFiguresBehind 4 = .ok (.iload_n 3, 1) := by decide +kernel
theorem dX4_putFiguresBehind_5 : decode cX4_putFiguresBehind 5 = .ok (.iconst 5, 1) := by decide +kernel
theorem dX4_putFiguresBehind_6 : decode cX4_putFiguresBehind 6 = .ok (.if_icmp .ge 33, 3) := by decide +kernel
theorem dX4_putFiguresBehind_9 : decode cX4_putFiguresBehind 9 = .ok (.iload_n 2, 1) := by decide +kernel
theorem dX4_putFiguresBehind_10 : decode cX4_putFiguresBehind 10 = .ok (.ifCond .eq 29, 3) := by decide +kernel
theorem dX4_putFiguresBehind_13 : decode cX4_putFiguresBehind 13 = .ok (.aload_n 0, 1) := by decide +kernel
theorem dX4_putFiguresBehind_14 : decode cX4_putFiguresBehind 14 = .ok (.iload_n 2, 1) := by decide +kernel
theorem dX4_putFiguresBehind_15 : decode cX4_putFiguresBehind 15 = .ok (.invokevirtual 166, 3) := by decide +kernel
theorem dX4_putFiguresBehind_18 : decode cX4_putFiguresBehind 18 = .ok (.istore 4, 2) := by decide +kernel
theorem dX4_putFiguresBehind_20 : decode cX4_putFiguresBehind 20 = .ok (.aload_n 0, 1) := by decide +kernel
theorem dX4_putFiguresBehind_21 : decode cX4_putFiguresBehind 21 = .ok (.iload 4, 2) := by decide +kernel
theorem dX4_putFiguresBehind_23 : decode cX4_putFiguresBehind 23 = .ok (.invokevirtual 203, 3) := by decide +kernel
theorem dX4_putFiguresBehind_26 : decode cX4_putFiguresBehind 26 = .ok (.iload_n 2, 1) := by decide +kernel
theorem dX4_putFiguresBehind_27 : decode cX4_putFiguresBehind 27 = .ok (.iload 4, 2) := by decide +kernel
theorem dX4_putFiguresBehind_29 : decode cX4_putFiguresBehind 29 = .ok (.iconst (-1), 1) := by decide +kernel
theorem dX4_putFiguresBehind_30 : decode cX4_putFiguresBehind 30 = .ok (.ixor, 1) := by decide +kernel
theorem dX4_putFiguresBehind_31 : decode cX4_putFiguresBehind 31 = .ok (.iand, 1) := by decide +kernel
theorem dX4_putFiguresBehind_32 : decode cX4_putFiguresBehind 32 = .ok (.istore_n 2, 1) := by decide +kernel
theorem dX4_putFiguresBehind_33 : decode cX4_putFiguresBehind 33 = .ok (.iinc 3 1, 3) := by decide +kernel
theorem dX4_putFiguresBehind_36 : decode cX4_putFiguresBehind 36 = .ok (.goto (-32), 3) := by decide +kernel
theorem dX4_putFiguresBehind_39 : decode cX4_putFiguresBehind 39 = .ok (.return_, 1) := by decide +kernel
set_option maxHeartbeats 4000000 in
set_option maxRecDepth 100000 in
theorem k_putFiguresBehind (l : Launch) (dC : Nat → ClassId) (dI : Nat → Nat → Nat) (k : Nat → ClassId) (pp : Nat) (pg : Nat) (so : Nat) (p1 : Nat) (p2 : Nat) (p3 : Nat) (p4 : Nat) (p5 : Nat) (p6 : Nat) (T : Nat → Int → Int → Int → Int) (A : Nat → Int → Int → Nat) (X : Nat → Int → Int → Int) (tl : va_W) (M : Nat → Int → Int) (V : Nat → Int → Int) (Aw : Nat → Nat) (f1 : Int → Int) (f2 : Int → Int) (f3 : Int → Int) (f4 : Int → Int) (f5 : Int → Int) (f6 : Int → Int) (P : Nat → Int → Int) (rr : Int) (wz : Int) (hT : TI dI k T A X tl) (hK : TK T) (hR : RI k (T 0 0 0 0) M V Aw tl) (hM : MK M) (hMT : ∀ j, 0 ≤ j → j < M 0 0 → M 2 j < T 0 0 0 0) (hPA : PA P rr f1 f2 f3 f4 f5 f6) (hPn : 0 ≤ P 0 0 ∧ P 0 0 ≤ 965) (h1 : 0 ≤ wz ∧ wz < 32) : Kn l dC dI k yX4_putFiguresBehind (.code yX4_putFiguresBehind cX4_putFiguresBehind 5 none) ({ frames := 2, cells := 0, slots := 0, locals := 46 } : Room) [.ref pp, .int (iI wz)] ([(pp, .inr (4, [.ref (A 50 0 0), .ref (Aw 20), .ref pg, .ref so, .int (iI (P 0 0)), .int (iI (P 0 1)), .ref p1, .ref p2, .ref p3, .ref p4, .ref p5, .ref p6])), (p1, .inl (k 0, 965, .inl (fun i9 : Nat => iI (f1 i9)))), (p2, .inl (k 0, 965, .inl (fun i9 : Nat => iI (f2 i9)))), (p3, .inl (k 0, 965, .inl (fun i9 : Nat => iI (f3 i9)))), (p4, .inl (k 0, 965, .inl (fun i9 : Nat => iI (f4 i9)))), (p5, .inl (k 0, 768, .inl (fun i9 : Nat => iI (f5 i9)))), (p6, .inl (k 0, 5, .inl (fun i9 : Nat => iI (f6 i9))))] ++ tl) (fun r w gc gs => (∃ (P2 : Nat → Int → Int) (u1 : Int → Int) (u2 : Int → Int) (u3 : Int → Int) (u4 : Int → Int) (u6 : Int → Int), (P2 = bhF T M 5 wz P) ∧ (PA P2 rr u1 u2 u3 u4 f5 u6) ∧ (0 ≤ P2 0 0 ∧ P2 0 0 ≤ 965) ∧ r = none ∧ w = ([(pp, .inr (4, [.ref (A 50 0 0), .ref (Aw 20), .ref pg, .ref so, .int (iI (P2 0 0)), .int (iI (P2 0 1)), .ref p1, .ref p2, .ref p3, .ref p4, .ref p5, .ref p6])), (p1, .inl (k 0, 965, .inl (fun i9 : Nat => iI (u1 i9)))), (p2, .inl (k 0, 965, .inl (fun i9 : Nat => iI (u2 i9)))), (p3, .inl (k 0, 965, .inl (fun i9 : Nat => iI (u3 i9)))), (p4, .inl (k 0, 965, .inl (fun i9 : Nat => iI (u4 i9)))), (p5, .inl (k 0, 768, .inl (fun i9 : Nat => iI (f5 i9)))), (p6, .inl (k 0, 5, .inl (fun i9 : Nat => iI (u6 i9))))] ++ tl) ∧ gc = 0 ∧ gs = 0)) := by
  refine kn_of (by decide) (Nat.le_of_ble_eq_true rfl) ?_
  intro p e s m args below meth c H locs B hr hnm ls hl
  have hx := B.1.1
  have hb := B.1.2.1
  have hl : lv_has ls 5 [(0, .ref pp), (1, .int (iI wz))] := hl
  have hn0 := MK_cnt hM
  have hf0 := MK_17 hM
  refine lv_iload_n hx hb dX4_putFiguresBehind_0 rfl (lv_at hl 1 rfl) ?_
  refine lv_istore_n (lv' := [(2, .int (iI wz)), (0, .ref pp), (1, .int (iI wz))]) hx hb dX4_putFiguresBehind_1 rfl hl (by decide) rfl (fun ls hl => ?_)
  refine lv_iconst (v := iI 0) hx hb dX4_putFiguresBehind_2 (by decide) ?_
  refine lv_istore_n (lv' := [(3, .int (iI 0)), (2, .int (iI wz)), (0, .ref pp), (1, .int (iI wz))]) hx hb dX4_putFiguresBehind_3 rfl hl (by decide) rfl (fun ls hl => ?_)
  refine k_loop (σ := Int × Int × (Nat → Int → Int) × (Int → Int) × (Int → Int) × (Int → Int) × (Int → Int) × (Int → Int)) B (fun g9 : Int × Int × (Nat → Int → Int) × (Int → Int) × (Int → Int) × (Int → Int) × (Int → Int) × (Int → Int) => (0 ≤ g9.1 ∧ g9.1 ≤ 5 ∧ 0 ≤ g9.2.1 ∧ g9.2.1 < 32) ∧ (bhF T M (Int.toNat (5 - g9.1)) g9.2.1 g9.2.2.1 = bhF T M 5 wz P) ∧ (PA g9.2.2.1 rr g9.2.2.2.1 g9.2.2.2.2.1 g9.2.2.2.2.2.1 g9.2.2.2.2.2.2.1 f5 g9.2.2.2.2.2.2.2) ∧ (0 ≤ g9.2.2.1 0 0 ∧ g9.2.2.1 0 0 ≤ 965)) (fun g9 : Int × Int × (Nat → Int → Int) × (Int → Int) × (Int → Int) × (Int → Int) × (Int → Int) × (Int → Int) => (5 - g9.1).toNat) (fun g9 : Int × Int × (Nat → Int → Int) × (Int → Int) × (Int → Int) × (Int → Int) × (Int → Int) × (Int → Int) => [(3, .int (iI g9.1)), (2, .int (iI g9.2.1)), (0, .ref pp), (1, .int (iI wz))]) (fun g9 : Int × Int × (Nat → Int → Int) × (Int → Int) × (Int → Int) × (Int → Int) × (Int → Int) × (Int → Int) => ([(pp, .inr (4, [.ref (A 50 0 0), .ref (Aw 20), .ref pg, .ref so, .int (iI (g9.2.2.1 0 0)), .int (iI (g9.2.2.1 0 1)), .ref p1, .ref p2, .ref p3, .ref p4, .ref p5, .ref p6])), (p1, .inl (k 0, 965, .inl (fun i9 : Nat => iI (g9.2.2.2.1 i9)))), (p2, .inl (k 0, 965, .inl (fun i9 : Nat => iI (g9.2.2.2.2.1 i9)))), (p3, .inl (k 0, 965, .inl (fun i9 : Nat => iI (g9.2.2.2.2.2.1 i9)))), (p4, .inl (k 0, 965, .inl (fun i9 : Nat => iI (g9.2.2.2.2.2.2.1 i9)))), (p5, .inl (k 0, 768, .inl (fun i9 : Nat => iI (f5 i9)))), (p6, .inl (k 0, 5, .inl (fun i9 : Nat => iI (g9.2.2.2.2.2.2.2 i9))))] ++ tl)) ?_ (0, wz, P, f1, f2, f3, f4, f6) ⟨(show 0 ≤ 0 ∧ 0 ≤ 5 ∧ 0 ≤ wz ∧ wz < 32 from (by omega)), (show bhF T M (Int.toNat (5 - 0)) wz P = bhF T M 5 wz P from rfl), (show PA P rr f1 f2 f3 f4 f5 f6 from hPA), (show 0 ≤ P 0 0 ∧ P 0 0 ≤ 965 from hPn)⟩ ls H locs (lv_sub hl [0, 1, 2, 3] rfl) (bd_to rfl B)
  clear hl B
  rintro ⟨q, wx, P9, v1, v2, v3, v4, v6⟩ ⟨hk, hq, hPA, hPn⟩ ih_1 ls H locs hl B
  have hk : 0 ≤ q ∧ q ≤ 5 ∧ 0 ≤ wx ∧ wx < 32 := hk
  have hq : bhF T M (Int.toNat (5 - q)) wx P9 = bhF T M 5 wz P := hq
  have hPA : PA P9 rr v1 v2 v3 v4 f5 v6 := hPA
  have hPn : 0 ≤ P9 0 0 ∧ P9 0 0 ≤ 965 := hPn
  have hl : lv_has ls 5 [(3, .int (iI q)), (2, .int (iI wx)), (0, .ref pp), (1, .int (iI wz))] := hl
  have B := bd_to (ws' := ([(pp, .inr (4, [.ref (A 50 0 0), .ref (Aw 20), .ref pg, .ref so, .int (iI (P9 0 0)), .int (iI (P9 0 1)), .ref p1, .ref p2, .ref p3, .ref p4, .ref p5, .ref p6])), (p1, .inl (k 0, 965, .inl (fun i9 : Nat => iI (v1 i9)))), (p2, .inl (k 0, 965, .inl (fun i9 : Nat => iI (v2 i9)))), (p3, .inl (k 0, 965, .inl (fun i9 : Nat => iI (v3 i9)))), (p4, .inl (k 0, 965, .inl (fun i9 : Nat => iI (v4 i9)))), (p5, .inl (k 0, 768, .inl (fun i9 : Nat => iI (f5 i9)))), (p6, .inl (k 0, 5, .inl (fun i9 : Nat => iI (v6 i9))))] ++ tl)) rfl B
  refine lv_iload_n hx hb dX4_putFiguresBehind_4 rfl (lv_at hl 0 rfl) ?_
  refine lv_iconst (v := iI 5) hx hb dX4_putFiguresBehind_5 (by decide) ?_
  refine lv_icmp_ge (tgt := 39) hx hb dX4_putFiguresBehind_6 (by decide) (fun c_2 => ?_) (fun c_2 => ?_)
  · have zc_2 : 5 ≤ q := jle (a := 5) (b := q) (by omega) (by omega) c_2
    exact k_vret B hr (⟨P9, v1, v2, v3, v4, v6, (by rw [← hq]; first | (rw [show Int.toNat (5 - q) = 0 by omega]; rfl) | (rw [bhF_s (by omega), if_pos (by omega)])), hPA, hPn, rfl, rfl, rfl, rfl⟩) ⟨Nat.le_of_ble_eq_true rfl, Nat.le_of_ble_eq_true rfl⟩ ⟨Nat.le_of_ble_eq_true rfl, Nat.le_of_ble_eq_true rfl⟩ dX4_putFiguresBehind_39
  · have zc_2 : q < 5 := jnle (a := 5) (b := q) (by omega) (by omega) c_2
    refine lv_iload_n hx hb dX4_putFiguresBehind_9 rfl (lv_at hl 1 rfl) ?_
    refine lv_if_eq (tgt := 39) hx hb dX4_putFiguresBehind_10 (by decide) (fun c_3 => ?_) (fun c_3 => ?_)
    · have zc_3 : wx = 0 := jeq (a := wx) (b := 0) (by omega) (by omega) c_3
      exact k_vret B hr (⟨P9, v1, v2, v3, v4, v6, (by rw [← hq]; first | (rw [show Int.toNat (5 - q) = 0 by omega]; rfl) | (rw [bhF_s (by omega), if_pos (by omega)])), hPA, hPn, rfl, rfl, rfl, rfl⟩) ⟨Nat.le_of_ble_eq_true rfl, Nat.le_of_ble_eq_true rfl⟩ ⟨Nat.le_of_ble_eq_true rfl, Nat.le_of_ble_eq_true rfl⟩ dX4_putFiguresBehind_39
    · have zc_3 : wx ≠ 0 := jne (a := wx) (b := 0) (by omega) (by omega) c_3
      refine lv_aload_n hx hb dX4_putFiguresBehind_13 rfl (lv_at hl 2 rfl) ?_
      refine lv_iload_n hx hb dX4_putFiguresBehind_14 rfl (lv_at hl 1 rfl) ?_
      have B := bd_swap (a := [(pp, .inr (4, [.ref (A 50 0 0), .ref (Aw 20), .ref pg, .ref so, .int (iI (P9 0 0)), .int (iI (P9 0 1)), .ref p1, .ref p2, .ref p3, .ref p4, .ref p5, .ref p6]))]) (b := [(p1, .inl (k 0, 965, .inl (fun i9 : Nat => iI (v1 i9)))), (p2, .inl (k 0, 965, .inl (fun i9 : Nat => iI (v2 i9)))), (p3, .inl (k 0, 965, .inl (fun i9 : Nat => iI (v3 i9)))), (p4, .inl (k 0, 965, .inl (fun i9 : Nat => iI (v4 i9)))), (p5, .inl (k 0, 768, .inl (fun i9 : Nat => iI (f5 i9)))), (p6, .inl (k 0, 5, .inl (fun i9 : Nat => iI (v6 i9))))]) (d := tl) (bd_to rfl B)
      refine k_V (rest := []) (wc := ([(pp, .inr (4, [.ref (A 50 0 0), .ref (Aw 20), .ref pg, .ref so, .int (iI (P9 0 0)), .int (iI (P9 0 1)), .ref p1, .ref p2, .ref p3, .ref p4, .ref p5, .ref p6]))] ++ tl)) (wr := [(p1, .inl (k 0, 965, .inl (fun i9 : Nat => iI (v1 i9)))), (p2, .inl (k 0, 965, .inl (fun i9 : Nat => iI (v2 i9)))), (p3, .inl (k 0, 965, .inl (fun i9 : Nat => iI (v3 i9)))), (p4, .inl (k 0, 965, .inl (fun i9 : Nat => iI (v4 i9)))), (p5, .inl (k 0, 768, .inl (fun i9 : Nat => iI (f5 i9)))), (p6, .inl (k 0, 5, .inl (fun i9 : Nat => iI (v6 i9))))]) (k_figuresBehind l dC dI k pp pg so p1 p2 p3 p4 p5 p6 (P9 0 0) (P9 0 1) T A X tl M V Aw wx hT hK hR hM hMT (by omega)) B mV_X4_figuresBehind mw_1613 hl (q0 := 0) rfl rfl rfl ⟨Nat.le_of_ble_eq_true rfl, Nat.le_of_ble_eq_true rfl⟩ (Nat.le_of_ble_eq_true rfl) rfl dX4_putFiguresBehind_15 ⟨Nat.le_of_ble_eq_true rfl, Nat.le_of_ble_eq_true rfl⟩ (fun r w gc gs H locs hp B => ?_)
      obtain ⟨z_4, rfl, hw9, rfl, rfl⟩ := hp
      rw [hw9] at B; clear hw9
      have B := bd_to (ws' := ([(p1, .inl (k 0, 965, .inl (fun i9 : Nat => iI (v1 i9)))), (p2, .inl (k 0, 965, .inl (fun i9 : Nat => iI (v2 i9)))), (p3, .inl (k 0, 965, .inl (fun i9 : Nat => iI (v3 i9)))), (p4, .inl (k 0, 965, .inl (fun i9 : Nat => iI (v4 i9)))), (p5, .inl (k 0, 768, .inl (fun i9 : Nat => iI (f5 i9)))), (p6, .inl (k 0, 5, .inl (fun i9 : Nat => iI (v6 i9)))), (pp, .inr (4, [.ref (A 50 0 0), .ref (Aw 20), .ref pg, .ref so, .int (iI (P9 0 0)), .int (iI (P9 0 1)), .ref p1, .ref p2, .ref p3, .ref p4, .ref p5, .ref p6]))] ++ tl)) rfl B
      refine lv_istore (lv' := [(4, .int (iI (fbZ T M wx))), (3, .int (iI q)), (2, .int (iI wx)), (0, .ref pp), (1, .int (iI wz))]) hx hb dX4_putFiguresBehind_18 hl (by decide) rfl (fun ls hl => ?_)
      refine lv_aload_n hx hb dX4_putFiguresBehind_20 rfl (lv_at hl 3 rfl) ?_
      refine lv_iload hx hb dX4_putFiguresBehind_21 (lv_at hl 0 rfl) ?_
      have B := bd_pick (hs := [(p1, .inl (k 0, 965, .inl (fun i9 : Nat => iI (v1 i9)))), (p2, .inl (k 0, 965, .inl (fun i9 : Nat => iI (v2 i9)))), (p3, .inl (k 0, 965, .inl (fun i9 : Nat => iI (v3 i9)))), (p4, .inl (k 0, 965, .inl (fun i9 : Nat => iI (v4 i9)))), (p5, .inl (k 0, 768, .inl (fun i9 : Nat => iI (f5 i9)))), (p6, .inl (k 0, 5, .inl (fun i9 : Nat => iI (v6 i9)))), (pp, .inr (4, [.ref (A 50 0 0), .ref (Aw 20), .ref pg, .ref so, .int (iI (P9 0 0)), .int (iI (P9 0 1)), .ref p1, .ref p2, .ref p3, .ref p4, .ref p5, .ref p6]))]) (ws' := [(pp, .inr (4, [.ref (A 50 0 0), .ref (Aw 20), .ref pg, .ref so, .int (iI (P9 0 0)), .int (iI (P9 0 1)), .ref p1, .ref p2, .ref p3, .ref p4, .ref p5, .ref p6])), (p1, .inl (k 0, 965, .inl (fun i9 : Nat => iI (v1 i9)))), (p2, .inl (k 0, 965, .inl (fun i9 : Nat => iI (v2 i9)))), (p3, .inl (k 0, 965, .inl (fun i9 : Nat => iI (v3 i9)))), (p4, .inl (k 0, 965, .inl (fun i9 : Nat => iI (v4 i9)))), (p5, .inl (k 0, 768, .inl (fun i9 : Nat => iI (f5 i9)))), (p6, .inl (k 0, 5, .inl (fun i9 : Nat => iI (v6 i9))))]) (tl := tl) [6, 0, 1, 2, 3, 4, 5] (by decide) rfl B
      have B := bd_swap (a := [(pp, .inr (4, [.ref (A 50 0 0), .ref (Aw 20), .ref pg, .ref so, .int (iI (P9 0 0)), .int (iI (P9 0 1)), .ref p1, .ref p2, .ref p3, .ref p4, .ref p5, .ref p6])), (p1, .inl (k 0, 965, .inl (fun i9 : Nat => iI (v1 i9)))), (p2, .inl (k 0, 965, .inl (fun i9 : Nat => iI (v2 i9)))), (p3, .inl (k 0, 965, .inl (fun i9 : Nat => iI (v3 i9)))), (p4, .inl (k 0, 965, .inl (fun i9 : Nat => iI (v4 i9)))), (p5, .inl (k 0, 768, .inl (fun i9 : Nat => iI (f5 i9)))), (p6, .inl (k 0, 5, .inl (fun i9 : Nat => iI (v6 i9))))]) (b := []) (d := tl) (bd_to rfl B)
      refine k_V (rest := []) (wc := ([(pp, .inr (4, [.ref (A 50 0 0), .ref (Aw 20), .ref pg, .ref so, .int (iI (P9 0 0)), .int (iI (P9 0 1)), .ref p1, .ref p2, .ref p3, .ref p4, .ref p5, .ref p6])), (p1, .inl (k 0, 965, .inl (fun i9 : Nat => iI (v1 i9)))), (p2, .inl (k 0, 965, .inl (fun i9 : Nat => iI (v2 i9)))), (p3, .inl (k 0, 965, .inl (fun i9 : Nat => iI (v3 i9)))), (p4, .inl (k 0, 965, .inl (fun i9 : Nat => iI (v4 i9)))), (p5, .inl (k 0, 768, .inl (fun i9 : Nat => iI (f5 i9)))), (p6, .inl (k 0, 5, .inl (fun i9 : Nat => iI (v6 i9))))] ++ tl)) (wr := []) (k_putFigures l dC dI k pp pg so p1 p2 p3 p4 p5 p6 T A X tl M V Aw v1 v2 v3 v4 f5 v6 P9 rr (fbZ T M wx) hT hK hR hM hMT hPA hPn z_4) B mV_X4_putFigures mw_1638 hl (q0 := 0) rfl rfl rfl ⟨Nat.le_of_ble_eq_true rfl, Nat.le_of_ble_eq_true rfl⟩ (Nat.le_of_ble_eq_true rfl) rfl dX4_putFiguresBehind_23 ⟨Nat.le_of_ble_eq_true rfl, Nat.le_of_ble_eq_true rfl⟩ (fun r w gc gs H locs hp B => ?_)
      obtain ⟨P2_5, u1_6, u2_7, u3_8, u4_9, u6_10, z_11, z_12, z_13, rfl, hw9, rfl, rfl⟩ := hp
      rw [hw9] at B; clear hw9
      have B := bd_to (ws' := ([(pp, .inr (4, [.ref (A 50 0 0), .ref (Aw 20), .ref pg, .ref so, .int (iI (P2_5 0 0)), .int (iI (P2_5 0 1)), .ref p1, .ref p2, .ref p3, .ref p4, .ref p5, .ref p6])), (p1, .inl (k 0, 965, .inl (fun i9 : Nat => iI (u1_6 i9)))), (p2, .inl (k 0, 965, .inl (fun i9 : Nat => iI (u2_7 i9)))), (p3, .inl (k 0, 965, .inl (fun i9 : Nat => iI (u3_8 i9)))), (p4, .inl (k 0, 965, .inl (fun i9 : Nat => iI (u4_9 i9)))), (p5, .inl (k 0, 768, .inl (fun i9 : Nat => iI (f5 i9)))), (p6, .inl (k 0, 5, .inl (fun i9 : Nat => iI (u6_10 i9))))] ++ tl)) rfl B
      have hPA : PA P2_5 rr u1_6 u2_7 u3_8 u4_9 f5 u6_10 := z_12
      have hPn : 0 ≤ P2_5 0 0 ∧ P2_5 0 0 ≤ 965 := z_13
      refine lv_iload_n hx hb dX4_putFiguresBehind_26 rfl (lv_at hl 2 rfl) ?_
      refine lv_iload hx hb dX4_putFiguresBehind_27 (lv_at hl 0 rfl) ?_
      refine lv_iconst (v := iI (-1)) hx hb dX4_putFiguresBehind_29 (by decide) ?_
      refine y_not hx hb dX4_putFiguresBehind_30 ?_
      refine y_dif hx hb (a := wx) (b := (fbZ T M wx)) (by omega) (by omega) dX4_putFiguresBehind_31 ?_
      have z_14 : 0 ≤ (bDif wx (fbZ T M wx)) ∧ (bDif wx (fbZ T M wx)) ≤ wx := bDif_le (by omega)
      refine lv_istore_n (lv' := [(2, .int (iI (bDif wx (fbZ T M wx)))), (4, .int (iI (fbZ T M wx))), (3, .int (iI q)), (0, .ref pp), (1, .int (iI wz))]) hx hb dX4_putFiguresBehind_32 rfl hl (by decide) rfl (fun ls hl => ?_)
      refine lv_iinc (v := iI (q + 1)) (lv' := [(3, .int (iI (q + 1))), (2, .int (iI (bDif wx (fbZ T M wx)))), (4, .int (iI (fbZ T M wx))), (0, .ref pp), (1, .int (iI wz))]) hx hb dX4_putFiguresBehind_33 hl (k := 2) rfl (iI_add _ _) (by decide) rfl (fun ls hl => ?_)
      refine lv_goto (tgt := 4) hx hb dX4_putFiguresBehind_36 (by decide) ?_
      exact ih_1 ((q + 1), (bDif wx (fbZ T M wx)), P2_5, u1_6, u2_7, u3_8, u4_9, u6_10) ⟨(show 0 ≤ (q + 1) ∧ (q + 1) ≤ 5 ∧ 0 ≤ (bDif wx (fbZ T M wx)) ∧ (bDif wx (fbZ T M wx)) < 32 from (by omega)), (show bhF T M (Int.toNat (5 - (q + 1))) (bDif wx (fbZ T M wx)) P2_5 = bhF T M 5 wz P from (by rw [← hq, bhF_s (q := q) (by omega), if_neg (by omega), z_11])), (show PA P2_5 rr u1_6 u2_7 u3_8 u4_9 f5 u6_10 from z_12), (show 0 ≤ P2_5 0 0 ∧ P2_5 0 0 ≤ 965 from z_13)⟩ (by first | omega | (dsimp only; omega)) _ _ _ (lv_sub hl [0, 1, 3, 4] rfl) (bd_to rfl B)

theorem mw_1650 : (Jvm.Cond.methodLink "Galleyforge$Pages" (206 : Nat) ({ cls := "java/lang/Math", name := "min", desc := "(II)I" } : Jvm.MethodName)) ∈ gt := gt_at 1720 (by decide +kernel) (by decide +kernel)
theorem dX4_putNotesBehind_0 : decode cX4_putNotesBehind 0 = .ok (.iload_n 1, 1) := by decide +kernel
theorem dX4_putNotesBehind_1 : decode cX4_putNotesBehind 1 = .ok (.istore_n 2, 1) := by decide +kernel
theorem dX4_putNotesBehind_2 : decode cX4_putNotesBehind 2 = .ok (.iconst 0, 1) := by decide +kernel
theorem dX4_putNotesBehind_3 : decode cX4_putNotesBehind 3 = .ok (.istore_n 3, 1) := by decide +kernel
theorem dX4_putNotesBehind_4 : decode cX4_putNotesBehind 4 = .ok (.iload_n 3, 1) := by decide +kernel
theorem dX4_putNotesBehind_5 : decode cX4_putNotesBehind 5 = .ok (.sipush 965, 3) := by decide +kernel
theorem dX4_putNotesBehind_8 : decode cX4_putNotesBehind 8 = .ok (.if_icmp .ge 51, 3) := by decide +kernel
theorem dX4_putNotesBehind_11 : decode cX4_putNotesBehind 11 = .ok (.iload_n 2, 1) := by decide +kernel
theorem dX4_putNotesBehind_12 : decode cX4_putNotesBehind 12 = .ok (.ifCond .le 47, 3) := by decide +kernel
theorem dX4_putNotesBehind_15 : decode cX4_putNotesBehind 15 = .ok (.iload_n 2, 1) := by decide +kernel
theorem dX4_putNotesBehind_16 : decode cX4_putNotesBehind 16 = .ok (.aload_n 0, 1) := by decide +kernel
theorem dX4_putNotesBehind_17 : decode cX4_putNotesBehind 17 = .ok (.getfield 30, 3) := by decide +kernel
theorem dX4_putNotesBehind_20 : decode cX4_putNotesBehind 20 = .ok (.getfield 163, 3) := by decide +kernel
theorem dX4_putNotesBehind_23 : decode cX4_putNotesBehind 23 = .ok (.iconst 1, 1) := by decide +kernel
theorem dX4_putNotesBehind_24 : decode cX4_putNotesBehind 24 = .ok (.isub, 1) := by decide +kernel
theorem dX4_putNotesBehind_25 : decode cX4_putNotesBehind 25 = .ok (.invokestatic 206, 3) := by decide +kernel
theorem dX4_putNotesBehind_28 : decode cX4_putNotesBehind 28 = .ok (.istore 4, 2) := by decide +kernel
theorem dX4_putNotesBehind_30 : decode cX4_putNotesBehind 30 = .ok (.aload_n 0, 1) := by decide +kernel
theorem dX4_putNotesBehind_31 : decode cX4_putNotesBehind 31 = .ok (.aload_n 0, 1) := by decide +kernel
theorem dX4_putNotesBehind_32 : decode cX4_putNotesBehind 32 = .ok (.getfield 34, 3) := by decide +kernel
theorem dX4_putNotesBehind_35 : decode cX4_putNotesBehind 35 = .ok (.getfield 64, 3) := by decide +kernel
theorem dX4_putNotesBehind_38 : decode cX4_putNotesBehind 38 = .ok (.iconst 0, 1) := by decide +kernel
theorem dX4_putNotesBehind_39 : decode cX4_putNotesBehind 39 = .ok (.iload 4, 2) := by decide +kernel
theorem dX4_putNotesBehind_41 : decode cX4_putNotesBehind 41 = .ok (.iload 4, 2) := by decide +kernel
theorem dX4_putNotesBehind_43 : decode cX4_putNotesBehind 43 = .ok (.iconst 1, 1) := by decide +kernel
theorem dX4_putNotesBehind_44 : decode cX4_putNotesBehind 44 = .ok (.iadd, 1) := by decide +kernel
theorem dX4_putNotesBehind_45 : decode cX4_putNotesBehind 45 = .ok (.invokevirtual 191, 3) := by decide +kernel
theorem dX4_putNotesBehind_48 : decode cX4_putNotesBehind 48 = .ok (.iload_n 2, 1) := by decide +kernel
theorem dX4_putNotesBehind_49 : decode cX4_putNotesBehind 49 = .ok (.iload 4, 2) := by decide +kernel
theorem dX4_putNotesBehind_51 : decode cX4_putNotesBehind 51 = .ok (.isub, 1) := by decide +kernel
theorem dX4_putNotesBehind_52 : decode cX4_putNotesBehind 52 = .ok (.istore_n 2, 1) := by decide +kernel
theorem dX4_putNotesBehind_53 : decode cX4_putNotesBehind 53 = .ok (.iinc 3 1, 3) := by decide +kernel
theorem dX4_putNotesBehind_56 : decode cX4_putNotesBehind 56 = .ok (.goto (-52), 3) := by decide +kernel
theorem dX4_putNotesBehind_59 : decode cX4_putNotesBehind 59 = .ok (.return_, 1) := by decide +kernel
set_option maxHeartbeats 4000000 in
set_option maxRecDepth 100000 in
theorem k_putNotesBehind (l : Launch) (dC : Nat → ClassId) (dI : Nat → Nat → Nat) (k : Nat → ClassId) (pp : Nat) (pg : Nat) (so : Nat) (p1 : Nat) (p2 : Nat) (p3 : Nat) (p4 : Nat) (p5 : Nat) (p6 : Nat) (T : Nat → Int → Int → Int → Int) (A : Nat → Int → Int → Nat) (X : Nat → Int → Int → Int) (tl : va_W) (M : Nat → Int → Int) (V : Nat → Int → Int) (Aw : Nat → Nat) (f1 : Int → Int) (f2 : Int → Int) (f3 : Int → Int) (f4 : Int → Int) (f5 : Int → Int) (f6 : Int → Int) (P : Nat → Int → Int) (rr : Int) (lz : Int) (hT : TI dI k T A X tl) (hK : TK T) (hR : RI k (T 0 0 0 0) M V Aw tl) (hM : MK M) (hMT : ∀ j, 0 ≤ j → j < M 0 0 → M 2 j < T 0 0 0 0) (hPA : PA P rr f1 f2 f3 f4 f5 f6) (hPn : 0 ≤ P 0 0 ∧ P 0 0 ≤ 965) (h1 : 0 ≤ lz ∧ lz < 1000000) : Kn l dC dI k yX4_putNotesBehind (.code yX4_putNotesBehind cX4_putNotesBehind 5 none) ({ frames := 1, cells := 0, slots := 0, locals := 24 } : Room) [.ref pp, .int (iI lz)] ([(pp, .inr (4, [.ref (A 50 0 0), .ref (Aw 20), .ref pg, .ref so, .int (iI (P 0 0)), .int (iI (P 0 1)), .ref p1, .ref p2, .ref p3, .ref p4, .ref p5, .ref p6])), (p1, .inl (k 0, 965, .inl (fun i9 : Nat => iI (f1 i9)))), (p2, .inl (k 0, 965, .inl (fun i9 : Nat => iI (f2 i9)))), (p3, .inl (k 0, 965, .inl (fun i9 : Nat => iI (f3 i9)))), (p4, .inl (k 0, 965, .inl (fun i9 : Nat => iI (f4 i9)))), (p5, .inl (k 0, 768, .inl (fun i9 : Nat => iI (f5 i9)))), (p6, .inl (k 0, 5, .inl (fun i9 : Nat => iI (f6 i9))))] ++ tl) (fun r w gc gs => (∃ (P2 : Nat → Int → Int) (u1 : Int → Int) (u2 : Int → Int) (u3 : Int → Int) (u4 : Int → Int), (P2 = bnF T M 965 lz P) ∧ (PA P2 rr u1 u2 u3 u4 f5 f6) ∧ (0 ≤ P2 0 0 ∧ P2 0 0 ≤ 965) ∧ r = none ∧ w = ([(pp, .inr (4, [.ref (A 50 0 0), .ref (Aw 20), .ref pg, .ref so, .int (iI (P2 0 0)), .int (iI (P2 0 1)), .ref p1, .ref p2, .ref p3, .ref p4, .ref p5, .ref p6])), (p1, .inl (k 0, 965, .inl (fun i9 : Nat => iI (u1 i9)))), (p2, .inl (k 0, 965, .inl (fun i9 : Nat => iI (u2 i9)))), (p3, .inl (k 0, 965, .inl (fun i9 : Nat => iI (u3 i9)))), (p4, .inl (k 0, 965, .inl (fun i9 : Nat => iI (u4 i9)))), (p5, .inl (k 0, 768, .inl (fun i9 : Nat => iI (f5 i9)))), (p6, .inl (k 0, 5, .inl (fun i9 : Nat => iI (f6 i9))))] ++ tl) ∧ gc = 0 ∧ gs = 0)) := by
  refine kn_of (by decide) (Nat.le_of_ble_eq_true rfl) ?_
  intro p e s m args below meth c H locs B hr hnm ls hl
  have hx := B.1.1
  have hb := B.1.2.1
  have hl : lv_has ls 5 [(0, .ref pp), (1, .int (iI lz))] := hl
  have hn0 := MK_cnt hM
  have hf0 := MK_17 hM
  refine lv_iload_n hx hb dX4_putNotesBehind_0 rfl (lv_at hl 1 rfl) ?_
  refine lv_istore_n (lv' := [(2, .int (iI lz)), (0, .ref pp), (1, .int (iI lz))]) hx hb dX4_putNotesBehind_1 rfl hl (by decide) rfl (fun ls hl => ?_)
  refine lv_iconst (v := iI 0) hx hb dX4_putNotesBehind_2 (by decide) ?_
  refine lv_istore_n (lv' := [(3, .int (iI 0)), (2, .int (iI lz)), (0, .ref pp), (1, .int (iI lz))]) hx hb dX4_putNotesBehind_3 rfl hl (by decide) rfl (fun ls hl => ?_)
  refine k_loop (σ := Int × Int × (Nat → Int → Int) × (Int → Int) × (Int → Int) × (Int → Int) × (Int → Int)) B (fun g9 : Int × Int × (Nat → Int → Int) × (Int → Int) × (Int → Int) × (Int → Int) × (Int → Int) => (0 ≤ g9.1 ∧ g9.1 ≤ 965 ∧ 0 ≤ g9.2.1 ∧ g9.2.1 < 1000000) ∧ (bnF T M (Int.toNat (965 - g9.1)) g9.2.1 g9.2.2.1 = bnF T M 965 lz P) ∧ (PA g9.2.2.1 rr g9.2.2.2.1 g9.2.2.2.2.1 g9.2.2.2.2.2.1 g9.2.2.2.2.2.2 f5 f6) ∧ (0 ≤ g9.2.2.1 0 0 ∧ g9.2.2.1 0 0 ≤ 965)) (fun g9 : Int × Int × (Nat → Int → Int) × (Int → Int) × (Int → Int) × (Int → Int) × (Int → Int) => (965 - g9.1).toNat) (fun g9 : Int × Int × (Nat → Int → Int) × (Int → Int) × (Int → Int) × (Int → Int) × (Int → Int) => [(3, .int (iI g9.1)), (2, .int (iI g9.2.1)), (0, .ref pp), (1, .int (iI lz))]) (fun g9 : Int × Int × (Nat → Int → Int) × (Int → Int) × (Int → Int) × (Int → Int) × (Int → Int) => ([(pp, .inr (4, [.ref (A 50 0 0), .ref (Aw 20), .ref pg, .ref so, .int (iI (g9.2.2.1 0 0)), .int (iI (g9.2.2.1 0 1)), .ref p1, .ref p2, .ref p3, .ref p4, .ref p5, .ref p6])), (p1, .inl (k 0, 965, .inl (fun i9 : Nat => iI (g9.2.2.2.1 i9)))), (p2, .inl (k 0, 965, .inl (fun i9 : Nat => iI (g9.2.2.2.2.1 i9)))), (p3, .inl (k 0, 965, .inl (fun i9 : Nat => iI (g9.2.2.2.2.2.1 i9)))), (p4, .inl (k 0, 965, .inl (fun i9 : Nat => iI (g9.2.2.2.2.2.2 i9)))), (p5, .inl (k 0, 768, .inl (fun i9 : Nat => iI (f5 i9)))), (p6, .inl (k 0, 5, .inl (fun i9 : Nat => iI (f6 i9))))] ++ tl)) ?_ (0, lz, P, f1, f2, f3, f4) ⟨(show 0 ≤ 0 ∧ 0 ≤ 965 ∧ 0 ≤ lz ∧ lz < 1000000 from (by omega)), (show bnF T M (Int.toNat (965 - 0)) lz P = bnF T M 965 lz P from rfl), (show PA P rr f1 f2 f3 f4 f5 f6 from hPA), (show 0 ≤ P 0 0 ∧ P 0 0 ≤ 965 from hPn)⟩ ls H locs (lv_sub hl [0, 1, 2, 3] rfl) (bd_to rfl B)
  clear hl B
  rintro ⟨q, lx, P9, v1, v2, v3, v4⟩ ⟨hk, hq, hPA, hPn⟩ ih_1 ls H locs hl B
  have hk : 0 ≤ q ∧ q ≤ 965 ∧ 0 ≤ lx ∧ lx < 1000000 := hk
  have hq : bnF T M (Int.toNat (965 - q)) lx P9 = bnF T M 965 lz P := hq
  have hPA : PA P9 rr v1 v2 v3 v4 f5 f6 := hPA
  have hPn : 0 ≤ P9 0 0 ∧ P9 0 0 ≤ 965 := hPn
  have hl : lv_has ls 5 [(3, .int (iI q)), (2, .int (iI lx)), (0, .ref pp), (1, .int (iI lz))] := hl
  have B := bd_to (ws' := ([(pp, .inr (4, [.ref (A 50 0 0), .ref (Aw 20), .ref pg, .ref so, .int (iI (P9 0 0)), .int (iI (P9 0 1)), .ref p1, .ref p2, .ref p3, .ref p4, .ref p5, .ref p6])), (p1, .inl (k 0, 965, .inl (fun i9 : Nat => iI (v1 i9)))), (p2, .inl (k 0, 965, .inl (fun i9 : Nat => iI (v2 i9)))), (p3, .inl (k 0, 965, .inl (fun i9 : Nat => iI (v3 i9)))), (p4, .inl (k 0, 965, .inl (fun i9 : Nat => iI (v4 i9)))), (p5, .inl (k 0, 768, .inl (fun i9 : Nat => iI (f5 i9)))), (p6, .inl (k 0, 5, .inl (fun i9 : Nat => iI (f6 i9))))] ++ tl)) rfl B
  refine lv_iload_n hx hb dX4_putNotesBehind_4 rfl (lv_at hl 0 rfl) ?_
  refine lv_sipush (v := iI 965) hx hb dX4_putNotesBehind_5 (by decide) ?_
  refine lv_icmp_ge (tgt := 59) hx hb dX4_putNotesBehind_8 (by decide) (fun c_2 => ?_) (fun c_2 => ?_)
  · have zc_2 : 965 ≤ q := jle (a := 965) (b := q) (by omega) (by omega) c_2
    exact k_vret B hr (⟨P9, v1, v2, v3, v4, (by rw [← hq]; first | (rw [show Int.toNat (965 - q) = 0 by omega]; rfl) | (rw [bnF_s (by omega), if_pos (by omega)])), hPA, hPn, rfl, rfl, rfl, rfl⟩) ⟨Nat.le_of_ble_eq_true rfl, Nat.le_of_ble_eq_true rfl⟩ ⟨Nat.le_of_ble_eq_true rfl, Nat.le_of_ble_eq_true rfl⟩ dX4_putNotesBehind_59
  · have zc_2 : q < 965 := jnle (a := 965) (b := q) (by omega) (by omega) c_2
    refine lv_iload_n hx hb dX4_putNotesBehind_11 rfl (lv_at hl 1 rfl) ?_
    refine lv_if_le (tgt := 59) hx hb dX4_putNotesBehind_12 (by decide) (fun c_3 => ?_) (fun c_3 => ?_)
    · have zc_3 : lx ≤ 0 := jle (a := lx) (b := 0) (by omega) (by omega) c_3
      exact k_vret B hr (⟨P9, v1, v2, v3, v4, (by rw [← hq]; first | (rw [show Int.toNat (965 - q) = 0 by omega]; rfl) | (rw [bnF_s (by omega), if_pos (by omega)])), hPA, hPn, rfl, rfl, rfl, rfl⟩) ⟨Nat.le_of_ble_eq_true rfl, Nat.le_of_ble_eq_true rfl⟩ ⟨Nat.le_of_ble_eq_true rfl, Nat.le_of_ble_eq_true rfl⟩ dX4_putNotesBehind_59
    · have zc_3 : 0 < lx := jnle (a := lx) (b := 0) (by omega) (by omega) c_3
      refine lv_iload_n hx hb dX4_putNotesBehind_15 rfl (lv_at hl 1 rfl) ?_
      refine lv_aload_n hx hb dX4_putNotesBehind_16 rfl (lv_at hl 2 rfl) ?_
      refine x_get (ci := 4) (C := RX4) (T := TX4) (N := 12) (v := .ref (A 50 0 0)) B 0 rfl rfl in_X4 0 (by decide) mw_365 (fun _ h9 => h9) rfl dX4_putNotesBehind_17 ?_
      obtain ⟨k_4, hk_4⟩ := pk_at (hs := [(pp, .inr (4, [.ref (A 50 0 0), .ref (Aw 20), .ref pg, .ref so, .int (iI (P9 0 0)), .int (iI (P9 0 1)), .ref p1, .ref p2, .ref p3, .ref p4, .ref p5, .ref p6])), (p1, .inl (k 0, 965, .inl (fun i9 : Nat => iI (v1 i9)))), (p2, .inl (k 0, 965, .inl (fun i9 : Nat => iI (v2 i9)))), (p3, .inl (k 0, 965, .inl (fun i9 : Nat => iI (v3 i9)))), (p4, .inl (k 0, 965, .inl (fun i9 : Nat => iI (v4 i9)))), (p5, .inl (k 0, 768, .inl (fun i9 : Nat => iI (f5 i9)))), (p6, .inl (k 0, 5, .inl (fun i9 : Nat => iI (f6 i9))))]) hT.1.1
      refine x_get (ci := 9) (C := RX9) (T := TX9) (N := 8) (v := .int (iI (T 17 0 0 0))) B k_4 hk_4 rfl in_X9 7 (by decide) mw_100 (fun _ h9 => h9) rfl dX4_putNotesBehind_20 ?_
      have z_5 : 6 ≤ T 17 0 0 0 ∧ T 17 0 0 0 ≤ 40 := TK_hei hK
      refine lv_iconst (v := iI 1) hx hb dX4_putNotesBehind_23 (by decide) ?_
      refine y_sub hx hb dX4_putNotesBehind_24 ?_
      refine y_min (a := lx) (b := ((T 17 0 0 0) - 1)) B hl mw_1650 mw_655 mw_26 mw_656 (Nat.le_of_ble_eq_true rfl) (Nat.le_of_ble_eq_true rfl) (Nat.le_of_ble_eq_true rfl) (Nat.le_of_ble_eq_true rfl) (by omega) (by omega) dX4_putNotesBehind_25 ?_
      refine lv_istore (lv' := [(4, .int (iI (min lx ((T 17 0 0 0) - 1)))), (3, .int (iI q)), (2, .int (iI lx)), (0, .ref pp), (1, .int (iI lz))]) hx hb dX4_putNotesBehind_28 hl (by decide) rfl (fun ls hl => ?_)
      refine lv_aload_n hx hb dX4_putNotesBehind_30 rfl (lv_at hl 3 rfl) ?_
      refine lv_aload_n hx hb dX4_putNotesBehind_31 rfl (lv_at hl 3 rfl) ?_
      refine x_get (ci := 4) (C := RX4) (T := TX4) (N := 12) (v := .ref (Aw 20)) B 0 rfl rfl in_X4 1 (by decide) mw_366 (fun _ h9 => h9) rfl dX4_putNotesBehind_32 ?_
      obtain ⟨k_6, hk_6⟩ := pk_at (hs := [(pp, .inr (4, [.ref (A 50 0 0), .ref (Aw 20), .ref pg, .ref so, .int (iI (P9 0 0)), .int (iI (P9 0 1)), .ref p1, .ref p2, .ref p3, .ref p4, .ref p5, .ref p6])), (p1, .inl (k 0, 965, .inl (fun i9 : Nat => iI (v1 i9)))), (p2, .inl (k 0, 965, .inl (fun i9 : Nat => iI (v2 i9)))), (p3, .inl (k 0, 965, .inl (fun i9 : Nat => iI (v3 i9)))), (p4, .inl (k 0, 965, .inl (fun i9 : Nat => iI (v4 i9)))), (p5, .inl (k 0, 768, .inl (fun i9 : Nat => iI (f5 i9)))), (p6, .inl (k 0, 5, .inl (fun i9 : Nat => iI (f6 i9))))]) (RI_o hR)
      refine x_get (ci := 6) (C := RX6) (T := TX6) (N := 18) (v := .int (iI (M 0 0))) B k_6 hk_6 rfl in_X6 0 (by decide) mw_224 (fun _ h9 => h9) rfl dX4_putNotesBehind_35 ?_
      refine lv_iconst (v := iI 0) hx hb dX4_putNotesBehind_38 (by decide) ?_
      refine lv_iload hx hb dX4_putNotesBehind_39 (lv_at hl 0 rfl) ?_
      refine lv_iload hx hb dX4_putNotesBehind_41 (lv_at hl 0 rfl) ?_
      refine lv_iconst (v := iI 1) hx hb dX4_putNotesBehind_43 (by decide) ?_
      refine y_add hx hb dX4_putNotesBehind_44 ?_
      have B := bd_to (ws' := [(pp, .inr (4, [.ref (A 50 0 0), .ref (Aw 20), .ref pg, .ref so, .int (iI (P9 0 0)), .int (iI (P9 0 1)), .ref p1, .ref p2, .ref p3, .ref p4, .ref p5, .ref p6])), (p1, .inl (k 0, 965, .inl (fun i9 : Nat => iI (v1 i9)))), (p2, .inl (k 0, 965, .inl (fun i9 : Nat => iI (v2 i9)))), (p3, .inl (k 0, 965, .inl (fun i9 : Nat => iI (v3 i9)))), (p4, .inl (k 0, 965, .inl (fun i9 : Nat => iI (v4 i9)))), (p5, .inl (k 0, 768, .inl (fun i9 : Nat => iI (f5 i9)))), (p6, .inl (k 0, 5, .inl (fun i9 : Nat => iI (f6 i9))))] ++ ([] ++ tl)) rfl B
      refine k_V (rest := []) (wc := [(pp, .inr (4, [.ref (A 50 0 0), .ref (Aw 20), .ref pg, .ref so, .int (iI (P9 0 0)), .int (iI (P9 0 1)), .ref p1, .ref p2, .ref p3, .ref p4, .ref p5, .ref p6])), (p1, .inl (k 0, 965, .inl (fun i9 : Nat => iI (v1 i9)))), (p2, .inl (k 0, 965, .inl (fun i9 : Nat => iI (v2 i9)))), (p3, .inl (k 0, 965, .inl (fun i9 : Nat => iI (v3 i9)))), (p4, .inl (k 0, 965, .inl (fun i9 : Nat => iI (v4 i9)))), (p5, .inl (k 0, 768, .inl (fun i9 : Nat => iI (f5 i9)))), (p6, .inl (k 0, 5, .inl (fun i9 : Nat => iI (f6 i9))))]) (wr := ([] ++ tl)) (k_put l dC dI k pp pg so p1 p2 p3 p4 p5 p6 T A X tl M V Aw v1 v2 v3 v4 f5 f6 P9 rr (M 0 0) 0 (min lx ((T 17 0 0 0) - 1)) ((min lx ((T 17 0 0 0) - 1)) + 1) hPA hPn) B mV_X4_put mw_1626 hl (q0 := 0) rfl rfl rfl ⟨Nat.le_of_ble_eq_true rfl, Nat.le_of_ble_eq_true rfl⟩ (Nat.le_of_ble_eq_true rfl) rfl dX4_putNotesBehind_45 ⟨Nat.le_of_ble_eq_true rfl, Nat.le_of_ble_eq_true rfl⟩ (fun r w gc gs H locs hp B => ?_)
      obtain ⟨P2_7, u1_8, u2_9, u3_10, u4_11, z_12, z_13, z_14, rfl, hw9, rfl, rfl⟩ := hp
      rw [hw9] at B; clear hw9
      have B := bd_swap (a := []) (b := tl) (d := [(pp, .inr (4, [.ref (A 50 0 0), .ref (Aw 20), .ref pg, .ref so, .int (iI (P2_7 0 0)), .int (iI (P2_7 0 1)), .ref p1, .ref p2, .ref p3, .ref p4, .ref p5, .ref p6])), (p1, .inl (k 0, 965, .inl (fun i9 : Nat => iI (u1_8 i9)))), (p2, .inl (k 0, 965, .inl (fun i9 : Nat => iI (u2_9 i9)))), (p3, .inl (k 0, 965, .inl (fun i9 : Nat => iI (u3_10 i9)))), (p4, .inl (k 0, 965, .inl (fun i9 : Nat => iI (u4_11 i9)))), (p5, .inl (k 0, 768, .inl (fun i9 : Nat => iI (f5 i9)))), (p6, .inl (k 0, 5, .inl (fun i9 : Nat => iI (f6 i9))))]) B
      have B := bd_to (ws' := ([(pp, .inr (4, [.ref (A 50 0 0), .ref (Aw 20), .ref pg, .ref so, .int (iI (P2_7 0 0)), .int (iI (P2_7 0 1)), .ref p1, .ref p2, .ref p3, .ref p4, .ref p5, .ref p6])), (p1, .inl (k 0, 965, .inl (fun i9 : Nat => iI (u1_8 i9)))), (p2, .inl (k 0, 965, .inl (fun i9 : Nat => iI (u2_9 i9)))), (p3, .inl (k 0, 965, .inl (fun i9 : Nat => iI (u3_10 i9)))), (p4, .inl (k 0, 965, .inl (fun i9 : Nat => iI (u4_11 i9)))), (p5, .inl (k 0, 768, .inl (fun i9 : Nat => iI (f5 i9)))), (p6, .inl (k 0, 5, .inl (fun i9 : Nat => iI (f6 i9))))] ++ tl)) rfl B
      have hPA : PA P2_7 rr u1_8 u2_9 u3_10 u4_11 f5 f6 := z_13
      have hPn : 0 ≤ P2_7 0 0 ∧ P2_7 0 0 ≤ 965 := z_14
      refine lv_iload_n hx hb dX4_putNotesBehind_48 rfl (lv_at hl 2 rfl) ?_
      refine lv_iload hx hb dX4_putNotesBehind_49 (lv_at hl 0 rfl) ?_
      refine y_sub hx hb dX4_putNotesBehind_51 ?_
      refine lv_istore_n (lv' := [(2, .int (iI (lx - (min lx ((T 17 0 0 0) - 1))))), (4, .int (iI (min lx ((T 17 0 0 0) - 1)))), (3, .int (iI q)), (0, .ref pp), (1, .int (iI lz))]) hx hb dX4_putNotesBehind_52 rfl hl (by decide) rfl (fun ls hl => ?_)
      refine lv_iinc (v := iI (q + 1)) (lv' := [(3, .int (iI (q + 1))), (2, .int (iI (lx - (min lx ((T 17 0 0 0) - 1))))), (4, .int (iI (min lx ((T 17 0 0 0) - 1)))), (0, .ref pp), (1, .int (iI lz))]) hx hb dX4_putNotesBehind_53 hl (k := 2) rfl (iI_add _ _) (by decide) rfl (fun ls hl => ?_)
      refine lv_goto (tgt := 4) hx hb dX4_putNotesBehind_56 (by decide) ?_
      exact ih_1 ((q + 1), (lx - (min lx ((T 17 0 0 0) - 1))), P2_7, u1_8, u2_9, u3_10, u4_11) ⟨(show 0 ≤ (q + 1) ∧ (q + 1) ≤ 965 ∧ 0 ≤ (lx - (min lx ((T 17 0 0 0) - 1))) ∧ (lx - (min lx ((T 17 0 0 0) - 1))) < 1000000 from (by omega)), (show bnF T M (Int.toNat (965 - (q + 1))) (lx - (min lx ((T 17 0 0 0) - 1))) P2_7 = bnF T M 965 lz P from (by rw [← hq, bnF_s (q := q) (by omega), if_neg (by omega), z_12])), (show PA P2_7 rr u1_8 u2_9 u3_10 u4_11 f5 f6 from z_13), (show 0 ≤ P2_7 0 0 ∧ P2_7 0 0 ≤ 965 from z_14)⟩ (by first | omega | (dsimp only; omega)) _ _ _ (lv_sub hl [0, 1, 3, 4] rfl) (bd_to rfl B)

end
