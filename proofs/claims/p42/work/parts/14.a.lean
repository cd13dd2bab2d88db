section
theorem dX2_leastDemerits_0 : decode cX2_leastDemerits 0 = .ok (.aload_n 0, 1) := by decide +kernel
theorem dX2_leastDemerits_1 : decode cX2_leastDemerits 1 = .ok (.getfield 24, 3) := by decide +kernel
theorem dX2_leastDemerits_4 : decode cX2_leastDemerits 4 = .ok (.iconst 0, 1) := by decide +kernel
theorem dX2_leastDemerits_5 : decode cX2_leastDemerits 5 = .ok (.iconst 0, 1) := by decide +kernel
theorem dX2_leastDemerits_6 : decode cX2_leastDemerits 6 = .ok (.iconst 4, 1) := by decide +kernel
theorem dX2_leastDemerits_7 : decode cX2_leastDemerits 7 = .ok (.invokestatic 141, 3) := by decide +kernel
theorem dX2_leastDemerits_10 : decode cX2_leastDemerits 10 = .ok (.laload, 1) := by decide +kernel
theorem dX2_leastDemerits_11 : decode cX2_leastDemerits 11 = .ok (.lreturn, 1) := by decide +kernel
set_option maxHeartbeats 4000000 in
set_option maxRecDepth 100000 in
theorem k_least (l : Launch) (dC : Nat → ClassId) (dI : Nat → Nat → Nat) (k : Nat → ClassId) (ln : Nat) (wa : Nat) (ga : Nat) (wt : Nat) (wo : Nat) (bD : Nat) (bL : Nat) (bE : Nat) (n : Int) (wd : Int) (nw : Int) (dp : Int) (sd : Int) (cl : Int) (fD : Int → Int) (hD : Bd (-1) 1099511627776 fD) : Kn l dC dI k yX2_leastDemerits (.code yX2_leastDemerits cX2_leastDemerits 1 (some .long)) ({ frames := 1, cells := 0, slots := 0, locals := 22 } : Room) [.ref ln] [(ln, .inr (2, [.int (iI n), .ref wa, .ref ga, .ref wt, .ref wo, .int (iI wd), .int (iI nw), .int (iI dp), .int (iI sd), .int (iI cl), .ref bD, .ref bL, .ref bE])), (bD, .inl (k 2, 980, .inr (.inl (fun i9 : Nat => lI (fD i9)))))] (fun r w gc gs => (r = some (.long (lI (fD ((((0 * 4) + 0) * 5) + 4)))) ∧ w = [(ln, .inr (2, [.int (iI n), .ref wa, .ref ga, .ref wt, .ref wo, .int (iI wd), .int (iI nw), .int (iI dp), .int (iI sd), .int (iI cl), .ref bD, .ref bL, .ref bE])), (bD, .inl (k 2, 980, .inr (.inl (fun i9 : Nat => lI (fD i9)))))] ∧ gc = 0 ∧ gs = 0)) := by
  refine kn_of (by decide) (Nat.le_of_ble_eq_true rfl) ?_
  intro p e s m args below meth c H locs B hr hnm ls hl
  have hx := B.1.1
  have hb := B.1.2.1
  have hl : lv_has ls 1 [(0, .ref ln)] := hl
  refine lv_aload_n hx hb dX2_leastDemerits_0 rfl (lv_at hl 0 rfl) ?_
  refine x_get (ci := 2) (C := RX2) (T := TX2) (N := 13) (v := .ref bD) B 0 rfl rfl in_X2 10 (by decide) mw_140 (fun _ h9 => h9) rfl dX2_leastDemerits_1 ?_
  refine lv_iconst (v := iI 0) hx hb dX2_leastDemerits_4 (by decide) ?_
  refine lv_iconst (v := iI 0) hx hb dX2_leastDemerits_5 (by decide) ?_
  refine lv_iconst (v := iI 4) hx hb dX2_leastDemerits_6 (by decide) ?_
  have B := bd_to (ws' := [] ++ [(ln, .inr (2, [.int (iI n), .ref wa, .ref ga, .ref wt, .ref wo, .int (iI wd), .int (iI nw), .int (iI dp), .int (iI sd), .int (iI cl), .ref bD, .ref bL, .ref bE])), (bD, .inl (k 2, 980, .inr (.inl (fun i9 : Nat => lI (fD i9)))))]) rfl B
  refine k_S (rest := [.ref bD]) (wc := []) (wr := [(ln, .inr (2, [.int (iI n), .ref wa, .ref ga, .ref wt, .ref wo, .int (iI wd), .int (iI nw), .int (iI dp), .int (iI sd), .int (iI cl), .ref bD, .ref bL, .ref bE])), (bD, .inl (k 2, 980, .inr (.inl (fun i9 : Nat => lI (fD i9)))))]) (k_way l dC dI k 0 0 4) B mS_X2_wayIndex mw_1421 hl ⟨Nat.le_of_ble_eq_true rfl, Nat.le_of_ble_eq_true rfl⟩ (Nat.le_of_ble_eq_true rfl) rfl dX2_leastDemerits_7 ⟨Nat.le_of_ble_eq_true rfl, Nat.le_of_ble_eq_true rfl⟩ (fun r w gc gs H locs hp B => ?_)
  obtain ⟨rfl, hw9, rfl, rfl⟩ := hp
  rw [hw9] at B; clear hw9
  have B := bd_to (ws' := [(ln, .inr (2, [.int (iI n), .ref wa, .ref ga, .ref wt, .ref wo, .int (iI wd), .int (iI nw), .int (iI dp), .int (iI sd), .int (iI cl), .ref bD, .ref bL, .ref bE])), (bD, .inl (k 2, 980, .inr (.inl (fun i9 : Nat => lI (fD i9)))))]) rfl B
  refine x_lald' (f := fD) (z := ((((0 * 4) + 0) * 5) + 4)) B 1 rfl (by omega) dX2_leastDemerits_10 ?_
  have z_1 : -1 ≤ (fD ((((0 * 4) + 0) * 5) + 4)) ∧ (fD ((((0 * 4) + 0) * 5) + 4)) ≤ 1099511627776 := hD ((((0 * 4) + 0) * 5) + 4)
  exact k_lret B hr (⟨rfl, rfl, rfl, rfl⟩) ⟨Nat.le_of_ble_eq_true rfl, Nat.le_of_ble_eq_true rfl⟩ ⟨Nat.le_of_ble_eq_true rfl, Nat.le_of_ble_eq_true rfl⟩ dX2_leastDemerits_11

theorem dX2_bestEnd_0 : decode cX2_bestEnd 0 = .ok (.aload_n 0, 1) := by decide +kernel
theorem dX2_bestEnd_1 : decode cX2_bestEnd 1 = .ok (.getfield 31, 3) := by decide +kernel
theorem dX2_bestEnd_4 : decode cX2_bestEnd 4 = .ok (.iload_n 1, 1) := by decide +kernel
theorem dX2_bestEnd_5 : decode cX2_bestEnd 5 = .ok (.iload_n 2, 1) := by decide +kernel
theorem dX2_bestEnd_6 : decode cX2_bestEnd 6 = .ok (.aload_n 0, 1) := by decide +kernel
theorem dX2_bestEnd_7 : decode cX2_bestEnd 7 = .ok (.getfield 79, 3) := by decide +kernel
theorem dX2_bestEnd_10 : decode cX2_bestEnd 10 = .ok (.invokestatic 116, 3) := by decide +kernel
theorem dX2_bestEnd_13 : decode cX2_bestEnd 13 = .ok (.iload_n 2, 1) := by decide +kernel
theorem dX2_bestEnd_14 : decode cX2_bestEnd 14 = .ok (.ifCond .ne 7, 3) := by decide +kernel
theorem dX2_bestEnd_17 : decode cX2_bestEnd 17 = .ok (.iconst 4, 1) := by decide +kernel
theorem dX2_bestEnd_18 : decode cX2_bestEnd 18 = .ok (.goto 4, 3) := by decide +kernel
theorem dX2_bestEnd_21 : decode cX2_bestEnd 21 = .ok (.iload_n 3, 1) := by decide +kernel
theorem dX2_bestEnd_22 : decode cX2_bestEnd 22 = .ok (.invokestatic 141, 3) := by decide +kernel
theorem dX2_bestEnd_25 : decode cX2_bestEnd 25 = .ok (.iaload, 1) := by decide +kernel
theorem dX2_bestEnd_26 : decode cX2_bestEnd 26 = .ok (.istore 4, 2) := by decide +kernel
theorem dX2_bestEnd_28 : decode cX2_bestEnd 28 = .ok (.iload 4, 2) := by decide +kernel
theorem dX2_bestEnd_30 : decode cX2_bestEnd 30 = .ok (.iload_n 1, 1) := by decide +kernel
theorem dX2_bestEnd_31 : decode cX2_bestEnd 31 = .ok (.if_icmp .le 16, 3) := by decide +kernel
theorem dX2_bestEnd_34 : decode cX2_bestEnd 34 = .ok (.aload_n 0, 1) := by decide +kernel
theorem dX2_bestEnd_35 : decode cX2_bestEnd 35 = .ok (.iload_n 1, 1) := by decide +kernel
theorem dX2_bestEnd_36 : decode cX2_bestEnd 36 = .ok (.iload 4, 2) := by decide +kernel
theorem dX2_bestEnd_38 : decode cX2_bestEnd 38 = .ok (.aload_n 0, 1) := by decide +kernel
theorem dX2_bestEnd_39 : decode cX2_bestEnd 39 = .ok (.iload_n 2, 1) := by decide +kernel
theorem dX2_bestEnd_40 : decode cX2_bestEnd 40 = .ok (.invokevirtual 130, 3) := by decide +kernel
theorem dX2_bestEnd_43 : decode cX2_bestEnd 43 = .ok (.invokevirtual 134, 3) := by decide +kernel
theorem dX2_bestEnd_46 : decode cX2_bestEnd 46 = .ok (.pop, 1) := by decide +kernel
theorem dX2_bestEnd_47 : decode cX2_bestEnd 47 = .ok (.iload 4, 2) := by decide +kernel
theorem dX2_bestEnd_49 : decode cX2_bestEnd 49 = .ok (.ireturn, 1) := by decide +kernel
set_option maxHeartbeats 4000000 in
set_option maxRecDepth 100000 in
theorem k_bestEnd (l : Launch) (dC : Nat → ClassId) (dI : Nat → Nat → Nat) (k : Nat → ClassId) (ln : Nat) (wa : Nat) (ga : Nat) (wt : Nat) (wo : Nat) (bD : Nat) (bL : Nat) (bE : Nat) (n : Int) (wd : Int) (nw : Int) (dp : Int) (sd : Int) (cl : Int) (fg : Int → Int) (fw : Int → Int) (fo : Int → Int) (fD : Int → Int) (fL : Int → Int) (fE : Int → Int) (fr : Int) (li : Int) (ah : Int) (hg : Bd 0 5 fg) (hw : Bd 0 2000 fw) (ho : Bd 0 12 fo) (hD : Bd (-1) 1099511627776 fD) (hL : Bd 0 1000 fL) (hE : Bd (-1) 48 fE) (hT : TbP fg fw fo n wd nw dp fD fL fE 0 (-1) 0) (h1 : 0 ≤ fr ∧ fr < n ∧ n ≤ 48) (h2 : 0 ≤ dp ∧ dp ≤ 3) (h3 : 0 ≤ wd ∧ wd ≤ 200 ∧ 0 ≤ nw ∧ nw ≤ 200) (h4 : 0 ≤ li ∧ li < 1000) (h5 : li = 0 ∨ (0 ≤ ah ∧ ah ≤ 3)) : Kn l dC dI k yX2_bestEnd (.code yX2_bestEnd cX2_bestEnd 5 (some .int)) ({ frames := 2, cells := 0, slots := 0, locals := 40 } : Room) [.ref ln, .int (iI fr), .int (iI li), .int (iI ah)] [(ln, .inr (2, [.int (iI n), .ref wa, .ref ga, .ref wt, .ref wo, .int (iI wd), .int (iI nw), .int (iI dp), .int (iI sd), .int (iI cl), .ref bD, .ref bL, .ref bE])), (ga, .inl (k 0, 49, .inl (fun i9 : Nat => iI (fg i9)))), (wt, .inl (k 0, 49, .inl (fun i9 : Nat => iI (fw i9)))), (wo, .inl (k 0, 49, .inl (fun i9 : Nat => iI (fo i9)))), (bD, .inl (k 2, 980, .inr (.inl (fun i9 : Nat => lI (fD i9))))), (bL, .inl (k 0, 980, .inl (fun i9 : Nat => iI (fL i9)))), (bE, .inl (k 0, 980, .inl (fun i9 : Nat => iI (fE i9))))] (fun r w gc gs => (∃ (tt : Int), (tt = (BW fg fw fo n wd nw dp fr (min li dp) (if li = 0 then 4 else ah)).2.2) ∧ (fr < tt ∧ tt ≤ n) ∧ r = some (.int (iI tt)) ∧ w = [(ln, .inr (2, [.int (iI n), .ref wa, .ref ga, .ref wt, .ref wo, .int (iI wd), .int (iI nw), .int (iI dp), .int (iI (jSp (jLk fw fo fg fr tt (if li < dp then nw else wd)) (fo (tt - 1) - fo fr) tt n)), .int (iI (jCl (jLk fw fo fg fr tt (if li < dp then nw else wd)) (fo (tt - 1) - fo fr) tt n)), .ref bD, .ref bL, .ref bE])), (ga, .inl (k 0, 49, .inl (fun i9 : Nat => iI (fg i9)))), (wt, .inl (k 0, 49, .inl (fun i9 : Nat => iI (fw i9)))), (wo, .inl (k 0, 49, .inl (fun i9 : Nat => iI (fo i9)))), (bD, .inl (k 2, 980, .inr (.inl (fun i9 : Nat => lI (fD i9))))), (bL, .inl (k 0, 980, .inl (fun i9 : Nat => iI (fL i9)))), (bE, .inl (k 0, 980, .inl (fun i9 : Nat => iI (fE i9))))] ∧ gc = 0 ∧ gs = 0)) := by
  refine kn_of (by decide) (Nat.le_of_ble_eq_true rfl) ?_
  intro p e s m args below meth c H locs B hr hnm ls hl
  have hx := B.1.1
  have hb := B.1.2.1
  have hl : lv_has ls 5 [(0, .ref ln), (1, .int (iI fr)), (2, .int (iI li)), (3, .int (iI ah))] := hl
  refine lv_aload_n hx hb dX2_bestEnd_0 rfl (lv_at hl 0 rfl) ?_
  refine x_get (ci := 2) (C := RX2) (T := TX2) (N := 13) (v := .ref bE) B 0 rfl rfl in_X2 12 (by decide) mw_142 (fun _ h9 => h9) rfl dX2_bestEnd_1 ?_
  refine lv_iload_n hx hb dX2_bestEnd_4 rfl (lv_at hl 1 rfl) ?_
  refine lv_iload_n hx hb dX2_bestEnd_5 rfl (lv_at hl 2 rfl) ?_
  refine lv_aload_n hx hb dX2_bestEnd_6 rfl (lv_at hl 0 rfl) ?_
  refine x_get (ci := 2) (C := RX2) (T := TX2) (N := 13) (v := .int (iI dp)) B 0 rfl rfl in_X2 7 (by decide) mw_136 (fun _ h9 => h9) rfl dX2_bestEnd_7 ?_
  refine y_min (a := li) (b := dp) B hl mw_1436 mw_655 mw_26 mw_656 (Nat.le_of_ble_eq_true rfl) (Nat.le_of_ble_eq_true rfl) (Nat.le_of_ble_eq_true rfl) (Nat.le_of_ble_eq_true rfl) (by omega) (by omega) dX2_bestEnd_10 ?_
  refine lv_iload_n hx hb dX2_bestEnd_13 rfl (lv_at hl 2 rfl) ?_
  refine lv_if_ne (tgt := 21) hx hb dX2_bestEnd_14 (by decide) (fun c_1 => ?_) (fun c_1 => ?_)
  · have zc_1 : li ≠ 0 := jne (a := li) (b := 0) (by omega) (by omega) c_1
    refine lv_iload_n hx hb dX2_bestEnd_21 rfl (lv_at hl 3 rfl) ?_
    have B := bd_to (ws' := [] ++ [(ln, .inr (2, [.int (iI n), .ref wa, .ref ga, .ref wt, .ref wo, .int (iI wd), .int (iI nw), .int (iI dp), .int (iI sd), .int (iI cl), .ref bD, .ref bL, .ref bE])), (ga, .inl (k 0, 49, .inl (fun i9 : Nat => iI (fg i9)))), (wt, .inl (k 0, 49, .inl (fun i9 : Nat => iI (fw i9)))), (wo, .inl (k 0, 49, .inl (fun i9 : Nat => iI (fo i9)))), (bD, .inl (k 2, 980, .inr (.inl (fun i9 : Nat => lI (fD i9))))), (bL, .inl (k 0, 980, .inl (fun i9 : Nat => iI (fL i9)))), (bE, .inl (k 0, 980, .inl (fun i9 : Nat => iI (fE i9))))]) rfl B
    refine k_S (rest := [.ref bE]) (wc := []) (wr := [(ln, .inr (2, [.int (iI n), .ref wa, .ref ga, .ref wt, .ref wo, .int (iI wd), .int (iI nw), .int (iI dp), .int (iI sd), .int (iI cl), .ref bD, .ref bL, .ref bE])), (ga, .inl (k 0, 49, .inl (fun i9 : Nat => iI (fg i9)))), (wt, .inl (k 0, 49, .inl (fun i9 : Nat => iI (fw i9)))), (wo, .inl (k 0, 49, .inl (fun i9 : Nat => iI (fo i9)))), (bD, .inl (k 2, 980, .inr (.inl (fun i9 : Nat => lI (fD i9))))), (bL, .inl (k 0, 980, .inl (fun i9 : Nat => iI (fL i9)))), (bE, .inl (k 0, 980, .inl (fun i9 : Nat => iI (fE i9))))]) (k_way l dC dI k fr (min li dp) ah) B mS_X2_wayIndex mw_1421 hl ⟨Nat.le_of_ble_eq_true rfl, Nat.le_of_ble_eq_true rfl⟩ (Nat.le_of_ble_eq_true rfl) rfl dX2_bestEnd_22 ⟨Nat.le_of_ble_eq_true rfl, Nat.le_of_ble_eq_true rfl⟩ (fun r w gc gs H locs hp B => ?_)
    obtain ⟨rfl, hw9, rfl, rfl⟩ := hp
    rw [hw9] at B; clear hw9
    have B := bd_to (ws' := [(ln, .inr (2, [.int (iI n), .ref wa, .ref ga, .ref wt, .ref wo, .int (iI wd), .int (iI nw), .int (iI dp), .int (iI sd), .int (iI cl), .ref bD, .ref bL, .ref bE])), (ga, .inl (k 0, 49, .inl (fun i9 : Nat => iI (fg i9)))), (wt, .inl (k 0, 49, .inl (fun i9 : Nat => iI (fw i9)))), (wo, .inl (k 0, 49, .inl (fun i9 : Nat => iI (fo i9)))), (bD, .inl (k 2, 980, .inr (.inl (fun i9 : Nat => lI (fD i9))))), (bL, .inl (k 0, 980, .inl (fun i9 : Nat => iI (fL i9)))), (bE, .inl (k 0, 980, .inl (fun i9 : Nat => iI (fE i9))))]) rfl B
    refine x_iald' (f := fE) (z := ((((fr * 4) + (min li dp)) * 5) + ah)) B 6 rfl (by omega) dX2_bestEnd_25 ?_
    have z_2 : -1 ≤ (fE ((((fr * 4) + (min li dp)) * 5) + ah)) ∧ (fE ((((fr * 4) + (min li dp)) * 5) + ah)) ≤ 48 := hE ((((fr * 4) + (min li dp)) * 5) + ah)
    have z_3 : (fE ((((fr * 4) + (min li dp)) * 5) + ah)) = (BW fg fw fo n wd nw dp fr (min li dp) (if li = 0 then 4 else ah)).2.2 := by rw [show (if li = 0 then 4 else ah) = ah from (if_neg zc_1)]; exact (hT fr (min li dp) ah (by omega) (by omega) (by omega) (by omega) (by omega) (by omega) (by omega)).2.2
    have z_4 : fr < (fE ((((fr * 4) + (min li dp)) * 5) + ah)) ∧ (fE ((((fr * 4) + (min li dp)) * 5) + ah)) ≤ n := by rw [z_3]; exact (BW_in (fun wz f1 t1 hz => by have := jLk_in hw ho (fg := fg) (fr := f1) (to := t1) (wz := wz) (by omega); omega) (by omega) (n - fr).toNat fr (min li dp) (if li = 0 then 4 else ah) (by omega) (by omega) (by omega)).2.2 (by omega)
    refine lv_istore (lv' := [(4, .int (iI (fE ((((fr * 4) + (min li dp)) * 5) + ah)))), (0, .ref ln), (1, .int (iI fr)), (2, .int (iI li)), (3, .int (iI ah))]) hx hb dX2_bestEnd_26 hl (by decide) rfl (fun ls hl => ?_)
    refine lv_iload hx hb dX2_bestEnd_28 (lv_at hl 0 rfl) ?_
    refine lv_iload_n hx hb dX2_bestEnd_30 rfl (lv_at hl 2 rfl) ?_
    refine lv_icmp_le (tgt := 47) hx hb dX2_bestEnd_31 (by decide) (fun c_5 => ?_) (fun c_5 => ?_)
    · have zc_5 : (fE ((((fr * 4) + (min li dp)) * 5) + ah)) ≤ fr := jle (a := (fE ((((fr * 4) + (min li dp)) * 5) + ah))) (b := fr) (by omega) (by omega) c_5
      exfalso; omega
    · have zc_5 : fr < (fE ((((fr * 4) + (min li dp)) * 5) + ah)) := jnle (a := (fE ((((fr * 4) + (min li dp)) * 5) + ah))) (b := fr) (by omega) (by omega) c_5
      refine lv_aload_n hx hb dX2_bestEnd_34 rfl (lv_at hl 1 rfl) ?_
      refine lv_iload_n hx hb dX2_bestEnd_35 rfl (lv_at hl 2 rfl) ?_
      refine lv_iload hx hb dX2_bestEnd_36 (lv_at hl 0 rfl) ?_
      refine lv_aload_n hx hb dX2_bestEnd_38 rfl (lv_at hl 1 rfl) ?_
      refine lv_iload_n hx hb dX2_bestEnd_39 rfl (lv_at hl 3 rfl) ?_
      have B := bd_to (ws' := [(ln, .inr (2, [.int (iI n), .ref wa, .ref ga, .ref wt, .ref wo, .int (iI wd), .int (iI nw), .int (iI dp), .int (iI sd), .int (iI cl), .ref bD, .ref bL, .ref bE]))] ++ [(ga, .inl (k 0, 49, .inl (fun i9 : Nat => iI (fg i9)))), (wt, .inl (k 0, 49, .inl (fun i9 : Nat => iI (fw i9)))), (wo, .inl (k 0, 49, .inl (fun i9 : Nat => iI (fo i9)))), (bD, .inl (k 2, 980, .inr (.inl (fun i9 : Nat => lI (fD i9))))), (bL, .inl (k 0, 980, .inl (fun i9 : Nat => iI (fL i9)))), (bE, .inl (k 0, 980, .inl (fun i9 : Nat => iI (fE i9))))]) rfl B
      refine k_V (rest := [.int (iI (fE ((((fr * 4) + (min li dp)) * 5) + ah))), .int (iI fr), .ref ln]) (wc := [(ln, .inr (2, [.int (iI n), .ref wa, .ref ga, .ref wt, .ref wo, .int (iI wd), .int (iI nw), .int (iI dp), .int (iI sd), .int (iI cl), .ref bD, .ref bL, .ref bE]))]) (wr := [(ga, .inl (k 0, 49, .inl (fun i9 : Nat => iI (fg i9)))), (wt, .inl (k 0, 49, .inl (fun i9 : Nat => iI (fw i9)))), (wo, .inl (k 0, 49, .inl (fun i9 : Nat => iI (fo i9)))), (bD, .inl (k 2, 980, .inr (.inl (fun i9 : Nat => lI (fD i9))))), (bL, .inl (k 0, 980, .inl (fun i9 : Nat => iI (fL i9)))), (bE, .inl (k 0, 980, .inl (fun i9 : Nat => iI (fE i9))))]) (k_widthOf l dC dI k ln wa ga wt wo bD bL bE n wd nw dp sd cl li h4 h2) B mV_X2_widthOf mw_1428 hl (q0 := 0) rfl rfl rfl ⟨Nat.le_of_ble_eq_true rfl, Nat.le_of_ble_eq_true rfl⟩ (Nat.le_of_ble_eq_true rfl) rfl dX2_bestEnd_40 ⟨Nat.le_of_ble_eq_true rfl, Nat.le_of_ble_eq_true rfl⟩ (fun r w gc gs H locs hp B => ?_)
      obtain ⟨rfl, hw9, rfl, rfl⟩ := hp
      rw [hw9] at B; clear hw9
      have B := bd_to (ws' := [(ga, .inl (k 0, 49, .inl (fun i9 : Nat => iI (fg i9)))), (wt, .inl (k 0, 49, .inl (fun i9 : Nat => iI (fw i9)))), (wo, .inl (k 0, 49, .inl (fun i9 : Nat => iI (fo i9)))), (bD, .inl (k 2, 980, .inr (.inl (fun i9 : Nat => lI (fD i9))))), (bL, .inl (k 0, 980, .inl (fun i9 : Nat => iI (fL i9)))), (bE, .inl (k 0, 980, .inl (fun i9 : Nat => iI (fE i9)))), (ln, .inr (2, [.int (iI n), .ref wa, .ref ga, .ref wt, .ref wo, .int (iI wd), .int (iI nw), .int (iI dp), .int (iI sd), .int (iI cl), .ref bD, .ref bL, .ref bE]))]) rfl B
      have B := bd_sub (ws' := [(ln, .inr (2, [.int (iI n), .ref wa, .ref ga, .ref wt, .ref wo, .int (iI wd), .int (iI nw), .int (iI dp), .int (iI sd), .int (iI cl), .ref bD, .ref bL, .ref bE])), (ga, .inl (k 0, 49, .inl (fun i9 : Nat => iI (fg i9)))), (wt, .inl (k 0, 49, .inl (fun i9 : Nat => iI (fw i9)))), (wo, .inl (k 0, 49, .inl (fun i9 : Nat => iI (fo i9)))), (bD, .inl (k 2, 980, .inr (.inl (fun i9 : Nat => lI (fD i9))))), (bL, .inl (k 0, 980, .inl (fun i9 : Nat => iI (fL i9)))), (bE, .inl (k 0, 980, .inl (fun i9 : Nat => iI (fE i9))))]) [6, 0, 1, 2, 3, 4, 5] (by decide) rfl B
      have B := bd_to (ws' := [(ln, .inr (2, [.int (iI n), .ref wa, .ref ga, .ref wt, .ref wo, .int (iI wd), .int (iI nw), .int (iI dp), .int (iI sd), .int (iI cl), .ref bD, .ref bL, .ref bE])), (ga, .inl (k 0, 49, .inl (fun i9 : Nat => iI (fg i9)))), (wt, .inl (k 0, 49, .inl (fun i9 : Nat => iI (fw i9)))), (wo, .inl (k 0, 49, .inl (fun i9 : Nat => iI (fo i9))))] ++ [(bD, .inl (k 2, 980, .inr (.inl (fun i9 : Nat => lI (fD i9))))), (bL, .inl (k 0, 980, .inl (fun i9 : Nat => iI (fL i9)))), (bE, .inl (k 0, 980, .inl (fun i9 : Nat => iI (fE i9))))]) rfl B
      refine k_V (rest := []) (wc := [(ln, .inr (2, [.int (iI n), .ref wa, .ref ga, .ref wt, .ref wo, .int (iI wd), .int (iI nw), .int (iI dp), .int (iI sd), .int (iI cl), .ref bD, .ref bL, .ref bE])), (ga, .inl (k 0, 49, .inl (fun i9 : Nat => iI (fg i9)))), (wt, .inl (k 0, 49, .inl (fun i9 : Nat => iI (fw i9)))), (wo, .inl (k 0, 49, .inl (fun i9 : Nat => iI (fo i9))))]) (wr := [(bD, .inl (k 2, 980, .inr (.inl (fun i9 : Nat => lI (fD i9))))), (bL, .inl (k 0, 980, .inl (fun i9 : Nat => iI (fL i9)))), (bE, .inl (k 0, 980, .inl (fun i9 : Nat => iI (fE i9))))]) (k_judge l dC dI k ln wa ga wt wo bD bL bE n wd nw dp sd cl fg fw fo fr (fE ((((fr * 4) + (min li dp)) * 5) + ah)) (if li < dp then nw else wd) hg hw ho (by omega) (by split <;> omega)) B mV_X2_judge mw_1432 hl (q0 := 0) rfl rfl rfl ⟨Nat.le_of_ble_eq_true rfl, Nat.le_of_ble_eq_true rfl⟩ (Nat.le_of_ble_eq_true rfl) rfl dX2_bestEnd_43 ⟨Nat.le_of_ble_eq_true rfl, Nat.le_of_ble_eq_true rfl⟩ (fun r w gc gs H locs hp B => ?_)
      rcases hp with ⟨z_6, rfl, hw9, rfl, rfl⟩ | ⟨z_7, rfl, hw9, rfl, rfl⟩
      · skip
        rw [hw9] at B; clear hw9
        have B := bd_to (ws' := [(bD, .inl (k 2, 980, .inr (.inl (fun i9 : Nat => lI (fD i9))))), (bL, .inl (k 0, 980, .inl (fun i9 : Nat => iI (fL i9)))), (bE, .inl (k 0, 980, .inl (fun i9 : Nat => iI (fE i9)))), (ln, .inr (2, [.int (iI n), .ref wa, .ref ga, .ref wt, .ref wo, .int (iI wd), .int (iI nw), .int (iI dp), .int (iI (jSp (jLk fw fo fg fr (fE ((((fr * 4) + (min li dp)) * 5) + ah)) (if li < dp then nw else wd)) (fo ((fE ((((fr * 4) + (min li dp)) * 5) + ah)) - 1) - fo fr) (fE ((((fr * 4) + (min li dp)) * 5) + ah)) n)), .int (iI (jCl (jLk fw fo fg fr (fE ((((fr * 4) + (min li dp)) * 5) + ah)) (if li < dp then nw else wd)) (fo ((fE ((((fr * 4) + (min li dp)) * 5) + ah)) - 1) - fo fr) (fE ((((fr * 4) + (min li dp)) * 5) + ah)) n)), .ref bD, .ref bL, .ref bE])), (ga, .inl (k 0, 49, .inl (fun i9 : Nat => iI (fg i9)))), (wt, .inl (k 0, 49, .inl (fun i9 : Nat => iI (fw i9)))), (wo, .inl (k 0, 49, .inl (fun i9 : Nat => iI (fo i9))))]) rfl B
        refine lv_pop hx hb dX2_bestEnd_46 rfl ?_
        refine lv_iload hx hb dX2_bestEnd_47 (lv_at hl 0 rfl) ?_
        have B := bd_sub (ws' := [(ln, .inr (2, [.int (iI n), .ref wa, .ref ga, .ref wt, .ref wo, .int (iI wd), .int (iI nw), .int (iI dp), .int (iI (jSp (jLk fw fo fg fr (fE ((((fr * 4) + (min li dp)) * 5) + ah)) (if li < dp then nw else wd)) (fo ((fE ((((fr * 4) + (min li dp)) * 5) + ah)) - 1) - fo fr) (fE ((((fr * 4) + (min li dp)) * 5) + ah)) n)), .int (iI (jCl (jLk fw fo fg fr (fE ((((fr * 4) + (min li dp)) * 5) + ah)) (if li < dp then nw else wd)) (fo ((fE ((((fr * 4) + (min li dp)) * 5) + ah)) - 1) - fo fr) (fE ((((fr * 4) + (min li dp)) * 5) + ah)) n)), .ref bD, .ref bL, .ref bE])), (ga, .inl (k 0, 49, .inl (fun i9 : Nat => iI (fg i9)))), (wt, .inl (k 0, 49, .inl (fun i9 : Nat => iI (fw i9)))), (wo, .inl (k 0, 49, .inl (fun i9 : Nat => iI (fo i9)))), (bD, .inl (k 2, 980, .inr (.inl (fun i9 : Nat => lI (fD i9))))), (bL, .inl (k 0, 980, .inl (fun i9 : Nat => iI (fL i9)))), (bE, .inl (k 0, 980, .inl (fun i9 : Nat => iI (fE i9))))]) [3, 4, 5, 6, 0, 1, 2] (by decide) rfl B
        exact k_iret B hr (⟨(fE ((((fr * 4) + (min li dp)) * 5) + ah)), z_3, z_4, rfl, rfl, rfl, rfl⟩) ⟨Nat.le_of_ble_eq_true rfl, Nat.le_of_ble_eq_true rfl⟩ ⟨Nat.le_of_ble_eq_true rfl, Nat.le_of_ble_eq_true rfl⟩ dX2_bestEnd_49
      · skip
        rw [hw9] at B; clear hw9
        have B := bd_to (ws' := [(bD, .inl (k 2, 980, .inr (.inl (fun i9 : Nat => lI (fD i9))))), (bL, .inl (k 0, 980, .inl (fun i9 : Nat => iI (fL i9)))), (bE, .inl (k 0, 980, .inl (fun i9 : Nat => iI (fE i9)))), (ln, .inr (2, [.int (iI n), .ref wa, .ref ga, .ref wt, .ref wo, .int (iI wd), .int (iI nw), .int (iI dp), .int (iI (jSp (jLk fw fo fg fr (fE ((((fr * 4) + (min li dp)) * 5) + ah)) (if li < dp then nw else wd)) (fo ((fE ((((fr * 4) + (min li dp)) * 5) + ah)) - 1) - fo fr) (fE ((((fr * 4) + (min li dp)) * 5) + ah)) n)), .int (iI (jCl (jLk fw fo fg fr (fE ((((fr * 4) + (min li dp)) * 5) + ah)) (if li < dp then nw else wd)) (fo ((fE ((((fr * 4) + (min li dp)) * 5) + ah)) - 1) - fo fr) (fE ((((fr * 4) + (min li dp)) * 5) + ah)) n)), .ref bD, .ref bL, .ref bE])), (ga, .inl (k 0, 49, .inl (fun i9 : Nat => iI (fg i9)))), (wt, .inl (k 0, 49, .inl (fun i9 : Nat => iI (fw i9)))), (wo, .inl (k 0, 49, .inl (fun i9 : Nat => iI (fo i9))))]) rfl B
        refine lv_pop hx hb dX2_bestEnd_46 rfl ?_
        refine lv_iload hx hb dX2_bestEnd_47 (lv_at hl 0 rfl) ?_
        have B := bd_sub (ws' := [(ln, .inr (2, [.int (iI n), .ref wa, .ref ga, .ref wt, .ref wo, .int (iI wd), .int (iI nw), .int (iI dp), .int (iI (jSp (jLk fw fo fg fr (fE ((((fr * 4) + (min li dp)) * 5) + ah)) (if li < dp then nw else wd)) (fo ((fE ((((fr * 4) + (min li dp)) * 5) + ah)) - 1) - fo fr) (fE ((((fr * 4) + (min li dp)) * 5) + ah)) n)), .int (iI (jCl (jLk fw fo fg fr (fE ((((fr * 4) + (min li dp)) * 5) + ah)) (if li < dp then nw else wd)) (fo ((fE ((((fr * 4) + (min li dp)) * 5) + ah)) - 1) - fo fr) (fE ((((fr * 4) + (min li dp)) * 5) + ah)) n)), .ref bD, .ref bL, .ref bE])), (ga, .inl (k 0, 49, .inl (fun i9 : Nat => iI (fg i9)))), (wt, .inl (k 0, 49, .inl (fun i9 : Nat => iI (fw i9)))), (wo, .inl (k 0, 49, .inl (fun i9 : Nat => iI (fo i9)))), (bD, .inl (k 2, 980, .inr (.inl (fun i9 : Nat => lI (fD i9))))), (bL, .inl (k 0, 980, .inl (fun i9 : Nat => iI (fL i9)))), (bE, .inl (k 0, 980, .inl (fun i9 : Nat => iI (fE i9))))]) [3, 4, 5, 6, 0, 1, 2] (by decide) rfl B
        exact k_iret B hr (⟨(fE ((((fr * 4) + (min li dp)) * 5) + ah)), z_3, z_4, rfl, rfl, rfl, rfl⟩) ⟨Nat.le_of_ble_eq_true rfl, Nat.le_of_ble_eq_true rfl⟩ ⟨Nat.le_of_ble_eq_true rfl, Nat.le_of_ble_eq_true rfl⟩ dX2_bestEnd_49
  · have zc_1 : li = 0 := jeq (a := li) (b := 0) (by omega) (by omega) c_1
    refine lv_iconst (v := iI 4) hx hb dX2_bestEnd_17 (by decide) ?_
    refine lv_goto (tgt := 22) hx hb dX2_bestEnd_18 (by decide) ?_
    have B := bd_to (ws' := [] ++ [(ln, .inr (2, [.int (iI n), .ref wa, .ref ga, .ref wt, .ref wo, .int (iI wd), .int (iI nw), .int (iI dp), .int (iI sd), .int (iI cl), .ref bD, .ref bL, .ref bE])), (ga, .inl (k 0, 49, .inl (fun i9 : Nat => iI (fg i9)))), (wt, .inl (k 0, 49, .inl (fun i9 : Nat => iI (fw i9)))), (wo, .inl (k 0, 49, .inl (fun i9 : Nat => iI (fo i9)))), (bD, .inl (k 2, 980, .inr (.inl (fun i9 : Nat => lI (fD i9))))), (bL, .inl (k 0, 980, .inl (fun i9 : Nat => iI (fL i9)))), (bE, .inl (k 0, 980, .inl (fun i9 : Nat => iI (fE i9))))]) rfl B
    refine k_S (rest := [.ref bE]) (wc := []) (wr := [(ln, .inr (2, [.int (iI n), .ref wa, .ref ga, .ref wt, .ref wo, .int (iI wd), .int (iI nw), .int (iI dp), .int (iI sd), .int (iI cl), .ref bD, .ref bL, .ref bE])), (ga, .inl (k 0, 49, .inl (fun i9 : Nat => iI (fg i9)))), (wt, .inl (k 0, 49, .inl (fun i9 : Nat => iI (fw i9)))), (wo, .inl (k 0, 49, .inl (fun i9 : Nat => iI (fo i9)))), (bD, .inl (k 2, 980, .inr (.inl (fun i9 : Nat => lI (fD i9))))), (bL, .inl (k 0, 980, .inl (fun i9 : Nat => iI (fL i9)))), (bE, .inl (k 0, 980, .inl (fun i9 : Nat => iI (fE i9))))]) (k_way l dC dI k fr (min li dp) 4) B mS_X2_wayIndex mw_1421 hl ⟨Nat.le_of_ble_eq_true rfl, Nat.le_of_ble_eq_true rfl⟩ (Nat.le_of_ble_eq_true rfl) rfl dX2_bestEnd_22 ⟨Nat.le_of_ble_eq_true rfl, Nat.le_of_ble_eq_true rfl⟩ (fun r w gc gs H locs hp B => ?_)
    obtain ⟨rfl, hw9, rfl, rfl⟩ := hp
    rw [hw9] at B; clear hw9
    have B := bd_to (ws' := [(ln, .inr (2, [.int (iI n), .ref wa, .ref ga, .ref wt, .ref wo, .int (iI wd), .int (iI nw), .int (iI dp), .int (iI sd), .int (iI cl), .ref bD, .ref bL, .ref bE])), (ga, .inl (k 0, 49, .inl (fun i9 : Nat => iI (fg i9)))), (wt, .inl (k 0, 49, .inl (fun i9 : Nat => iI (fw i9)))), (wo, .inl (k 0, 49, .inl (fun i9 : Nat => iI (fo i9)))), (bD, .inl (k 2, 980, .inr (.inl (fun i9 : Nat => lI (fD i9))))), (bL, .inl (k 0, 980, .inl (fun i9 : Nat => iI (fL i9)))), (bE, .inl (k 0, 980, .inl (fun i9 : Nat => iI (fE i9))))]) rfl B
    refine x_iald' (f := fE) (z := ((((fr * 4) + (min li dp)) * 5) + 4)) B 6 rfl (by omega) dX2_bestEnd_25 ?_
    have z_8 : -1 ≤ (fE ((((fr * 4) + (min li dp)) * 5) + 4)) ∧ (fE ((((fr * 4) + (min li dp)) * 5) + 4)) ≤ 48 := hE ((((fr * 4) + (min li dp)) * 5) + 4)
    have z_9 : (fE ((((fr * 4) + (min li dp)) * 5) + 4)) = (BW fg fw fo n wd nw dp fr (min li dp) (if li = 0 then 4 else ah)).2.2 := by rw [show (if li = 0 then 4 else ah) = 4 from (if_pos zc_1)]; exact (hT fr (min li dp) 4 (by omega) (by omega) (by omega) (by omega) (by omega) (by omega) (by omega)).2.2
    have z_10 : fr < (fE ((((fr * 4) + (min li dp)) * 5) + 4)) ∧ (fE ((((fr * 4) + (min li dp)) * 5) + 4)) ≤ n := by rw [z_9]; exact (BW_in (fun wz f1 t1 hz => by have := jLk_in hw ho (fg := fg) (fr := f1) (to := t1) (wz := wz) (by omega); omega) (by omega) (n - fr).toNat fr (min li dp) (if li = 0 then 4 else ah) (by omega) (by omega) (by omega)).2.2 (by omega)
    refine lv_istore (lv' := [(4, .int (iI (fE ((((fr * 4) + (min li dp)) * 5) + 4)))), (0, .ref ln), (1, .int (iI fr)), (2, .int (iI li)), (3, .int (iI ah))]) hx hb dX2_bestEnd_26 hl (by decide) rfl (fun ls hl => ?_)
    refine lv_iload hx hb dX2_bestEnd_28 (lv_at hl 0 rfl) ?_
    refine lv_iload_n hx hb dX2_bestEnd_30 rfl (lv_at hl 2 rfl) ?_
    refine lv_icmp_le (tgt := 47) hx hb dX2_bestEnd_31 (by decide) (fun c_11 => ?_) (fun c_11 => ?_)
    · have zc_11 : (fE ((((fr * 4) + (min li dp)) * 5) + 4)) ≤ fr := jle (a := (fE ((((fr * 4) + (min li dp)) * 5) + 4))) (b := fr) (by omega) (by omega) c_11
      exfalso; omega
    · have zc_11 : fr < (fE ((((fr * 4) + (min li dp)) * 5) + 4)) := jnle (a := (fE ((((fr * 4) + (min li dp)) * 5) + 4))) (b := fr) (by omega) (by omega) c_11
      refine lv_aload_n hx hb dX2_bestEnd_34 rfl (lv_at hl 1 rfl) ?_
      refine lv_iload_n hx hb dX2_bestEnd_35 rfl (lv_at hl 2 rfl) ?_
      refine lv_iload hx hb dX2_bestEnd_36 (lv_at hl 0 rfl) ?_
      refine lv_aload_n hx hb dX2_bestEnd_38 rfl (lv_at hl 1 rfl) ?_
      refine lv_iload_n hx hb dX2_bestEnd_39 rfl (lv_at hl 3 rfl) ?_
      have B := bd_to (ws' := [(ln, .inr (2, [.int (iI n), .ref wa, .ref ga, .ref wt, .ref wo, .int (iI wd), .int (iI nw), .int (iI dp), .int (iI sd), .int (iI cl), .ref bD, .ref bL, .ref bE]))] ++ [(ga, .inl (k 0, 49, .inl (fun i9 : Nat => iI (fg i9)))), (wt, .inl (k 0, 49, .inl (fun i9 : Nat => iI (fw i9)))), (wo, .inl (k 0, 49, .inl (fun i9 : Nat => iI (fo i9)))), (bD, .inl (k 2, 980, .inr (.inl (fun i9 : Nat => lI (fD i9))))), (bL, .inl (k 0, 980, .inl (fun i9 : Nat => iI (fL i9)))), (bE, .inl (k 0, 980, .inl (fun i9 : Nat => iI (fE i9))))]) rfl B
      refine k_V (rest := [.int (iI (fE ((((fr * 4) + (min li dp)) * 5) + 4))), .int (iI fr), .ref ln]) (wc := [(ln, .inr (2, [.int (iI n), .ref wa, .ref ga, .ref wt, .ref wo, .int (iI wd), .int (iI nw), .int (iI dp), .int (iI sd), .int (iI cl), .ref bD, .ref bL, .ref bE]))]) (wr := [(ga, .inl (k 0, 49, .inl (fun i9 : Nat => iI (fg i9)))), (wt, .inl (k 0, 49, .inl (fun i9 : Nat => iI (fw i9)))), (wo, .inl (k 0, 49, .inl (fun i9 : Nat => iI (fo i9)))), (bD, .inl (k 2, 980, .inr (.inl (fun i9 : Nat => lI (fD i9))))), (bL, .inl (k 0, 980, .inl (fun i9 : Nat => iI (fL i9)))), (bE, .inl (k 0, 980, .inl (fun i9 : Nat => iI (fE i9))))]) (k_widthOf l dC dI k ln wa ga wt wo bD bL bE n wd nw dp sd cl li h4 h2) B mV_X2_widthOf mw_1428 hl (q0 := 0) rfl rfl rfl ⟨Nat.le_of_ble_eq_true rfl, Nat.le_of_ble_eq_true rfl⟩ (Nat.le_of_ble_eq_true rfl) rfl dX2_bestEnd_40 ⟨Nat.le_of_ble_eq_true rfl, Nat.le_of_ble_eq_true rfl⟩ (fun r w gc gs H locs hp B => ?_)
      obtain ⟨rfl, hw9, rfl, rfl⟩ := hp
      rw [hw9] at B; clear hw9
      have B := bd_to (ws' := [(ga, .inl (k 0, 49, .inl (fun i9 : Nat => iI (fg i9)))), (wt, .inl (k 0, 49, .inl (fun i9 : Nat => iI (fw i9)))), (wo, .inl (k 0, 49, .inl (fun i9 : Nat => iI (fo i9)))), (bD, .inl (k 2, 980, .inr (.inl (fun i9 : Nat => lI (fD i9))))), (bL, .inl (k 0, 980, .inl (fun i9 : Nat => iI (fL i9)))), (bE, .inl (k 0, 980, .inl (fun i9 : Nat => iI (fE i9)))), (ln, .inr (2, [.int (iI n), .ref wa, .ref ga, .ref wt, .ref wo, .int (iI wd), .int (iI nw), .int (iI dp), .int (iI sd), .int (iI cl), .ref bD, .ref bL, .ref bE]))]) rfl B
      have B := bd_sub (ws' := [(ln, .inr (2, [.int (iI n), .ref wa, .ref ga, .ref wt, .ref wo, .int (iI wd), .int (iI nw), .int (iI dp), .int (iI sd), .int (iI cl), .ref bD, .ref bL, .ref bE])), (ga, .inl (k 0, 49, .inl (fun i9 : Nat => iI (fg i9)))), (wt, .inl (k 0, 49, .inl (fun i9 : Nat => iI (fw i9)))), (wo, .inl (k 0, 49, .inl (fun i9 : Nat => iI (fo i9)))), (bD, .inl (k 2, 980, .inr (.inl (fun i9 : Nat => lI (fD i9))))), (bL, .inl (k 0, 980, .inl (fun i9 : Nat => iI (fL i9)))), (bE, .inl (k 0, 980, .inl (fun i9 : Nat => iI (fE i9))))]) [6, 0, 1, 2, 3, 4, 5] (by decide) rfl B
      have B := bd_to (ws' := [(ln, .inr (2, [.int (iI n), .ref wa, .ref ga, .ref wt, .ref wo, .int (iI wd), .int (iI nw), .int (iI dp), .int (iI sd), .int (iI cl), .ref bD, .ref bL, .ref bE])), (ga, .inl (k 0, 49, .inl (fun i9 : Nat => iI (fg i9)))), (wt, .inl (k 0, 49, .inl (fun i9 : Nat => iI (fw i9)))), (wo, .inl (k 0, 49, .inl (fun i9 : Nat => iI (fo i9))))] ++ [(bD, .inl (k 2, 980, .inr (.inl (fun i9 : Nat => lI (fD i9))))), (bL, .inl (k 0, 980, .inl (fun i9 : Nat => iI (fL i9)))), (bE, .inl (k 0, 980, .inl (fun i9 : Nat => iI (fE i9))))]) rfl B
      refine k_V (rest := []) (wc := [(ln, .inr (2, [.int (iI n), .ref wa, .ref ga, .ref wt, .ref wo, .int (iI wd), .int (iI nw), .int (iI dp), .int (iI sd), .int (iI cl), .ref bD, .ref bL, .ref bE])), (ga, .inl (k 0, 49, .inl (fun i9 : Nat => iI (fg i9)))), (wt, .inl (k 0, 49, .inl (fun i9 : Nat => iI (fw i9)))), (wo, .inl (k 0, 49, .inl (fun i9 : Nat => iI (fo i9))))]) (wr := [(bD, .inl (k 2, 980, .inr (.inl (fun i9 : Nat => lI (fD i9))))), (bL, .inl (k 0, 980, .inl (fun i9 : Nat => iI (fL i9)))), (bE, .inl (k 0, 980, .inl (fun i9 : Nat => iI (fE i9))))]) (k_judge l dC dI k ln wa ga wt wo bD bL bE n wd nw dp sd cl fg fw fo fr (fE ((((fr * 4) + (min li dp)) * 5) + 4)) (if li < dp then nw else wd) hg hw ho (by omega) (by split <;> omega)) B mV_X2_judge mw_1432 hl (q0 := 0) rfl rfl rfl ⟨Nat.le_of_ble_eq_true rfl, Nat.le_of_ble_eq_true rfl⟩ (Nat.le_of_ble_eq_true rfl) rfl dX2_bestEnd_43 ⟨Nat.le_of_ble_eq_true rfl, Nat.le_of_ble_eq_true rfl⟩ (fun r w gc gs H locs hp B => ?_)
      rcases hp with ⟨z_12, rfl, hw9, rfl, rfl⟩ | ⟨z_13, rfl, hw9, rfl, rfl⟩
      · skip
        rw [hw9] at B; clear hw9
        have B := bd_to (ws' := [(bD, .inl (k 2, 980, .inr (.inl (fun i9 : Nat => lI (fD i9))))), (bL, .inl (k 0, 980, .inl (fun i9 : Nat => iI (fL i9)))), (bE, .inl (k 0, 980, .inl (fun i9 : Nat => iI (fE i9)))), (ln, .inr (2, [.int (iI n), .ref wa, .ref ga, .ref wt, .ref wo, .int (iI wd), .int (iI nw), .int (iI dp), .int (iI (jSp (jLk fw fo fg fr (fE ((((fr * 4) + (min li dp)) * 5) + 4)) (if li < dp then nw else wd)) (fo ((fE ((((fr * 4) + (min li dp)) * 5) + 4)) - 1) - fo fr) (fE ((((fr * 4) + (min li dp)) * 5) + 4)) n)), .int (iI (jCl (jLk fw fo fg fr (fE ((((fr * 4) + (min li dp)) * 5) + 4)) (if li < dp then nw else wd)) (fo ((fE ((((fr * 4) + (min li dp)) * 5) + 4)) - 1) - fo fr) (fE ((((fr * 4) + (min li dp)) * 5) + 4)) n)), .ref bD, .ref bL, .ref bE])), (ga, .inl (k 0, 49, .inl (fun i9 : Nat => iI (fg i9)))), (wt, .inl (k 0, 49, .inl (fun i9 : Nat => iI (fw i9)))), (wo, .inl (k 0, 49, .inl (fun i9 : Nat => iI (fo i9))))]) rfl B
        refine lv_pop hx hb dX2_bestEnd_46 rfl ?_
        refine lv_iload hx hb dX2_bestEnd_47 (lv_at hl 0 rfl) ?_
        have B := bd_sub (ws' := [(ln, .inr (2, [.int (iI n), .ref wa, .ref ga, .ref wt, .ref wo, .int (iI wd), .int (iI nw), .int (iI dp), .int (iI (jSp (jLk fw fo fg fr (fE ((((fr * 4) + (min li dp)) * 5) + 4)) (if li < dp then nw else wd)) (fo ((fE ((((fr * 4) + (min li dp)) * 5) + 4)) - 1) - fo fr) (fE ((((fr * 4) + (min li dp)) * 5) + 4)) n)), .int (iI (jCl (jLk fw fo fg fr (fE ((((fr * 4) + (min li dp)) * 5) + 4)) (if li < dp then nw else wd)) (fo ((fE ((((fr * 4) + (min li dp)) * 5) + 4)) - 1) - fo fr) (fE ((((fr * 4) + (min li dp)) * 5) + 4)) n)), .ref bD, .ref bL, .ref bE])), (ga, .inl (k 0, 49, .inl (fun i9 : Nat => iI (fg i9)))), (wt, .inl (k 0, 49, .inl (fun i9 : Nat => iI (fw i9)))), (wo, .inl (k 0, 49, .inl (fun i9 : Nat => iI (fo i9)))), (bD, .inl (k 2, 980, .inr (.inl (fun i9 : Nat => lI (fD i9))))), (bL, .inl (k 0, 980, .inl (fun i9 : Nat => iI (fL i9)))), (bE, .inl (k 0, 980, .inl (fun i9 : Nat => iI (fE i9))))]) [3, 4, 5, 6, 0, 1, 2] (by decide) rfl B
        exact k_iret B hr (⟨(fE ((((fr * 4) + (min li dp)) * 5) + 4)), z_9, z_10, rfl, rfl, rfl, rfl⟩) ⟨Nat.le_of_ble_eq_true rfl, Nat.le_of_ble_eq_true rfl⟩ ⟨Nat.le_of_ble_eq_true rfl, Nat.le_of_ble_eq_true rfl⟩ dX2_bestEnd_49
      · skip
        rw [hw9] at B; clear hw9
        have B := bd_to (ws' := [(bD, .inl (k 2, 980, .inr (.inl (fun i9 : Nat => lI (fD i9))))), (bL, .inl (k 0, 980, .inl (fun i9 : Nat => iI (fL i9)))), (bE, .inl (k 0, 980, .inl (fun i9 : Nat => iI (fE i9)))), (ln, .inr (2, [.int (iI n), .ref wa, .ref ga, .ref wt, .ref wo, .int (iI wd), .int (iI nw), .int (iI dp), .int (iI (jSp (jLk fw fo fg fr (fE ((((fr * 4) + (min li dp)) * 5) + 4)) (if li < dp then nw else wd)) (fo ((fE ((((fr * 4) + (min li dp)) * 5) + 4)) - 1) - fo fr) (fE ((((fr * 4) + (min li dp)) * 5) + 4)) n)), .int (iI (jCl (jLk fw fo fg fr (fE ((((fr * 4) + (min li dp)) * 5) + 4)) (if li < dp then nw else wd)) (fo ((fE ((((fr * 4) + (min li dp)) * 5) + 4)) - 1) - fo fr) (fE ((((fr * 4) + (min li dp)) * 5) + 4)) n)), .ref bD, .ref bL, .ref bE])), (ga, .inl (k 0, 49, .inl (fun i9 : Nat => iI (fg i9)))), (wt, .inl (k 0, 49, .inl (fun i9 : Nat => iI (fw i9)))), (wo, .inl (k 0, 49, .inl (fun i9 : Nat => iI (fo i9))))]) rfl B
        refine lv_pop hx hb dX2_bestEnd_46 rfl ?_
        refine lv_iload hx hb dX2_bestEnd_47 (lv_at hl 0 rfl) ?_
        have B := bd_sub (ws' := [(ln, .inr (2, [.int (iI n), .ref wa, .ref ga, .ref wt, .ref wo, .int (iI wd), .int (iI nw), .int (iI dp), .int (iI (jSp (jLk fw fo fg fr (fE ((((fr * 4) + (min li dp)) * 5) + 4)) (if li < dp then nw else wd)) (fo ((fE ((((fr * 4) + (min li dp)) * 5) + 4)) - 1) - fo fr) (fE ((((fr * 4) + (min li dp)) * 5) + 4)) n)), .int (iI (jCl (jLk fw fo fg fr (fE ((((fr * 4) + (min li dp)) * 5) + 4)) (if li < dp then nw else wd)) (fo ((fE ((((fr * 4) + (min li dp)) * 5) + 4)) - 1) - fo fr) (fE ((((fr * 4) + (min li dp)) * 5) + 4)) n)), .ref bD, .ref bL, .ref bE])), (ga, .inl (k 0, 49, .inl (fun i9 : Nat => iI (fg i9)))), (wt, .inl (k 0, 49, .inl (fun i9 : Nat => iI (fw i9)))), (wo, .inl (k 0, 49, .inl (fun i9 : Nat => iI (fo i9)))), (bD, .inl (k 2, 980, .inr (.inl (fun i9 : Nat => lI (fD i9))))), (bL, .inl (k 0, 980, .inl (fun i9 : Nat => iI (fL i9)))), (bE, .inl (k 0, 980, .inl (fun i9 : Nat => iI (fE i9))))]) [3, 4, 5, 6, 0, 1, 2] (by decide) rfl B
        exact k_iret B hr (⟨(fE ((((fr * 4) + (min li dp)) * 5) + 4)), z_9, z_10, rfl, rfl, rfl, rfl⟩) ⟨Nat.le_of_ble_eq_true rfl, Nat.le_of_ble_eq_true rfl⟩ ⟨Nat.le_of_ble_eq_true rfl, Nat.le_of_ble_eq_true rfl⟩ dX2_bestEnd_49

/-- the demerits of one way of all: the bit k of ways is 1 where a line ends at the place k + 1 -/
def dmF (fg fw fo : Int → Int) (n wd nw dp ways : Int) : Nat → Int → Int → Int → Int → Int → Int
  | 0, _, _, _, _, sum => sum
  | f + 1, to, fr, li, ah, sum =>
    if to < n ∧ bAnd (bShr ways (to - 1)) 1 = 0 then dmF fg fw fo n wd nw dp ways f (to + 1) fr li ah sum
    else if okZ fg fw fo (if li < dp then nw else wd) fr to then dmF fg fw fo n wd nw dp ways f (to + 1) to (li + 1) (clZ fg fw fo n (if li < dp then nw else wd) fr to) (sum + (ownZ (sdZ fg fw fo n (if li < dp then nw else wd) fr to) (fg to) + pnZ (clZ fg fw fo n (if li < dp then nw else wd) fr to) ah (fg fr) (fg to)))
    else -1
section DMS
variable {fg fw fo : Int → Int} {n wd nw dp ways to fr li ah sum : Int}
theorem dm_k (h : to ≤ n) : dmF fg fw fo n wd nw dp ways (n + 1 - to).toNat to fr li ah sum =
    if to < n ∧ bAnd (bShr ways (to - 1)) 1 = 0 then dmF fg fw fo n wd nw dp ways (n + 1 - (to + 1)).toNat (to + 1) fr li ah sum
    else if okZ fg fw fo (if li < dp then nw else wd) fr to then dmF fg fw fo n wd nw dp ways (n + 1 - (to + 1)).toNat (to + 1) to (li + 1) (clZ fg fw fo n (if li < dp then nw else wd) fr to) (sum + (ownZ (sdZ fg fw fo n (if li < dp then nw else wd) fr to) (fg to) + pnZ (clZ fg fw fo n (if li < dp then nw else wd) fr to) ah (fg fr) (fg to)))
    else -1 := by
  have e : (n + 1 - to).toNat = (n + 1 - (to + 1)).toNat + 1 := by omega
  rw [e]
  simp only [dmF]
theorem dm_skip (h : to < n) (hb : bAnd (bShr ways (to - 1)) 1 = 0) : dmF fg fw fo n wd nw dp ways (n + 1 - to).toNat to fr li ah sum = dmF fg fw fo n wd nw dp ways (n + 1 - (to + 1)).toNat (to + 1) fr li ah sum := by
  rw [dm_k (by omega), if_pos ⟨h, hb⟩]
theorem dm_take (h : to ≤ n) (hb : ¬ (to < n ∧ bAnd (bShr ways (to - 1)) 1 = 0)) (ho : okZ fg fw fo (if li < dp then nw else wd) fr to) : dmF fg fw fo n wd nw dp ways (n + 1 - to).toNat to fr li ah sum = dmF fg fw fo n wd nw dp ways (n + 1 - (to + 1)).toNat (to + 1) to (li + 1) (clZ fg fw fo n (if li < dp then nw else wd) fr to) (sum + (ownZ (sdZ fg fw fo n (if li < dp then nw else wd) fr to) (fg to) + pnZ (clZ fg fw fo n (if li < dp then nw else wd) fr to) ah (fg fr) (fg to))) := by
  rw [dm_k h, if_neg hb, if_pos ho]
theorem dm_no (h : to ≤ n) (hb : ¬ (to < n ∧ bAnd (bShr ways (to - 1)) 1 = 0)) (ho : ¬ okZ fg fw fo (if li < dp then nw else wd) fr to) : dmF fg fw fo n wd nw dp ways (n + 1 - to).toNat to fr li ah sum = -1 := by
  rw [dm_k h, if_neg hb, if_neg ho]
theorem dm_end (h : n < to) : dmF fg fw fo n wd nw dp ways (n + 1 - to).toNat to fr li ah sum = sum := by
  rw [show (n + 1 - to).toNat = 0 by omega]; rfl
theorem dm_in (hw : ∀ (wz fr to : Int), wz = nw ∨ wz = wd → -100000 ≤ jLk fw fo fg fr to wz) : ∀ (f : Nat) (to fr li ah sum M : Int), 0 ≤ sum → sum ≤ M → -1 ≤ dmF fg fw fo n wd nw dp ways f to fr li ah sum ∧ dmF fg fw fo n wd nw dp ways f to fr li ah sum ≤ M + 41736600 * f
  | 0, to, fr, li, ah, sum, M, h1, h2 => by simp only [dmF]; omega
  | f + 1, to, fr, li, ah, sum, M, h1, h2 => by
    simp only [dmF]
    by_cases h3 : to < n ∧ bAnd (bShr ways (to - 1)) 1 = 0
    · rw [if_pos h3]
      have := dm_in hw f (to + 1) fr li ah sum M h1 h2; omega
    · rw [if_neg h3]
      by_cases h4 : okZ fg fw fo (if li < dp then nw else wd) fr to
      · rw [if_pos h4]
        have hs := jSp_in (lk := jLk fw fo fg fr to (if li < dp then nw else wd)) (sp := fo (to - 1) - fo fr) (to := to) (n := n) (hw _ _ _ (by split <;> simp))
        have ho := ownZ_in (sd := sdZ fg fw fo n (if li < dp then nw else wd) fr to) (g := fg to) hs
        have hp := pnZ_in (clZ fg fw fo n (if li < dp then nw else wd) fr to) ah (fg fr) (fg to)
        have := dm_in hw f (to + 1) to (li + 1) (clZ fg fw fo n (if li < dp then nw else wd) fr to) (sum + (ownZ (sdZ fg fw fo n (if li < dp then nw else wd) fr to) (fg to) + pnZ (clZ fg fw fo n (if li < dp then nw else wd) fr to) ah (fg fr) (fg to))) (M + 41736600) (by omega) (by omega)
        omega
      · rw [if_neg h4]; omega
end DMS
/-- the demerits of a way; the least of the first k ways, -1 for none -/
def DM (fg fw fo : Int → Int) (n wd nw dp ways : Int) : Int := dmF fg fw fo n wd nw dp ways (n + 1 - 1).toNat 1 0 0 4 0
def lbF (g : Int → Int) : Nat → Int
  | 0 => -1
  | k + 1 => if g k = -1 then lbF g k else if lbF g k = -1 then g k else if g k < lbF g k then g k else lbF g k
theorem lbF_in {g : Int → Int} {lo hi : Int} (h1 : lo ≤ -1 ∧ -1 ≤ hi) (h : ∀ i, lo ≤ g i ∧ g i ≤ hi) : ∀ k, lo ≤ lbF g k ∧ lbF g k ≤ hi
  | 0 => h1
  | k + 1 => by
    have := lbF_in h1 h k
    have := h k
    simp only [lbF]
    (repeat' split) <;> omega
theorem lbF_s {g : Int → Int} {w : Int} (hw : 0 ≤ w) : lbF g (w + 1).toNat = if g w = -1 then lbF g w.toNat else if lbF g w.toNat = -1 then g w else if g w < lbF g w.toNat then g w else lbF g w.toNat := by
  rw [show (w + 1).toNat = w.toNat + 1 by omega]
  simp only [lbF]
  rw [show ((w.toNat : Nat) : Int) = w by omega]
theorem bShl_12 {n : Int} (h : 1 ≤ n ∧ n ≤ 12) : 0 < bShl 1 (n - 1) ∧ bShl 1 (n - 1) ≤ 2048 := by
  have h1 := bShl_1 (k := n - 1) (by omega)
  have h2 : 2 ^ (n - 1).toNat ≤ 2 ^ 11 := Nat.pow_le_pow_right (by omega) (by omega)
  refine ⟨h1.1, ?_⟩
  simp only [bShl]
  omega

theorem dX2_demeritsOf_0 : decode cX2_demeritsOf 0 = .ok (.lconst 0, 1) := by decide +kernel
theorem dX2_demeritsOf_1 : decode cX2_demeritsOf 1 = .ok (.lstore_n 2, 1) := by decide +kernel
theorem dX2_demeritsOf_2 : decode cX2_demeritsOf 2 = .ok (.iconst 0, 1) := by decide +kernel
theorem dX2_demeritsOf_3 : decode cX2_demeritsOf 3 = .ok (.istore 4, 2) := by decide +kernel
theorem dX2_demeritsOf_5 : decode cX2_demeritsOf 5 = .ok (.iconst 0, 1) := by decide +kernel
theorem dX2_demeritsOf_6 : decode cX2_demeritsOf 6 = .ok (.istore 5, 2) := by decide +kernel
theorem dX2_demeritsOf_8 : decode cX2_demeritsOf 8 = .ok (.iconst 4, 1) := by decide +kernel
theorem dX2_demeritsOf_9 : decode cX2_demeritsOf 9 = .ok (.istore 6, 2) := by decide +kernel
theorem dX2_demeritsOf_11 : decode cX2_demeritsOf 11 = .ok (.iconst 1, 1) := by decide +kernel
theorem dX2_demeritsOf_12 : decode cX2_demeritsOf 12 = .ok (.istore 7, 2) := by decide +kernel
theorem dX2_demeritsOf_14 : decode cX2_demeritsOf 14 = .ok (.iload 7, 2) := by decide +kernel
theorem dX2_demeritsOf_16 : decode cX2_demeritsOf 16 = .ok (.aload_n 0, 1) := by decide +kernel
theorem dX2_demeritsOf_17 : decode cX2_demeritsOf 17 = .ok (.getfield 34, 3) := by decide +kernel
theorem dX2_demeritsOf_20 : decode cX2_demeritsOf 20 = .ok (.if_icmp .gt 87, 3) := by decide +kernel
theorem dX2_demeritsOf_23 : decode cX2_demeritsOf 23 = .ok (.iload 7, 2) := by decide +kernel
theorem dX2_demeritsOf_25 : decode cX2_demeritsOf 25 = .ok (.aload_n 0, 1) := by decide +kernel
theorem dX2_demeritsOf_26 : decode cX2_demeritsOf 26 = .ok (.getfield 34, 3) := by decide +kernel
theorem dX2_demeritsOf_29 : decode cX2_demeritsOf 29 = .ok (.if_icmp .ge 17, 3) := by decide +kernel
theorem dX2_demeritsOf_32 : decode cX2_demeritsOf 32 = .ok (.iload_n 1, 1) := by decide +kernel
theorem dX2_demeritsOf_33 : decode cX2_demeritsOf 33 = .ok (.iload 7, 2) := by decide +kernel
theorem dX2_demeritsOf_35 : decode cX2_demeritsOf 35 = .ok (.iconst 1, 1) := by decide +kernel
theorem dX2_demeritsOf_36 : decode cX2_demeritsOf 36 = .ok (.isub, 1) := by decide +kernel
theorem dX2_demeritsOf_37 : decode cX2_demeritsOf 37 = .ok (.ishr, 1) := by decide +kernel
theorem dX2_demeritsOf_38 : decode cX2_demeritsOf 38 = .ok (.iconst 1, 1) := by decide +kernel
theorem dX2_demeritsOf_39 : decode cX2_demeritsOf 39 = .ok (.iand, 1) := by decide +kernel
theorem dX2_demeritsOf_40 : decode cX2_demeritsOf 40 = .ok (.ifCond .ne 6, 3) := by decide +kernel
theorem dX2_demeritsOf_43 : decode cX2_demeritsOf 43 = .ok (.goto 58, 3) := by decide +kernel
theorem dX2_demeritsOf_46 : decode cX2_demeritsOf 46 = .ok (.aload_n 0, 1) := by decide +kernel
theorem dX2_demeritsOf_47 : decode cX2_demeritsOf 47 = .ok (.iload 4, 2) := by decide +kernel
theorem dX2_demeritsOf_49 : decode cX2_demeritsOf 49 = .ok (.iload 7, 2) := by decide +kernel
theorem dX2_demeritsOf_51 : decode cX2_demeritsOf 51 = .ok (.aload_n 0, 1) := by decide +kernel
theorem dX2_demeritsOf_52 : decode cX2_demeritsOf 52 = .ok (.iload 5, 2) := by decide +kernel
theorem dX2_demeritsOf_54 : decode cX2_demeritsOf 54 = .ok (.invokevirtual 130, 3) := by decide +kernel
theorem dX2_demeritsOf_57 : decode cX2_demeritsOf 57 = .ok (.invokevirtual 134, 3) := by decide +kernel
theorem dX2_demeritsOf_60 : decode cX2_demeritsOf 60 = .ok (.ifCond .ne 7, 3) := by decide +kernel
theorem dX2_demeritsOf_63 : decode cX2_demeritsOf 63 = .ok (.ldc2_w 152, 3) := by decide +kernel
theorem dX2_demeritsOf_66 : decode cX2_demeritsOf 66 = .ok (.lreturn, 1) := by decide +kernel
theorem dX2_demeritsOf_67 : decode cX2_demeritsOf 67 = .ok (.lload_n 2, 1) := by decide +kernel
theorem dX2_demeritsOf_68 : decode cX2_demeritsOf 68 = .ok (.aload_n 0, 1) := by decide +kernel
theorem dX2_demeritsOf_69 : decode cX2_demeritsOf 69 = .ok (.iload 7, 2) := by decide +kernel
theorem dX2_demeritsOf_71 : decode cX2_demeritsOf 71 = .ok (.invokevirtual 145, 3) := by decide +kernel
theorem dX2_demeritsOf_74 : decode cX2_demeritsOf 74 = .ok (.aload_n 0, 1) := by decide +kernel
theorem dX2_demeritsOf_75 : decode cX2_demeritsOf 75 = .ok (.iload 4, 2) := by decide +kernel
theorem dX2_demeritsOf_77 : decode cX2_demeritsOf 77 = .ok (.iload 7, 2) := by decide +kernel
theorem dX2_demeritsOf_79 : decode cX2_demeritsOf 79 = .ok (.iload 6, 2) := by decide +kernel
theorem dX2_demeritsOf_81 : decode cX2_demeritsOf 81 = .ok (.invokevirtual 149, 3) := by decide +kernel
theorem dX2_demeritsOf_84 : decode cX2_demeritsOf 84 = .ok (.i2l, 1) := by decide +kernel
theorem dX2_demeritsOf_85 : decode cX2_demeritsOf 85 = .ok (.ladd, 1) := by decide +kernel
theorem dX2_demeritsOf_86 : decode cX2_demeritsOf 86 = .ok (.ladd, 1) := by decide +kernel
theorem dX2_demeritsOf_87 : decode cX2_demeritsOf 87 = .ok (.lstore_n 2, 1) := by decide +kernel
theorem dX2_demeritsOf_88 : decode cX2_demeritsOf 88 = .ok (.aload_n 0, 1) := by decide +kernel
theorem dX2_demeritsOf_89 : decode cX2_demeritsOf 89 = .ok (.getfield 113, 3) := by decide +kernel
theorem dX2_demeritsOf_92 : decode cX2_demeritsOf 92 = .ok (.istore 6, 2) := by decide +kernel
theorem dX2_demeritsOf_94 : decode cX2_demeritsOf 94 = .ok (.iload 7, 2) := by decide +kernel
theorem dX2_demeritsOf_96 : decode cX2_demeritsOf 96 = .ok (.istore 4, 2) := by decide +kernel
theorem dX2_demeritsOf_98 : decode cX2_demeritsOf 98 = .ok (.iinc 5 1, 3) := by decide +kernel
theorem dX2_demeritsOf_101 : decode cX2_demeritsOf 101 = .ok (.iinc 7 1, 3) := by decide +kernel
theorem dX2_demeritsOf_104 : decode cX2_demeritsOf 104 = .ok (.goto (-90), 3) := by decide +kernel
theorem dX2_demeritsOf_107 : decode cX2_demeritsOf 107 = .ok (.lload_n 2, 1) := by decide +kernel
theorem dX2_demeritsOf_108 : decode cX2_demeritsOf 108 = .ok (.lreturn, 1) := by decide +kernel
set_option maxHeartbeats 4000000 in
set_option maxRecDepth 100000 in
theorem k_demeritsOf (l : Launch) (dC : Nat → ClassId) (dI : Nat → Nat → Nat) (k : Nat → ClassId) (ln : Nat) (wa : Nat) (ga : Nat) (wt : Nat) (wo : Nat) (bD : Nat) (bL : Nat) (bE : Nat) (n : Int) (wd : Int) (nw : Int) (dp : Int) (sd : Int) (cl : Int) (fg : Int → Int) (fw : Int → Int) (fo : Int → Int) (ways : Int) (hg : Bd 0 5 fg) (hw : Bd 0 2000 fw) (ho : Bd 0 12 fo) (h1 : 1 ≤ n ∧ n ≤ 12) (h2 : 0 ≤ dp ∧ dp ≤ 3) (h3 : 0 ≤ wd ∧ wd ≤ 200 ∧ 0 ≤ nw ∧ nw ≤ 200) (h4 : 0 ≤ ways ∧ ways < 4096) : Kn l dC dI k yX2_demeritsOf (.code yX2_demeritsOf cX2_demeritsOf 8 (some .long)) ({ frames := 2, cells := 0, slots := 0, locals := 40 } : Room) [.ref ln, .int (iI ways)] [(ln, .inr (2, [.int (iI n), .ref wa, .ref ga, .ref wt, .ref wo, .int (iI wd), .int (iI nw), .int (iI dp), .int (iI sd), .int (iI cl), .ref bD, .ref bL, .ref bE])), (ga, .inl (k 0, 49, .inl (fun i9 : Nat => iI (fg i9)))), (wt, .inl (k 0, 49, .inl (fun i9 : Nat => iI (fw i9)))), (wo, .inl (k 0, 49, .inl (fun i9 : Nat => iI (fo i9))))] (fun r w gc gs => (∃ (sq : Int) (cq : Int), (-1 ≤ DM fg fw fo n wd nw dp ways ∧ DM fg fw fo n wd nw dp ways ≤ 1000000000000) ∧ r = some (.long (lI (DM fg fw fo n wd nw dp ways))) ∧ w = [(ln, .inr (2, [.int (iI n), .ref wa, .ref ga, .ref wt, .ref wo, .int (iI wd), .int (iI nw), .int (iI dp), .int (iI sq), .int (iI cq), .ref bD, .ref bL, .ref bE])), (ga, .inl (k 0, 49, .inl (fun i9 : Nat => iI (fg i9)))), (wt, .inl (k 0, 49, .inl (fun i9 : Nat => iI (fw i9)))), (wo, .inl (k 0, 49, .inl (fun i9 : Nat => iI (fo i9))))] ∧ gc = 0 ∧ gs = 0)) := by
  refine kn_of (by decide) (Nat.le_of_ble_eq_true rfl) ?_
  intro p e s m args below meth c H locs B hr hnm ls hl
  have hx := B.1.1
  have hb := B.1.2.1
  have hl : lv_has ls 8 [(0, .ref ln), (1, .int (iI ways))] := hl
  refine lv_lconst (v := lI 0) hx hb dX2_demeritsOf_0 (by decide) ?_
  refine lv_lstore_n (lv' := [(2, .long (lI 0)), (0, .ref ln), (1, .int (iI ways))]) hx hb dX2_demeritsOf_1 rfl hl (by decide) rfl (fun ls hl => ?_)
  refine lv_iconst (v := iI 0) hx hb dX2_demeritsOf_2 (by decide) ?_
  refine lv_istore (lv' := [(4, .int (iI 0)), (2, .long (lI 0)), (0, .ref ln), (1, .int (iI ways))]) hx hb dX2_demeritsOf_3 hl (by decide) rfl (fun ls hl => ?_)
  refine lv_iconst (v := iI 0) hx hb dX2_demeritsOf_5 (by decide) ?_
  refine lv_istore (lv' := [(5, .int (iI 0)), (4, .int (iI 0)), (2, .long (lI 0)), (0, .ref ln), (1, .int (iI ways))]) hx hb dX2_demeritsOf_6 hl (by decide) rfl (fun ls hl => ?_)
  refine lv_iconst (v := iI 4) hx hb dX2_demeritsOf_8 (by decide) ?_
  refine lv_istore (lv' := [(6, .int (iI 4)), (5, .int (iI 0)), (4, .int (iI 0)), (2, .long (lI 0)), (0, .ref ln), (1, .int (iI ways))]) hx hb dX2_demeritsOf_9 hl (by decide) rfl (fun ls hl => ?_)
  refine lv_iconst (v := iI 1) hx hb dX2_demeritsOf_11 (by decide) ?_
  refine lv_istore (lv' := [(7, .int (iI 1)), (6, .int (iI 4)), (5, .int (iI 0)), (4, .int (iI 0)), (2, .long (lI 0)), (0, .ref ln), (1, .int (iI ways))]) hx hb dX2_demeritsOf_12 hl (by decide) rfl (fun ls hl => ?_)
  refine k_loop (σ := Int × Int × Int × Int × Int × Int × Int) B (fun g9 : Int × Int × Int × Int × Int × Int × Int => (1 ≤ g9.1 ∧ g9.1 ≤ n + 1 ∧ 0 ≤ g9.2.1 ∧ g9.2.1 < g9.1 ∧ 0 ≤ g9.2.2.1 ∧ g9.2.2.1 < g9.1 ∧ 0 ≤ g9.2.2.2.1 ∧ g9.2.2.2.1 ≤ 4) ∧ (dmF fg fw fo n wd nw dp ways (n + 1 - g9.1).toNat g9.1 g9.2.1 g9.2.2.1 g9.2.2.2.1 g9.2.2.2.2.1 = DM fg fw fo n wd nw dp ways)) (fun g9 : Int × Int × Int × Int × Int × Int × Int => (n + 1 - g9.1).toNat) (fun g9 : Int × Int × Int × Int × Int × Int × Int => [(7, .int (iI g9.1)), (6, .int (iI g9.2.2.2.1)), (5, .int (iI g9.2.2.1)), (4, .int (iI g9.2.1)), (2, .long (lI g9.2.2.2.2.1)), (0, .ref ln), (1, .int (iI ways))]) (fun g9 : Int × Int × Int × Int × Int × Int × Int => [(ln, .inr (2, [.int (iI n), .ref wa, .ref ga, .ref wt, .ref wo, .int (iI wd), .int (iI nw), .int (iI dp), .int (iI g9.2.2.2.2.2.1), .int (iI g9.2.2.2.2.2.2), .ref bD, .ref bL, .ref bE])), (ga, .inl (k 0, 49, .inl (fun i9 : Nat => iI (fg i9)))), (wt, .inl (k 0, 49, .inl (fun i9 : Nat => iI (fw i9)))), (wo, .inl (k 0, 49, .inl (fun i9 : Nat => iI (fo i9))))]) ?_ (1, 0, 0, 4, 0, sd, cl) ⟨(show 1 ≤ 1 ∧ 1 ≤ n + 1 ∧ 0 ≤ 0 ∧ 0 < 1 ∧ 0 ≤ 0 ∧ 0 < 1 ∧ 0 ≤ 4 ∧ 4 ≤ 4 from (by omega)), (show dmF fg fw fo n wd nw dp ways (n + 1 - 1).toNat 1 0 0 4 0 = DM fg fw fo n wd nw dp ways from rfl)⟩ ls H locs (lv_sub hl [0, 1, 2, 3, 4, 5, 6] rfl) (bd_to rfl B)
  clear hl B
  rintro ⟨to, fr, li, ah, sum, sq, cq⟩ ⟨hto, hq⟩ ih_1 ls H locs hl B
  have hto : 1 ≤ to ∧ to ≤ n + 1 ∧ 0 ≤ fr ∧ fr < to ∧ 0 ≤ li ∧ li < to ∧ 0 ≤ ah ∧ ah ≤ 4 := hto
  have hq : dmF fg fw fo n wd nw dp ways (n + 1 - to).toNat to fr li ah sum = DM fg fw fo n wd nw dp ways := hq
  have hl : lv_has ls 8 [(7, .int (iI to)), (6, .int (iI ah)), (5, .int (iI li)), (4, .int (iI fr)), (2, .long (lI sum)), (0, .ref ln), (1, .int (iI ways))] := hl
  have B := bd_to (ws' := [(ln, .inr (2, [.int (iI n), .ref wa, .ref ga, .ref wt, .ref wo, .int (iI wd), .int (iI nw), .int (iI dp), .int (iI sq), .int (iI cq), .ref bD, .ref bL, .ref bE])), (ga, .inl (k 0, 49, .inl (fun i9 : Nat => iI (fg i9)))), (wt, .inl (k 0, 49, .inl (fun i9 : Nat => iI (fw i9)))), (wo, .inl (k 0, 49, .inl (fun i9 : Nat => iI (fo i9))))]) rfl B
  refine lv_iload hx hb dX2_demeritsOf_14 (lv_at hl 0 rfl) ?_
  refine lv_aload_n hx hb dX2_demeritsOf_16 rfl (lv_at hl 5 rfl) ?_
  refine x_get (ci := 2) (C := RX2) (T := TX2) (N := 13) (v := .int (iI n)) B 0 rfl rfl in_X2 0 (by decide) mw_126 (fun _ h9 => h9) rfl dX2_demeritsOf_17 ?_
  refine lv_icmp_gt (tgt := 107) hx hb dX2_demeritsOf_20 (by decide) (fun c_2 => ?_) (fun c_2 => ?_)
  · have zc_2 : n < to := jlt (a := n) (b := to) (by omega) (by omega) c_2
    refine lv_lload_n hx hb dX2_demeritsOf_107 rfl (lv_at hl 4 rfl) ?_
    have e_3 : (DM fg fw fo n wd nw dp ways) = sum := (hq.symm.trans (dm_end (by omega)))
    skip
    exact k_lret B hr (⟨sq, cq, (by have := dm_in (n := n) (wd := wd) (nw := nw) (dp := dp) (ways := ways) (fg := fg) (fw := fw) (fo := fo) (fun wz f1 t1 hz => by have := jLk_in hw ho (fg := fg) (fr := f1) (to := t1) (wz := wz) (by omega); omega) (n + 1 - 1).toNat 1 0 0 4 0 0 (by omega) (by omega); unfold DM; omega), (by rw [e_3]), rfl, rfl, rfl⟩) ⟨Nat.le_of_ble_eq_true rfl, Nat.le_of_ble_eq_true rfl⟩ ⟨Nat.le_of_ble_eq_true rfl, Nat.le_of_ble_eq_true rfl⟩ dX2_demeritsOf_108
  · have zc_2 : to ≤ n := jnlt (a := n) (b := to) (by omega) (by omega) c_2
    refine lv_iload hx hb dX2_demeritsOf_23 (lv_at hl 0 rfl) ?_
    refine lv_aload_n hx hb dX2_demeritsOf_25 rfl (lv_at hl 5 rfl) ?_
    refine x_get (ci := 2) (C := RX2) (T := TX2) (N := 13) (v := .int (iI n)) B 0 rfl rfl in_X2 0 (by decide) mw_126 (fun _ h9 => h9) rfl dX2_demeritsOf_26 ?_
    refine lv_icmp_ge (tgt := 46) hx hb dX2_demeritsOf_29 (by decide) (fun c_4 => ?_) (fun c_4 => ?_)
    · have zc_4 : n ≤ to := jle (a := n) (b := to) (by omega) (by omega) c_4
      refine lv_aload_n hx hb dX2_demeritsOf_46 rfl (lv_at hl 5 rfl) ?_
      refine lv_iload hx hb dX2_demeritsOf_47 (lv_at hl 3 rfl) ?_
      refine lv_iload hx hb dX2_demeritsOf_49 (lv_at hl 0 rfl) ?_
      refine lv_aload_n hx hb dX2_demeritsOf_51 rfl (lv_at hl 5 rfl) ?_
      refine lv_iload hx hb dX2_demeritsOf_52 (lv_at hl 2 rfl) ?_
      have B := bd_to (ws' := [(ln, .inr (2, [.int (iI n), .ref wa, .ref ga, .ref wt, .ref wo, .int (iI wd), .int (iI nw), .int (iI dp), .int (iI sq), .int (iI cq), .ref bD, .ref bL, .ref bE]))] ++ [(ga, .inl (k 0, 49, .inl (fun i9 : Nat => iI (fg i9)))), (wt, .inl (k 0, 49, .inl (fun i9 : Nat => iI (fw i9)))), (wo, .inl (k 0, 49, .inl (fun i9 : Nat => iI (fo i9))))]) rfl B
      refine k_V (rest := [.int (iI to), .int (iI fr), .ref ln]) (wc := [(ln, .inr (2, [.int (iI n), .ref wa, .ref ga, .ref wt, .ref wo, .int (iI wd), .int (iI nw), .int (iI dp), .int (iI sq), .int (iI cq), .ref bD, .ref bL, .ref bE]))]) (wr := [(ga, .inl (k 0, 49, .inl (fun i9 : Nat => iI (fg i9)))), (wt, .inl (k 0, 49, .inl (fun i9 : Nat => iI (fw i9)))), (wo, .inl (k 0, 49, .inl (fun i9 : Nat => iI (fo i9))))]) (k_widthOf l dC dI k ln wa ga wt wo bD bL bE n wd nw dp sq cq li (by omega) h2) B mV_X2_widthOf mw_1428 hl (q0 := 0) rfl rfl rfl ⟨Nat.le_of_ble_eq_true rfl, Nat.le_of_ble_eq_true rfl⟩ (Nat.le_of_ble_eq_true rfl) rfl dX2_demeritsOf_54 ⟨Nat.le_of_ble_eq_true rfl, Nat.le_of_ble_eq_true rfl⟩ (fun r w gc gs H locs hp B => ?_)
      obtain ⟨rfl, hw9, rfl, rfl⟩ := hp
      rw [hw9] at B; clear hw9
      have B := bd_to (ws' := [(ga, .inl (k 0, 49, .inl (fun i9 : Nat => iI (fg i9)))), (wt, .inl (k 0, 49, .inl (fun i9 : Nat => iI (fw i9)))), (wo, .inl (k 0, 49, .inl (fun i9 : Nat => iI (fo i9)))), (ln, .inr (2, [.int (iI n), .ref wa, .ref ga, .ref wt, .ref wo, .int (iI wd), .int (iI nw), .int (iI dp), .int (iI sq), .int (iI cq), .ref bD, .ref bL, .ref bE]))]) rfl B
      have B := bd_sub (ws' := [(ln, .inr (2, [.int (iI n), .ref wa, .ref ga, .ref wt, .ref wo, .int (iI wd), .int (iI nw), .int (iI dp), .int (iI sq), .int (iI cq), .ref bD, .ref bL, .ref bE])), (ga, .inl (k 0, 49, .inl (fun i9 : Nat => iI (fg i9)))), (wt, .inl (k 0, 49, .inl (fun i9 : Nat => iI (fw i9)))), (wo, .inl (k 0, 49, .inl (fun i9 : Nat => iI (fo i9))))]) [3, 0, 1, 2] (by decide) rfl B
      have B := bd_to (ws' := [(ln, .inr (2, [.int (iI n), .ref wa, .ref ga, .ref wt, .ref wo, .int (iI wd), .int (iI nw), .int (iI dp), .int (iI sq), .int (iI cq), .ref bD, .ref bL, .ref bE])), (ga, .inl (k 0, 49, .inl (fun i9 : Nat => iI (fg i9)))), (wt, .inl (k 0, 49, .inl (fun i9 : Nat => iI (fw i9)))), (wo, .inl (k 0, 49, .inl (fun i9 : Nat => iI (fo i9))))] ++ []) rfl B
      refine k_V (rest := []) (wc := [(ln, .inr (2, [.int (iI n), .ref wa, .ref ga, .ref wt, .ref wo, .int (iI wd), .int (iI nw), .int (iI dp), .int (iI sq), .int (iI cq), .ref bD, .ref bL, .ref bE])), (ga, .inl (k 0, 49, .inl (fun i9 : Nat => iI (fg i9)))), (wt, .inl (k 0, 49, .inl (fun i9 : Nat => iI (fw i9)))), (wo, .inl (k 0, 49, .inl (fun i9 : Nat => iI (fo i9))))]) (wr := []) (k_judge l dC dI k ln wa ga wt wo bD bL bE n wd nw dp sq cq fg fw fo fr to (if li < dp then nw else wd) hg hw ho (by omega) (by split <;> omega)) B mV_X2_judge mw_1432 hl (q0 := 0) rfl rfl rfl ⟨Nat.le_of_ble_eq_true rfl, Nat.le_of_ble_eq_true rfl⟩ (Nat.le_of_ble_eq_true rfl) rfl dX2_demeritsOf_57 ⟨Nat.le_of_ble_eq_true rfl, Nat.le_of_ble_eq_true rfl⟩ (fun r w gc gs H locs hp B => ?_)
      rcases hp with ⟨z_5, rfl, hw9, rfl, rfl⟩ | ⟨z_6, rfl, hw9, rfl, rfl⟩
      · skip
        rw [hw9] at B; clear hw9
        have B := bd_to (ws' := [(ln, .inr (2, [.int (iI n), .ref wa, .ref ga, .ref wt, .ref wo, .int (iI wd), .int (iI nw), .int (iI dp), .int (iI (jSp (jLk fw fo fg fr to (if li < dp then nw else wd)) (fo (to - 1) - fo fr) to n)), .int (iI (jCl (jLk fw fo fg fr to (if li < dp then nw else wd)) (fo (to - 1) - fo fr) to n)), .ref bD, .ref bL, .ref bE])), (ga, .inl (k 0, 49, .inl (fun i9 : Nat => iI (fg i9)))), (wt, .inl (k 0, 49, .inl (fun i9 : Nat => iI (fw i9)))), (wo, .inl (k 0, 49, .inl (fun i9 : Nat => iI (fo i9))))]) rfl B
        have z_7 : -3000 ≤ jLk fw fo fg fr to (if li < dp then nw else wd) := jLk_in hw ho (by split <;> omega)
        have z_8 : 0 ≤ jCl (jLk fw fo fg fr to (if li < dp then nw else wd)) (fo (to - 1) - fo fr) to n ∧ jCl (jLk fw fo fg fr to (if li < dp then nw else wd)) (fo (to - 1) - fo fr) to n ≤ 3 := jCl_in _ _ _ _
        have z_9 : 0 ≤ jSp (jLk fw fo fg fr to (if li < dp then nw else wd)) (fo (to - 1) - fo fr) to n ∧ jSp (jLk fw fo fg fr to (if li < dp then nw else wd)) (fo (to - 1) - fo fr) to n ≤ 400 := jSp_in (by omega)
        refine lv_if_ne (tgt := 67) hx hb dX2_demeritsOf_60 (by decide) (fun _ => ?_) (fun c9 => absurd c9 (by decide))
        refine lv_lload_n hx hb dX2_demeritsOf_67 rfl (lv_at hl 4 rfl) ?_
        refine lv_aload_n hx hb dX2_demeritsOf_68 rfl (lv_at hl 5 rfl) ?_
        refine lv_iload hx hb dX2_demeritsOf_69 (lv_at hl 0 rfl) ?_
        have B := bd_to (ws' := [(ln, .inr (2, [.int (iI n), .ref wa, .ref ga, .ref wt, .ref wo, .int (iI wd), .int (iI nw), .int (iI dp), .int (iI (jSp (jLk fw fo fg fr to (if li < dp then nw else wd)) (fo (to - 1) - fo fr) to n)), .int (iI (jCl (jLk fw fo fg fr to (if li < dp then nw else wd)) (fo (to - 1) - fo fr) to n)), .ref bD, .ref bL, .ref bE])), (ga, .inl (k 0, 49, .inl (fun i9 : Nat => iI (fg i9))))] ++ [(wt, .inl (k 0, 49, .inl (fun i9 : Nat => iI (fw i9)))), (wo, .inl (k 0, 49, .inl (fun i9 : Nat => iI (fo i9))))]) rfl B
        refine k_V (rest := [.long (lI sum)]) (wc := [(ln, .inr (2, [.int (iI n), .ref wa, .ref ga, .ref wt, .ref wo, .int (iI wd), .int (iI nw), .int (iI dp), .int (iI (jSp (jLk fw fo fg fr to (if li < dp then nw else wd)) (fo (to - 1) - fo fr) to n)), .int (iI (jCl (jLk fw fo fg fr to (if li < dp then nw else wd)) (fo (to - 1) - fo fr) to n)), .ref bD, .ref bL, .ref bE])), (ga, .inl (k 0, 49, .inl (fun i9 : Nat => iI (fg i9))))]) (wr := [(wt, .inl (k 0, 49, .inl (fun i9 : Nat => iI (fw i9)))), (wo, .inl (k 0, 49, .inl (fun i9 : Nat => iI (fo i9))))]) (k_own l dC dI k ln wa ga wt wo bD bL bE n wd nw dp (jSp (jLk fw fo fg fr to (if li < dp then nw else wd)) (fo (to - 1) - fo fr) to n) (jCl (jLk fw fo fg fr to (if li < dp then nw else wd)) (fo (to - 1) - fo fr) to n) fg to hg (by omega) (by omega)) B mV_X2_ownDemerits mw_1441 hl (q0 := 0) rfl rfl rfl ⟨Nat.le_of_ble_eq_true rfl, Nat.le_of_ble_eq_true rfl⟩ (Nat.le_of_ble_eq_true rfl) rfl dX2_demeritsOf_71 ⟨Nat.le_of_ble_eq_true rfl, Nat.le_of_ble_eq_true rfl⟩ (fun r w gc gs H locs hp B => ?_)
        obtain ⟨rfl, hw9, rfl, rfl⟩ := hp
        rw [hw9] at B; clear hw9
        have B := bd_to (ws' := [(wt, .inl (k 0, 49, .inl (fun i9 : Nat => iI (fw i9)))), (wo, .inl (k 0, 49, .inl (fun i9 : Nat => iI (fo i9)))), (ln, .inr (2, [.int (iI n), .ref wa, .ref ga, .ref wt, .ref wo, .int (iI wd), .int (iI nw), .int (iI dp), .int (iI (jSp (jLk fw fo fg fr to (if li < dp then nw else wd)) (fo (to - 1) - fo fr) to n)), .int (iI (jCl (jLk fw fo fg fr to (if li < dp then nw else wd)) (fo (to - 1) - fo fr) to n)), .ref bD, .ref bL, .ref bE])), (ga, .inl (k 0, 49, .inl (fun i9 : Nat => iI (fg i9))))]) rfl B
        refine lv_aload_n hx hb dX2_demeritsOf_74 rfl (lv_at hl 5 rfl) ?_
        refine lv_iload hx hb dX2_demeritsOf_75 (lv_at hl 3 rfl) ?_
        refine lv_iload hx hb dX2_demeritsOf_77 (lv_at hl 0 rfl) ?_
        refine lv_iload hx hb dX2_demeritsOf_79 (lv_at hl 1 rfl) ?_
        have B := bd_sub (ws' := [(ln, .inr (2, [.int (iI n), .ref wa, .ref ga, .ref wt, .ref wo, .int (iI wd), .int (iI nw), .int (iI dp), .int (iI (jSp (jLk fw fo fg fr to (if li < dp then nw else wd)) (fo (to - 1) - fo fr) to n)), .int (iI (jCl (jLk fw fo fg fr to (if li < dp then nw else wd)) (fo (to - 1) - fo fr) to n)), .ref bD, .ref bL, .ref bE])), (ga, .inl (k 0, 49, .inl (fun i9 : Nat => iI (fg i9)))), (wt, .inl (k 0, 49, .inl (fun i9 : Nat => iI (fw i9)))), (wo, .inl (k 0, 49, .inl (fun i9 : Nat => iI (fo i9))))]) [2, 3, 0, 1] (by decide) rfl B
        have B := bd_to (ws' := [(ln, .inr (2, [.int (iI n), .ref wa, .ref ga, .ref wt, .ref wo, .int (iI wd), .int (iI nw), .int (iI dp), .int (iI (jSp (jLk fw fo fg fr to (if li < dp then nw else wd)) (fo (to - 1) - fo fr) to n)), .int (iI (jCl (jLk fw fo fg fr to (if li < dp then nw else wd)) (fo (to - 1) - fo fr) to n)), .ref bD, .ref bL, .ref bE])), (ga, .inl (k 0, 49, .inl (fun i9 : Nat => iI (fg i9))))] ++ [(wt, .inl (k 0, 49, .inl (fun i9 : Nat => iI (fw i9)))), (wo, .inl (k 0, 49, .inl (fun i9 : Nat => iI (fo i9))))]) rfl B
        refine k_V (rest := [.long (lI (ownZ (jSp (jLk fw fo fg fr to (if li < dp then nw else wd)) (fo (to - 1) - fo fr) to n) (fg to))), .long (lI sum)]) (wc := [(ln, .inr (2, [.int (iI n), .ref wa, .ref ga, .ref wt, .ref wo, .int (iI wd), .int (iI nw), .int (iI dp), .int (iI (jSp (jLk fw fo fg fr to (if li < dp then nw else wd)) (fo (to - 1) - fo fr) to n)), .int (iI (jCl (jLk fw fo fg fr to (if li < dp then nw else wd)) (fo (to - 1) - fo fr) to n)), .ref bD, .ref bL, .ref bE])), (ga, .inl (k 0, 49, .inl (fun i9 : Nat => iI (fg i9))))]) (wr := [(wt, .inl (k 0, 49, .inl (fun i9 : Nat => iI (fw i9)))), (wo, .inl (k 0, 49, .inl (fun i9 : Nat => iI (fo i9))))]) (k_pen l dC dI k ln wa ga wt wo bD bL bE n wd nw dp (jSp (jLk fw fo fg fr to (if li < dp then nw else wd)) (fo (to - 1) - fo fr) to n) (jCl (jLk fw fo fg fr to (if li < dp then nw else wd)) (fo (to - 1) - fo fr) to n) fg fr to ah hg (by omega) (by omega)) B mV_X2_demeritsForAhead mw_1445 hl (q0 := 0) rfl rfl rfl ⟨Nat.le_of_ble_eq_true rfl, Nat.le_of_ble_eq_true rfl⟩ (Nat.le_of_ble_eq_true rfl) rfl dX2_demeritsOf_81 ⟨Nat.le_of_ble_eq_true rfl, Nat.le_of_ble_eq_true rfl⟩ (fun r w gc gs H locs hp B => ?_)
        obtain ⟨rfl, hw9, rfl, rfl⟩ := hp
        rw [hw9] at B; clear hw9
        have B := bd_to (ws' := [(wt, .inl (k 0, 49, .inl (fun i9 : Nat => iI (fw i9)))), (wo, .inl (k 0, 49, .inl (fun i9 : Nat => iI (fo i9)))), (ln, .inr (2, [.int (iI n), .ref wa, .ref ga, .ref wt, .ref wo, .int (iI wd), .int (iI nw), .int (iI dp), .int (iI (jSp (jLk fw fo fg fr to (if li < dp then nw else wd)) (fo (to - 1) - fo fr) to n)), .int (iI (jCl (jLk fw fo fg fr to (if li < dp then nw else wd)) (fo (to - 1) - fo fr) to n)), .ref bD, .ref bL, .ref bE])), (ga, .inl (k 0, 49, .inl (fun i9 : Nat => iI (fg i9))))]) rfl B
        have z_10 : 0 ≤ pnZ (jCl (jLk fw fo fg fr to (if li < dp then nw else wd)) (fo (to - 1) - fo fr) to n) ah (fg fr) (fg to) ∧ pnZ (jCl (jLk fw fo fg fr to (if li < dp then nw else wd)) (fo (to - 1) - fo fr) to n) ah (fg fr) (fg to) ≤ 5000 := pnZ_in _ _ _ _
        refine y_i2l hx hb (a := (pnZ (jCl (jLk fw fo fg fr to (if li < dp then nw else wd)) (fo (to - 1) - fo fr) to n) ah (fg fr) (fg to))) (by omega) dX2_demeritsOf_84 ?_
        refine y_ladd hx hb dX2_demeritsOf_85 ?_
        refine y_ladd hx hb dX2_demeritsOf_86 ?_
        refine lv_lstore_n (lv' := [(2, .long (lI (sum + ((ownZ (jSp (jLk fw fo fg fr to (if li < dp then nw else wd)) (fo (to - 1) - fo fr) to n) (fg to)) + (pnZ (jCl (jLk fw fo fg fr to (if li < dp then nw else wd)) (fo (to - 1) - fo fr) to n) ah (fg fr) (fg to)))))), (7, .int (iI to)), (6, .int (iI ah)), (5, .int (iI li)), (4, .int (iI fr)), (0, .ref ln), (1, .int (iI ways))]) hx hb dX2_demeritsOf_87 rfl hl (by decide) rfl (fun ls hl => ?_)
        refine lv_aload_n hx hb dX2_demeritsOf_88 rfl (lv_at hl 5 rfl) ?_
        refine x_get (ci := 2) (C := RX2) (T := TX2) (N := 13) (v := .int (iI (jCl (jLk fw fo fg fr to (if li < dp then nw else wd)) (fo (to - 1) - fo fr) to n))) B 2 rfl rfl in_X2 9 (by decide) mw_139 (fun _ h9 => h9) rfl dX2_demeritsOf_89 ?_
        refine lv_istore (lv' := [(6, .int (iI (jCl (jLk fw fo fg fr to (if li < dp then nw else wd)) (fo (to - 1) - fo fr) to n))), (2, .long (lI (sum + ((ownZ (jSp (jLk fw fo fg fr to (if li < dp then nw else wd)) (fo (to - 1) - fo fr) to n) (fg to)) + (pnZ (jCl (jLk fw fo fg fr to (if li < dp then nw else wd)) (fo (to - 1) - fo fr) to n) ah (fg fr) (fg to)))))), (7, .int (iI to)), (5, .int (iI li)), (4, .int (iI fr)), (0, .ref ln), (1, .int (iI ways))]) hx hb dX2_demeritsOf_92 hl (by decide) rfl (fun ls hl => ?_)
        refine lv_iload hx hb dX2_demeritsOf_94 (lv_at hl 2 rfl) ?_
        refine lv_istore (lv' := [(4, .int (iI to)), (6, .int (iI (jCl (jLk fw fo fg fr to (if li < dp then nw else wd)) (fo (to - 1) - fo fr) to n))), (2, .long (lI (sum + ((ownZ (jSp (jLk fw fo fg fr to (if li < dp then nw else wd)) (fo (to - 1) - fo fr) to n) (fg to)) + (pnZ (jCl (jLk fw fo fg fr to (if li < dp then nw else wd)) (fo (to - 1) - fo fr) to n) ah (fg fr) (fg to)))))), (7, .int (iI to)), (5, .int (iI li)), (0, .ref ln), (1, .int (iI ways))]) hx hb dX2_demeritsOf_96 hl (by decide) rfl (fun ls hl => ?_)
        refine lv_iinc (v := iI (li + 1)) (lv' := [(5, .int (iI (li + 1))), (4, .int (iI to)), (6, .int (iI (jCl (jLk fw fo fg fr to (if li < dp then nw else wd)) (fo (to - 1) - fo fr) to n))), (2, .long (lI (sum + ((ownZ (jSp (jLk fw fo fg fr to (if li < dp then nw else wd)) (fo (to - 1) - fo fr) to n) (fg to)) + (pnZ (jCl (jLk fw fo fg fr to (if li < dp then nw else wd)) (fo (to - 1) - fo fr) to n) ah (fg fr) (fg to)))))), (7, .int (iI to)), (0, .ref ln), (1, .int (iI ways))]) hx hb dX2_demeritsOf_98 hl (k := 4) rfl (iI_add _ _) (by decide) rfl (fun ls hl => ?_)
        refine lv_iinc (v := iI (to + 1)) (lv' := [(7, .int (iI (to + 1))), (5, .int (iI (li + 1))), (4, .int (iI to)), (6, .int (iI (jCl (jLk fw fo fg fr to (if li < dp then nw else wd)) (fo (to - 1) - fo fr) to n))), (2, .long (lI (sum + ((ownZ (jSp (jLk fw fo fg fr to (if li < dp then nw else wd)) (fo (to - 1) - fo fr) to n) (fg to)) + (pnZ (jCl (jLk fw fo fg fr to (if li < dp then nw else wd)) (fo (to - 1) - fo fr) to n) ah (fg fr) (fg to)))))), (0, .ref ln), (1, .int (iI ways))]) hx hb dX2_demeritsOf_101 hl (k := 4) rfl (iI_add _ _) (by decide) rfl (fun ls hl => ?_)
        refine lv_goto (tgt := 14) hx hb dX2_demeritsOf_104 (by decide) ?_
        have B := bd_sub (ws' := [(ln, .inr (2, [.int (iI n), .ref wa, .ref ga, .ref wt, .ref wo, .int (iI wd), .int (iI nw), .int (iI dp), .int (iI (jSp (jLk fw fo fg fr to (if li < dp then nw else wd)) (fo (to - 1) - fo fr) to n)), .int (iI (jCl (jLk fw fo fg fr to (if li < dp then nw else wd)) (fo (to - 1) - fo fr) to n)), .ref bD, .ref bL, .ref bE])), (ga, .inl (k 0, 49, .inl (fun i9 : Nat => iI (fg i9)))), (wt, .inl (k 0, 49, .inl (fun i9 : Nat => iI (fw i9)))), (wo, .inl (k 0, 49, .inl (fun i9 : Nat => iI (fo i9))))]) [2, 3, 0, 1] (by decide) rfl B
        exact ih_1 ((to + 1), to, (li + 1), (jCl (jLk fw fo fg fr to (if li < dp then nw else wd)) (fo (to - 1) - fo fr) to n), (sum + ((ownZ (jSp (jLk fw fo fg fr to (if li < dp then nw else wd)) (fo (to - 1) - fo fr) to n) (fg to)) + (pnZ (jCl (jLk fw fo fg fr to (if li < dp then nw else wd)) (fo (to - 1) - fo fr) to n) ah (fg fr) (fg to)))), (jSp (jLk fw fo fg fr to (if li < dp then nw else wd)) (fo (to - 1) - fo fr) to n), (jCl (jLk fw fo fg fr to (if li < dp then nw else wd)) (fo (to - 1) - fo fr) to n)) ⟨(show 1 ≤ (to + 1) ∧ (to + 1) ≤ n + 1 ∧ 0 ≤ to ∧ to < (to + 1) ∧ 0 ≤ (li + 1) ∧ (li + 1) < (to + 1) ∧ 0 ≤ (jCl (jLk fw fo fg fr to (if li < dp then nw else wd)) (fo (to - 1) - fo fr) to n) ∧ (jCl (jLk fw fo fg fr to (if li < dp then nw else wd)) (fo (to - 1) - fo fr) to n) ≤ 4 from (by omega)), (show dmF fg fw fo n wd nw dp ways (n + 1 - (to + 1)).toNat (to + 1) to (li + 1) (jCl (jLk fw fo fg fr to (if li < dp then nw else wd)) (fo (to - 1) - fo fr) to n) (sum + ((ownZ (jSp (jLk fw fo fg fr to (if li < dp then nw else wd)) (fo (to - 1) - fo fr) to n) (fg to)) + (pnZ (jCl (jLk fw fo fg fr to (if li < dp then nw else wd)) (fo (to - 1) - fo fr) to n) ah (fg fr) (fg to)))) = DM fg fw fo n wd nw dp ways from ((dm_take (by omega) (fun q9 => by omega) z_5).symm.trans hq))⟩ (by first | omega | (dsimp only; omega)) _ _ _ (lv_sub hl [0, 3, 1, 2, 4, 5, 6] rfl) (bd_to rfl B)
      · skip
        rw [hw9] at B; clear hw9
        have B := bd_to (ws' := [(ln, .inr (2, [.int (iI n), .ref wa, .ref ga, .ref wt, .ref wo, .int (iI wd), .int (iI nw), .int (iI dp), .int (iI (jSp (jLk fw fo fg fr to (if li < dp then nw else wd)) (fo (to - 1) - fo fr) to n)), .int (iI (jCl (jLk fw fo fg fr to (if li < dp then nw else wd)) (fo (to - 1) - fo fr) to n)), .ref bD, .ref bL, .ref bE])), (ga, .inl (k 0, 49, .inl (fun i9 : Nat => iI (fg i9)))), (wt, .inl (k 0, 49, .inl (fun i9 : Nat => iI (fw i9)))), (wo, .inl (k 0, 49, .inl (fun i9 : Nat => iI (fo i9))))]) rfl B
        have z_11 : -3000 ≤ jLk fw fo fg fr to (if li < dp then nw else wd) := jLk_in hw ho (by split <;> omega)
        have z_12 : 0 ≤ jCl (jLk fw fo fg fr to (if li < dp then nw else wd)) (fo (to - 1) - fo fr) to n ∧ jCl (jLk fw fo fg fr to (if li < dp then nw else wd)) (fo (to - 1) - fo fr) to n ≤ 3 := jCl_in _ _ _ _
        have z_13 : 0 ≤ jSp (jLk fw fo fg fr to (if li < dp then nw else wd)) (fo (to - 1) - fo fr) to n ∧ jSp (jLk fw fo fg fr to (if li < dp then nw else wd)) (fo (to - 1) - fo fr) to n ≤ 400 := jSp_in (by omega)
        refine lv_if_ne (tgt := 67) hx hb dX2_demeritsOf_60 (by decide) (fun c9 => absurd c9 (by decide)) (fun _ => ?_)
        refine lv_ldc2 (v := (-1)) hx hb B.1.2.2.2.1 (B.1.2.2.2.2.1 _ mw_1449) dX2_demeritsOf_63 ?_
        refine lv_setl (y := lI (-1)) (by decide) ?_
        have e_14 : (DM fg fw fo n wd nw dp ways) = (-1) := (hq.symm.trans (dm_no (by omega) (fun q9 => by omega) z_6))
        skip
        exact k_lret B hr (⟨(jSp (jLk fw fo fg fr to (if li < dp then nw else wd)) (fo (to - 1) - fo fr) to n), (jCl (jLk fw fo fg fr to (if li < dp then nw else wd)) (fo (to - 1) - fo fr) to n), (by have := dm_in (n := n) (wd := wd) (nw := nw) (dp := dp) (ways := ways) (fg := fg) (fw := fw) (fo := fo) (fun wz f1 t1 hz => by have := jLk_in hw ho (fg := fg) (fr := f1) (to := t1) (wz := wz) (by omega); omega) (n + 1 - 1).toNat 1 0 0 4 0 0 (by omega) (by omega); unfold DM; omega), (by rw [e_14]), rfl, rfl, rfl⟩) ⟨Nat.le_of_ble_eq_true rfl, Nat.le_of_ble_eq_true rfl⟩ ⟨Nat.le_of_ble_eq_true rfl, Nat.le_of_ble_eq_true rfl⟩ dX2_demeritsOf_66
    · have zc_4 : to < n := jnle (a := n) (b := to) (by omega) (by omega) c_4
      refine lv_iload_n hx hb dX2_demeritsOf_32 rfl (lv_at hl 6 rfl) ?_
      refine lv_iload hx hb dX2_demeritsOf_33 (lv_at hl 0 rfl) ?_
      refine lv_iconst (v := iI 1) hx hb dX2_demeritsOf_35 (by decide) ?_
      refine y_sub hx hb dX2_demeritsOf_36 ?_
      refine y_shr hx hb (a := ways) (b := (to - 1)) (by omega) (by omega) dX2_demeritsOf_37 ?_
      have z_15 : 0 ≤ (bShr ways (to - 1)) ∧ (bShr ways (to - 1)) ≤ ways := bShr_le (by omega)
      refine lv_iconst (v := iI 1) hx hb dX2_demeritsOf_38 (by decide) ?_
      refine y_and hx hb (a := (bShr ways (to - 1))) (b := 1) (by omega) (by omega) dX2_demeritsOf_39 ?_
      have z_16 : 0 ≤ (bAnd (bShr ways (to - 1)) 1) ∧ (bAnd (bShr ways (to - 1)) 1) ≤ (bShr ways (to - 1)) := bAnd_le (by omega)
      have z_17 : 0 ≤ (bAnd (bShr ways (to - 1)) 1) ∧ (bAnd (bShr ways (to - 1)) 1) ≤ 1 := bAnd_le' (by omega)
      refine lv_if_ne (tgt := 46) hx hb dX2_demeritsOf_40 (by decide) (fun c_18 => ?_) (fun c_18 => ?_)
      · have zc_18 : (bAnd (bShr ways (to - 1)) 1) ≠ 0 := jne (a := (bAnd (bShr ways (to - 1)) 1)) (b := 0) (by omega) (by omega) c_18
        refine lv_aload_n hx hb dX2_demeritsOf_46 rfl (lv_at hl 5 rfl) ?_
        refine lv_iload hx hb dX2_demeritsOf_47 (lv_at hl 3 rfl) ?_
        refine lv_iload hx hb dX2_demeritsOf_49 (lv_at hl 0 rfl) ?_
        refine lv_aload_n hx hb dX2_demeritsOf_51 rfl (lv_at hl 5 rfl) ?_
        refine lv_iload hx hb dX2_demeritsOf_52 (lv_at hl 2 rfl) ?_
        have B := bd_to (ws' := [(ln, .inr (2, [.int (iI n), .ref wa, .ref ga, .ref wt, .ref wo, .int (iI wd), .int (iI nw), .int (iI dp), .int (iI sq), .int (iI cq), .ref bD, .ref bL, .ref bE]))] ++ [(ga, .inl (k 0, 49, .inl (fun i9 : Nat => iI (fg i9)))), (wt, .inl (k 0, 49, .inl (fun i9 : Nat => iI (fw i9)))), (wo, .inl (k 0, 49, .inl (fun i9 : Nat => iI (fo i9))))]) rfl B
        refine k_V (rest := [.int (iI to), .int (iI fr), .ref ln]) (wc := [(ln, .inr (2, [.int (iI n), .ref wa, .ref ga, .ref wt, .ref wo, .int (iI wd), .int (iI nw), .int (iI dp), .int (iI sq), .int (iI cq), .ref bD, .ref bL, .ref bE]))]) (wr := [(ga, .inl (k 0, 49, .inl (fun i9 : Nat => iI (fg i9)))), (wt, .inl (k 0, 49, .inl (fun i9 : Nat => iI (fw i9)))), (wo, .inl (k 0, 49, .inl (fun i9 : Nat => iI (fo i9))))]) (k_widthOf l dC dI k ln wa ga wt wo bD bL bE n wd nw dp sq cq li (by omega) h2) B mV_X2_widthOf mw_1428 hl (q0 := 0) rfl rfl rfl ⟨Nat.le_of_ble_eq_true rfl, Nat.le_of_ble_eq_true rfl⟩ (Nat.le_of_ble_eq_true rfl) rfl dX2_demeritsOf_54 ⟨Nat.le_of_ble_eq_true rfl, Nat.le_of_ble_eq_true rfl⟩ (fun r w gc gs H locs hp B => ?_)
        obtain ⟨rfl, hw9, rfl, rfl⟩ := hp
        rw [hw9] at B; clear hw9
        have B := bd_to (ws' := [(ga, .inl (k 0, 49, .inl (fun i9 : Nat => iI (fg i9)))), (wt, .inl (k 0, 49, .inl (fun i9 : Nat => iI (fw i9)))), (wo, .inl (k 0, 49, .inl (fun i9 : Nat => iI (fo i9)))), (ln, .inr (2, [.int (iI n), .ref wa, .ref ga, .ref wt, .ref wo, .int (iI wd), .int (iI nw), .int (iI dp), .int (iI sq), .int (iI cq), .ref bD, .ref bL, .ref bE]))]) rfl B
        have B := bd_sub (ws' := [(ln, .inr (2, [.int (iI n), .ref wa, .ref ga, .ref wt, .ref wo, .int (iI wd), .int (iI nw), .int (iI dp), .int (iI sq), .int (iI cq), .ref bD, .ref bL, .ref bE])), (ga, .inl (k 0, 49, .inl (fun i9 : Nat => iI (fg i9)))), (wt, .inl (k 0, 49, .inl (fun i9 : Nat => iI (fw i9)))), (wo, .inl (k 0, 49, .inl (fun i9 : Nat => iI (fo i9))))]) [3, 0, 1, 2] (by decide) rfl B
        have B := bd_to (ws' := [(ln, .inr (2, [.int (iI n), .ref wa, .ref ga, .ref wt, .ref wo, .int (iI wd), .int (iI nw), .int (iI dp), .int (iI sq), .int (iI cq), .ref bD, .ref bL, .ref bE])), (ga, .inl (k 0, 49, .inl (fun i9 : Nat => iI (fg i9)))), (wt, .inl (k 0, 49, .inl (fun i9 : Nat => iI (fw i9)))), (wo, .inl (k 0, 49, .inl (fun i9 : Nat => iI (fo i9))))] ++ []) rfl B
        refine k_V (rest := []) (wc := [(ln, .inr (2, [.int (iI n), .ref wa, .ref ga, .ref wt, .ref wo, .int (iI wd), .int (iI nw), .int (iI dp), .int (iI sq), .int (iI cq), .ref bD, .ref bL, .ref bE])), (ga, .inl (k 0, 49, .inl (fun i9 : Nat => iI (fg i9)))), (wt, .inl (k 0, 49, .inl (fun i9 : Nat => iI (fw i9)))), (wo, .inl (k 0, 49, .inl (fun i9 : Nat => iI (fo i9))))]) (wr := []) (k_judge l dC dI k ln wa ga wt wo bD bL bE n wd nw dp sq cq fg fw fo fr to (if li < dp then nw else wd) hg hw ho (by omega) (by split <;> omega)) B mV_X2_judge mw_1432 hl (q0 := 0) rfl rfl rfl ⟨Nat.le_of_ble_eq_true rfl, Nat.le_of_ble_eq_true rfl⟩ (Nat.le_of_ble_eq_true rfl) rfl dX2_demeritsOf_57 ⟨Nat.le_of_ble_eq_true rfl, Nat.le_of_ble_eq_true rfl⟩ (fun r w gc gs H locs hp B => ?_)
        rcases hp with ⟨z_19, rfl, hw9, rfl, rfl⟩ | ⟨z_20, rfl, hw9, rfl, rfl⟩
        · skip
          rw [hw9] at B; clear hw9
          have B := bd_to (ws' := [(ln, .inr (2, [.int (iI n), .ref wa, .ref ga, .ref wt, .ref wo, .int (iI wd), .int (iI nw), .int (iI dp), .int (iI (jSp (jLk fw fo fg fr to (if li < dp then nw else wd)) (fo (to - 1) - fo fr) to n)), .int (iI (jCl (jLk fw fo fg fr to (if li < dp then nw else wd)) (fo (to - 1) - fo fr) to n)), .ref bD, .ref bL, .ref bE])), (ga, .inl (k 0, 49, .inl (fun i9 : Nat => iI (fg i9)))), (wt, .inl (k 0, 49, .inl (fun i9 : Nat => iI (fw i9)))), (wo, .inl (k 0, 49, .inl (fun i9 : Nat => iI (fo i9))))]) rfl B
          have z_21 : -3000 ≤ jLk fw fo fg fr to (if li < dp then nw else wd) := jLk_in hw ho (by split <;> omega)
          have z_22 : 0 ≤ jCl (jLk fw fo fg fr to (if li < dp then nw else wd)) (fo (to - 1) - fo fr) to n ∧ jCl (jLk fw fo fg fr to (if li < dp then nw else wd)) (fo (to - 1) - fo fr) to n ≤ 3 := jCl_in _ _ _ _
          have z_23 : 0 ≤ jSp (jLk fw fo fg fr to (if li < dp then nw else wd)) (fo (to - 1) - fo fr) to n ∧ jSp (jLk fw fo fg fr to (if li < dp then nw else wd)) (fo (to - 1) - fo fr) to n ≤ 400 := jSp_in (by omega)
          refine lv_if_ne (tgt := 67) hx hb dX2_demeritsOf_60 (by decide) (fun _ => ?_) (fun c9 => absurd c9 (by decide))
          refine lv_lload_n hx hb dX2_demeritsOf_67 rfl (lv_at hl 4 rfl) ?_
          refine lv_aload_n hx hb dX2_demeritsOf_68 rfl (lv_at hl 5 rfl) ?_
          refine lv_iload hx hb dX2_demeritsOf_69 (lv_at hl 0 rfl) ?_
          have B := bd_to (ws' := [(ln, .inr (2, [.int (iI n), .ref wa, .ref ga, .ref wt, .ref wo, .int (iI wd), .int (iI nw), .int (iI dp), .int (iI (jSp (jLk fw fo fg fr to (if li < dp then nw else wd)) (fo (to - 1) - fo fr) to n)), .int (iI (jCl (jLk fw fo fg fr to (if li < dp then nw else wd)) (fo (to - 1) - fo fr) to n)), .ref bD, .ref bL, .ref bE])), (ga, .inl (k 0, 49, .inl (fun i9 : Nat => iI (fg i9))))] ++ [(wt, .inl (k 0, 49, .inl (fun i9 : Nat => iI (fw i9)))), (wo, .inl (k 0, 49, .inl (fun i9 : Nat => iI (fo i9))))]) rfl B
          refine k_V (rest := [.long (lI sum)]) (wc := [(ln, .inr (2, [.int (iI n), .ref wa, .ref ga, .ref wt, .ref wo, .int (iI wd), .int (iI nw), .int (iI dp), .int (iI (jSp (jLk fw fo fg fr to (if li < dp then nw else wd)) (fo (to - 1) - fo fr) to n)), .int (iI (jCl (jLk fw fo fg fr to (if li < dp then nw else wd)) (fo (to - 1) - fo fr) to n)), .ref bD, .ref bL, .ref bE])), (ga, .inl (k 0, 49, .inl (fun i9 : Nat => iI (fg i9))))]) (wr := [(wt, .inl (k 0, 49, .inl (fun i9 : Nat => iI (fw i9)))), (wo, .inl (k 0, 49, .inl (fun i9 : Nat => iI (fo i9))))]) (k_own l dC dI k ln wa ga wt wo bD bL bE n wd nw dp (jSp (jLk fw fo fg fr to (if li < dp then nw else wd)) (fo (to - 1) - fo fr) to n) (jCl (jLk fw fo fg fr to (if li < dp then nw else wd)) (fo (to - 1) - fo fr) to n) fg to hg (by omega) (by omega)) B mV_X2_ownDemerits mw_1441 hl (q0 := 0) rfl rfl rfl ⟨Nat.le_of_ble_eq_true rfl, Nat.le_of_ble_eq_true rfl⟩ (Nat.le_of_ble_eq_true rfl) rfl dX2_demeritsOf_71 ⟨Nat.le_of_ble_eq_true rfl, Nat.le_of_ble_eq_true rfl⟩ (fun r w gc gs H locs hp B => ?_)
          obtain ⟨rfl, hw9, rfl, rfl⟩ := hp
          rw [hw9] at B; clear hw9
          have B := bd_to (ws' := [(wt, .inl (k 0, 49, .inl (fun i9 : Nat => iI (fw i9)))), (wo, .inl (k 0, 49, .inl (fun i9 : Nat => iI (fo i9)))), (ln, .inr (2, [.int (iI n), .ref wa, .ref ga, .ref wt, .ref wo, .int (iI wd), .int (iI nw), .int (iI dp), .int (iI (jSp (jLk fw fo fg fr to (if li < dp then nw else wd)) (fo (to - 1) - fo fr) to n)), .int (iI (jCl (jLk fw fo fg fr to (if li < dp then nw else wd)) (fo (to - 1) - fo fr) to n)), .ref bD, .ref bL, .ref bE])), (ga, .inl (k 0, 49, .inl (fun i9 : Nat => iI (fg i9))))]) rfl B
          refine lv_aload_n hx hb dX2_demeritsOf_74 rfl (lv_at hl 5 rfl) ?_
          refine lv_iload hx hb dX2_demeritsOf_75 (lv_at hl 3 rfl) ?_
          refine lv_iload hx hb dX2_demeritsOf_77 (lv_at hl 0 rfl) ?_
          refine lv_iload hx hb dX2_demeritsOf_79 (lv_at hl 1 rfl) ?_
          have B := bd_sub (ws' := [(ln, .inr (2, [.int (iI n), .ref wa, .ref ga, .ref wt, .ref wo, .int (iI wd), .int (iI nw), .int (iI dp), .int (iI (jSp (jLk fw fo fg fr to (if li < dp then nw else wd)) (fo (to - 1) - fo fr) to n)), .int (iI (jCl (jLk fw fo fg fr to (if li < dp then nw else wd)) (fo (to - 1) - fo fr) to n)), .ref bD, .ref bL, .ref bE])), (ga, .inl (k 0, 49, .inl (fun i9 : Nat => iI (fg i9)))), (wt, .inl (k 0, 49, .inl (fun i9 : Nat => iI (fw i9)))), (wo, .inl (k 0, 49, .inl (fun i9 : Nat => iI (fo i9))))]) [2, 3, 0, 1] (by decide) rfl B
          have B := bd_to (ws' := [(ln, .inr (2, [.int (iI n), .ref wa, .ref ga, .ref wt, .ref wo, .int (iI wd), .int (iI nw), .int (iI dp), .int (iI (jSp (jLk fw fo fg fr to (if li < dp then nw else wd)) (fo (to - 1) - fo fr) to n)), .int (iI (jCl (jLk fw fo fg fr to (if li < dp then nw else wd)) (fo (to - 1) - fo fr) to n)), .ref bD, .ref bL, .ref bE])), (ga, .inl (k 0, 49, .inl (fun i9 : Nat => iI (fg i9))))] ++ [(wt, .inl (k 0, 49, .inl (fun i9 : Nat => iI (fw i9)))), (wo, .inl (k 0, 49, .inl (fun i9 : Nat => iI (fo i9))))]) rfl B
          refine k_V (rest := [.long (lI (ownZ (jSp (jLk fw fo fg fr to (if li < dp then nw else wd)) (fo (to - 1) - fo fr) to n) (fg to))), .long (lI sum)]) (wc := [(ln, .inr (2, [.int (iI n), .ref wa, .ref ga, .ref wt, .ref wo, .int (iI wd), .int (iI nw), .int (iI dp), .int (iI (jSp (jLk fw fo fg fr to (if li < dp then nw else wd)) (fo (to - 1) - fo fr) to n)), .int (iI (jCl (jLk fw fo fg fr to (if li < dp then nw else wd)) (fo (to - 1) - fo fr) to n)), .ref bD, .ref bL, .ref bE])), (ga, .inl (k 0, 49, .inl (fun i9 : Nat => iI (fg i9))))]) (wr := [(wt, .inl (k 0, 49, .inl (fun i9 : Nat => iI (fw i9)))), (wo, .inl (k 0, 49, .inl (fun i9 : Nat => iI (fo i9))))]) (k_pen l dC dI k ln wa ga wt wo bD bL bE n wd nw dp (jSp (jLk fw fo fg fr to (if li < dp then nw else wd)) (fo (to - 1) - fo fr) to n) (jCl (jLk fw fo fg fr to (if li < dp then nw else wd)) (fo (to - 1) - fo fr) to n) fg fr to ah hg (by omega) (by omega)) B mV_X2_demeritsForAhead mw_1445 hl (q0 := 0) rfl rfl rfl ⟨Nat.le_of_ble_eq_true rfl, Nat.le_of_ble_eq_true rfl⟩ (Nat.le_of_ble_eq_true rfl) rfl dX2_demeritsOf_81 ⟨Nat.le_of_ble_eq_true rfl, Nat.le_of_ble_eq_true rfl⟩ (fun r w gc gs H locs hp B => ?_)
          obtain ⟨rfl, hw9, rfl, rfl⟩ := hp
          rw [hw9] at B; clear hw9
          have B := bd_to (ws' := [(wt, .inl (k 0, 49, .inl (fun i9 : Nat => iI (fw i9)))), (wo, .inl (k 0, 49, .inl (fun i9 : Nat => iI (fo i9)))), (ln, .inr (2, [.int (iI n), .ref wa, .ref ga, .ref wt, .ref wo, .int (iI wd), .int (iI nw), .int (iI dp), .int (iI (jSp (jLk fw fo fg fr to (if li < dp then nw else wd)) (fo (to - 1) - fo fr) to n)), .int (iI (jCl (jLk fw fo fg fr to (if li < dp then nw else wd)) (fo (to - 1) - fo fr) to n)), .ref bD, .ref bL, .ref bE])), (ga, .inl (k 0, 49, .inl (fun i9 : Nat => iI (fg i9))))]) rfl B
          have z_24 : 0 ≤ pnZ (jCl (jLk fw fo fg fr to (if li < dp then nw else wd)) (fo (to - 1) - fo fr) to n) ah (fg fr) (fg to) ∧ pnZ (jCl (jLk fw fo fg fr to (if li < dp then nw else wd)) (fo (to - 1) - fo fr) to n) ah (fg fr) (fg to) ≤ 5000 := pnZ_in _ _ _ _
          refine y_i2l hx hb (a := (pnZ (jCl (jLk fw fo fg fr to (if li < dp then nw else wd)) (fo (to - 1) - fo fr) to n) ah (fg fr) (fg to))) (by omega) dX2_demeritsOf_84 ?_
          refine y_ladd hx hb dX2_demeritsOf_85 ?_
          refine y_ladd hx hb dX2_demeritsOf_86 ?_
          refine lv_lstore_n (lv' := [(2, .long (lI (sum + ((ownZ (jSp (jLk fw fo fg fr to (if li < dp then nw else wd)) (fo (to - 1) - fo fr) to n) (fg to)) + (pnZ (jCl (jLk fw fo fg fr to (if li < dp then nw else wd)) (fo (to - 1) - fo fr) to n) ah (fg fr) (fg to)))))), (7, .int (iI to)), (6, .int (iI ah)), (5, .int (iI li)), (4, .int (iI fr)), (0, .ref ln), (1, .int (iI ways))]) hx hb dX2_demeritsOf_87 rfl hl (by decide) rfl (fun ls hl => ?_)
          refine lv_aload_n hx hb dX2_demeritsOf_88 rfl (lv_at hl 5 rfl) ?_
          refine x_get (ci := 2) (C := RX2) (T := TX2) (N := 13) (v := .int (iI (jCl (jLk fw fo fg fr to (if li < dp then nw else wd)) (fo (to - 1) - fo fr) to n))) B 2 rfl rfl in_X2 9 (by decide) mw_139 (fun _ h9 => h9) rfl dX2_demeritsOf_89 ?_
          refine lv_istore (lv' := [(6, .int (iI (jCl (jLk fw fo fg fr to (if li < dp then nw else wd)) (fo (to - 1) - fo fr) to n))), (2, .long (lI (sum + ((ownZ (jSp (jLk fw fo fg fr to (if li < dp then nw else wd)) (fo (to - 1) - fo fr) to n) (fg to)) + (pnZ (jCl (jLk fw fo fg fr to (if li < dp then nw else wd)) (fo (to - 1) - fo fr) to n) ah (fg fr) (fg to)))))), (7, .int (iI to)), (5, .int (iI li)), (4, .int (iI fr)), (0, .ref ln), (1, .int (iI ways))]) hx hb dX2_demeritsOf_92 hl (by decide) rfl (fun ls hl => ?_)
          refine lv_iload hx hb dX2_demeritsOf_94 (lv_at hl 2 rfl) ?_
          refine lv_istore (lv' := [(4, .int (iI to)), (6, .int (iI (jCl (jLk fw fo fg fr to (if li < dp then nw else wd)) (fo (to - 1) - fo fr) to n))), (2, .long (lI (sum + ((ownZ (jSp (jLk fw fo fg fr to (if li < dp then nw else wd)) (fo (to - 1) - fo fr) to n) (fg to)) + (pnZ (jCl (jLk fw fo fg fr to (if li < dp then nw else wd)) (fo (to - 1) - fo fr) to n) ah (fg fr) (fg to)))))), (7, .int (iI to)), (5, .int (iI li)), (0, .ref ln), (1, .int (iI ways))]) hx hb dX2_demeritsOf_96 hl (by decide) rfl (fun ls hl => ?_)
          refine lv_iinc (v := iI (li + 1)) (lv' := [(5, .int (iI (li + 1))), (4, .int (iI to)), (6, .int (iI (jCl (jLk fw fo fg fr to (if li < dp then nw else wd)) (fo (to - 1) - fo fr) to n))), (2, .long (lI (sum + ((ownZ (jSp (jLk fw fo fg fr to (if li < dp then nw else wd)) (fo (to - 1) - fo fr) to n) (fg to)) + (pnZ (jCl (jLk fw fo fg fr to (if li < dp then nw else wd)) (fo (to - 1) - fo fr) to n) ah (fg fr) (fg to)))))), (7, .int (iI to)), (0, .ref ln), (1, .int (iI ways))]) hx hb dX2_demeritsOf_98 hl (k := 4) rfl (iI_add _ _) (by decide) rfl (fun ls hl => ?_)
          refine lv_iinc (v := iI (to + 1)) (lv' := [(7, .int (iI (to + 1))), (5, .int (iI (li + 1))), (4, .int (iI to)), (6, .int (iI (jCl (jLk fw fo fg fr to (if li < dp then nw else wd)) (fo (to - 1) - fo fr) to n))), (2, .long (lI (sum + ((ownZ (jSp (jLk fw fo fg fr to (if li < dp then nw else wd)) (fo (to - 1) - fo fr) to n) (fg to)) + (pnZ (jCl (jLk fw fo fg fr to (if li < dp then nw else wd)) (fo (to - 1) - fo fr) to n) ah (fg fr) (fg to)))))), (0, .ref ln), (1, .int (iI ways))]) hx hb dX2_demeritsOf_101 hl (k := 4) rfl (iI_add _ _) (by decide) rfl (fun ls hl => ?_)
          refine lv_goto (tgt := 14) hx hb dX2_demeritsOf_104 (by decide) ?_
          have B := bd_sub (ws' := [(ln, .inr (2, [.int (iI n), .ref wa, .ref ga, .ref wt, .ref wo, .int (iI wd), .int (iI nw), .int (iI dp), .int (iI (jSp (jLk fw fo fg fr to (if li < dp then nw else wd)) (fo (to - 1) - fo fr) to n)), .int (iI (jCl (jLk fw fo fg fr to (if li < dp then nw else wd)) (fo (to - 1) - fo fr) to n)), .ref bD, .ref bL, .ref bE])), (ga, .inl (k 0, 49, .inl (fun i9 : Nat => iI (fg i9)))), (wt, .inl (k 0, 49, .inl (fun i9 : Nat => iI (fw i9)))), (wo, .inl (k 0, 49, .inl (fun i9 : Nat => iI (fo i9))))]) [2, 3, 0, 1] (by decide) rfl B
          exact ih_1 ((to + 1), to, (li + 1), (jCl (jLk fw fo fg fr to (if li < dp then nw else wd)) (fo (to - 1) - fo fr) to n), (sum + ((ownZ (jSp (jLk fw fo fg fr to (if li < dp then nw else wd)) (fo (to - 1) - fo fr) to n) (fg to)) + (pnZ (jCl (jLk fw fo fg fr to (if li < dp then nw else wd)) (fo (to - 1) - fo fr) to n) ah (fg fr) (fg to)))), (jSp (jLk fw fo fg fr to (if li < dp then nw else wd)) (fo (to - 1) - fo fr) to n), (jCl (jLk fw fo fg fr to (if li < dp then nw else wd)) (fo (to - 1) - fo fr) to n)) ⟨(show 1 ≤ (to + 1) ∧ (to + 1) ≤ n + 1 ∧ 0 ≤ to ∧ to < (to + 1) ∧ 0 ≤ (li + 1) ∧ (li + 1) < (to + 1) ∧ 0 ≤ (jCl (jLk fw fo fg fr to (if li < dp then nw else wd)) (fo (to - 1) - fo fr) to n) ∧ (jCl (jLk fw fo fg fr to (if li < dp then nw else wd)) (fo (to - 1) - fo fr) to n) ≤ 4 from (by omega)), (show dmF fg fw fo n wd nw dp ways (n + 1 - (to + 1)).toNat (to + 1) to (li + 1) (jCl (jLk fw fo fg fr to (if li < dp then nw else wd)) (fo (to - 1) - fo fr) to n) (sum + ((ownZ (jSp (jLk fw fo fg fr to (if li < dp then nw else wd)) (fo (to - 1) - fo fr) to n) (fg to)) + (pnZ (jCl (jLk fw fo fg fr to (if li < dp then nw else wd)) (fo (to - 1) - fo fr) to n) ah (fg fr) (fg to)))) = DM fg fw fo n wd nw dp ways from ((dm_take (by omega) (fun q9 => by omega) z_19).symm.trans hq))⟩ (by first | omega | (dsimp only; omega)) _ _ _ (lv_sub hl [0, 3, 1, 2, 4, 5, 6] rfl) (bd_to rfl B)
        · skip
          rw [hw9] at B; clear hw9
          have B := bd_to (ws' := [(ln, .inr (2, [.int (iI n), .ref wa, .ref ga, .ref wt, .ref wo, .int (iI wd), .int (iI nw), .int (iI dp), .int (iI (jSp (jLk fw fo fg fr to (if li < dp then nw else wd)) (fo (to - 1) - fo fr) to n)), .int (iI (jCl (jLk fw fo fg fr to (if li < dp then nw else wd)) (fo (to - 1) - fo fr) to n)), .ref bD, .ref bL, .ref bE])), (ga, .inl (k 0, 49, .inl (fun i9 : Nat => iI (fg i9)))), (wt, .inl (k 0, 49, .inl (fun i9 : Nat => iI (fw i9)))), (wo, .inl (k 0, 49, .inl (fun i9 : Nat => iI (fo i9))))]) rfl B
          have z_25 : -3000 ≤ jLk fw fo fg fr to (if li < dp then nw else wd) := jLk_in hw ho (by split <;> omega)
          have z_26 : 0 ≤ jCl (jLk fw fo fg fr to (if li < dp then nw else wd)) (fo (to - 1) - fo fr) to n ∧ jCl (jLk fw fo fg fr to (if li < dp then nw else wd)) (fo (to - 1) - fo fr) to n ≤ 3 := jCl_in _ _ _ _
          have z_27 : 0 ≤ jSp (jLk fw fo fg fr to (if li < dp then nw else wd)) (fo (to - 1) - fo fr) to n ∧ jSp (jLk fw fo fg fr to (if li < dp then nw else wd)) (fo (to - 1) - fo fr) to n ≤ 400 := jSp_in (by omega)
          refine lv_if_ne (tgt := 67) hx hb dX2_demeritsOf_60 (by decide) (fun c9 => absurd c9 (by decide)) (fun _ => ?_)
          refine lv_ldc2 (v := (-1)) hx hb B.1.2.2.2.1 (B.1.2.2.2.2.1 _ mw_1449) dX2_demeritsOf_63 ?_
          refine lv_setl (y := lI (-1)) (by decide) ?_
          have e_28 : (DM fg fw fo n wd nw dp ways) = (-1) := (hq.symm.trans (dm_no (by omega) (fun q9 => by omega) z_20))
          skip
          exact k_lret B hr (⟨(jSp (jLk fw fo fg fr to (if li < dp then nw else wd)) (fo (to - 1) - fo fr) to n), (jCl (jLk fw fo fg fr to (if li < dp then nw else wd)) (fo (to - 1) - fo fr) to n), (by have := dm_in (n := n) (wd := wd) (nw := nw) (dp := dp) (ways := ways) (fg := fg) (fw := fw) (fo := fo) (fun wz f1 t1 hz => by have := jLk_in hw ho (fg := fg) (fr := f1) (to := t1) (wz := wz) (by omega); omega) (n + 1 - 1).toNat 1 0 0 4 0 0 (by omega) (by omega); unfold DM; omega), (by rw [e_28]), rfl, rfl, rfl⟩) ⟨Nat.le_of_ble_eq_true rfl, Nat.le_of_ble_eq_true rfl⟩ ⟨Nat.le_of_ble_eq_true rfl, Nat.le_of_ble_eq_true rfl⟩ dX2_demeritsOf_66
      · have zc_18 : (bAnd (bShr ways (to - 1)) 1) = 0 := jeq (a := (bAnd (bShr ways (to - 1)) 1)) (b := 0) (by omega) (by omega) c_18
        refine lv_goto (tgt := 101) hx hb dX2_demeritsOf_43 (by decide) ?_
        refine lv_iinc (v := iI (to + 1)) (lv' := [(7, .int (iI (to + 1))), (6, .int (iI ah)), (5, .int (iI li)), (4, .int (iI fr)), (2, .long (lI sum)), (0, .ref ln), (1, .int (iI ways))]) hx hb dX2_demeritsOf_101 hl (k := 0) rfl (iI_add _ _) (by decide) rfl (fun ls hl => ?_)
        refine lv_goto (tgt := 14) hx hb dX2_demeritsOf_104 (by decide) ?_
        exact ih_1 ((to + 1), fr, li, ah, sum, sq, cq) ⟨(show 1 ≤ (to + 1) ∧ (to + 1) ≤ n + 1 ∧ 0 ≤ fr ∧ fr < (to + 1) ∧ 0 ≤ li ∧ li < (to + 1) ∧ 0 ≤ ah ∧ ah ≤ 4 from (by omega)), (show dmF fg fw fo n wd nw dp ways (n + 1 - (to + 1)).toNat (to + 1) fr li ah sum = DM fg fw fo n wd nw dp ways from ((dm_skip (by omega) (by omega)).symm.trans hq))⟩ (by first | omega | (dsimp only; omega)) _ _ _ (lv_sub hl [0, 1, 2, 3, 4, 5, 6] rfl) (bd_to rfl B)

theorem mw_1717 : (Jvm.Cond.methodLink "Galleyforge$Lines" (154 : Nat) ({ cls := "Galleyforge$Lines", name := "demeritsOf", desc := "(I)J" } : Jvm.MethodName)) ∈ gt := gt_at 1787 (by decide +kernel) (by decide +kernel)
theorem mw_1719 : (Jvm.Cond.instanceMethod ({ cls := "Galleyforge$Lines", name := "demeritsOf", desc := "(I)J" } : Jvm.MethodName)) ∈ gt := gt_at 1789 (by decide +kernel) (by decide +kernel)
theorem mw_1720 : (Jvm.Cond.code ({ cls := "Galleyforge$Lines", name := "demeritsOf", desc := "(I)J" } : Jvm.MethodName) prog_4_method_19_code (8 : Nat) (Option.some Jvm.ClassFile.FieldType.long)) ∈ gt := gt_at 1790 (by decide +kernel) (by decide +kernel)
theorem ms_66 : Cond.selects "Galleyforge$Lines" (⟨"Galleyforge$Lines", "demeritsOf", "(I)J"⟩ : MethodName) (⟨"Galleyforge$Lines", "demeritsOf", "(I)J"⟩ : MethodName) ∈ gt := gt_at 66 (by decide +kernel) (by decide +kernel)
theorem mV_X2_demeritsOf : mV yX2_demeritsOf cX2_demeritsOf 8 (some .long) 1 := ⟨⟨mw_1720, mw_6, by decide, by decide, by decide +kernel⟩, mw_1719, ms_66⟩
theorem dX2_leastByAllWays_0 : decode cX2_leastByAllWays 0 = .ok (.aload_n 0, 1) := by decide +kernel
theorem dX2_leastByAllWays_1 : decode cX2_leastByAllWays 1 = .ok (.getfield 34, 3) := by decide +kernel
theorem dX2_leastByAllWays_4 : decode cX2_leastByAllWays 4 = .ok (.ifCond .ne 7, 3) := by decide +kernel
theorem dX2_leastByAllWays_7 : decode cX2_leastByAllWays 7 = .ok (.lconst 0, 1) := by decide +kernel
theorem dX2_leastByAllWays_8 : decode cX2_leastByAllWays 8 = .ok (.goto 6, 3) := by decide +kernel
theorem dX2_leastByAllWays_11 : decode cX2_leastByAllWays 11 = .ok (.ldc2_w 152, 3) := by decide +kernel
theorem dX2_leastByAllWays_14 : decode cX2_leastByAllWays 14 = .ok (.lstore_n 1, 1) := by decide +kernel
theorem dX2_leastByAllWays_15 : decode cX2_leastByAllWays 15 = .ok (.iconst 0, 1) := by decide +kernel
theorem dX2_leastByAllWays_16 : decode cX2_leastByAllWays 16 = .ok (.istore_n 3, 1) := by decide +kernel
theorem dX2_leastByAllWays_17 : decode cX2_leastByAllWays 17 = .ok (.aload_n 0, 1) := by decide +kernel
theorem dX2_leastByAllWays_18 : decode cX2_leastByAllWays 18 = .ok (.getfield 34, 3) := by decide +kernel
theorem dX2_leastByAllWays_21 : decode cX2_leastByAllWays 21 = .ok (.ifCond .le 64, 3) := by decide +kernel
theorem dX2_leastByAllWays_24 : decode cX2_leastByAllWays 24 = .ok (.aload_n 0, 1) := by decide +kernel
theorem dX2_leastByAllWays_25 : decode cX2_leastByAllWays 25 = .ok (.getfield 34, 3) := by decide +kernel
theorem dX2_leastByAllWays_28 : decode cX2_leastByAllWays 28 = .ok (.bipush 12, 2) := by decide +kernel
theorem dX2_leastByAllWays_30 : decode cX2_leastByAllWays 30 = .ok (.if_icmp .gt 55, 3) := by decide +kernel
theorem dX2_leastByAllWays_33 : decode cX2_leastByAllWays 33 = .ok (.iload_n 3, 1) := by decide +kernel
theorem dX2_leastByAllWays_34 : decode cX2_leastByAllWays 34 = .ok (.iconst 1, 1) := by decide +kernel
theorem dX2_leastByAllWays_35 : decode cX2_leastByAllWays 35 = .ok (.aload_n 0, 1) := by decide +kernel
theorem dX2_leastByAllWays_36 : decode cX2_leastByAllWays 36 = .ok (.getfield 34, 3) := by decide +kernel
theorem dX2_leastByAllWays_39 : decode cX2_leastByAllWays 39 = .ok (.iconst 1, 1) := by decide +kernel
theorem dX2_leastByAllWays_40 : decode cX2_leastByAllWays 40 = .ok (.isub, 1) := by decide +kernel
theorem dX2_leastByAllWays_41 : decode cX2_leastByAllWays 41 = .ok (.ishl, 1) := by decide +kernel
theorem dX2_leastByAllWays_42 : decode cX2_leastByAllWays 42 = .ok (.if_icmp .ge 43, 3) := by decide +kernel
theorem dX2_leastByAllWays_45 : decode cX2_leastByAllWays 45 = .ok (.aload_n 0, 1) := by decide +kernel
theorem dX2_leastByAllWays_46 : decode cX2_leastByAllWays 46 = .ok (.iload_n 3, 1) := by decide +kernel
theorem dX2_leastByAllWays_47 : decode cX2_leastByAllWays 47 = .ok (.invokevirtual 154, 3) := by decide +kernel
theorem dX2_leastByAllWays_50 : decode cX2_leastByAllWays 50 = .ok (.lstore 4, 2) := by decide +kernel
theorem dX2_leastByAllWays_52 : decode cX2_leastByAllWays 52 = .ok (.lload 4, 2) := by decide +kernel
theorem dX2_leastByAllWays_54 : decode cX2_leastByAllWays 54 = .ok (.ldc2_w 152, 3) := by decide +kernel
theorem dX2_leastByAllWays_57 : decode cX2_leastByAllWays 57 = .ok (.lcmp, 1) := by decide +kernel
theorem dX2_leastByAllWays_58 : decode cX2_leastByAllWays 58 = .ok (.ifCond .eq 21, 3) := by decide +kernel
theorem dX2_leastByAllWays_61 : decode cX2_leastByAllWays 61 = .ok (.lload_n 1, 1) := by decide +kernel
theorem dX2_leastByAllWays_62 : decode cX2_leastByAllWays 62 = .ok (.ldc2_w 152, 3) := by decide +kernel
theorem dX2_leastByAllWays_65 : decode cX2_leastByAllWays 65 = .ok (.lcmp, 1) := by decide +kernel
theorem dX2_leastByAllWays_66 : decode cX2_leastByAllWays 66 = .ok (.ifCond .eq 10, 3) := by decide +kernel
theorem dX2_leastByAllWays_69 : decode cX2_leastByAllWays 69 = .ok (.lload 4, 2) := by decide +kernel
theorem dX2_leastByAllWays_71 : decode cX2_leastByAllWays 71 = .ok (.lload_n 1, 1) := by decide +kernel
theorem dX2_leastByAllWays_72 : decode cX2_leastByAllWays 72 = .ok (.lcmp, 1) := by decide +kernel
theorem dX2_leastByAllWays_73 : decode cX2_leastByAllWays 73 = .ok (.ifCond .ge 6, 3) := by decide +kernel
theorem dX2_leastByAllWays_76 : decode cX2_leastByAllWays 76 = .ok (.lload 4, 2) := by decide +kernel
theorem dX2_leastByAllWays_78 : decode cX2_leastByAllWays 78 = .ok (.lstore_n 1, 1) := by decide +kernel
theorem dX2_leastByAllWays_79 : decode cX2_leastByAllWays 79 = .ok (.iinc 3 1, 3) := by decide +kernel
theorem dX2_leastByAllWays_82 : decode cX2_leastByAllWays 82 = .ok (.goto (-65), 3) := by decide +kernel
theorem dX2_leastByAllWays_85 : decode cX2_leastByAllWays 85 = .ok (.lload_n 1, 1) := by decide +kernel
theorem dX2_leastByAllWays_86 : decode cX2_leastByAllWays 86 = .ok (.lreturn, 1) := by decide +kernel
set_option maxHeartbeats 4000000 in
set_option maxRecDepth 100000 in
theorem k_byAll (l : Launch) (dC : Nat → ClassId) (dI : Nat → Nat → Nat) (k : Nat → ClassId) (ln : Nat) (wa : Nat) (ga : Nat) (wt : Nat) (wo : Nat) (bD : Nat) (bL : Nat) (bE : Nat) (n : Int) (wd : Int) (nw : Int) (dp : Int) (sd : Int) (cl : Int) (fg : Int → Int) (fw : Int → Int) (fo : Int → Int) (hg : Bd 0 5 fg) (hw : Bd 0 2000 fw) (ho : Bd 0 12 fo) (h1 : 0 ≤ n ∧ n ≤ 48) (h2 : 0 ≤ dp ∧ dp ≤ 3) (h3 : 0 ≤ wd ∧ wd ≤ 200 ∧ 0 ≤ nw ∧ nw ≤ 200) : Kn l dC dI k yX2_leastByAllWays (.code yX2_leastByAllWays cX2_leastByAllWays 6 (some .long)) ({ frames := 3, cells := 0, slots := 0, locals := 67 } : Room) [.ref ln] [(ln, .inr (2, [.int (iI n), .ref wa, .ref ga, .ref wt, .ref wo, .int (iI wd), .int (iI nw), .int (iI dp), .int (iI sd), .int (iI cl), .ref bD, .ref bL, .ref bE])), (ga, .inl (k 0, 49, .inl (fun i9 : Nat => iI (fg i9)))), (wt, .inl (k 0, 49, .inl (fun i9 : Nat => iI (fw i9)))), (wo, .inl (k 0, 49, .inl (fun i9 : Nat => iI (fo i9))))] (fun r w gc gs => (∃ (sq : Int) (cq : Int), r = some (.long (lI (if n = 0 then 0 else if 12 < n then (-1) else lbF (fun w9 => DM fg fw fo n wd nw dp w9) (bShl 1 (n - 1)).toNat))) ∧ w = [(ln, .inr (2, [.int (iI n), .ref wa, .ref ga, .ref wt, .ref wo, .int (iI wd), .int (iI nw), .int (iI dp), .int (iI sq), .int (iI cq), .ref bD, .ref bL, .ref bE])), (ga, .inl (k 0, 49, .inl (fun i9 : Nat => iI (fg i9)))), (wt, .inl (k 0, 49, .inl (fun i9 : Nat => iI (fw i9)))), (wo, .inl (k 0, 49, .inl (fun i9 : Nat => iI (fo i9))))] ∧ gc = 0 ∧ gs = 0)) := by
  refine kn_of (by decide) (Nat.le_of_ble_eq_true rfl) ?_
  intro p e s m args below meth c H locs B hr hnm ls hl
  have hx := B.1.1
  have hb := B.1.2.1
  have hl : lv_has ls 6 [(0, .ref ln)] := hl
  refine k_join (σ := Int) B 14 (fun g9 : Int => ((n = 0 → g9 = 0) ∧ (n ≠ 0 → g9 = -1))) (fun g9 : Int => [(0, .ref ln)]) (fun g9 : Int => [(ln, .inr (2, [.int (iI n), .ref wa, .ref ga, .ref wt, .ref wo, .int (iI wd), .int (iI nw), .int (iI dp), .int (iI sd), .int (iI cl), .ref bD, .ref bL, .ref bE])), (ga, .inl (k 0, 49, .inl (fun i9 : Nat => iI (fg i9)))), (wt, .inl (k 0, 49, .inl (fun i9 : Nat => iI (fw i9)))), (wo, .inl (k 0, 49, .inl (fun i9 : Nat => iI (fo i9))))]) (fun g9 : Int => [.long (lI g9)]) ?_ (fun J_1 => ?_)
  · clear hl B
    rintro l0 hl0 ls H locs hl B
    have hl : lv_has ls 6 [(0, .ref ln)] := hl
    have B := bd_to (ws' := [(ln, .inr (2, [.int (iI n), .ref wa, .ref ga, .ref wt, .ref wo, .int (iI wd), .int (iI nw), .int (iI dp), .int (iI sd), .int (iI cl), .ref bD, .ref bL, .ref bE])), (ga, .inl (k 0, 49, .inl (fun i9 : Nat => iI (fg i9)))), (wt, .inl (k 0, 49, .inl (fun i9 : Nat => iI (fw i9)))), (wo, .inl (k 0, 49, .inl (fun i9 : Nat => iI (fo i9))))]) rfl B
    refine lv_lstore_n (lv' := [(1, .long (lI l0)), (0, .ref ln)]) hx hb dX2_leastByAllWays_14 rfl hl (by decide) rfl (fun ls hl => ?_)
    refine lv_iconst (v := iI 0) hx hb dX2_leastByAllWays_15 (by decide) ?_
    refine lv_istore_n (lv' := [(3, .int (iI 0)), (1, .long (lI l0)), (0, .ref ln)]) hx hb dX2_leastByAllWays_16 rfl hl (by decide) rfl (fun ls hl => ?_)
    refine k_loop (σ := Int × Int × Int × Int) B (fun g9 : Int × Int × Int × Int => (0 ≤ g9.1 ∧ g9.1 ≤ 2048 ∧ -1 ≤ g9.2.1 ∧ g9.2.1 ≤ 1000000000000 ∧ ((n = 0 → g9.2.1 = 0) ∧ (12 < n → g9.2.1 = -1)) ∧ (1 ≤ n → n ≤ 12 → g9.1 ≤ bShl 1 (n - 1))) ∧ (1 ≤ n ∧ n ≤ 12 → g9.2.1 = lbF (fun w9 => DM fg fw fo n wd nw dp w9) (Int.toNat g9.1))) (fun g9 : Int × Int × Int × Int => (5000 - g9.1).toNat) (fun g9 : Int × Int × Int × Int => [(3, .int (iI g9.1)), (1, .long (lI g9.2.1)), (0, .ref ln)]) (fun g9 : Int × Int × Int × Int => [(ln, .inr (2, [.int (iI n), .ref wa, .ref ga, .ref wt, .ref wo, .int (iI wd), .int (iI nw), .int (iI dp), .int (iI g9.2.2.1), .int (iI g9.2.2.2), .ref bD, .ref bL, .ref bE])), (ga, .inl (k 0, 49, .inl (fun i9 : Nat => iI (fg i9)))), (wt, .inl (k 0, 49, .inl (fun i9 : Nat => iI (fw i9)))), (wo, .inl (k 0, 49, .inl (fun i9 : Nat => iI (fo i9))))]) ?_ (0, l0, sd, cl) ⟨(show 0 ≤ 0 ∧ 0 ≤ 2048 ∧ -1 ≤ l0 ∧ l0 ≤ 1000000000000 ∧ ((n = 0 → l0 = 0) ∧ (12 < n → l0 = -1)) ∧ (1 ≤ n → n ≤ 12 → 0 ≤ bShl 1 (n - 1)) from (by have hb9 : 1 ≤ n → n ≤ 12 → 0 < bShl 1 (n - 1) := fun a9 b9 => (bShl_12 ⟨a9, b9⟩).1; omega)), (show 1 ≤ n ∧ n ≤ 12 → l0 = lbF (fun w9 => DM fg fw fo n wd nw dp w9) (Int.toNat 0) from (fun q9 => by rw [show l0 = -1 by omega]; rfl))⟩ ls H locs (lv_sub hl [0, 1, 2] rfl) (bd_to rfl B)
    clear hl B
    rintro ⟨ww, le, sq, cq⟩ ⟨hww, hle⟩ ih_2 ls H locs hl B
    have hww : 0 ≤ ww ∧ ww ≤ 2048 ∧ -1 ≤ le ∧ le ≤ 1000000000000 ∧ ((n = 0 → le = 0) ∧ (12 < n → le = -1)) ∧ (1 ≤ n → n ≤ 12 → ww ≤ bShl 1 (n - 1)) := hww
    have hle : 1 ≤ n ∧ n ≤ 12 → le = lbF (fun w9 => DM fg fw fo n wd nw dp w9) (Int.toNat ww) := hle
    have hl : lv_has ls 6 [(3, .int (iI ww)), (1, .long (lI le)), (0, .ref ln)] := hl
    have B := bd_to (ws' := [(ln, .inr (2, [.int (iI n), .ref wa, .ref ga, .ref wt, .ref wo, .int (iI wd), .int (iI nw), .int (iI dp), .int (iI sq), .int (iI cq), .ref bD, .ref bL, .ref bE])), (ga, .inl (k 0, 49, .inl (fun i9 : Nat => iI (fg i9)))), (wt, .inl (k 0, 49, .inl (fun i9 : Nat => iI (fw i9)))), (wo, .inl (k 0, 49, .inl (fun i9 : Nat => iI (fo i9))))]) rfl B
    refine lv_aload_n hx hb dX2_leastByAllWays_17 rfl (lv_at hl 2 rfl) ?_
    refine x_get (ci := 2) (C := RX2) (T := TX2) (N := 13) (v := .int (iI n)) B 0 rfl rfl in_X2 0 (by decide) mw_126 (fun _ h9 => h9) rfl dX2_leastByAllWays_18 ?_
    refine lv_if_le (tgt := 85) hx hb dX2_leastByAllWays_21 (by decide) (fun c_3 => ?_) (fun c_3 => ?_)
    · have zc_3 : n ≤ 0 := jle (a := n) (b := 0) (by omega) (by omega) c_3
      refine lv_lload_n hx hb dX2_leastByAllWays_85 rfl (lv_at hl 1 rfl) ?_
      have e_4 : (if n = 0 then 0 else if 12 < n then (-1) else lbF (fun w9 => DM fg fw fo n wd nw dp w9) (bShl 1 (n - 1)).toNat) = le := (by have h9 := hle; (repeat' split) <;> first | omega | (rw [h9 (by omega)]; congr 1; omega))
      skip
      exact k_lret B hr (⟨sq, cq, (by rw [e_4]), rfl, rfl, rfl⟩) ⟨Nat.le_of_ble_eq_true rfl, Nat.le_of_ble_eq_true rfl⟩ ⟨Nat.le_of_ble_eq_true rfl, Nat.le_of_ble_eq_true rfl⟩ dX2_leastByAllWays_86
    · have zc_3 : 0 < n := jnle (a := n) (b := 0) (by omega) (by omega) c_3
      refine lv_aload_n hx hb dX2_leastByAllWays_24 rfl (lv_at hl 2 rfl) ?_
      refine x_get (ci := 2) (C := RX2) (T := TX2) (N := 13) (v := .int (iI n)) B 0 rfl rfl in_X2 0 (by decide) mw_126 (fun _ h9 => h9) rfl dX2_leastByAllWays_25 ?_
      refine lv_bipush (v := iI 12) hx hb dX2_leastByAllWays_28 (by decide) ?_
      refine lv_icmp_gt (tgt := 85) hx hb dX2_leastByAllWays_30 (by decide) (fun c_5 => ?_) (fun c_5 => ?_)
      · have zc_5 : 12 < n := jlt (a := 12) (b := n) (by omega) (by omega) c_5
        refine lv_lload_n hx hb dX2_leastByAllWays_85 rfl (lv_at hl 1 rfl) ?_
        have e_6 : (if n = 0 then 0 else if 12 < n then (-1) else lbF (fun w9 => DM fg fw fo n wd nw dp w9) (bShl 1 (n - 1)).toNat) = le := (by have h9 := hle; (repeat' split) <;> first | omega | (rw [h9 (by omega)]; congr 1; omega))
        skip
        exact k_lret B hr (⟨sq, cq, (by rw [e_6]), rfl, rfl, rfl⟩) ⟨Nat.le_of_ble_eq_true rfl, Nat.le_of_ble_eq_true rfl⟩ ⟨Nat.le_of_ble_eq_true rfl, Nat.le_of_ble_eq_true rfl⟩ dX2_leastByAllWays_86
      · have zc_5 : n ≤ 12 := jnlt (a := 12) (b := n) (by omega) (by omega) c_5
        refine lv_iload_n hx hb dX2_leastByAllWays_33 rfl (lv_at hl 0 rfl) ?_
        refine lv_iconst (v := iI 1) hx hb dX2_leastByAllWays_34 (by decide) ?_
        refine lv_aload_n hx hb dX2_leastByAllWays_35 rfl (lv_at hl 2 rfl) ?_
        refine x_get (ci := 2) (C := RX2) (T := TX2) (N := 13) (v := .int (iI n)) B 0 rfl rfl in_X2 0 (by decide) mw_126 (fun _ h9 => h9) rfl dX2_leastByAllWays_36 ?_
        refine lv_iconst (v := iI 1) hx hb dX2_leastByAllWays_39 (by decide) ?_
        refine y_sub hx hb dX2_leastByAllWays_40 ?_
        have z_7 : 0 < (bShl 1 (n - 1)) ∧ (bShl 1 (n - 1)) < 2147483648 := bShl_1 (by omega)
        refine y_shl hx hb (a := 1) (b := (n - 1)) (by omega) (by omega) (by omega) dX2_leastByAllWays_41 ?_
        have z_8 : 0 < bShl 1 (n - 1) ∧ bShl 1 (n - 1) ≤ 2048 := bShl_12 (by omega)
        refine lv_icmp_ge (tgt := 85) hx hb dX2_leastByAllWays_42 (by decide) (fun c_9 => ?_) (fun c_9 => ?_)
        · have zc_9 : (bShl 1 (n - 1)) ≤ ww := jle (a := (bShl 1 (n - 1))) (b := ww) (by omega) (by omega) c_9
          refine lv_lload_n hx hb dX2_leastByAllWays_85 rfl (lv_at hl 1 rfl) ?_
          have e_10 : (if n = 0 then 0 else if 12 < n then (-1) else lbF (fun w9 => DM fg fw fo n wd nw dp w9) (bShl 1 (n - 1)).toNat) = le := (by have h9 := hle; (repeat' split) <;> first | omega | (rw [h9 (by omega)]; congr 1; omega))
          skip
          exact k_lret B hr (⟨sq, cq, (by rw [e_10]), rfl, rfl, rfl⟩) ⟨Nat.le_of_ble_eq_true rfl, Nat.le_of_ble_eq_true rfl⟩ ⟨Nat.le_of_ble_eq_true rfl, Nat.le_of_ble_eq_true rfl⟩ dX2_leastByAllWays_86
        · have zc_9 : ww < (bShl 1 (n - 1)) := jnle (a := (bShl 1 (n - 1))) (b := ww) (by omega) (by omega) c_9
          refine lv_aload_n hx hb dX2_leastByAllWays_45 rfl (lv_at hl 2 rfl) ?_
          refine lv_iload_n hx hb dX2_leastByAllWays_46 rfl (lv_at hl 0 rfl) ?_
          have B := bd_to (ws' := [(ln, .inr (2, [.int (iI n), .ref wa, .ref ga, .ref wt, .ref wo, .int (iI wd), .int (iI nw), .int (iI dp), .int (iI sq), .int (iI cq), .ref bD, .ref bL, .ref bE])), (ga, .inl (k 0, 49, .inl (fun i9 : Nat => iI (fg i9)))), (wt, .inl (k 0, 49, .inl (fun i9 : Nat => iI (fw i9)))), (wo, .inl (k 0, 49, .inl (fun i9 : Nat => iI (fo i9))))] ++ []) rfl B
          refine k_V (rest := []) (wc := [(ln, .inr (2, [.int (iI n), .ref wa, .ref ga, .ref wt, .ref wo, .int (iI wd), .int (iI nw), .int (iI dp), .int (iI sq), .int (iI cq), .ref bD, .ref bL, .ref bE])), (ga, .inl (k 0, 49, .inl (fun i9 : Nat => iI (fg i9)))), (wt, .inl (k 0, 49, .inl (fun i9 : Nat => iI (fw i9)))), (wo, .inl (k 0, 49, .inl (fun i9 : Nat => iI (fo i9))))]) (wr := []) (k_demeritsOf l dC dI k ln wa ga wt wo bD bL bE n wd nw dp sq cq fg fw fo ww hg hw ho (by omega) h2 h3 (by omega)) B mV_X2_demeritsOf mw_1717 hl (q0 := 0) rfl rfl rfl ⟨Nat.le_of_ble_eq_true rfl, Nat.le_of_ble_eq_true rfl⟩ (Nat.le_of_ble_eq_true rfl) rfl dX2_leastByAllWays_47 ⟨Nat.le_of_ble_eq_true rfl, Nat.le_of_ble_eq_true rfl⟩ (fun r w gc gs H locs hp B => ?_)
          obtain ⟨sq_11, cq_12, z_13, rfl, hw9, rfl, rfl⟩ := hp
          rw [hw9] at B; clear hw9
          have B := bd_to (ws' := [(ln, .inr (2, [.int (iI n), .ref wa, .ref ga, .ref wt, .ref wo, .int (iI wd), .int (iI nw), .int (iI dp), .int (iI sq_11), .int (iI cq_12), .ref bD, .ref bL, .ref bE])), (ga, .inl (k 0, 49, .inl (fun i9 : Nat => iI (fg i9)))), (wt, .inl (k 0, 49, .inl (fun i9 : Nat => iI (fw i9)))), (wo, .inl (k 0, 49, .inl (fun i9 : Nat => iI (fo i9))))]) rfl B
          refine lv_lstore (lv' := [(4, .long (lI (DM fg fw fo n wd nw dp ww))), (3, .int (iI ww)), (1, .long (lI le)), (0, .ref ln)]) hx hb dX2_leastByAllWays_50 hl (by decide) rfl (fun ls hl => ?_)
          refine lv_lload hx hb dX2_leastByAllWays_52 (lv_at hl 0 rfl) ?_
          refine lv_ldc2 (v := (-1)) hx hb B.1.2.2.2.1 (B.1.2.2.2.2.1 _ mw_1449) dX2_leastByAllWays_54 ?_
          refine lv_setl (y := lI (-1)) (by decide) ?_
          refine y_lcmp B (a := (DM fg fw fo n wd nw dp ww)) (b := (-1)) (by omega) (by omega) dX2_leastByAllWays_57 ?_
          rcases (show (DM fg fw fo n wd nw dp ww) < (-1) ∨ (DM fg fw fo n wd nw dp ww) = (-1) ∨ (-1) < (DM fg fw fo n wd nw dp ww) by omega) with zc_14 | zc_14 | zc_14
          · refine lv_seti (y := iI (-1)) (congrArg iI (show cmpZ (DM fg fw fo n wd nw dp ww) (-1) = (-1) from if_pos zc_14)) ?_
            refine lv_if_eq (tgt := 79) hx hb dX2_leastByAllWays_58 (by decide) (fun c9 => absurd c9 (by decide)) (fun _ => ?_)
            refine lv_lload_n hx hb dX2_leastByAllWays_61 rfl (lv_at hl 2 rfl) ?_
            refine lv_ldc2 (v := (-1)) hx hb B.1.2.2.2.1 (B.1.2.2.2.2.1 _ mw_1449) dX2_leastByAllWays_62 ?_
            refine lv_setl (y := lI (-1)) (by decide) ?_
            refine y_lcmp B (a := le) (b := (-1)) (by omega) (by omega) dX2_leastByAllWays_65 ?_
            rcases (show le < (-1) ∨ le = (-1) ∨ (-1) < le by omega) with zc_15 | zc_15 | zc_15
            · refine lv_seti (y := iI (-1)) (congrArg iI (show cmpZ le (-1) = (-1) from if_pos zc_15)) ?_
              refine lv_if_eq (tgt := 76) hx hb dX2_leastByAllWays_66 (by decide) (fun c9 => absurd c9 (by decide)) (fun _ => ?_)
              refine lv_lload hx hb dX2_leastByAllWays_69 (lv_at hl 0 rfl) ?_
              refine lv_lload_n hx hb dX2_leastByAllWays_71 rfl (lv_at hl 2 rfl) ?_
              refine y_lcmp B (a := (DM fg fw fo n wd nw dp ww)) (b := le) (by omega) (by omega) dX2_leastByAllWays_72 ?_
              rcases (show (DM fg fw fo n wd nw dp ww) < le ∨ (DM fg fw fo n wd nw dp ww) = le ∨ le < (DM fg fw fo n wd nw dp ww) by omega) with zc_16 | zc_16 | zc_16
              · refine lv_seti (y := iI (-1)) (congrArg iI (show cmpZ (DM fg fw fo n wd nw dp ww) le = (-1) from if_pos zc_16)) ?_
                refine lv_if_ge (tgt := 79) hx hb dX2_leastByAllWays_73 (by decide) (fun c9 => absurd c9 (by decide)) (fun _ => ?_)
                refine lv_lload hx hb dX2_leastByAllWays_76 (lv_at hl 0 rfl) ?_
                refine lv_lstore_n (lv' := [(1, .long (lI (DM fg fw fo n wd nw dp ww))), (4, .long (lI (DM fg fw fo n wd nw dp ww))), (3, .int (iI ww)), (0, .ref ln)]) hx hb dX2_leastByAllWays_78 rfl hl (by decide) rfl (fun ls hl => ?_)
                refine lv_iinc (v := iI (ww + 1)) (lv' := [(3, .int (iI (ww + 1))), (1, .long (lI (DM fg fw fo n wd nw dp ww))), (4, .long (lI (DM fg fw fo n wd nw dp ww))), (0, .ref ln)]) hx hb dX2_leastByAllWays_79 hl (k := 2) rfl (iI_add _ _) (by decide) rfl (fun ls hl => ?_)
                refine lv_goto (tgt := 17) hx hb dX2_leastByAllWays_82 (by decide) ?_
                exact ih_2 ((ww + 1), (DM fg fw fo n wd nw dp ww), sq_11, cq_12) ⟨(show 0 ≤ (ww + 1) ∧ (ww + 1) ≤ 2048 ∧ -1 ≤ (DM fg fw fo n wd nw dp ww) ∧ (DM fg fw fo n wd nw dp ww) ≤ 1000000000000 ∧ ((n = 0 → (DM fg fw fo n wd nw dp ww) = 0) ∧ (12 < n → (DM fg fw fo n wd nw dp ww) = -1)) ∧ (1 ≤ n → n ≤ 12 → (ww + 1) ≤ bShl 1 (n - 1)) from (by omega)), (show 1 ≤ n ∧ n ≤ 12 → (DM fg fw fo n wd nw dp ww) = lbF (fun w9 => DM fg fw fo n wd nw dp w9) (Int.toNat (ww + 1)) from (fun q9 => by rw [lbF_s (by omega)]; have h9 := hle q9; rw [← h9]; (repeat' split) <;> omega))⟩ (by first | omega | (dsimp only; omega)) _ _ _ (lv_sub hl [0, 1, 3] rfl) (bd_to rfl B)
              · refine lv_seti (y := iI 0) (congrArg iI (show cmpZ (DM fg fw fo n wd nw dp ww) le = 0 from (if_neg (by omega)).trans (if_pos zc_16))) ?_
                refine lv_if_ge (tgt := 79) hx hb dX2_leastByAllWays_73 (by decide) (fun _ => ?_) (fun c9 => absurd (by decide) c9)
                refine lv_iinc (v := iI (ww + 1)) (lv' := [(3, .int (iI (ww + 1))), (4, .long (lI (DM fg fw fo n wd nw dp ww))), (1, .long (lI le)), (0, .ref ln)]) hx hb dX2_leastByAllWays_79 hl (k := 1) rfl (iI_add _ _) (by decide) rfl (fun ls hl => ?_)
                refine lv_goto (tgt := 17) hx hb dX2_leastByAllWays_82 (by decide) ?_
                exact ih_2 ((ww + 1), le, sq_11, cq_12) ⟨(show 0 ≤ (ww + 1) ∧ (ww + 1) ≤ 2048 ∧ -1 ≤ le ∧ le ≤ 1000000000000 ∧ ((n = 0 → le = 0) ∧ (12 < n → le = -1)) ∧ (1 ≤ n → n ≤ 12 → (ww + 1) ≤ bShl 1 (n - 1)) from (by omega)), (show 1 ≤ n ∧ n ≤ 12 → le = lbF (fun w9 => DM fg fw fo n wd nw dp w9) (Int.toNat (ww + 1)) from (fun q9 => by rw [lbF_s (by omega)]; have h9 := hle q9; rw [← h9]; (repeat' split) <;> omega))⟩ (by first | omega | (dsimp only; omega)) _ _ _ (lv_sub hl [0, 2, 3] rfl) (bd_to rfl B)
              · refine lv_seti (y := iI 1) (congrArg iI (show cmpZ (DM fg fw fo n wd nw dp ww) le = 1 from (if_neg (by omega)).trans (if_neg (by omega)))) ?_
                refine lv_if_ge (tgt := 79) hx hb dX2_leastByAllWays_73 (by decide) (fun _ => ?_) (fun c9 => absurd (by decide) c9)
                refine lv_iinc (v := iI (ww + 1)) (lv' := [(3, .int (iI (ww + 1))), (4, .long (lI (DM fg fw fo n wd nw dp ww))), (1, .long (lI le)), (0, .ref ln)]) hx hb dX2_leastByAllWays_79 hl (k := 1) rfl (iI_add _ _) (by decide) rfl (fun ls hl => ?_)
                refine lv_goto (tgt := 17) hx hb dX2_leastByAllWays_82 (by decide) ?_
                exact ih_2 ((ww + 1), le, sq_11, cq_12) ⟨(show 0 ≤ (ww + 1) ∧ (ww + 1) ≤ 2048 ∧ -1 ≤ le ∧ le ≤ 1000000000000 ∧ ((n = 0 → le = 0) ∧ (12 < n → le = -1)) ∧ (1 ≤ n → n ≤ 12 → (ww + 1) ≤ bShl 1 (n - 1)) from (by omega)), (show 1 ≤ n ∧ n ≤ 12 → le = lbF (fun w9 => DM fg fw fo n wd nw dp w9) (Int.toNat (ww + 1)) from (fun q9 => by rw [lbF_s (by omega)]; have h9 := hle q9; rw [← h9]; (repeat' split) <;> omega))⟩ (by first | omega | (dsimp only; omega)) _ _ _ (lv_sub hl [0, 2, 3] rfl) (bd_to rfl B)
            · refine lv_seti (y := iI 0) (congrArg iI (show cmpZ le (-1) = 0 from (if_neg (by omega)).trans (if_pos zc_15))) ?_
              refine lv_if_eq (tgt := 76) hx hb dX2_leastByAllWays_66 (by decide) (fun _ => ?_) (fun c9 => absurd (by decide) c9)
              refine lv_lload hx hb dX2_leastByAllWays_76 (lv_at hl 0 rfl) ?_
              refine lv_lstore_n (lv' := [(1, .long (lI (DM fg fw fo n wd nw dp ww))), (4, .long (lI (DM fg fw fo n wd nw dp ww))), (3, .int (iI ww)), (0, .ref ln)]) hx hb dX2_leastByAllWays_78 rfl hl (by decide) rfl (fun ls hl => ?_)
              refine lv_iinc (v := iI (ww + 1)) (lv' := [(3, .int (iI (ww + 1))), (1, .long (lI (DM fg fw fo n wd nw dp ww))), (4, .long (lI (DM fg fw fo n wd nw dp ww))), (0, .ref ln)]) hx hb dX2_leastByAllWays_79 hl (k := 2) rfl (iI_add _ _) (by decide) rfl (fun ls hl => ?_)
              refine lv_goto (tgt := 17) hx hb dX2_leastByAllWays_82 (by decide) ?_
              exact ih_2 ((ww + 1), (DM fg fw fo n wd nw dp ww), sq_11, cq_12) ⟨(show 0 ≤ (ww + 1) ∧ (ww + 1) ≤ 2048 ∧ -1 ≤ (DM fg fw fo n wd nw dp ww) ∧ (DM fg fw fo n wd nw dp ww) ≤ 1000000000000 ∧ ((n = 0 → (DM fg fw fo n wd nw dp ww) = 0) ∧ (12 < n → (DM fg fw fo n wd nw dp ww) = -1)) ∧ (1 ≤ n → n ≤ 12 → (ww + 1) ≤ bShl 1 (n - 1)) from (by omega)), (show 1 ≤ n ∧ n ≤ 12 → (DM fg fw fo n wd nw dp ww) = lbF (fun w9 => DM fg fw fo n wd nw dp w9) (Int.toNat (ww + 1)) from (fun q9 => by rw [lbF_s (by omega)]; have h9 := hle q9; rw [← h9]; (repeat' split) <;> omega))⟩ (by first | omega | (dsimp only; omega)) _ _ _ (lv_sub hl [0, 1, 3] rfl) (bd_to rfl B)
            · refine lv_seti (y := iI 1) (congrArg iI (show cmpZ le (-1) = 1 from (if_neg (by omega)).trans (if_neg (by omega)))) ?_
              refine lv_if_eq (tgt := 76) hx hb dX2_leastByAllWays_66 (by decide) (fun c9 => absurd c9 (by decide)) (fun _ => ?_)
              refine lv_lload hx hb dX2_leastByAllWays_69 (lv_at hl 0 rfl) ?_
              refine lv_lload_n hx hb dX2_leastByAllWays_71 rfl (lv_at hl 2 rfl) ?_
              refine y_lcmp B (a := (DM fg fw fo n wd nw dp ww)) (b := le) (by omega) (by omega) dX2_leastByAllWays_72 ?_
              rcases (show (DM fg fw fo n wd nw dp ww) < le ∨ (DM fg fw fo n wd nw dp ww) = le ∨ le < (DM fg fw fo n wd nw dp ww) by omega) with zc_17 | zc_17 | zc_17
              · refine lv_seti (y := iI (-1)) (congrArg iI (show cmpZ (DM fg fw fo n wd nw dp ww) le = (-1) from if_pos zc_17)) ?_
                refine lv_if_ge (tgt := 79) hx hb dX2_leastByAllWays_73 (by decide) (fun c9 => absurd c9 (by decide)) (fun _ => ?_)
                refine lv_lload hx hb dX2_leastByAllWays_76 (lv_at hl 0 rfl) ?_
                refine lv_lstore_n (lv' := [(1, .long (lI (DM fg fw fo n wd nw dp ww))), (4, .long (lI (DM fg fw fo n wd nw dp ww))), (3, .int (iI ww)), (0, .ref ln)]) hx hb dX2_leastByAllWays_78 rfl hl (by decide) rfl (fun ls hl => ?_)
                refine lv_iinc (v := iI (ww + 1)) (lv' := [(3, .int (iI (ww + 1))), (1, .long (lI (DM fg fw fo n wd nw dp ww))), (4, .long (lI (DM fg fw fo n wd nw dp ww))), (0, .ref ln)]) hx hb dX2_leastByAllWays_79 hl (k := 2) rfl (iI_add _ _) (by decide) rfl (fun ls hl => ?_)
                refine lv_goto (tgt := 17) hx hb dX2_leastByAllWays_82 (by decide) ?_
                exact ih_2 ((ww + 1), (DM fg fw fo n wd nw dp ww), sq_11, cq_12) ⟨(show 0 ≤ (ww + 1) ∧ (ww + 1) ≤ 2048 ∧ -1 ≤ (DM fg fw fo n wd nw dp ww) ∧ (DM fg fw fo n wd nw dp ww) ≤ 1000000000000 ∧ ((n = 0 → (DM fg fw fo n wd nw dp ww) = 0) ∧ (12 < n → (DM fg fw fo n wd nw dp ww) = -1)) ∧ (1 ≤ n → n ≤ 12 → (ww + 1) ≤ bShl 1 (n - 1)) from (by omega)), (show 1 ≤ n ∧ n ≤ 12 → (DM fg fw fo n wd nw dp ww) = lbF (fun w9 => DM fg fw fo n wd nw dp w9) (Int.toNat (ww + 1)) from (fun q9 => by rw [lbF_s (by omega)]; have h9 := hle q9; rw [← h9]; (repeat' split) <;> omega))⟩ (by first | omega | (dsimp only; omega)) _ _ _ (lv_sub hl [0, 1, 3] rfl) (bd_to rfl B)
              · refine lv_seti (y := iI 0) (congrArg iI (show cmpZ (DM fg fw fo n wd nw dp ww) le = 0 from (if_neg (by omega)).trans (if_pos zc_17))) ?_
                refine lv_if_ge (tgt := 79) hx hb dX2_leastByAllWays_73 (by decide) (fun _ => ?_) (fun c9 => absurd (by decide) c9)
                refine lv_iinc (v := iI (ww + 1)) (lv' := [(3, .int (iI (ww + 1))), (4, .long (lI (DM fg fw fo n wd nw dp ww))), (1, .long (lI le)), (0, .ref ln)]) hx hb dX2_leastByAllWays_79 hl (k := 1) rfl (iI_add _ _) (by decide) rfl (fun ls hl => ?_)
                refine lv_goto (tgt := 17) hx hb dX2_leastByAllWays_82 (by decide) ?_
                exact ih_2 ((ww + 1), le, sq_11, cq_12) ⟨(show 0 ≤ (ww + 1) ∧ (ww + 1) ≤ 2048 ∧ -1 ≤ le ∧ le ≤ 1000000000000 ∧ ((n = 0 → le = 0) ∧ (12 < n → le = -1)) ∧ (1 ≤ n → n ≤ 12 → (ww + 1) ≤ bShl 1 (n - 1)) from (by omega)), (show 1 ≤ n ∧ n ≤ 12 → le = lbF (fun w9 => DM fg fw fo n wd nw dp w9) (Int.toNat (ww + 1)) from (fun q9 => by rw [lbF_s (by omega)]; have h9 := hle q9; rw [← h9]; (repeat' split) <;> omega))⟩ (by first | omega | (dsimp only; omega)) _ _ _ (lv_sub hl [0, 2, 3] rfl) (bd_to rfl B)
              · refine lv_seti (y := iI 1) (congrArg iI (show cmpZ (DM fg fw fo n wd nw dp ww) le = 1 from (if_neg (by omega)).trans (if_neg (by omega)))) ?_
                refine lv_if_ge (tgt := 79) hx hb dX2_leastByAllWays_73 (by decide) (fun _ => ?_) (fun c9 => absurd (by decide) c9)
                refine lv_iinc (v := iI (ww + 1)) (lv' := [(3, .int (iI (ww + 1))), (4, .long (lI (DM fg fw fo n wd nw dp ww))), (1, .long (lI le)), (0, .ref ln)]) hx hb dX2_leastByAllWays_79 hl (k := 1) rfl (iI_add _ _) (by decide) rfl (fun ls hl => ?_)
                refine lv_goto (tgt := 17) hx hb dX2_leastByAllWays_82 (by decide) ?_
                exact ih_2 ((ww + 1), le, sq_11, cq_12) ⟨(show 0 ≤ (ww + 1) ∧ (ww + 1) ≤ 2048 ∧ -1 ≤ le ∧ le ≤ 1000000000000 ∧ ((n = 0 → le = 0) ∧ (12 < n → le = -1)) ∧ (1 ≤ n → n ≤ 12 → (ww + 1) ≤ bShl 1 (n - 1)) from (by omega)), (show 1 ≤ n ∧ n ≤ 12 → le = lbF (fun w9 => DM fg fw fo n wd nw dp w9) (Int.toNat (ww + 1)) from (fun q9 => by rw [lbF_s (by omega)]; have h9 := hle q9; rw [← h9]; (repeat' split) <;> omega))⟩ (by first | omega | (dsimp only; omega)) _ _ _ (lv_sub hl [0, 2, 3] rfl) (bd_to rfl B)
          · refine lv_seti (y := iI 0) (congrArg iI (show cmpZ (DM fg fw fo n wd nw dp ww) (-1) = 0 from (if_neg (by omega)).trans (if_pos zc_14))) ?_
            refine lv_if_eq (tgt := 79) hx hb dX2_leastByAllWays_58 (by decide) (fun _ => ?_) (fun c9 => absurd (by decide) c9)
            refine lv_iinc (v := iI (ww + 1)) (lv' := [(3, .int (iI (ww + 1))), (4, .long (lI (DM fg fw fo n wd nw dp ww))), (1, .long (lI le)), (0, .ref ln)]) hx hb dX2_leastByAllWays_79 hl (k := 1) rfl (iI_add _ _) (by decide) rfl (fun ls hl => ?_)
            refine lv_goto (tgt := 17) hx hb dX2_leastByAllWays_82 (by decide) ?_
            exact ih_2 ((ww + 1), le, sq_11, cq_12) ⟨(show 0 ≤ (ww + 1) ∧ (ww + 1) ≤ 2048 ∧ -1 ≤ le ∧ le ≤ 1000000000000 ∧ ((n = 0 → le = 0) ∧ (12 < n → le = -1)) ∧ (1 ≤ n → n ≤ 12 → (ww + 1) ≤ bShl 1 (n - 1)) from (by omega)), (show 1 ≤ n ∧ n ≤ 12 → le = lbF (fun w9 => DM fg fw fo n wd nw dp w9) (Int.toNat (ww + 1)) from (fun q9 => by rw [lbF_s (by omega)]; have h9 := hle q9; rw [← h9]; (repeat' split) <;> omega))⟩ (by first | omega | (dsimp only; omega)) _ _ _ (lv_sub hl [0, 2, 3] rfl) (bd_to rfl B)
          · refine lv_seti (y := iI 1) (congrArg iI (show cmpZ (DM fg fw fo n wd nw dp ww) (-1) = 1 from (if_neg (by omega)).trans (if_neg (by omega)))) ?_
            refine lv_if_eq (tgt := 79) hx hb dX2_leastByAllWays_58 (by decide) (fun c9 => absurd c9 (by decide)) (fun _ => ?_)
            refine lv_lload_n hx hb dX2_leastByAllWays_61 rfl (lv_at hl 2 rfl) ?_
            refine lv_ldc2 (v := (-1)) hx hb B.1.2.2.2.1 (B.1.2.2.2.2.1 _ mw_1449) dX2_leastByAllWays_62 ?_
            refine lv_setl (y := lI (-1)) (by decide) ?_
            refine y_lcmp B (a := le) (b := (-1)) (by omega) (by omega) dX2_leastByAllWays_65 ?_
            rcases (show le < (-1) ∨ le = (-1) ∨ (-1) < le by omega) with zc_18 | zc_18 | zc_18
            · refine lv_seti (y := iI (-1)) (congrArg iI (show cmpZ le (-1) = (-1) from if_pos zc_18)) ?_
              refine lv_if_eq (tgt := 76) hx hb dX2_leastByAllWays_66 (by decide) (fun c9 => absurd c9 (by decide)) (fun _ => ?_)
              refine lv_lload hx hb dX2_leastByAllWays_69 (lv_at hl 0 rfl) ?_
              refine lv_lload_n hx hb dX2_leastByAllWays_71 rfl (lv_at hl 2 rfl) ?_
              refine y_lcmp B (a := (DM fg fw fo n wd nw dp ww)) (b := le) (by omega) (by omega) dX2_leastByAllWays_72 ?_
              rcases (show (DM fg fw fo n wd nw dp ww) < le ∨ (DM fg fw fo n wd nw dp ww) = le ∨ le < (DM fg fw fo n wd nw dp ww) by omega) with zc_19 | zc_19 | zc_19
              · refine lv_seti (y := iI (-1)) (congrArg iI (show cmpZ (DM fg fw fo n wd nw dp ww) le = (-1) from if_pos zc_19)) ?_
                refine lv_if_ge (tgt := 79) hx hb dX2_leastByAllWays_73 (by decide) (fun c9 => absurd c9 (by decide)) (fun _ => ?_)
                refine lv_lload hx hb dX2_leastByAllWays_76 (lv_at hl 0 rfl) ?_
                refine lv_lstore_n (lv' := [(1, .long (lI (DM fg fw fo n wd nw dp ww))), (4, .long (lI (DM fg fw fo n wd nw dp ww))), (3, .int (iI ww)), (0, .ref ln)]) hx hb dX2_leastByAllWays_78 rfl hl (by decide) rfl (fun ls hl => ?_)
                refine lv_iinc (v := iI (ww + 1)) (lv' := [(3, .int (iI (ww + 1))), (1, .long (lI (DM fg fw fo n wd nw dp ww))), (4, .long (lI (DM fg fw fo n wd nw dp ww))), (0, .ref ln)]) hx hb dX2_leastByAllWays_79 hl (k := 2) rfl (iI_add _ _) (by decide) rfl (fun ls hl => ?_)
                refine lv_goto (tgt := 17) hx hb dX2_leastByAllWays_82 (by decide) ?_
                exact ih_2 ((ww + 1), (DM fg fw fo n wd nw dp ww), sq_11, cq_12) ⟨(show 0 ≤ (ww + 1) ∧ (ww + 1) ≤ 2048 ∧ -1 ≤ (DM fg fw fo n wd nw dp ww) ∧ (DM fg fw fo n wd nw dp ww) ≤ 1000000000000 ∧ ((n = 0 → (DM fg fw fo n wd nw dp ww) = 0) ∧ (12 < n → (DM fg fw fo n wd nw dp ww) = -1)) ∧ (1 ≤ n → n ≤ 12 → (ww + 1) ≤ bShl 1 (n - 1)) from (by omega)), (show 1 ≤ n ∧ n ≤ 12 → (DM fg fw fo n wd nw dp ww) = lbF (fun w9 => DM fg fw fo n wd nw dp w9) (Int.toNat (ww + 1)) from (fun q9 => by rw [lbF_s (by omega)]; have h9 := hle q9; rw [← h9]; (repeat' split) <;> omega))⟩ (by first | omega | (dsimp only; omega)) _ _ _ (lv_sub hl [0, 1, 3] rfl) (bd_to rfl B)
              · refine lv_seti (y := iI 0) (congrArg iI (show cmpZ (DM fg fw fo n wd nw dp ww) le = 0 from (if_neg (by omega)).trans (if_pos zc_19))) ?_
                refine lv_if_ge (tgt := 79) hx hb dX2_leastByAllWays_73 (by decide) (fun _ => ?_) (fun c9 => absurd (by decide) c9)
                refine lv_iinc (v := iI (ww + 1)) (lv' := [(3, .int (iI (ww + 1))), (4, .long (lI (DM fg fw fo n wd nw dp ww))), (1, .long (lI le)), (0, .ref ln)]) hx hb dX2_leastByAllWays_79 hl (k := 1) rfl (iI_add _ _) (by decide) rfl (fun ls hl => ?_)
                refine lv_goto (tgt := 17) hx hb dX2_leastByAllWays_82 (by decide) ?_
                exact ih_2 ((ww + 1), le, sq_11, cq_12) ⟨(show 0 ≤ (ww + 1) ∧ (ww + 1) ≤ 2048 ∧ -1 ≤ le ∧ le ≤ 1000000000000 ∧ ((n = 0 → le = 0) ∧ (12 < n → le = -1)) ∧ (1 ≤ n → n ≤ 12 → (ww + 1) ≤ bShl 1 (n - 1)) from (by omega)), (show 1 ≤ n ∧ n ≤ 12 → le = lbF (fun w9 => DM fg fw fo n wd nw dp w9) (Int.toNat (ww + 1)) from (fun q9 => by rw [lbF_s (by omega)]; have h9 := hle q9; rw [← h9]; (repeat' split) <;> omega))⟩ (by first | omega | (dsimp only; omega)) _ _ _ (lv_sub hl [0, 2, 3] rfl) (bd_to rfl B)
              · refine lv_seti (y := iI 1) (congrArg iI (show cmpZ (DM fg fw fo n wd nw dp ww) le = 1 from (if_neg (by omega)).trans (if_neg (by omega)))) ?_
                refine lv_if_ge (tgt := 79) hx hb dX2_leastByAllWays_73 (by decide) (fun _ => ?_) (fun c9 => absurd (by decide) c9)
                refine lv_iinc (v := iI (ww + 1)) (lv' := [(3, .int (iI (ww + 1))), (4, .long (lI (DM fg fw fo n wd nw dp ww))), (1, .long (lI le)), (0, .ref ln)]) hx hb dX2_leastByAllWays_79 hl (k := 1) rfl (iI_add _ _) (by decide) rfl (fun ls hl => ?_)
                refine lv_goto (tgt := 17) hx hb dX2_leastByAllWays_82 (by decide) ?_
                exact ih_2 ((ww + 1), le, sq_11, cq_12) ⟨(show 0 ≤ (ww + 1) ∧ (ww + 1) ≤ 2048 ∧ -1 ≤ le ∧ le ≤ 1000000000000 ∧ ((n = 0 → le = 0) ∧ (12 < n → le = -1)) ∧ (1 ≤ n → n ≤ 12 → (ww + 1) ≤ bShl 1 (n - 1)) from (by omega)), (show 1 ≤ n ∧ n ≤ 12 → le = lbF (fun w9 => DM fg fw fo n wd nw dp w9) (Int.toNat (ww + 1)) from (fun q9 => by rw [lbF_s (by omega)]; have h9 := hle q9; rw [← h9]; (repeat' split) <;> omega))⟩ (by first | omega | (dsimp only; omega)) _ _ _ (lv_sub hl [0, 2, 3] rfl) (bd_to rfl B)
            · refine lv_seti (y := iI 0) (congrArg iI (show cmpZ le (-1) = 0 from (if_neg (by omega)).trans (if_pos zc_18))) ?_
              refine lv_if_eq (tgt := 76) hx hb dX2_leastByAllWays_66 (by decide) (fun _ => ?_) (fun c9 => absurd (by decide) c9)
              refine lv_lload hx hb dX2_leastByAllWays_76 (lv_at hl 0 rfl) ?_
              refine lv_lstore_n (lv' := [(1, .long (lI (DM fg fw fo n wd nw dp ww))), (4, .long (lI (DM fg fw fo n wd nw dp ww))), (3, .int (iI ww)), (0, .ref ln)]) hx hb dX2_leastByAllWays_78 rfl hl (by decide) rfl (fun ls hl => ?_)
              refine lv_iinc (v := iI (ww + 1)) (lv' := [(3, .int (iI (ww + 1))), (1, .long (lI (DM fg fw fo n wd nw dp ww))), (4, .long (lI (DM fg fw fo n wd nw dp ww))), (0, .ref ln)]) hx hb dX2_leastByAllWays_79 hl (k := 2) rfl (iI_add _ _) (by decide) rfl (fun ls hl => ?_)
              refine lv_goto (tgt := 17) hx hb dX2_leastByAllWays_82 (by decide) ?_
              exact ih_2 ((ww + 1), (DM fg fw fo n wd nw dp ww), sq_11, cq_12) ⟨(show 0 ≤ (ww + 1) ∧ (ww + 1) ≤ 2048 ∧ -1 ≤ (DM fg fw fo n wd nw dp ww) ∧ (DM fg fw fo n wd nw dp ww) ≤ 1000000000000 ∧ ((n = 0 → (DM fg fw fo n wd nw dp ww) = 0) ∧ (12 < n → (DM fg fw fo n wd nw dp ww) = -1)) ∧ (1 ≤ n → n ≤ 12 → (ww + 1) ≤ bShl 1 (n - 1)) from (by omega)), (show 1 ≤ n ∧ n ≤ 12 → (DM fg fw fo n wd nw dp ww) = lbF (fun w9 => DM fg fw fo n wd nw dp w9) (Int.toNat (ww + 1)) from (fun q9 => by rw [lbF_s (by omega)]; have h9 := hle q9; rw [← h9]; (repeat' split) <;> omega))⟩ (by first | omega | (dsimp only; omega)) _ _ _ (lv_sub hl [0, 1, 3] rfl) (bd_to rfl B)
            · refine lv_seti (y := iI 1) (congrArg iI (show cmpZ le (-1) = 1 from (if_neg (by omega)).trans (if_neg (by omega)))) ?_
              refine lv_if_eq (tgt := 76) hx hb dX2_leastByAllWays_66 (by decide) (fun c9 => absurd c9 (by decide)) (fun _ => ?_)
              refine lv_lload hx hb dX2_leastByAllWays_69 (lv_at hl 0 rfl) ?_
              refine lv_lload_n hx hb dX2_leastByAllWays_71 rfl (lv_at hl 2 rfl) ?_
              refine y_lcmp B (a := (DM fg fw fo n wd nw dp ww)) (b := le) (by omega) (by omega) dX2_leastByAllWays_72 ?_
              rcases (show (DM fg fw fo n wd nw dp ww) < le ∨ (DM fg fw fo n wd nw dp ww) = le ∨ le < (DM fg fw fo n wd nw dp ww) by omega) with zc_20 | zc_20 | zc_20
              · refine lv_seti (y := iI (-1)) (congrArg iI (show cmpZ (DM fg fw fo n wd nw dp ww) le = (-1) from if_pos zc_20)) ?_
                refine lv_if_ge (tgt := 79) hx hb dX2_leastByAllWays_73 (by decide) (fun c9 => absurd c9 (by decide)) (fun _ => ?_)
                refine lv_lload hx hb dX2_leastByAllWays_76 (lv_at hl 0 rfl) ?_
                refine lv_lstore_n (lv' := [(1, .long (lI (DM fg fw fo n wd nw dp ww))), (4, .long (lI (DM fg fw fo n wd nw dp ww))), (3, .int (iI ww)), (0, .ref ln)]) hx hb dX2_leastByAllWays_78 rfl hl (by decide) rfl (fun ls hl => ?_)
                refine lv_iinc (v := iI (ww + 1)) (lv' := [(3, .int (iI (ww + 1))), (1, .long (lI (DM fg fw fo n wd nw dp ww))), (4, .long (lI (DM fg fw fo n wd nw dp ww))), (0, .ref ln)]) hx hb dX2_leastByAllWays_79 hl (k := 2) rfl (iI_add _ _) (by decide) rfl (fun ls hl => ?_)
                refine lv_goto (tgt := 17) hx hb dX2_leastByAllWays_82 (by decide) ?_
                exact ih_2 ((ww + 1), (DM fg fw fo n wd nw dp ww), sq_11, cq_12) ⟨(show 0 ≤ (ww + 1) ∧ (ww + 1) ≤ 2048 ∧ -1 ≤ (DM fg fw fo n wd nw dp ww) ∧ (DM fg fw fo n wd nw dp ww) ≤ 1000000000000 ∧ ((n = 0 → (DM fg fw fo n wd nw dp ww) = 0) ∧ (12 < n → (DM fg fw fo n wd nw dp ww) = -1)) ∧ (1 ≤ n → n ≤ 12 → (ww + 1) ≤ bShl 1 (n - 1)) from (by omega)), (show 1 ≤ n ∧ n ≤ 12 → (DM fg fw fo n wd nw dp ww) = lbF (fun w9 => DM fg fw fo n wd nw dp w9) (Int.toNat (ww + 1)) from (fun q9 => by rw [lbF_s (by omega)]; have h9 := hle q9; rw [← h9]; (repeat' split) <;> omega))⟩ (by first | omega | (dsimp only; omega)) _ _ _ (lv_sub hl [0, 1, 3] rfl) (bd_to rfl B)
              · refine lv_seti (y := iI 0) (congrArg iI (show cmpZ (DM fg fw fo n wd nw dp ww) le = 0 from (if_neg (by omega)).trans (if_pos zc_20))) ?_
                refine lv_if_ge (tgt := 79) hx hb dX2_leastByAllWays_73 (by decide) (fun _ => ?_) (fun c9 => absurd (by decide) c9)
                refine lv_iinc (v := iI (ww + 1)) (lv' := [(3, .int (iI (ww + 1))), (4, .long (lI (DM fg fw fo n wd nw dp ww))), (1, .long (lI le)), (0, .ref ln)]) hx hb dX2_leastByAllWays_79 hl (k := 1) rfl (iI_add _ _) (by decide) rfl (fun ls hl => ?_)
                refine lv_goto (tgt := 17) hx hb dX2_leastByAllWays_82 (by decide) ?_
                exact ih_2 ((ww + 1), le, sq_11, cq_12) ⟨(show 0 ≤ (ww + 1) ∧ (ww + 1) ≤ 2048 ∧ -1 ≤ le ∧ le ≤ 1000000000000 ∧ ((n = 0 → le = 0) ∧ (12 < n → le = -1)) ∧ (1 ≤ n → n ≤ 12 → (ww + 1) ≤ bShl 1 (n - 1)) from (by omega)), (show 1 ≤ n ∧ n ≤ 12 → le = lbF (fun w9 => DM fg fw fo n wd nw dp w9) (Int.toNat (ww + 1)) from (fun q9 => by rw [lbF_s (by omega)]; have h9 := hle q9; rw [← h9]; (repeat' split) <;> omega))⟩ (by first | omega | (dsimp only; omega)) _ _ _ (lv_sub hl [0, 2, 3] rfl) (bd_to rfl B)
              · refine lv_seti (y := iI 1) (congrArg iI (show cmpZ (DM fg fw fo n wd nw dp ww) le = 1 from (if_neg (by omega)).trans (if_neg (by omega)))) ?_
                refine lv_if_ge (tgt := 79) hx hb dX2_leastByAllWays_73 (by decide) (fun _ => ?_) (fun c9 => absurd (by decide) c9)
                refine lv_iinc (v := iI (ww + 1)) (lv' := [(3, .int (iI (ww + 1))), (4, .long (lI (DM fg fw fo n wd nw dp ww))), (1, .long (lI le)), (0, .ref ln)]) hx hb dX2_leastByAllWays_79 hl (k := 1) rfl (iI_add _ _) (by decide) rfl (fun ls hl => ?_)
                refine lv_goto (tgt := 17) hx hb dX2_leastByAllWays_82 (by decide) ?_
                exact ih_2 ((ww + 1), le, sq_11, cq_12) ⟨(show 0 ≤ (ww + 1) ∧ (ww + 1) ≤ 2048 ∧ -1 ≤ le ∧ le ≤ 1000000000000 ∧ ((n = 0 → le = 0) ∧ (12 < n → le = -1)) ∧ (1 ≤ n → n ≤ 12 → (ww + 1) ≤ bShl 1 (n - 1)) from (by omega)), (show 1 ≤ n ∧ n ≤ 12 → le = lbF (fun w9 => DM fg fw fo n wd nw dp w9) (Int.toNat (ww + 1)) from (fun q9 => by rw [lbF_s (by omega)]; have h9 := hle q9; rw [← h9]; (repeat' split) <;> omega))⟩ (by first | omega | (dsimp only; omega)) _ _ _ (lv_sub hl [0, 2, 3] rfl) (bd_to rfl B)
  refine lv_aload_n hx hb dX2_leastByAllWays_0 rfl (lv_at hl 0 rfl) ?_
  refine x_get (ci := 2) (C := RX2) (T := TX2) (N := 13) (v := .int (iI n)) B 0 rfl rfl in_X2 0 (by decide) mw_126 (fun _ h9 => h9) rfl dX2_leastByAllWays_1 ?_
  refine lv_if_ne (tgt := 11) hx hb dX2_leastByAllWays_4 (by decide) (fun c_21 => ?_) (fun c_21 => ?_)
  · have zc_21 : n ≠ 0 := jne (a := n) (b := 0) (by omega) (by omega) c_21
    refine lv_ldc2 (v := (-1)) hx hb B.1.2.2.2.1 (B.1.2.2.2.2.1 _ mw_1449) dX2_leastByAllWays_11 ?_
    refine lv_setl (y := lI (-1)) (by decide) ?_
    exact J_1 (-1) (show (n = 0 → (-1) = 0) ∧ (n ≠ 0 → (-1) = -1) from (by omega)) _ _ _ (lv_sub hl [0] rfl) (bd_to rfl B)
  · have zc_21 : n = 0 := jeq (a := n) (b := 0) (by omega) (by omega) c_21
    refine lv_lconst (v := lI 0) hx hb dX2_leastByAllWays_7 (by decide) ?_
    refine lv_goto (tgt := 14) hx hb dX2_leastByAllWays_8 (by decide) ?_
    exact J_1 0 (show (n = 0 → 0 = 0) ∧ (n ≠ 0 → 0 = -1) from (by omega)) _ _ _ (lv_sub hl [0] rfl) (bd_to rfl B)

end
