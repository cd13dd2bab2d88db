section
set_option maxHeartbeats 4000000 in
set_option maxRecDepth 100000 in
theorem k_mark2 (l : Launch) (dC : Nat → ClassId) (dI : Nat → Nat → Nat) (k : Nat → ClassId) (hl0 : l.stackTraces = false) (T : Nat → Int → Int → Int → Int) (A : Nat → Int → Int → Nat) (X : Nat → Int → Int → Int) (tl : va_W) (G : Nat → Int → Nat) (Mc : Nat → Int → Int) (Y : Nat → Int → Nat) (O : Nat → Nat) (L : Int → Nat → Int → Int) (C : Nat → Int → Int) (K : Nat → Int → Int) (cp : Nat) (wt : Int) (va : Int) (hPR : PR dI k T A X G Mc Y O L C K cp tl) (hK : TK T) (hKK : KK T K) (hrwt : -2147483648 ≤ wt ∧ wt < 2147483648) (hrva : -2147483648 ≤ va ∧ va < 2147483648) : Kx l dC dI k yX11_mark (.code yX11_mark cX11_mark 4 (some .int)) ({ frames := 6, cells := 1, slots := 6, locals := 82 } : Room) [.ref (Y 0 0), .int (iI wt), .int (iI va)] ([] ++ tl) (fun r w gc gs => (∃ (tl2 : va_W), (PR dI k T A X G Mc Y O L C (KKn (K 0 0) (K 1) (uz (K 2) wt va)) cp tl2) ∧ ((0 ≤ wt ∧ wt ≤ 4) ∧ (va = -1 ∨ (lmZ wt ≤ va ∧ va ≤ mmZ T wt))) ∧ r = some (.int (iI (K 2 wt))) ∧ w = ([] ++ tl2) ∧ gc = 1 ∧ gs = 6)) (fun E w gc gs => ((¬ (0 ≤ wt ∧ wt ≤ 4)) ∧ E = "java/lang/IndexOutOfBoundsException" ∧ w = ([] ++ tl) ∧ gc = 1 ∧ gs = 6) ∨ (((0 ≤ wt ∧ wt ≤ 4) ∧ ¬ (va = -1 ∨ (lmZ wt ≤ va ∧ va ≤ mmZ T wt))) ∧ E = "java/lang/IllegalArgumentException" ∧ w = ([] ++ tl) ∧ gc = 1 ∧ gs = 6)) := by
  refine kx_of (by decide) (Nat.le_of_ble_eq_true rfl) ?_
  intro p e s m args below meth c H locs B hr hex ls hl
  have hx := B.1.1
  have hb := B.1.2.1
  have hl : lv_has ls 4 [(0, .ref (Y 0 0)), (1, .int (iI wt)), (2, .int (iI va))] := hl
  have hT := PR_TI hPR
  have hnb0 := TK_nb hK
  have hcp0 : 512 ≤ cp ∧ cp ≤ 131072 := by have q9 := hPR.2.2.2; unfold cpOk at q9; omega
  refine lv_iload_n hx hb dX11_mark_0 rfl (lv_at hl 1 rfl) ?_
  refine lv_if_lt (tgt := 9) hx hb dX11_mark_1 (by decide) (fun c_1 => ?_) (fun c_1 => ?_)
  · have zc_1 : wt < 0 := jlt (a := wt) (b := 0) (by omega) (by omega) c_1
    exact k_thrG (tx := "no such thing to draft") xE_ioobe (Or.inl (⟨(by omega), rfl, rfl, rfl, rfl⟩)) ⟨Nat.le_of_ble_eq_true rfl, Nat.le_of_ble_eq_true rfl⟩ hl0 B hex hl (by decide +kernel) dX11_mark_9 dX11_mark_12 dX11_mark_13 dX11_mark_15 dX11_mark_18 ⟨Nat.le_of_ble_eq_true rfl, Nat.le_of_ble_eq_true rfl, Nat.le_of_ble_eq_true rfl, Nat.le_of_ble_eq_true rfl⟩ ⟨Nat.le_of_ble_eq_true rfl, Nat.le_of_ble_eq_true rfl⟩
  · have zc_1 : 0 ≤ wt := jnlt (a := wt) (b := 0) (by omega) (by omega) c_1
    refine lv_iload_n hx hb dX11_mark_4 rfl (lv_at hl 1 rfl) ?_
    refine lv_iconst (v := iI 4) hx hb dX11_mark_5 (by decide) ?_
    refine lv_icmp_le (tgt := 19) hx hb dX11_mark_6 (by decide) (fun c_2 => ?_) (fun c_2 => ?_)
    · have zc_2 : wt ≤ 4 := jle (a := wt) (b := 4) (by omega) (by omega) c_2
      refine lv_iload_n hx hb dX11_mark_19 rfl (lv_at hl 2 rfl) ?_
      refine lv_iconst (v := iI (-1)) hx hb dX11_mark_20 (by decide) ?_
      refine lv_icmp_eq (tgt := 51) hx hb dX11_mark_21 (by decide) (fun c_3 => ?_) (fun c_3 => ?_)
      · have zc_3 : va = (-1) := jeq (a := va) (b := (-1)) (by omega) (by omega) c_3
        refine lv_aload_n hx hb dX11_mark_51 rfl (lv_at hl 0 rfl) ?_
        obtain ⟨k_4, hk_4⟩ := pk_at (hs := []) (show (((Y 0 0), .inr (11, [.ref (A 50 0 0), .ref (Y 1 0), .ref (Y 2 0), .int (iI (K 0 0)), .ref (Y 3 0)])) : Nat × va_E) ∈ tl from PR_m hPR 0 0 rfl rfl)
        refine x_get (ci := 11) (C := RX11) (T := TX11) (N := 5) (v := .ref (Y 3 0)) B k_4 hk_4 rfl in_X11 4 (by decide) mw_478 (fun _ h9 => h9) rfl dX11_mark_52 ?_
        refine lv_iload_n hx hb dX11_mark_55 rfl (lv_at hl 1 rfl) ?_
        obtain ⟨k_5, hk_5⟩ := pk_at (hs := []) (show (((Y 3 0), .inl (k 0, 5, .inl (fun i9 : Nat => iI ((K 2) i9)))) : Nat × va_E) ∈ tl from PR_m hPR 0 3 rfl rfl)
        refine x_iald' (f := (K 2)) (z := wt) B k_5 hk_5 (by omega) dX11_mark_56 ?_
        refine lv_istore_n (lv' := [(3, .int (iI ((K 2) wt))), (0, .ref (Y 0 0)), (1, .int (iI wt)), (2, .int (iI va))]) hx hb dX11_mark_57 rfl hl (by decide) rfl (fun ls hl => ?_)
        refine lv_aload_n hx hb dX11_mark_58 rfl (lv_at hl 1 rfl) ?_
        obtain ⟨k_6, hk_6⟩ := pk_at (hs := []) (show (((Y 0 0), .inr (11, [.ref (A 50 0 0), .ref (Y 1 0), .ref (Y 2 0), .int (iI (K 0 0)), .ref (Y 3 0)])) : Nat × va_E) ∈ tl from PR_m hPR 0 0 rfl rfl)
        refine x_get (ci := 11) (C := RX11) (T := TX11) (N := 5) (v := .ref (Y 3 0)) B k_6 hk_6 rfl in_X11 4 (by decide) mw_478 (fun _ h9 => h9) rfl dX11_mark_59 ?_
        refine lv_iload_n hx hb dX11_mark_62 rfl (lv_at hl 2 rfl) ?_
        refine lv_iload_n hx hb dX11_mark_63 rfl (lv_at hl 3 rfl) ?_
        obtain ⟨tr_7, htr_7, btr_7⟩ := PR_gout hPR
        have B := bd_perm (List.Perm.append_left [] htr_7) B
        have B := bd_to (ws' := ([((Y 0 0), .inr (11, [.ref (A 50 0 0), .ref (Y 1 0), .ref (Y 2 0), .int (iI (K 0 0)), .ref (Y 3 0)])), ((Y 1 0), .inl (k 3, 2, .inr (.inr (.inr (.inr (fun i9 : Nat => (fun j9 : Int => some (Y 4 j9)) i9)))))), ((Y 2 0), .inl (k 0, 6, .inl (fun i9 : Nat => iI ((K 1) i9)))), ((Y 3 0), .inl (k 0, 5, .inl (fun i9 : Nat => iI ((K 2) i9))))] ++ tr_7)) rfl B
        refine x_iast' (f := (K 2)) (z := wt) (v := va) B 3 rfl (by omega) dX11_mark_64 (fun H locs B => ?_)
        have B := bd_to (ws' := ([((Y 0 0), .inr (11, [.ref (A 50 0 0), .ref (Y 1 0), .ref (Y 2 0), .int (iI (K 0 0)), .ref (Y 3 0)])), ((Y 1 0), .inl (k 3, 2, .inr (.inr (.inr (.inr (fun i9 : Nat => (fun j9 : Int => some (Y 4 j9)) i9)))))), ((Y 2 0), .inl (k 0, 6, .inl (fun i9 : Nat => iI ((K 1) i9)))), ((Y 3 0), .inl (k 0, 5, .inl (fun i9 : Nat => iI ((uz (K 2) wt va) i9))))] ++ tr_7)) rfl B
        refine lv_iload_n hx hb dX11_mark_65 rfl (lv_at hl 0 rfl) ?_
        have B := bd_to (ws' := ([] ++ (gCl k A Y (KKn (K 0 0) (K 1) (uz (K 2) wt va)) ++ tr_7))) rfl B
        have hPR : PR dI k T A X G Mc Y O L C (KKn (K 0 0) (K 1) (uz (K 2) wt va)) cp (gCl k A Y (KKn (K 0 0) (K 1) (uz (K 2) wt va)) ++ tr_7) := btr_7 (KKn (K 0 0) (K 1) (uz (K 2) wt va))
        have hT := PR_TI hPR
        have e_8 : (K 2 wt) = ((K 2) wt) := (by first | rfl | omega)
        skip
        exact vx_ret (k_iret B hr (⟨(gCl k A Y (KKn (K 0 0) (K 1) (uz (K 2) wt va)) ++ tr_7), hPR, (by omega), (by rw [e_8]), rfl, rfl, rfl⟩) ⟨Nat.le_of_ble_eq_true rfl, Nat.le_of_ble_eq_true rfl⟩ ⟨Nat.le_of_ble_eq_true rfl, Nat.le_of_ble_eq_true rfl⟩ dX11_mark_66)
      · have zc_3 : va ≠ (-1) := jne (a := va) (b := (-1)) (by omega) (by omega) c_3
        refine lv_iload_n hx hb dX11_mark_24 rfl (lv_at hl 2 rfl) ?_
        refine lv_iload_n hx hb dX11_mark_25 rfl (lv_at hl 1 rfl) ?_
        have B := bd_to (ws' := [] ++ ([] ++ tl)) rfl B
        refine k_S (rest := [.int (iI va)]) (wc := []) (wr := ([] ++ tl)) (k_leastMark l dC dI k wt (by omega)) B mS_X11_leastMark mw_604 hl ⟨Nat.le_of_ble_eq_true rfl, Nat.le_of_ble_eq_true rfl⟩ (Nat.le_of_ble_eq_true rfl) rfl dX11_mark_26 ⟨Nat.le_of_ble_eq_true rfl, Nat.le_of_ble_eq_true rfl⟩ (fun r w gc gs H locs hp B => ?_)
        obtain ⟨z_9, rfl, hw9, rfl, rfl⟩ := hp
        rw [hw9] at B; clear hw9
        have B := bd_swap (a := []) (b := tl) (d := []) B
        have B := bd_to (ws' := ([] ++ tl)) rfl B
        refine lv_icmp_lt (tgt := 41) hx hb dX11_mark_29 (by decide) (fun c_10 => ?_) (fun c_10 => ?_)
        · have zc_10 : va < (lmZ wt) := jlt (a := va) (b := (lmZ wt)) (by omega) (by omega) c_10
          exact k_thrG (tx := "not a value for this") xE_iae (Or.inr (⟨(by omega), rfl, rfl, rfl, rfl⟩)) ⟨Nat.le_of_ble_eq_true rfl, Nat.le_of_ble_eq_true rfl⟩ hl0 B hex hl (by decide +kernel) dX11_mark_41 dX11_mark_44 dX11_mark_45 dX11_mark_47 dX11_mark_50 ⟨Nat.le_of_ble_eq_true rfl, Nat.le_of_ble_eq_true rfl, Nat.le_of_ble_eq_true rfl, Nat.le_of_ble_eq_true rfl⟩ ⟨Nat.le_of_ble_eq_true rfl, Nat.le_of_ble_eq_true rfl⟩
        · have zc_10 : (lmZ wt) ≤ va := jnlt (a := va) (b := (lmZ wt)) (by omega) (by omega) c_10
          refine lv_iload_n hx hb dX11_mark_32 rfl (lv_at hl 2 rfl) ?_
          refine lv_aload_n hx hb dX11_mark_33 rfl (lv_at hl 0 rfl) ?_
          refine lv_iload_n hx hb dX11_mark_34 rfl (lv_at hl 1 rfl) ?_
          have B := bd_swap (a := []) (b := []) (d := tl) (bd_to rfl B)
          obtain ⟨k_11, hk_11⟩ := pk_at (hs := []) (show (((Y 0 0), .inr (11, [.ref (A 50 0 0), .ref (Y 1 0), .ref (Y 2 0), .int (iI (K 0 0)), .ref (Y 3 0)])) : Nat × va_E) ∈ tl from PR_m hPR 0 0 rfl rfl)
          refine k_V (rest := [.int (iI va)]) (wc := ([] ++ tl)) (wr := []) (k_mostMark l dC dI k T A X tl G Mc Y O L C K cp wt hPR hK (by omega)) B mV_X11_mostMark mw_607 hl (q0 := k_11) (ci := 11) hk_11 rfl rfl ⟨Nat.le_of_ble_eq_true rfl, Nat.le_of_ble_eq_true rfl⟩ (Nat.le_of_ble_eq_true rfl) rfl dX11_mark_35 ⟨Nat.le_of_ble_eq_true rfl, Nat.le_of_ble_eq_true rfl⟩ (fun r w gc gs H locs hp B => ?_)
          obtain ⟨z_12, rfl, hw9, rfl, rfl⟩ := hp
          rw [hw9] at B; clear hw9
          have B := bd_to (ws' := ([] ++ tl)) rfl B
          refine lv_icmp_le (tgt := 51) hx hb dX11_mark_38 (by decide) (fun c_13 => ?_) (fun c_13 => ?_)
          · have zc_13 : va ≤ (mmZ T wt) := jle (a := va) (b := (mmZ T wt)) (by omega) (by omega) c_13
            refine lv_aload_n hx hb dX11_mark_51 rfl (lv_at hl 0 rfl) ?_
            obtain ⟨k_14, hk_14⟩ := pk_at (hs := []) (show (((Y 0 0), .inr (11, [.ref (A 50 0 0), .ref (Y 1 0), .ref (Y 2 0), .int (iI (K 0 0)), .ref (Y 3 0)])) : Nat × va_E) ∈ tl from PR_m hPR 0 0 rfl rfl)
            refine x_get (ci := 11) (C := RX11) (T := TX11) (N := 5) (v := .ref (Y 3 0)) B k_14 hk_14 rfl in_X11 4 (by decide) mw_478 (fun _ h9 => h9) rfl dX11_mark_52 ?_
            refine lv_iload_n hx hb dX11_mark_55 rfl (lv_at hl 1 rfl) ?_
            obtain ⟨k_15, hk_15⟩ := pk_at (hs := []) (show (((Y 3 0), .inl (k 0, 5, .inl (fun i9 : Nat => iI ((K 2) i9)))) : Nat × va_E) ∈ tl from PR_m hPR 0 3 rfl rfl)
            refine x_iald' (f := (K 2)) (z := wt) B k_15 hk_15 (by omega) dX11_mark_56 ?_
            refine lv_istore_n (lv' := [(3, .int (iI ((K 2) wt))), (0, .ref (Y 0 0)), (1, .int (iI wt)), (2, .int (iI va))]) hx hb dX11_mark_57 rfl hl (by decide) rfl (fun ls hl => ?_)
            refine lv_aload_n hx hb dX11_mark_58 rfl (lv_at hl 1 rfl) ?_
            obtain ⟨k_16, hk_16⟩ := pk_at (hs := []) (show (((Y 0 0), .inr (11, [.ref (A 50 0 0), .ref (Y 1 0), .ref (Y 2 0), .int (iI (K 0 0)), .ref (Y 3 0)])) : Nat × va_E) ∈ tl from PR_m hPR 0 0 rfl rfl)
            refine x_get (ci := 11) (C := RX11) (T := TX11) (N := 5) (v := .ref (Y 3 0)) B k_16 hk_16 rfl in_X11 4 (by decide) mw_478 (fun _ h9 => h9) rfl dX11_mark_59 ?_
            refine lv_iload_n hx hb dX11_mark_62 rfl (lv_at hl 2 rfl) ?_
            refine lv_iload_n hx hb dX11_mark_63 rfl (lv_at hl 3 rfl) ?_
            obtain ⟨tr_17, htr_17, btr_17⟩ := PR_gout hPR
            have B := bd_perm (List.Perm.append_left [] htr_17) B
            have B := bd_to (ws' := ([((Y 0 0), .inr (11, [.ref (A 50 0 0), .ref (Y 1 0), .ref (Y 2 0), .int (iI (K 0 0)), .ref (Y 3 0)])), ((Y 1 0), .inl (k 3, 2, .inr (.inr (.inr (.inr (fun i9 : Nat => (fun j9 : Int => some (Y 4 j9)) i9)))))), ((Y 2 0), .inl (k 0, 6, .inl (fun i9 : Nat => iI ((K 1) i9)))), ((Y 3 0), .inl (k 0, 5, .inl (fun i9 : Nat => iI ((K 2) i9))))] ++ tr_17)) rfl B
            refine x_iast' (f := (K 2)) (z := wt) (v := va) B 3 rfl (by omega) dX11_mark_64 (fun H locs B => ?_)
            have B := bd_to (ws' := ([((Y 0 0), .inr (11, [.ref (A 50 0 0), .ref (Y 1 0), .ref (Y 2 0), .int (iI (K 0 0)), .ref (Y 3 0)])), ((Y 1 0), .inl (k 3, 2, .inr (.inr (.inr (.inr (fun i9 : Nat => (fun j9 : Int => some (Y 4 j9)) i9)))))), ((Y 2 0), .inl (k 0, 6, .inl (fun i9 : Nat => iI ((K 1) i9)))), ((Y 3 0), .inl (k 0, 5, .inl (fun i9 : Nat => iI ((uz (K 2) wt va) i9))))] ++ tr_17)) rfl B
            refine lv_iload_n hx hb dX11_mark_65 rfl (lv_at hl 0 rfl) ?_
            have B := bd_to (ws' := ([] ++ (gCl k A Y (KKn (K 0 0) (K 1) (uz (K 2) wt va)) ++ tr_17))) rfl B
            have hPR : PR dI k T A X G Mc Y O L C (KKn (K 0 0) (K 1) (uz (K 2) wt va)) cp (gCl k A Y (KKn (K 0 0) (K 1) (uz (K 2) wt va)) ++ tr_17) := btr_17 (KKn (K 0 0) (K 1) (uz (K 2) wt va))
            have hT := PR_TI hPR
            have e_18 : (K 2 wt) = ((K 2) wt) := (by first | rfl | omega)
            skip
            exact vx_ret (k_iret B hr (⟨(gCl k A Y (KKn (K 0 0) (K 1) (uz (K 2) wt va)) ++ tr_17), hPR, (by omega), (by rw [e_18]), rfl, rfl, rfl⟩) ⟨Nat.le_of_ble_eq_true rfl, Nat.le_of_ble_eq_true rfl⟩ ⟨Nat.le_of_ble_eq_true rfl, Nat.le_of_ble_eq_true rfl⟩ dX11_mark_66)
          · have zc_13 : (mmZ T wt) < va := jnle (a := va) (b := (mmZ T wt)) (by omega) (by omega) c_13
            exact k_thrG (tx := "not a value for this") xE_iae (Or.inr (⟨(by omega), rfl, rfl, rfl, rfl⟩)) ⟨Nat.le_of_ble_eq_true rfl, Nat.le_of_ble_eq_true rfl⟩ hl0 B hex hl (by decide +kernel) dX11_mark_41 dX11_mark_44 dX11_mark_45 dX11_mark_47 dX11_mark_50 ⟨Nat.le_of_ble_eq_true rfl, Nat.le_of_ble_eq_true rfl, Nat.le_of_ble_eq_true rfl, Nat.le_of_ble_eq_true rfl⟩ ⟨Nat.le_of_ble_eq_true rfl, Nat.le_of_ble_eq_true rfl⟩
    · have zc_2 : 4 < wt := jnle (a := wt) (b := 4) (by omega) (by omega) c_2
      exact k_thrG (tx := "no such thing to draft") xE_ioobe (Or.inl (⟨(by omega), rfl, rfl, rfl, rfl⟩)) ⟨Nat.le_of_ble_eq_true rfl, Nat.le_of_ble_eq_true rfl⟩ hl0 B hex hl (by decide +kernel) dX11_mark_9 dX11_mark_12 dX11_mark_13 dX11_mark_15 dX11_mark_18 ⟨Nat.le_of_ble_eq_true rfl, Nat.le_of_ble_eq_true rfl, Nat.le_of_ble_eq_true rfl, Nat.le_of_ble_eq_true rfl⟩ ⟨Nat.le_of_ble_eq_true rfl, Nat.le_of_ble_eq_true rfl⟩

/-- a press -/
def PS (dI : Nat → Nat → Nat) (k : Nat → ClassId) (T : Nat → Int → Int → Int → Int) (K : Nat → Int → Int) (q : Nat) (cp : Nat) (tl : va_W) : Prop := ∃ (A : Nat → Int → Int → Nat) (X : Nat → Int → Int → Int) (G : Nat → Int → Nat) (Mc : Nat → Int → Int) (Y : Nat → Int → Nat) (O : Nat → Nat) (L : Int → Nat → Int → Int) (C : Nat → Int → Int), PR dI k T A X G Mc Y O L C K cp tl ∧ Y 0 0 = q ∧ ∀ u, 0 ≤ u → u ≤ 1 → LSq T u (L u)
/-- what holds of a press's text, and of what is spelled and drafted -/
def OKT (T : Nat → Int → Int → Int → Int) (K : Nat → Int → Int) : Prop := TK T ∧ KK T K ∧ (∀ j : Int, j < 0 ∨ 5 < j → K 1 j = 0) ∧ FINE T
theorem LSq_ky {T : Nat → Int → Int → Int → Int} {f : Int → Int → Int → Int} {v : Int} {Lv : Nat → Int → Int} (h : LSq T v Lv) : LSq (up1 T 15 f) v Lv := by rw [k15_LSq]; exact h

theorem PS_go {dI : Nat → Nat → Nat} {k : Nat → ClassId} {T : Nat → Int → Int → Int → Int} {K : Nat → Int → Int} {qa cp : Nat} {tl : va_W} (h : PS dI k T K qa cp tl) : ∃ fs : List Value, ((qa, .inr (11, fs)) : Nat × va_E) ∈ tl := by
  obtain ⟨A, X, G, Mc, Y, O, L, C, hPR, rfl, -⟩ := h
  exact ⟨_, PR_m hPR 0 0 rfl rfl⟩
theorem PS_cp {dI : Nat → Nat → Nat} {k : Nat → ClassId} {T : Nat → Int → Int → Int → Int} {K : Nat → Int → Int} {qa cp : Nat} {tl : va_W} (h : PS dI k T K qa cp tl) : 512 ≤ cp ∧ cp ≤ 131072 := by
  obtain ⟨A, X, G, Mc, Y, O, L, C, hPR, -, -⟩ := h
  have q9 := hPR.2.2.2
  unfold cpOk at q9
  omega

theorem a_blocks (l : Launch) (dC : Nat → ClassId) (dI : Nat → Nat → Nat) (k : Nat → ClassId) (T : Nat → Int → Int → Int → Int) (K : Nat → Int → Int) (qa : Nat) (cp : Nat) (tl : va_W) (hPS : PS dI k T K qa cp tl) (hQ : OKT T K) : Kn l dC dI k yX11_blocks (.code yX11_blocks cX11_blocks 1 (some .int)) ({ frames := 1, cells := (131072 - cp + 1), slots := (12 * (131072 - cp) + 6), locals := 20 } : Room) [.ref qa] ([] ++ tl) (fun r w gc gs => (∃ (cp2 : Nat) (tl2 : va_W), (PS dI k T K qa cp2 tl2) ∧ (cp ≤ cp2 ∧ cp2 ≤ 131072) ∧ r = some (.int (iI (T 0 0 0 0))) ∧ w = ([] ++ tl2) ∧ gc = (cp2 - cp) ∧ gs = (12 * (cp2 - cp)))) := by
  obtain ⟨A, X, G, Mc, Y, O, L, C, hPR, rfl, hL⟩ := hPS
  have K0 := k_blocks l dC dI k T A X tl G Mc Y O L C K cp hPR hQ.1 hL hQ.2.2.2
  refine kn_post K0 ?_
  · rintro r w gc gs ⟨O2, L2, C2, X2, cp2, tl2, q0, q1, q2, hr, hw, hgc, hgs⟩
    exact ⟨w, List.Perm.refl _, cp2, tl2, ⟨A, X2, G, Mc, Y, O2, L2, C2, q0, rfl, q1⟩, q2, hr, hw, hgc, hgs⟩


theorem a_words (l : Launch) (dC : Nat → ClassId) (dI : Nat → Nat → Nat) (k : Nat → ClassId) (hl0 : l.stackTraces = false) (T : Nat → Int → Int → Int → Int) (K : Nat → Int → Int) (qa : Nat) (cp : Nat) (tl : va_W) (pl : Int) (hPS : PS dI k T K qa cp tl) (hQ : OKT T K) (hrpl : -2147483648 ≤ pl ∧ pl < 2147483648) : Kx l dC dI k yX11_words (.code yX11_words cX11_words 2 (some .int)) ({ frames := 8, cells := (131072 - cp + 1), slots := (12 * (131072 - cp) + 6), locals := 124 } : Room) [.ref qa, .int (iI pl)] ([] ++ tl) (fun r w gc gs => (∃ (cp2 : Nat) (tl2 : va_W), (PS dI k T K qa cp2 tl2) ∧ (cp ≤ cp2 ∧ cp2 ≤ 131072) ∧ (0 ≤ pl ∧ pl < T 0 0 0 0) ∧ r = some (.int (iI (T 3 pl 0 0))) ∧ w = ([] ++ tl2) ∧ gc = (cp2 - cp) ∧ gs = (12 * (cp2 - cp)))) (fun E w gc gs => (∃ (cp2 : Nat) (tl2 : va_W), (PS dI k T K qa cp2 tl2) ∧ (cp ≤ cp2 ∧ cp2 ≤ 131072) ∧ (¬ (0 ≤ pl ∧ pl < T 0 0 0 0)) ∧ E = "java/lang/IndexOutOfBoundsException" ∧ w = ([] ++ tl2) ∧ gc = (cp2 - cp + 1) ∧ gs = (12 * (cp2 - cp) + 6))) := by
  obtain ⟨A, X, G, Mc, Y, O, L, C, hPR, rfl, hL⟩ := hPS
  have K0 := k_words l dC dI k hl0 T A X tl G Mc Y O L C K cp pl hPR hQ.1 hL hQ.2.2.2 hrpl
  refine kx_post K0 ?_ ?_
  · rintro r w gc gs ⟨O2, L2, C2, X2, cp2, tl2, q0, q1, q2, z0, hr, hw, hgc, hgs⟩
    exact ⟨w, List.Perm.refl _, cp2, tl2, ⟨A, X2, G, Mc, Y, O2, L2, C2, q0, rfl, q1⟩, q2, z0, hr, hw, hgc, hgs⟩
  · rintro E w gc gs ⟨O2, L2, C2, X2, cp2, tl2, q0, q1, q2, z0, hr, hw, hgc, hgs⟩
    exact ⟨w, List.Perm.refl _, cp2, tl2, ⟨A, X2, G, Mc, Y, O2, L2, C2, q0, rfl, q1⟩, q2, z0, hr, hw, hgc, hgs⟩


theorem a_gaps (l : Launch) (dC : Nat → ClassId) (dI : Nat → Nat → Nat) (k : Nat → ClassId) (hl0 : l.stackTraces = false) (T : Nat → Int → Int → Int → Int) (K : Nat → Int → Int) (qa : Nat) (cp : Nat) (tl : va_W) (pl : Int) (at_ : Int) (hPS : PS dI k T K qa cp tl) (hQ : OKT T K) (hrpl : -2147483648 ≤ pl ∧ pl < 2147483648) (hrat_ : -2147483648 ≤ at_ ∧ at_ < 2147483648) : Kx l dC dI k yX11_gaps (.code yX11_gaps cX11_gaps 4 (some .int)) ({ frames := 8, cells := (131072 - cp + 1), slots := (12 * (131072 - cp) + 6), locals := 124 } : Room) [.ref qa, .int (iI pl), .int (iI at_)] ([] ++ tl) (fun r w gc gs => (∃ (cp2 : Nat) (tl2 : va_W), (PS dI k T K qa cp2 tl2) ∧ (cp ≤ cp2 ∧ cp2 ≤ 131072) ∧ ((0 ≤ pl ∧ pl < T 0 0 0 0) ∧ 0 ≤ at_ ∧ at_ < T 3 pl 0 0) ∧ r = some (.int (iI (T 8 pl at_ 0))) ∧ w = ([] ++ tl2) ∧ gc = (cp2 - cp) ∧ gs = (12 * (cp2 - cp)))) (fun E w gc gs => (∃ (cp2 : Nat) (tl2 : va_W), (PS dI k T K qa cp2 tl2) ∧ (cp ≤ cp2 ∧ cp2 ≤ 131072) ∧ (¬ ((0 ≤ pl ∧ pl < T 0 0 0 0) ∧ 0 ≤ at_ ∧ at_ < T 3 pl 0 0)) ∧ E = "java/lang/IndexOutOfBoundsException" ∧ w = ([] ++ tl2) ∧ gc = (cp2 - cp + 1) ∧ gs = (12 * (cp2 - cp) + 6))) := by
  obtain ⟨A, X, G, Mc, Y, O, L, C, hPR, rfl, hL⟩ := hPS
  have K0 := k_gaps l dC dI k hl0 T A X tl G Mc Y O L C K cp pl at_ hPR hQ.1 hL hQ.2.2.2 hrpl hrat_
  refine kx_post K0 ?_ ?_
  · rintro r w gc gs ⟨O2, L2, C2, X2, cp2, tl2, q0, q1, q2, z0, hr, hw, hgc, hgs⟩
    exact ⟨w, List.Perm.refl _, cp2, tl2, ⟨A, X2, G, Mc, Y, O2, L2, C2, q0, rfl, q1⟩, q2, z0, hr, hw, hgc, hgs⟩
  · rintro E w gc gs ⟨O2, L2, C2, X2, cp2, tl2, q0, q1, q2, z0, hr, hw, hgc, hgs⟩
    exact ⟨w, List.Perm.refl _, cp2, tl2, ⟨A, X2, G, Mc, Y, O2, L2, C2, q0, rfl, q1⟩, q2, z0, hr, hw, hgc, hgs⟩


theorem a_lines (l : Launch) (dC : Nat → ClassId) (dI : Nat → Nat → Nat) (k : Nat → ClassId) (hl0 : l.stackTraces = false) (T : Nat → Int → Int → Int → Int) (K : Nat → Int → Int) (qa : Nat) (cp : Nat) (tl : va_W) (v : Int) (pl : Int) (hPS : PS dI k T K qa cp tl) (hQ : OKT T K) (hrv : -2147483648 ≤ v ∧ v < 2147483648) (hrpl : -2147483648 ≤ pl ∧ pl < 2147483648) : Kx l dC dI k yX11_lines (.code yX11_lines cX11_lines 3 (some .int)) ({ frames := 9, cells := (131072 - cp + 1), slots := (12 * (131072 - cp) + 6), locals := 205 } : Room) [.ref qa, .int (iI v), .int (iI pl)] ([] ++ tl) (fun r w gc gs => (∃ (cp2 : Nat) (tl2 : va_W), (PS dI k T K qa cp2 tl2) ∧ (cp ≤ cp2 ∧ cp2 ≤ 131072) ∧ ((0 ≤ v ∧ v ≤ 1) ∧ 0 ≤ pl ∧ pl < T 0 0 0 0) ∧ r = some (.int (iI (LCz T v (dgN T v) pl))) ∧ w = ([] ++ tl2) ∧ gc = (cp2 - cp) ∧ gs = (12 * (cp2 - cp)))) (fun E w gc gs => (∃ (cp2 : Nat) (tl2 : va_W), (PS dI k T K qa cp2 tl2) ∧ (cp ≤ cp2 ∧ cp2 ≤ 131072) ∧ (¬ ((0 ≤ v ∧ v ≤ 1) ∧ 0 ≤ pl ∧ pl < T 0 0 0 0)) ∧ E = "java/lang/IndexOutOfBoundsException" ∧ w = ([] ++ tl2) ∧ gc = (cp2 - cp + 1) ∧ gs = (12 * (cp2 - cp) + 6))) := by
  obtain ⟨A, X, G, Mc, Y, O, L, C, hPR, rfl, hL⟩ := hPS
  have K0 := k_lines l dC dI k hl0 T A X tl G Mc Y O L C K cp v pl hPR hQ.1 hL hQ.2.2.2 hrv hrpl
  refine kx_post K0 ?_ ?_
  · rintro r w gc gs ⟨O2, L2, C2, X2, cp2, tl2, q0, q1, q2, z0, hr, hw, hgc, hgs⟩
    exact ⟨w, List.Perm.refl _, cp2, tl2, ⟨A, X2, G, Mc, Y, O2, L2, C2, q0, rfl, q1⟩, q2, z0, hr, hw, hgc, hgs⟩
  · rintro E w gc gs ⟨O2, L2, C2, X2, cp2, tl2, q0, q1, q2, z0, hr, hw, hgc, hgs⟩
    exact ⟨w, List.Perm.refl _, cp2, tl2, ⟨A, X2, G, Mc, Y, O2, L2, C2, q0, rfl, q1⟩, q2, z0, hr, hw, hgc, hgs⟩


theorem a_lineEnd (l : Launch) (dC : Nat → ClassId) (dI : Nat → Nat → Nat) (k : Nat → ClassId) (hl0 : l.stackTraces = false) (T : Nat → Int → Int → Int → Int) (K : Nat → Int → Int) (qa : Nat) (cp : Nat) (tl : va_W) (v : Int) (pl : Int) (li : Int) (hPS : PS dI k T K qa cp tl) (hQ : OKT T K) (hrv : -2147483648 ≤ v ∧ v < 2147483648) (hrpl : -2147483648 ≤ pl ∧ pl < 2147483648) (hrli : -2147483648 ≤ li ∧ li < 2147483648) : Kx l dC dI k yX11_lineEnd (.code yX11_lineEnd cX11_lineEnd 5 (some .int)) ({ frames := 9, cells := (131072 - cp + 1), slots := (12 * (131072 - cp) + 6), locals := 205 } : Room) [.ref qa, .int (iI v), .int (iI pl), .int (iI li)] ([] ++ tl) (fun r w gc gs => (∃ (cp2 : Nat) (tl2 : va_W), (PS dI k T K qa cp2 tl2) ∧ (cp ≤ cp2 ∧ cp2 ≤ 131072) ∧ ((0 ≤ v ∧ v ≤ 1) ∧ (0 ≤ pl ∧ pl < T 0 0 0 0) ∧ 0 ≤ li ∧ li < LCz T v (dgN T v) pl) ∧ r = some (.int (iI (LEz T v (dgN T v) pl li))) ∧ w = ([] ++ tl2) ∧ gc = (cp2 - cp) ∧ gs = (12 * (cp2 - cp)))) (fun E w gc gs => (∃ (cp2 : Nat) (tl2 : va_W), (PS dI k T K qa cp2 tl2) ∧ (cp ≤ cp2 ∧ cp2 ≤ 131072) ∧ (¬ ((0 ≤ v ∧ v ≤ 1) ∧ (0 ≤ pl ∧ pl < T 0 0 0 0) ∧ 0 ≤ li ∧ li < LCz T v (dgN T v) pl)) ∧ E = "java/lang/IndexOutOfBoundsException" ∧ w = ([] ++ tl2) ∧ gc = (cp2 - cp + 1) ∧ gs = (12 * (cp2 - cp) + 6))) := by
  obtain ⟨A, X, G, Mc, Y, O, L, C, hPR, rfl, hL⟩ := hPS
  have K0 := k_lineEnd l dC dI k hl0 T A X tl G Mc Y O L C K cp v pl li hPR hQ.1 hL hQ.2.2.2 hrv hrpl hrli
  refine kx_post K0 ?_ ?_
  · rintro r w gc gs ⟨O2, L2, C2, X2, cp2, tl2, q0, q1, q2, z0, hr, hw, hgc, hgs⟩
    exact ⟨w, List.Perm.refl _, cp2, tl2, ⟨A, X2, G, Mc, Y, O2, L2, C2, q0, rfl, q1⟩, q2, z0, hr, hw, hgc, hgs⟩
  · rintro E w gc gs ⟨O2, L2, C2, X2, cp2, tl2, q0, q1, q2, z0, hr, hw, hgc, hgs⟩
    exact ⟨w, List.Perm.refl _, cp2, tl2, ⟨A, X2, G, Mc, Y, O2, L2, C2, q0, rfl, q1⟩, q2, z0, hr, hw, hgc, hgs⟩


theorem a_tight (l : Launch) (dC : Nat → ClassId) (dI : Nat → Nat → Nat) (k : Nat → ClassId) (hl0 : l.stackTraces = false) (T : Nat → Int → Int → Int → Int) (K : Nat → Int → Int) (qa : Nat) (cp : Nat) (tl : va_W) (v : Int) (pl : Int) (li : Int) (hPS : PS dI k T K qa cp tl) (hQ : OKT T K) (hrv : -2147483648 ≤ v ∧ v < 2147483648) (hrpl : -2147483648 ≤ pl ∧ pl < 2147483648) (hrli : -2147483648 ≤ li ∧ li < 2147483648) : Kx l dC dI k yX11_tightness (.code yX11_tightness cX11_tightness 5 (some .int)) ({ frames := 9, cells := (131072 - cp + 1), slots := (12 * (131072 - cp) + 6), locals := 205 } : Room) [.ref qa, .int (iI v), .int (iI pl), .int (iI li)] ([] ++ tl) (fun r w gc gs => (∃ (cp2 : Nat) (tl2 : va_W), (PS dI k T K qa cp2 tl2) ∧ (cp ≤ cp2 ∧ cp2 ≤ 131072) ∧ ((0 ≤ v ∧ v ≤ 1) ∧ (0 ≤ pl ∧ pl < T 0 0 0 0) ∧ 0 ≤ li ∧ li < LCz T v (dgN T v) pl) ∧ r = some (.int (iI (LKz T v (dgN T v) pl li))) ∧ w = ([] ++ tl2) ∧ gc = (cp2 - cp) ∧ gs = (12 * (cp2 - cp)))) (fun E w gc gs => (∃ (cp2 : Nat) (tl2 : va_W), (PS dI k T K qa cp2 tl2) ∧ (cp ≤ cp2 ∧ cp2 ≤ 131072) ∧ (¬ ((0 ≤ v ∧ v ≤ 1) ∧ (0 ≤ pl ∧ pl < T 0 0 0 0) ∧ 0 ≤ li ∧ li < LCz T v (dgN T v) pl)) ∧ E = "java/lang/IndexOutOfBoundsException" ∧ w = ([] ++ tl2) ∧ gc = (cp2 - cp + 1) ∧ gs = (12 * (cp2 - cp) + 6))) := by
  obtain ⟨A, X, G, Mc, Y, O, L, C, hPR, rfl, hL⟩ := hPS
  have K0 := k_tight l dC dI k hl0 T A X tl G Mc Y O L C K cp v pl li hPR hQ.1 hL hQ.2.2.2 hrv hrpl hrli
  refine kx_post K0 ?_ ?_
  · rintro r w gc gs ⟨O2, L2, C2, X2, cp2, tl2, q0, q1, q2, z0, hr, hw, hgc, hgs⟩
    exact ⟨w, List.Perm.refl _, cp2, tl2, ⟨A, X2, G, Mc, Y, O2, L2, C2, q0, rfl, q1⟩, q2, z0, hr, hw, hgc, hgs⟩
  · rintro E w gc gs ⟨O2, L2, C2, X2, cp2, tl2, q0, q1, q2, z0, hr, hw, hgc, hgs⟩
    exact ⟨w, List.Perm.refl _, cp2, tl2, ⟨A, X2, G, Mc, Y, O2, L2, C2, q0, rfl, q1⟩, q2, z0, hr, hw, hgc, hgs⟩


theorem a_demerits (l : Launch) (dC : Nat → ClassId) (dI : Nat → Nat → Nat) (k : Nat → ClassId) (hl0 : l.stackTraces = false) (T : Nat → Int → Int → Int → Int) (K : Nat → Int → Int) (qa : Nat) (cp : Nat) (tl : va_W) (v : Int) (pl : Int) (hPS : PS dI k T K qa cp tl) (hQ : OKT T K) (hrv : -2147483648 ≤ v ∧ v < 2147483648) (hrpl : -2147483648 ≤ pl ∧ pl < 2147483648) : Kx l dC dI k yX11_demerits (.code yX11_demerits cX11_demerits 3 (some .long)) ({ frames := 9, cells := (131072 - cp + 1), slots := (12 * (131072 - cp) + 6), locals := 205 } : Room) [.ref qa, .int (iI v), .int (iI pl)] ([] ++ tl) (fun r w gc gs => (∃ (cp2 : Nat) (tl2 : va_W), (PS dI k T K qa cp2 tl2) ∧ (cp ≤ cp2 ∧ cp2 ≤ 131072) ∧ ((0 ≤ v ∧ v ≤ 1) ∧ 0 ≤ pl ∧ pl < T 0 0 0 0) ∧ r = some (.long (lI (LDz T v (dgN T v) pl))) ∧ w = ([] ++ tl2) ∧ gc = (cp2 - cp) ∧ gs = (12 * (cp2 - cp)))) (fun E w gc gs => (∃ (cp2 : Nat) (tl2 : va_W), (PS dI k T K qa cp2 tl2) ∧ (cp ≤ cp2 ∧ cp2 ≤ 131072) ∧ (¬ ((0 ≤ v ∧ v ≤ 1) ∧ 0 ≤ pl ∧ pl < T 0 0 0 0)) ∧ E = "java/lang/IndexOutOfBoundsException" ∧ w = ([] ++ tl2) ∧ gc = (cp2 - cp + 1) ∧ gs = (12 * (cp2 - cp) + 6))) := by
  obtain ⟨A, X, G, Mc, Y, O, L, C, hPR, rfl, hL⟩ := hPS
  have K0 := k_demerits l dC dI k hl0 T A X tl G Mc Y O L C K cp v pl hPR hQ.1 hL hQ.2.2.2 hrv hrpl
  refine kx_post K0 ?_ ?_
  · rintro r w gc gs ⟨O2, L2, C2, X2, cp2, tl2, q0, q1, q2, z0, hr, hw, hgc, hgs⟩
    exact ⟨w, List.Perm.refl _, cp2, tl2, ⟨A, X2, G, Mc, Y, O2, L2, C2, q0, rfl, q1⟩, q2, z0, hr, hw, hgc, hgs⟩
  · rintro E w gc gs ⟨O2, L2, C2, X2, cp2, tl2, q0, q1, q2, z0, hr, hw, hgc, hgs⟩
    exact ⟨w, List.Perm.refl _, cp2, tl2, ⟨A, X2, G, Mc, Y, O2, L2, C2, q0, rfl, q1⟩, q2, z0, hr, hw, hgc, hgs⟩


theorem a_dByAll (l : Launch) (dC : Nat → ClassId) (dI : Nat → Nat → Nat) (k : Nat → ClassId) (hl0 : l.stackTraces = false) (T : Nat → Int → Int → Int → Int) (K : Nat → Int → Int) (qa : Nat) (cp : Nat) (tl : va_W) (v : Int) (pl : Int) (hPS : PS dI k T K qa cp tl) (hQ : OKT T K) (hrv : -2147483648 ≤ v ∧ v < 2147483648) (hrpl : -2147483648 ≤ pl ∧ pl < 2147483648) : Kx l dC dI k yX11_demeritsByAll (.code yX11_demeritsByAll cX11_demeritsByAll 3 (some .long)) ({ frames := 9, cells := (131072 - cp + 1), slots := (12 * (131072 - cp) + 6), locals := 205 } : Room) [.ref qa, .int (iI v), .int (iI pl)] ([] ++ tl) (fun r w gc gs => (∃ (cp2 : Nat) (tl2 : va_W), (PS dI k T K qa cp2 tl2) ∧ (cp ≤ cp2 ∧ cp2 ≤ 131072) ∧ ((0 ≤ v ∧ v ≤ 1) ∧ 0 ≤ pl ∧ pl < T 0 0 0 0) ∧ r = some (.long (lI (byZ T v (dgN T v) pl))) ∧ w = ([] ++ tl2) ∧ gc = (cp2 - cp) ∧ gs = (12 * (cp2 - cp)))) (fun E w gc gs => (∃ (cp2 : Nat) (tl2 : va_W), (PS dI k T K qa cp2 tl2) ∧ (cp ≤ cp2 ∧ cp2 ≤ 131072) ∧ (¬ ((0 ≤ v ∧ v ≤ 1) ∧ 0 ≤ pl ∧ pl < T 0 0 0 0)) ∧ E = "java/lang/IndexOutOfBoundsException" ∧ w = ([] ++ tl2) ∧ gc = (cp2 - cp + 1) ∧ gs = (12 * (cp2 - cp) + 6))) := by
  obtain ⟨A, X, G, Mc, Y, O, L, C, hPR, rfl, hL⟩ := hPS
  have K0 := k_dByAll l dC dI k hl0 T A X tl G Mc Y O L C K cp v pl hPR hQ.1 hL hQ.2.2.2 hrv hrpl
  refine kx_post K0 ?_ ?_
  · rintro r w gc gs ⟨O2, L2, C2, X2, cp2, tl2, q0, q1, q2, z0, hr, hw, hgc, hgs⟩
    exact ⟨w, List.Perm.refl _, cp2, tl2, ⟨A, X2, G, Mc, Y, O2, L2, C2, q0, rfl, q1⟩, q2, z0, hr, hw, hgc, hgs⟩
  · rintro E w gc gs ⟨O2, L2, C2, X2, cp2, tl2, q0, q1, q2, z0, hr, hw, hgc, hgs⟩
    exact ⟨w, List.Perm.refl _, cp2, tl2, ⟨A, X2, G, Mc, Y, O2, L2, C2, q0, rfl, q1⟩, q2, z0, hr, hw, hgc, hgs⟩


theorem a_pages (l : Launch) (dC : Nat → ClassId) (dI : Nat → Nat → Nat) (k : Nat → ClassId) (hl0 : l.stackTraces = false) (T : Nat → Int → Int → Int → Int) (K : Nat → Int → Int) (qa : Nat) (cp : Nat) (tl : va_W) (v : Int) (hPS : PS dI k T K qa cp tl) (hQ : OKT T K) (hrv : -2147483648 ≤ v ∧ v < 2147483648) : Kx l dC dI k yX11_pages (.code yX11_pages cX11_pages 2 (some .int)) ({ frames := 9, cells := (131072 - cp + 1), slots := (12 * (131072 - cp) + 6), locals := 205 } : Room) [.ref qa, .int (iI v)] ([] ++ tl) (fun r w gc gs => (∃ (cp2 : Nat) (tl2 : va_W), (PS dI k T K qa cp2 tl2) ∧ (cp ≤ cp2 ∧ cp2 ≤ 131072) ∧ ((0 ≤ v ∧ v ≤ 1)) ∧ r = some (.int (iI ((mkZ T (moC T v (dgN T v))) 0 0))) ∧ w = ([] ++ tl2) ∧ gc = (cp2 - cp) ∧ gs = (12 * (cp2 - cp)))) (fun E w gc gs => (∃ (cp2 : Nat) (tl2 : va_W), (PS dI k T K qa cp2 tl2) ∧ (cp ≤ cp2 ∧ cp2 ≤ 131072) ∧ (¬ ((0 ≤ v ∧ v ≤ 1))) ∧ E = "java/lang/IndexOutOfBoundsException" ∧ w = ([] ++ tl2) ∧ gc = (cp2 - cp + 1) ∧ gs = (12 * (cp2 - cp) + 6))) := by
  obtain ⟨A, X, G, Mc, Y, O, L, C, hPR, rfl, hL⟩ := hPS
  have K0 := k_pages l dC dI k hl0 T A X tl G Mc Y O L C K cp v hPR hQ.1 hL hQ.2.2.2 hrv
  refine kx_post K0 ?_ ?_
  · rintro r w gc gs ⟨O2, L2, C2, X2, cp2, tl2, q0, q1, q2, z0, hr, hw, hgc, hgs⟩
    exact ⟨w, List.Perm.refl _, cp2, tl2, ⟨A, X2, G, Mc, Y, O2, L2, C2, q0, rfl, q1⟩, q2, z0, hr, hw, hgc, hgs⟩
  · rintro E w gc gs ⟨O2, L2, C2, X2, cp2, tl2, q0, q1, q2, z0, hr, hw, hgc, hgs⟩
    exact ⟨w, List.Perm.refl _, cp2, tl2, ⟨A, X2, G, Mc, Y, O2, L2, C2, q0, rfl, q1⟩, q2, z0, hr, hw, hgc, hgs⟩


theorem a_cost (l : Launch) (dC : Nat → ClassId) (dI : Nat → Nat → Nat) (k : Nat → ClassId) (hl0 : l.stackTraces = false) (T : Nat → Int → Int → Int → Int) (K : Nat → Int → Int) (qa : Nat) (cp : Nat) (tl : va_W) (v : Int) (hPS : PS dI k T K qa cp tl) (hQ : OKT T K) (hrv : -2147483648 ≤ v ∧ v < 2147483648) : Kx l dC dI k yX11_cost (.code yX11_cost cX11_cost 2 (some .int)) ({ frames := 9, cells := (131072 - cp + 1), slots := (12 * (131072 - cp) + 6), locals := 205 } : Room) [.ref qa, .int (iI v)] ([] ++ tl) (fun r w gc gs => (∃ (cp2 : Nat) (tl2 : va_W), (PS dI k T K qa cp2 tl2) ∧ (cp ≤ cp2 ∧ cp2 ≤ 131072) ∧ ((0 ≤ v ∧ v ≤ 1)) ∧ r = some (.int (iI ((mkZ T (moC T v (dgN T v))) 0 1))) ∧ w = ([] ++ tl2) ∧ gc = (cp2 - cp) ∧ gs = (12 * (cp2 - cp)))) (fun E w gc gs => (∃ (cp2 : Nat) (tl2 : va_W), (PS dI k T K qa cp2 tl2) ∧ (cp ≤ cp2 ∧ cp2 ≤ 131072) ∧ (¬ ((0 ≤ v ∧ v ≤ 1))) ∧ E = "java/lang/IndexOutOfBoundsException" ∧ w = ([] ++ tl2) ∧ gc = (cp2 - cp + 1) ∧ gs = (12 * (cp2 - cp) + 6))) := by
  obtain ⟨A, X, G, Mc, Y, O, L, C, hPR, rfl, hL⟩ := hPS
  have K0 := k_cost l dC dI k hl0 T A X tl G Mc Y O L C K cp v hPR hQ.1 hL hQ.2.2.2 hrv
  refine kx_post K0 ?_ ?_
  · rintro r w gc gs ⟨O2, L2, C2, X2, cp2, tl2, q0, q1, q2, z0, hr, hw, hgc, hgs⟩
    exact ⟨w, List.Perm.refl _, cp2, tl2, ⟨A, X2, G, Mc, Y, O2, L2, C2, q0, rfl, q1⟩, q2, z0, hr, hw, hgc, hgs⟩
  · rintro E w gc gs ⟨O2, L2, C2, X2, cp2, tl2, q0, q1, q2, z0, hr, hw, hgc, hgs⟩
    exact ⟨w, List.Perm.refl _, cp2, tl2, ⟨A, X2, G, Mc, Y, O2, L2, C2, q0, rfl, q1⟩, q2, z0, hr, hw, hgc, hgs⟩


theorem a_rounds (l : Launch) (dC : Nat → ClassId) (dI : Nat → Nat → Nat) (k : Nat → ClassId) (hl0 : l.stackTraces = false) (T : Nat → Int → Int → Int → Int) (K : Nat → Int → Int) (qa : Nat) (cp : Nat) (tl : va_W) (v : Int) (hPS : PS dI k T K qa cp tl) (hQ : OKT T K) (hrv : -2147483648 ≤ v ∧ v < 2147483648) : Kx l dC dI k yX11_rounds (.code yX11_rounds cX11_rounds 2 (some .int)) ({ frames := 9, cells := (131072 - cp + 1), slots := (12 * (131072 - cp) + 6), locals := 205 } : Room) [.ref qa, .int (iI v)] ([] ++ tl) (fun r w gc gs => (∃ (cp2 : Nat) (tl2 : va_W), (PS dI k T K qa cp2 tl2) ∧ (cp ≤ cp2 ∧ cp2 ≤ 131072) ∧ ((0 ≤ v ∧ v ≤ 1)) ∧ r = some (.int (iI (rnN T v))) ∧ w = ([] ++ tl2) ∧ gc = (cp2 - cp) ∧ gs = (12 * (cp2 - cp)))) (fun E w gc gs => (∃ (cp2 : Nat) (tl2 : va_W), (PS dI k T K qa cp2 tl2) ∧ (cp ≤ cp2 ∧ cp2 ≤ 131072) ∧ (¬ ((0 ≤ v ∧ v ≤ 1))) ∧ E = "java/lang/IndexOutOfBoundsException" ∧ w = ([] ++ tl2) ∧ gc = (cp2 - cp + 1) ∧ gs = (12 * (cp2 - cp) + 6))) := by
  obtain ⟨A, X, G, Mc, Y, O, L, C, hPR, rfl, hL⟩ := hPS
  have K0 := k_rounds l dC dI k hl0 T A X tl G Mc Y O L C K cp v hPR hQ.1 hL hQ.2.2.2 hrv
  refine kx_post K0 ?_ ?_
  · rintro r w gc gs ⟨O2, L2, C2, X2, cp2, tl2, q0, q1, q2, z0, hr, hw, hgc, hgs⟩
    exact ⟨w, List.Perm.refl _, cp2, tl2, ⟨A, X2, G, Mc, Y, O2, L2, C2, q0, rfl, q1⟩, q2, z0, hr, hw, hgc, hgs⟩
  · rintro E w gc gs ⟨O2, L2, C2, X2, cp2, tl2, q0, q1, q2, z0, hr, hw, hgc, hgs⟩
    exact ⟨w, List.Perm.refl _, cp2, tl2, ⟨A, X2, G, Mc, Y, O2, L2, C2, q0, rfl, q1⟩, q2, z0, hr, hw, hgc, hgs⟩


theorem a_isSettled (l : Launch) (dC : Nat → ClassId) (dI : Nat → Nat → Nat) (k : Nat → ClassId) (hl0 : l.stackTraces = false) (T : Nat → Int → Int → Int → Int) (K : Nat → Int → Int) (qa : Nat) (cp : Nat) (tl : va_W) (v : Int) (hPS : PS dI k T K qa cp tl) (hQ : OKT T K) (hrv : -2147483648 ≤ v ∧ v < 2147483648) : Kx l dC dI k yX11_isSettled (.code yX11_isSettled cX11_isSettled 2 (some .boolean)) ({ frames := 9, cells := (131072 - cp + 1), slots := (12 * (131072 - cp) + 6), locals := 205 } : Room) [.ref qa, .int (iI v)] ([] ++ tl) (fun r w gc gs => (∃ (cp2 : Nat) (tl2 : va_W), (PS dI k T K qa cp2 tl2) ∧ (cp ≤ cp2 ∧ cp2 ≤ 131072) ∧ ((0 ≤ v ∧ v ≤ 1)) ∧ r = some (.int (iI (stN T v))) ∧ w = ([] ++ tl2) ∧ gc = (cp2 - cp) ∧ gs = (12 * (cp2 - cp)))) (fun E w gc gs => (∃ (cp2 : Nat) (tl2 : va_W), (PS dI k T K qa cp2 tl2) ∧ (cp ≤ cp2 ∧ cp2 ≤ 131072) ∧ (¬ ((0 ≤ v ∧ v ≤ 1))) ∧ E = "java/lang/IndexOutOfBoundsException" ∧ w = ([] ++ tl2) ∧ gc = (cp2 - cp + 1) ∧ gs = (12 * (cp2 - cp) + 6))) := by
  obtain ⟨A, X, G, Mc, Y, O, L, C, hPR, rfl, hL⟩ := hPS
  have K0 := k_isSettled l dC dI k hl0 T A X tl G Mc Y O L C K cp v hPR hQ.1 hL hQ.2.2.2 hrv
  refine kx_post K0 ?_ ?_
  · rintro r w gc gs ⟨O2, L2, C2, X2, cp2, tl2, q0, q1, q2, z0, hr, hw, hgc, hgs⟩
    exact ⟨w, List.Perm.refl _, cp2, tl2, ⟨A, X2, G, Mc, Y, O2, L2, C2, q0, rfl, q1⟩, q2, z0, hr, hw, hgc, hgs⟩
  · rintro E w gc gs ⟨O2, L2, C2, X2, cp2, tl2, q0, q1, q2, z0, hr, hw, hgc, hgs⟩
    exact ⟨w, List.Perm.refl _, cp2, tl2, ⟨A, X2, G, Mc, Y, O2, L2, C2, q0, rfl, q1⟩, q2, z0, hr, hw, hgc, hgs⟩


theorem a_on (l : Launch) (dC : Nat → ClassId) (dI : Nat → Nat → Nat) (k : Nat → ClassId) (hl0 : l.stackTraces = false) (T : Nat → Int → Int → Int → Int) (K : Nat → Int → Int) (qa : Nat) (cp : Nat) (tl : va_W) (v : Int) (pg_ : Int) (wh : Int) (hPS : PS dI k T K qa cp tl) (hQ : OKT T K) (hrv : -2147483648 ≤ v ∧ v < 2147483648) (hrpg_ : -2147483648 ≤ pg_ ∧ pg_ < 2147483648) (hrwh : -2147483648 ≤ wh ∧ wh < 2147483648) (hwh : 0 ≤ wh ∧ wh ≤ 2) : Kx l dC dI k yX11_on (.code yX11_on cX11_on 5 (some .int)) ({ frames := 9, cells := (131072 - cp + 1), slots := (12 * (131072 - cp) + 6), locals := 205 } : Room) [.ref qa, .int (iI v), .int (iI pg_), .int (iI wh)] ([] ++ tl) (fun r w gc gs => (∃ (cp2 : Nat) (tl2 : va_W), (PS dI k T K qa cp2 tl2) ∧ (cp ≤ cp2 ∧ cp2 ≤ 131072) ∧ ((0 ≤ v ∧ v ≤ 1) ∧ (1 ≤ pg_ ∧ pg_ ≤ (mkZ T (moC T v (dgN T v))) 0 0)) ∧ r = some (.int (iI (onZ T v pg_ wh))) ∧ w = ([] ++ tl2) ∧ gc = (cp2 - cp) ∧ gs = (12 * (cp2 - cp)))) (fun E w gc gs => (∃ (cp2 : Nat) (tl2 : va_W), (PS dI k T K qa cp2 tl2) ∧ (cp ≤ cp2 ∧ cp2 ≤ 131072) ∧ (¬ ((0 ≤ v ∧ v ≤ 1) ∧ (1 ≤ pg_ ∧ pg_ ≤ (mkZ T (moC T v (dgN T v))) 0 0))) ∧ E = "java/lang/IndexOutOfBoundsException" ∧ w = ([] ++ tl2) ∧ gc = (cp2 - cp + 1) ∧ gs = (12 * (cp2 - cp) + 6))) := by
  obtain ⟨A, X, G, Mc, Y, O, L, C, hPR, rfl, hL⟩ := hPS
  have K0 := k_on l dC dI k hl0 T A X tl G Mc Y O L C K cp v pg_ wh hPR hQ.1 hL hQ.2.2.2 hrv hrpg_ hrwh hwh
  refine kx_post K0 ?_ ?_
  · rintro r w gc gs ⟨O2, L2, C2, X2, cp2, tl2, q0, q1, q2, z0, hr, hw, hgc, hgs⟩
    exact ⟨w, List.Perm.refl _, cp2, tl2, ⟨A, X2, G, Mc, Y, O2, L2, C2, q0, rfl, q1⟩, q2, z0, hr, hw, hgc, hgs⟩
  · rintro E w gc gs ⟨O2, L2, C2, X2, cp2, tl2, q0, q1, q2, z0, hr, hw, hgc, hgs⟩
    exact ⟨w, List.Perm.refl _, cp2, tl2, ⟨A, X2, G, Mc, Y, O2, L2, C2, q0, rfl, q1⟩, q2, z0, hr, hw, hgc, hgs⟩


theorem a_head (l : Launch) (dC : Nat → ClassId) (dI : Nat → Nat → Nat) (k : Nat → ClassId) (hl0 : l.stackTraces = false) (T : Nat → Int → Int → Int → Int) (K : Nat → Int → Int) (qa : Nat) (cp : Nat) (tl : va_W) (v : Int) (pg_ : Int) (hPS : PS dI k T K qa cp tl) (hQ : OKT T K) (hrv : -2147483648 ≤ v ∧ v < 2147483648) (hrpg_ : -2147483648 ≤ pg_ ∧ pg_ < 2147483648) : Kx l dC dI k yX11_head (.code yX11_head cX11_head 4 (some .int)) ({ frames := 9, cells := (131072 - cp + 1), slots := (12 * (131072 - cp) + 6), locals := 205 } : Room) [.ref qa, .int (iI v), .int (iI pg_)] ([] ++ tl) (fun r w gc gs => (∃ (cp2 : Nat) (tl2 : va_W), (PS dI k T K qa cp2 tl2) ∧ (cp ≤ cp2 ∧ cp2 ≤ 131072) ∧ ((0 ≤ v ∧ v ≤ 1) ∧ (1 ≤ pg_ ∧ pg_ ≤ (mkZ T (moC T v (dgN T v))) 0 0)) ∧ r = some (.int (iI (hoZ T (moC T v (dgN T v)) (mkZ T (moC T v (dgN T v))) v pg_))) ∧ w = ([] ++ tl2) ∧ gc = (cp2 - cp) ∧ gs = (12 * (cp2 - cp)))) (fun E w gc gs => (∃ (cp2 : Nat) (tl2 : va_W), (PS dI k T K qa cp2 tl2) ∧ (cp ≤ cp2 ∧ cp2 ≤ 131072) ∧ (¬ ((0 ≤ v ∧ v ≤ 1) ∧ (1 ≤ pg_ ∧ pg_ ≤ (mkZ T (moC T v (dgN T v))) 0 0))) ∧ E = "java/lang/IndexOutOfBoundsException" ∧ w = ([] ++ tl2) ∧ gc = (cp2 - cp + 1) ∧ gs = (12 * (cp2 - cp) + 6))) := by
  obtain ⟨A, X, G, Mc, Y, O, L, C, hPR, rfl, hL⟩ := hPS
  have K0 := k_head l dC dI k hl0 T A X tl G Mc Y O L C K cp v pg_ hPR hQ.1 hL hQ.2.2.2 hrv hrpg_
  refine kx_post K0 ?_ ?_
  · rintro r w gc gs ⟨O2, L2, C2, X2, cp2, tl2, q0, q1, q2, z0, hr, hw, hgc, hgs⟩
    exact ⟨w, List.Perm.refl _, cp2, tl2, ⟨A, X2, G, Mc, Y, O2, L2, C2, q0, rfl, q1⟩, q2, z0, hr, hw, hgc, hgs⟩
  · rintro E w gc gs ⟨O2, L2, C2, X2, cp2, tl2, q0, q1, q2, z0, hr, hw, hgc, hgs⟩
    exact ⟨w, List.Perm.refl _, cp2, tl2, ⟨A, X2, G, Mc, Y, O2, L2, C2, q0, rfl, q1⟩, q2, z0, hr, hw, hgc, hgs⟩


theorem a_textAt (l : Launch) (dC : Nat → ClassId) (dI : Nat → Nat → Nat) (k : Nat → ClassId) (hl0 : l.stackTraces = false) (T : Nat → Int → Int → Int → Int) (K : Nat → Int → Int) (qa : Nat) (cp : Nat) (tl : va_W) (v : Int) (pg_ : Int) (ro : Int) (hPS : PS dI k T K qa cp tl) (hQ : OKT T K) (hrv : -2147483648 ≤ v ∧ v < 2147483648) (hrpg_ : -2147483648 ≤ pg_ ∧ pg_ < 2147483648) (hrro : -2147483648 ≤ ro ∧ ro < 2147483648) : Kx l dC dI k yX11_textAt (.code yX11_textAt cX11_textAt 6 (some .int)) ({ frames := 9, cells := (131072 - cp + 1), slots := (12 * (131072 - cp) + 6), locals := 205 } : Room) [.ref qa, .int (iI v), .int (iI pg_), .int (iI ro)] ([] ++ tl) (fun r w gc gs => (∃ (cp2 : Nat) (tl2 : va_W), (PS dI k T K qa cp2 tl2) ∧ (cp ≤ cp2 ∧ cp2 ≤ 131072) ∧ ((0 ≤ v ∧ v ≤ 1) ∧ (1 ≤ pg_ ∧ pg_ ≤ (mkZ T (moC T v (dgN T v))) 0 0) ∧ (0 ≤ ro ∧ ro < (mkZ T (moC T v (dgN T v))) 2 (pg_ - 1))) ∧ r = some (.int (iI (txZ T v pg_ ro))) ∧ w = ([] ++ tl2) ∧ gc = (cp2 - cp) ∧ gs = (12 * (cp2 - cp)))) (fun E w gc gs => (∃ (cp2 : Nat) (tl2 : va_W), (PS dI k T K qa cp2 tl2) ∧ (cp ≤ cp2 ∧ cp2 ≤ 131072) ∧ (¬ ((0 ≤ v ∧ v ≤ 1) ∧ (1 ≤ pg_ ∧ pg_ ≤ (mkZ T (moC T v (dgN T v))) 0 0) ∧ (0 ≤ ro ∧ ro < (mkZ T (moC T v (dgN T v))) 2 (pg_ - 1)))) ∧ E = "java/lang/IndexOutOfBoundsException" ∧ w = ([] ++ tl2) ∧ gc = (cp2 - cp + 1) ∧ gs = (12 * (cp2 - cp) + 6))) := by
  obtain ⟨A, X, G, Mc, Y, O, L, C, hPR, rfl, hL⟩ := hPS
  have K0 := k_textAt l dC dI k hl0 T A X tl G Mc Y O L C K cp v pg_ ro hPR hQ.1 hL hQ.2.2.2 hrv hrpg_ hrro
  refine kx_post K0 ?_ ?_
  · rintro r w gc gs ⟨O2, L2, C2, X2, cp2, tl2, q0, q1, q2, z0, hr, hw, hgc, hgs⟩
    exact ⟨w, List.Perm.refl _, cp2, tl2, ⟨A, X2, G, Mc, Y, O2, L2, C2, q0, rfl, q1⟩, q2, z0, hr, hw, hgc, hgs⟩
  · rintro E w gc gs ⟨O2, L2, C2, X2, cp2, tl2, q0, q1, q2, z0, hr, hw, hgc, hgs⟩
    exact ⟨w, List.Perm.refl _, cp2, tl2, ⟨A, X2, G, Mc, Y, O2, L2, C2, q0, rfl, q1⟩, q2, z0, hr, hw, hgc, hgs⟩


theorem a_whereIs (l : Launch) (dC : Nat → ClassId) (dI : Nat → Nat → Nat) (k : Nat → ClassId) (hl0 : l.stackTraces = false) (T : Nat → Int → Int → Int → Int) (K : Nat → Int → Int) (qa : Nat) (cp : Nat) (tl : va_W) (v : Int) (pl : Int) (at_ : Int) (hPS : PS dI k T K qa cp tl) (hQ : OKT T K) (hrv : -2147483648 ≤ v ∧ v < 2147483648) (hrpl : -2147483648 ≤ pl ∧ pl < 2147483648) (hrat_ : -2147483648 ≤ at_ ∧ at_ < 2147483648) : Kx l dC dI k yX11_whereIs (.code yX11_whereIs cX11_whereIs 7 (some .int)) ({ frames := 9, cells := (131072 - cp + 1), slots := (12 * (131072 - cp) + 6), locals := 205 } : Room) [.ref qa, .int (iI v), .int (iI pl), .int (iI at_)] ([] ++ tl) (fun r w gc gs => (∃ (cp2 : Nat) (tl2 : va_W), (PS dI k T K qa cp2 tl2) ∧ (cp ≤ cp2 ∧ cp2 ≤ 131072) ∧ ((0 ≤ v ∧ v ≤ 1) ∧ (0 ≤ pl ∧ pl < T 0 0 0 0) ∧ (0 ≤ at_ ∧ at_ < T 3 pl 0 0)) ∧ r = some (.int (iI (whZ T v pl at_))) ∧ w = ([] ++ tl2) ∧ gc = (cp2 - cp) ∧ gs = (12 * (cp2 - cp)))) (fun E w gc gs => (∃ (cp2 : Nat) (tl2 : va_W), (PS dI k T K qa cp2 tl2) ∧ (cp ≤ cp2 ∧ cp2 ≤ 131072) ∧ (¬ ((0 ≤ v ∧ v ≤ 1) ∧ (0 ≤ pl ∧ pl < T 0 0 0 0) ∧ (0 ≤ at_ ∧ at_ < T 3 pl 0 0))) ∧ E = "java/lang/IndexOutOfBoundsException" ∧ w = ([] ++ tl2) ∧ gc = (cp2 - cp + 1) ∧ gs = (12 * (cp2 - cp) + 6))) := by
  obtain ⟨A, X, G, Mc, Y, O, L, C, hPR, rfl, hL⟩ := hPS
  have K0 := k_whereIs l dC dI k hl0 T A X tl G Mc Y O L C K cp v pl at_ hPR hQ.1 hL hQ.2.2.2 hrv hrpl hrat_
  refine kx_post K0 ?_ ?_
  · rintro r w gc gs ⟨O2, L2, C2, X2, cp2, tl2, q0, q1, q2, z0, hr, hw, hgc, hgs⟩
    exact ⟨w, List.Perm.refl _, cp2, tl2, ⟨A, X2, G, Mc, Y, O2, L2, C2, q0, rfl, q1⟩, q2, z0, hr, hw, hgc, hgs⟩
  · rintro E w gc gs ⟨O2, L2, C2, X2, cp2, tl2, q0, q1, q2, z0, hr, hw, hgc, hgs⟩
    exact ⟨w, List.Perm.refl _, cp2, tl2, ⟨A, X2, G, Mc, Y, O2, L2, C2, q0, rfl, q1⟩, q2, z0, hr, hw, hgc, hgs⟩


theorem a_figureAt (l : Launch) (dC : Nat → ClassId) (dI : Nat → Nat → Nat) (k : Nat → ClassId) (hl0 : l.stackTraces = false) (T : Nat → Int → Int → Int → Int) (K : Nat → Int → Int) (qa : Nat) (cp : Nat) (tl : va_W) (v : Int) (fi : Int) (hPS : PS dI k T K qa cp tl) (hQ : OKT T K) (hrv : -2147483648 ≤ v ∧ v < 2147483648) (hrfi : -2147483648 ≤ fi ∧ fi < 2147483648) : Kx l dC dI k yX11_figureAt (.code yX11_figureAt cX11_figureAt 3 (some .int)) ({ frames := 9, cells := (131072 - cp + 1), slots := (12 * (131072 - cp) + 6), locals := 205 } : Room) [.ref qa, .int (iI v), .int (iI fi)] ([] ++ tl) (fun r w gc gs => (∃ (cp2 : Nat) (tl2 : va_W), (PS dI k T K qa cp2 tl2) ∧ (cp ≤ cp2 ∧ cp2 ≤ 131072) ∧ ((0 ≤ v ∧ v ≤ 1) ∧ (0 ≤ fi ∧ fi < T 12 0 0 0)) ∧ r = some (.int (iI ((mkZ T (moC T v (dgN T v))) 6 fi))) ∧ w = ([] ++ tl2) ∧ gc = (cp2 - cp) ∧ gs = (12 * (cp2 - cp)))) (fun E w gc gs => (∃ (cp2 : Nat) (tl2 : va_W), (PS dI k T K qa cp2 tl2) ∧ (cp ≤ cp2 ∧ cp2 ≤ 131072) ∧ (¬ ((0 ≤ v ∧ v ≤ 1) ∧ (0 ≤ fi ∧ fi < T 12 0 0 0))) ∧ E = "java/lang/IndexOutOfBoundsException" ∧ w = ([] ++ tl2) ∧ gc = (cp2 - cp + 1) ∧ gs = (12 * (cp2 - cp) + 6))) := by
  obtain ⟨A, X, G, Mc, Y, O, L, C, hPR, rfl, hL⟩ := hPS
  have K0 := k_figureAt l dC dI k hl0 T A X tl G Mc Y O L C K cp v fi hPR hQ.1 hL hQ.2.2.2 hrv hrfi
  refine kx_post K0 ?_ ?_
  · rintro r w gc gs ⟨O2, L2, C2, X2, cp2, tl2, q0, q1, q2, z0, hr, hw, hgc, hgs⟩
    exact ⟨w, List.Perm.refl _, cp2, tl2, ⟨A, X2, G, Mc, Y, O2, L2, C2, q0, rfl, q1⟩, q2, z0, hr, hw, hgc, hgs⟩
  · rintro E w gc gs ⟨O2, L2, C2, X2, cp2, tl2, q0, q1, q2, z0, hr, hw, hgc, hgs⟩
    exact ⟨w, List.Perm.refl _, cp2, tl2, ⟨A, X2, G, Mc, Y, O2, L2, C2, q0, rfl, q1⟩, q2, z0, hr, hw, hgc, hgs⟩


theorem a_labelPage (l : Launch) (dC : Nat → ClassId) (dI : Nat → Nat → Nat) (k : Nat → ClassId) (hl0 : l.stackTraces = false) (T : Nat → Int → Int → Int → Int) (K : Nat → Int → Int) (qa : Nat) (cp : Nat) (tl : va_W) (v : Int) (b_ : Int) (hPS : PS dI k T K qa cp tl) (hQ : OKT T K) (hrv : -2147483648 ≤ v ∧ v < 2147483648) (hrb_ : -2147483648 ≤ b_ ∧ b_ < 2147483648) : Kx l dC dI k yX11_labelPage (.code yX11_labelPage cX11_labelPage 3 (some .int)) ({ frames := 9, cells := (131072 - cp + 1), slots := (12 * (131072 - cp) + 6), locals := 205 } : Room) [.ref qa, .int (iI v), .int (iI b_)] ([] ++ tl) (fun r w gc gs => (∃ (cp2 : Nat) (tl2 : va_W), (PS dI k T K qa cp2 tl2) ∧ (cp ≤ cp2 ∧ cp2 ≤ 131072) ∧ ((0 ≤ v ∧ v ≤ 1) ∧ (0 ≤ b_ ∧ b_ ≤ 5)) ∧ r = some (.int (iI (lbZ (moC T v (dgN T v)) (mkZ T (moC T v (dgN T v))) b_))) ∧ w = ([] ++ tl2) ∧ gc = (cp2 - cp) ∧ gs = (12 * (cp2 - cp)))) (fun E w gc gs => (∃ (cp2 : Nat) (tl2 : va_W), (PS dI k T K qa cp2 tl2) ∧ (cp ≤ cp2 ∧ cp2 ≤ 131072) ∧ (¬ ((0 ≤ v ∧ v ≤ 1) ∧ (0 ≤ b_ ∧ b_ ≤ 5))) ∧ E = "java/lang/IndexOutOfBoundsException" ∧ w = ([] ++ tl2) ∧ gc = (cp2 - cp + 1) ∧ gs = (12 * (cp2 - cp) + 6))) := by
  obtain ⟨A, X, G, Mc, Y, O, L, C, hPR, rfl, hL⟩ := hPS
  have K0 := k_labelPage l dC dI k hl0 T A X tl G Mc Y O L C K cp v b_ hPR hQ.1 hL hQ.2.2.2 hrv hrb_
  refine kx_post K0 ?_ ?_
  · rintro r w gc gs ⟨O2, L2, C2, X2, cp2, tl2, q0, q1, q2, z0, hr, hw, hgc, hgs⟩
    exact ⟨w, List.Perm.refl _, cp2, tl2, ⟨A, X2, G, Mc, Y, O2, L2, C2, q0, rfl, q1⟩, q2, z0, hr, hw, hgc, hgs⟩
  · rintro E w gc gs ⟨O2, L2, C2, X2, cp2, tl2, q0, q1, q2, z0, hr, hw, hgc, hgs⟩
    exact ⟨w, List.Perm.refl _, cp2, tl2, ⟨A, X2, G, Mc, Y, O2, L2, C2, q0, rfl, q1⟩, q2, z0, hr, hw, hgc, hgs⟩


theorem a_contentsAt (l : Launch) (dC : Nat → ClassId) (dI : Nat → Nat → Nat) (k : Nat → ClassId) (hl0 : l.stackTraces = false) (T : Nat → Int → Int → Int → Int) (K : Nat → Int → Int) (qa : Nat) (cp : Nat) (tl : va_W) (v : Int) (ix : Int) (hPS : PS dI k T K qa cp tl) (hQ : OKT T K) (hrv : -2147483648 ≤ v ∧ v < 2147483648) (hrix : -2147483648 ≤ ix ∧ ix < 2147483648) : Kx l dC dI k yX11_contentsAt (.code yX11_contentsAt cX11_contentsAt 5 (some .int)) ({ frames := 9, cells := (131072 - cp + 1), slots := (12 * (131072 - cp) + 6), locals := 205 } : Room) [.ref qa, .int (iI v), .int (iI ix)] ([] ++ tl) (fun r w gc gs => (∃ (cp2 : Nat) (tl2 : va_W), (PS dI k T K qa cp2 tl2) ∧ (cp ≤ cp2 ∧ cp2 ≤ 131072) ∧ ((0 ≤ v ∧ v ≤ 1) ∧ haZ T v ix ≠ -1) ∧ r = some (.int (iI (coZ T v ix))) ∧ w = ([] ++ tl2) ∧ gc = (cp2 - cp) ∧ gs = (12 * (cp2 - cp)))) (fun E w gc gs => (∃ (cp2 : Nat) (tl2 : va_W), (PS dI k T K qa cp2 tl2) ∧ (cp ≤ cp2 ∧ cp2 ≤ 131072) ∧ (¬ ((0 ≤ v ∧ v ≤ 1) ∧ haZ T v ix ≠ -1)) ∧ E = "java/lang/IndexOutOfBoundsException" ∧ w = ([] ++ tl2) ∧ gc = (cp2 - cp + 1) ∧ gs = (12 * (cp2 - cp) + 6))) := by
  obtain ⟨A, X, G, Mc, Y, O, L, C, hPR, rfl, hL⟩ := hPS
  have K0 := k_contentsAt l dC dI k hl0 T A X tl G Mc Y O L C K cp v ix hPR hQ.1 hL hQ.2.2.2 hrv hrix
  refine kx_post K0 ?_ ?_
  · rintro r w gc gs ⟨O2, L2, C2, X2, cp2, tl2, q0, q1, q2, z0, hr, hw, hgc, hgs⟩
    exact ⟨w, List.Perm.refl _, cp2, tl2, ⟨A, X2, G, Mc, Y, O2, L2, C2, q0, rfl, q1⟩, q2, z0, hr, hw, hgc, hgs⟩
  · rintro E w gc gs ⟨O2, L2, C2, X2, cp2, tl2, q0, q1, q2, z0, hr, hw, hgc, hgs⟩
    exact ⟨w, List.Perm.refl _, cp2, tl2, ⟨A, X2, G, Mc, Y, O2, L2, C2, q0, rfl, q1⟩, q2, z0, hr, hw, hgc, hgs⟩


theorem a_indexAt (l : Launch) (dC : Nat → ClassId) (dI : Nat → Nat → Nat) (k : Nat → ClassId) (hl0 : l.stackTraces = false) (T : Nat → Int → Int → Int → Int) (K : Nat → Int → Int) (qa : Nat) (cp : Nat) (tl : va_W) (v : Int) (ix : Int) (hPS : PS dI k T K qa cp tl) (hQ : OKT T K) (hrv : -2147483648 ≤ v ∧ v < 2147483648) (hrix : -2147483648 ≤ ix ∧ ix < 2147483648) : Kx l dC dI k yX11_indexAt (.code yX11_indexAt cX11_indexAt 4 (some .int)) ({ frames := 9, cells := (131072 - cp + 1), slots := (12 * (131072 - cp) + 6), locals := 205 } : Room) [.ref qa, .int (iI v), .int (iI ix)] ([] ++ tl) (fun r w gc gs => (∃ (cp2 : Nat) (tl2 : va_W), (PS dI k T K qa cp2 tl2) ∧ (cp ≤ cp2 ∧ cp2 ≤ 131072) ∧ ((0 ≤ v ∧ v ≤ 1) ∧ tmF T (moC T v (dgN T v)) ix 8 0 ≠ -1) ∧ r = some (.int (iI (tmF T (moC T v (dgN T v)) ix 8 0))) ∧ w = ([] ++ tl2) ∧ gc = (cp2 - cp) ∧ gs = (12 * (cp2 - cp)))) (fun E w gc gs => (∃ (cp2 : Nat) (tl2 : va_W), (PS dI k T K qa cp2 tl2) ∧ (cp ≤ cp2 ∧ cp2 ≤ 131072) ∧ (¬ ((0 ≤ v ∧ v ≤ 1) ∧ tmF T (moC T v (dgN T v)) ix 8 0 ≠ -1)) ∧ E = "java/lang/IndexOutOfBoundsException" ∧ w = ([] ++ tl2) ∧ gc = (cp2 - cp + 1) ∧ gs = (12 * (cp2 - cp) + 6))) := by
  obtain ⟨A, X, G, Mc, Y, O, L, C, hPR, rfl, hL⟩ := hPS
  have K0 := k_indexAt l dC dI k hl0 T A X tl G Mc Y O L C K cp v ix hPR hQ.1 hL hQ.2.2.2 hrv hrix
  refine kx_post K0 ?_ ?_
  · rintro r w gc gs ⟨O2, L2, C2, X2, cp2, tl2, q0, q1, q2, z0, hr, hw, hgc, hgs⟩
    exact ⟨w, List.Perm.refl _, cp2, tl2, ⟨A, X2, G, Mc, Y, O2, L2, C2, q0, rfl, q1⟩, q2, z0, hr, hw, hgc, hgs⟩
  · rintro E w gc gs ⟨O2, L2, C2, X2, cp2, tl2, q0, q1, q2, z0, hr, hw, hgc, hgs⟩
    exact ⟨w, List.Perm.refl _, cp2, tl2, ⟨A, X2, G, Mc, Y, O2, L2, C2, q0, rfl, q1⟩, q2, z0, hr, hw, hgc, hgs⟩


theorem a_range (l : Launch) (dC : Nat → ClassId) (dI : Nat → Nat → Nat) (k : Nat → ClassId) (hl0 : l.stackTraces = false) (T : Nat → Int → Int → Int → Int) (K : Nat → Int → Int) (qa : Nat) (cp : Nat) (tl : va_W) (v : Int) (t : Int) (ix : Int) (hPS : PS dI k T K qa cp tl) (hQ : OKT T K) (hrv : -2147483648 ≤ v ∧ v < 2147483648) (hrt : -2147483648 ≤ t ∧ t < 2147483648) (hrix : -2147483648 ≤ ix ∧ ix < 2147483648) : Kx l dC dI k yX11_range (.code yX11_range cX11_range 5 (some .int)) ({ frames := 9, cells := (131072 - cp + 1), slots := (12 * (131072 - cp) + 6), locals := 205 } : Room) [.ref qa, .int (iI v), .int (iI t), .int (iI ix)] ([] ++ tl) (fun r w gc gs => (∃ (cp2 : Nat) (tl2 : va_W), (PS dI k T K qa cp2 tl2) ∧ (cp ≤ cp2 ∧ cp2 ≤ 131072) ∧ ((0 ≤ v ∧ v ≤ 1) ∧ (0 ≤ t ∧ t ≤ 7) ∧ rgZ (fpZ T (moC T v (dgN T v)) (mkZ T (moC T v (dgN T v))) t) ix ((mkZ T (moC T v (dgN T v))) 0 0) ≠ -1) ∧ r = some (.int (iI (rgZ (fpZ T (moC T v (dgN T v)) (mkZ T (moC T v (dgN T v))) t) ix ((mkZ T (moC T v (dgN T v))) 0 0)))) ∧ w = ([] ++ tl2) ∧ gc = (cp2 - cp) ∧ gs = (12 * (cp2 - cp)))) (fun E w gc gs => (∃ (cp2 : Nat) (tl2 : va_W), (PS dI k T K qa cp2 tl2) ∧ (cp ≤ cp2 ∧ cp2 ≤ 131072) ∧ (¬ ((0 ≤ v ∧ v ≤ 1) ∧ (0 ≤ t ∧ t ≤ 7) ∧ rgZ (fpZ T (moC T v (dgN T v)) (mkZ T (moC T v (dgN T v))) t) ix ((mkZ T (moC T v (dgN T v))) 0 0) ≠ -1)) ∧ E = "java/lang/IndexOutOfBoundsException" ∧ w = ([] ++ tl2) ∧ gc = (cp2 - cp + 1) ∧ gs = (12 * (cp2 - cp) + 6))) := by
  obtain ⟨A, X, G, Mc, Y, O, L, C, hPR, rfl, hL⟩ := hPS
  have K0 := k_range l dC dI k hl0 T A X tl G Mc Y O L C K cp v t ix hPR hQ.1 hL hQ.2.2.2 hrv hrt hrix
  refine kx_post K0 ?_ ?_
  · rintro r w gc gs ⟨O2, L2, C2, X2, cp2, tl2, q0, q1, q2, z0, hr, hw, hgc, hgs⟩
    exact ⟨w, List.Perm.refl _, cp2, tl2, ⟨A, X2, G, Mc, Y, O2, L2, C2, q0, rfl, q1⟩, q2, z0, hr, hw, hgc, hgs⟩
  · rintro E w gc gs ⟨O2, L2, C2, X2, cp2, tl2, q0, q1, q2, z0, hr, hw, hgc, hgs⟩
    exact ⟨w, List.Perm.refl _, cp2, tl2, ⟨A, X2, G, Mc, Y, O2, L2, C2, q0, rfl, q1⟩, q2, z0, hr, hw, hgc, hgs⟩


theorem a_number (l : Launch) (dC : Nat → ClassId) (dI : Nat → Nat → Nat) (k : Nat → ClassId) (hl0 : l.stackTraces = false) (T : Nat → Int → Int → Int → Int) (K : Nat → Int → Int) (qa : Nat) (cp : Nat) (tl : va_W) (v : Int) (pl : Int) (hPS : PS dI k T K qa cp tl) (hQ : OKT T K) (hrv : -2147483648 ≤ v ∧ v < 2147483648) (hrpl : -2147483648 ≤ pl ∧ pl < 2147483648) : Kx l dC dI k yX11_number (.code yX11_number cX11_number 4 (some .int)) ({ frames := 8, cells := (131072 - cp + 1), slots := (12 * (131072 - cp) + 6), locals := 124 } : Room) [.ref qa, .int (iI v), .int (iI pl)] ([] ++ tl) (fun r w gc gs => (∃ (cp2 : Nat) (tl2 : va_W), (PS dI k T K qa cp2 tl2) ∧ (cp ≤ cp2 ∧ cp2 ≤ 131072) ∧ ((0 ≤ v ∧ v ≤ 1) ∧ (0 ≤ pl ∧ pl < T 0 0 0 0)) ∧ r = some (.int (iI (nuZ T v pl))) ∧ w = ([] ++ tl2) ∧ gc = (cp2 - cp) ∧ gs = (12 * (cp2 - cp)))) (fun E w gc gs => (∃ (cp2 : Nat) (tl2 : va_W), (PS dI k T K qa cp2 tl2) ∧ (cp ≤ cp2 ∧ cp2 ≤ 131072) ∧ (¬ ((0 ≤ v ∧ v ≤ 1) ∧ (0 ≤ pl ∧ pl < T 0 0 0 0))) ∧ E = "java/lang/IndexOutOfBoundsException" ∧ w = ([] ++ tl2) ∧ gc = (cp2 - cp + 1) ∧ gs = (12 * (cp2 - cp) + 6))) := by
  obtain ⟨A, X, G, Mc, Y, O, L, C, hPR, rfl, hL⟩ := hPS
  have K0 := k_number l dC dI k hl0 T A X tl G Mc Y O L C K cp v pl hPR hQ.1 hL hQ.2.2.2 hrv hrpl
  refine kx_post K0 ?_ ?_
  · rintro r w gc gs ⟨O2, L2, C2, X2, cp2, tl2, q0, q1, q2, z0, hr, hw, hgc, hgs⟩
    exact ⟨w, List.Perm.refl _, cp2, tl2, ⟨A, X2, G, Mc, Y, O2, L2, C2, q0, rfl, q1⟩, q2, z0, hr, hw, hgc, hgs⟩
  · rintro E w gc gs ⟨O2, L2, C2, X2, cp2, tl2, q0, q1, q2, z0, hr, hw, hgc, hgs⟩
    exact ⟨w, List.Perm.refl _, cp2, tl2, ⟨A, X2, G, Mc, Y, O2, L2, C2, q0, rfl, q1⟩, q2, z0, hr, hw, hgc, hgs⟩


theorem a_costAnew (l : Launch) (dC : Nat → ClassId) (dI : Nat → Nat → Nat) (k : Nat → ClassId) (hl0 : l.stackTraces = false) (T : Nat → Int → Int → Int → Int) (K : Nat → Int → Int) (qa : Nat) (cp : Nat) (tl : va_W) (v : Int) (hPS : PS dI k T K qa cp tl) (hQ : OKT T K) (hrv : -2147483648 ≤ v ∧ v < 2147483648) : Kx l dC dI k yX11_costAnew (.code yX11_costAnew cX11_costAnew 2 (some .int)) ({ frames := 9, cells := (131072 - cp + 1), slots := (12 * (131072 - cp) + 6), locals := 205 } : Room) [.ref qa, .int (iI v)] ([] ++ tl) (fun r w gc gs => (∃ (cp2 : Nat) (tl2 : va_W), (PS dI k T K qa cp2 tl2) ∧ (cp ≤ cp2 ∧ cp2 ≤ 131072) ∧ ((0 ≤ v ∧ v ≤ 1)) ∧ r = some (.int (iI ((mkZ T (moC T v (dgN T v))) 0 1))) ∧ w = ([] ++ tl2) ∧ gc = (cp2 - cp) ∧ gs = (12 * (cp2 - cp)))) (fun E w gc gs => (∃ (cp2 : Nat) (tl2 : va_W), (PS dI k T K qa cp2 tl2) ∧ (cp ≤ cp2 ∧ cp2 ≤ 131072) ∧ (¬ ((0 ≤ v ∧ v ≤ 1))) ∧ E = "java/lang/IndexOutOfBoundsException" ∧ w = ([] ++ tl2) ∧ gc = (cp2 - cp + 1) ∧ gs = (12 * (cp2 - cp) + 6))) := by
  obtain ⟨A, X, G, Mc, Y, O, L, C, hPR, rfl, hL⟩ := hPS
  have K0 := k_costAnew l dC dI k hl0 T A X tl G Mc Y O L C K cp v hPR hQ.1 hL hQ.2.2.2 hrv
  refine kx_post K0 ?_ ?_
  · rintro r w gc gs ⟨O2, L2, C2, X2, cp2, tl2, q0, q1, q2, z0, hr, hw, hgc, hgs⟩
    exact ⟨w, List.Perm.refl _, cp2, tl2, ⟨A, X2, G, Mc, Y, O2, L2, C2, q0, rfl, q1⟩, q2, z0, hr, hw, hgc, hgs⟩
  · rintro E w gc gs ⟨O2, L2, C2, X2, cp2, tl2, q0, q1, q2, z0, hr, hw, hgc, hgs⟩
    exact ⟨w, List.Perm.refl _, cp2, tl2, ⟨A, X2, G, Mc, Y, O2, L2, C2, q0, rfl, q1⟩, q2, z0, hr, hw, hgc, hgs⟩


theorem a_columnWidth (l : Launch) (dC : Nat → ClassId) (dI : Nat → Nat → Nat) (k : Nat → ClassId) (hl0 : l.stackTraces = false) (T : Nat → Int → Int → Int → Int) (K : Nat → Int → Int) (qa : Nat) (cp : Nat) (tl : va_W) (pl : Int) (cc : Int) (hPS : PS dI k T K qa cp tl) (hQ : OKT T K) (hrpl : -2147483648 ≤ pl ∧ pl < 2147483648) (hrcc : -2147483648 ≤ cc ∧ cc < 2147483648) : Kx l dC dI k yX11_columnWidth (.code yX11_columnWidth cX11_columnWidth 4 (some .int)) ({ frames := 9, cells := (131072 - cp + 1), slots := (12 * (131072 - cp) + 6), locals := 146 } : Room) [.ref qa, .int (iI pl), .int (iI cc)] ([] ++ tl) (fun r w gc gs => (∃ (cp2 : Nat) (tl2 : va_W), (PS dI k T K qa cp2 tl2) ∧ (cp ≤ cp2 ∧ cp2 ≤ 131072) ∧ (((0 ≤ pl ∧ pl < T 0 0 0 0) ∧ T 1 pl 0 0 = 3) ∧ 0 ≤ cc ∧ cc < (ccZ (fun j9 : Int => T 9 pl j9 0) 12)) ∧ r = some (.int (iI ((fitZ (msW (fun j9 : Int => T 9 pl j9 0) (fun j9 : Int => T 10 pl j9 0) 3) (msW (fun j9 : Int => T 9 pl j9 0) (fun j9 : Int => T 11 pl j9 0) 3) (T 16 0 0 0)) cc))) ∧ w = ([] ++ tl2) ∧ gc = (cp2 - cp) ∧ gs = (12 * (cp2 - cp)))) (fun E w gc gs => (∃ (cp2 : Nat) (tl2 : va_W), (PS dI k T K qa cp2 tl2) ∧ (cp ≤ cp2 ∧ cp2 ≤ 131072) ∧ (¬ (((0 ≤ pl ∧ pl < T 0 0 0 0) ∧ T 1 pl 0 0 = 3) ∧ 0 ≤ cc ∧ cc < (ccZ (fun j9 : Int => T 9 pl j9 0) 12))) ∧ E = "java/lang/IndexOutOfBoundsException" ∧ w = ([] ++ tl2) ∧ gc = (cp2 - cp + 1) ∧ gs = (12 * (cp2 - cp) + 6))) := by
  obtain ⟨A, X, G, Mc, Y, O, L, C, hPR, rfl, hL⟩ := hPS
  have K0 := k_columnWidth l dC dI k hl0 T A X tl G Mc Y O L C K cp pl cc hPR hQ.1 hL hQ.2.2.2 hrpl hrcc
  refine kx_post K0 ?_ ?_
  · rintro r w gc gs ⟨O2, L2, C2, X2, cp2, tl2, q0, q1, q2, z0, hr, hw, hgc, hgs⟩
    exact ⟨w, List.Perm.refl _, cp2, tl2, ⟨A, X2, G, Mc, Y, O2, L2, C2, q0, rfl, q1⟩, q2, z0, hr, hw, hgc, hgs⟩
  · rintro E w gc gs ⟨O2, L2, C2, X2, cp2, tl2, q0, q1, q2, z0, hr, hw, hgc, hgs⟩
    exact ⟨w, List.Perm.refl _, cp2, tl2, ⟨A, X2, G, Mc, Y, O2, L2, C2, q0, rfl, q1⟩, q2, z0, hr, hw, hgc, hgs⟩


theorem a_rowHeight (l : Launch) (dC : Nat → ClassId) (dI : Nat → Nat → Nat) (k : Nat → ClassId) (hl0 : l.stackTraces = false) (T : Nat → Int → Int → Int → Int) (K : Nat → Int → Int) (qa : Nat) (cp : Nat) (tl : va_W) (pl : Int) (ro : Int) (hPS : PS dI k T K qa cp tl) (hQ : OKT T K) (hrpl : -2147483648 ≤ pl ∧ pl < 2147483648) (hrro : -2147483648 ≤ ro ∧ ro < 2147483648) : Kx l dC dI k yX11_rowHeight (.code yX11_rowHeight cX11_rowHeight 4 (some .int)) ({ frames := 9, cells := (131072 - cp + 1), slots := (12 * (131072 - cp) + 6), locals := 146 } : Room) [.ref qa, .int (iI pl), .int (iI ro)] ([] ++ tl) (fun r w gc gs => (∃ (cp2 : Nat) (tl2 : va_W), (PS dI k T K qa cp2 tl2) ∧ (cp ≤ cp2 ∧ cp2 ≤ 131072) ∧ (((0 ≤ pl ∧ pl < T 0 0 0 0) ∧ T 1 pl 0 0 = 3) ∧ 0 ≤ ro ∧ ro < rcT T pl) ∧ r = some (.int (iI (htT T pl ro))) ∧ w = ([] ++ tl2) ∧ gc = (cp2 - cp) ∧ gs = (12 * (cp2 - cp)))) (fun E w gc gs => (∃ (cp2 : Nat) (tl2 : va_W), (PS dI k T K qa cp2 tl2) ∧ (cp ≤ cp2 ∧ cp2 ≤ 131072) ∧ (¬ (((0 ≤ pl ∧ pl < T 0 0 0 0) ∧ T 1 pl 0 0 = 3) ∧ 0 ≤ ro ∧ ro < rcT T pl)) ∧ E = "java/lang/IndexOutOfBoundsException" ∧ w = ([] ++ tl2) ∧ gc = (cp2 - cp + 1) ∧ gs = (12 * (cp2 - cp) + 6))) := by
  obtain ⟨A, X, G, Mc, Y, O, L, C, hPR, rfl, hL⟩ := hPS
  have K0 := k_rowHeight l dC dI k hl0 T A X tl G Mc Y O L C K cp pl ro hPR hQ.1 hL hQ.2.2.2 hrpl hrro
  refine kx_post K0 ?_ ?_
  · rintro r w gc gs ⟨O2, L2, C2, X2, cp2, tl2, q0, q1, q2, z0, hr, hw, hgc, hgs⟩
    exact ⟨w, List.Perm.refl _, cp2, tl2, ⟨A, X2, G, Mc, Y, O2, L2, C2, q0, rfl, q1⟩, q2, z0, hr, hw, hgc, hgs⟩
  · rintro E w gc gs ⟨O2, L2, C2, X2, cp2, tl2, q0, q1, q2, z0, hr, hw, hgc, hgs⟩
    exact ⟨w, List.Perm.refl _, cp2, tl2, ⟨A, X2, G, Mc, Y, O2, L2, C2, q0, rfl, q1⟩, q2, z0, hr, hw, hgc, hgs⟩


theorem a_unspell (l : Launch) (dC : Nat → ClassId) (dI : Nat → Nat → Nat) (k : Nat → ClassId) (T : Nat → Int → Int → Int → Int) (K : Nat → Int → Int) (qa : Nat) (cp : Nat) (tl : va_W) (hPS : PS dI k T K qa cp tl) (hQ : OKT T K) : Kn l dC dI k yX11_unspell (.code yX11_unspell cX11_unspell 2 (some .int)) ({ frames := 0, cells := 0, slots := 0, locals := 0 } : Room) [.ref qa] ([] ++ tl) (fun r w gc gs => (∃ (tl2 : va_W), (PS dI k T (KKn 0 (K 1) (K 2)) qa cp tl2) ∧ r = some (.int (iI (K 0 0))) ∧ w = ([] ++ tl2) ∧ gc = 0 ∧ gs = 0)) := by
  obtain ⟨A, X, G, Mc, Y, O, L, C, hPR, rfl, hL⟩ := hPS
  have K0 := k_unspell l dC dI k T A X tl G Mc Y O L C K cp hPR hQ.1 hQ.2.1
  refine kn_post K0 ?_
  · rintro r w gc gs ⟨tl2, q0, hr, hw, hgc, hgs⟩
    exact ⟨w, List.Perm.refl _, tl2, ⟨A, X, G, Mc, Y, O, L, C, q0, rfl, hL⟩, hr, hw, hgc, hgs⟩


theorem a_spell (l : Launch) (dC : Nat → ClassId) (dI : Nat → Nat → Nat) (k : Nat → ClassId) (hl0 : l.stackTraces = false) (T : Nat → Int → Int → Int → Int) (K : Nat → Int → Int) (qa : Nat) (cp : Nat) (tl : va_W) (le : Int) (hPS : PS dI k T K qa cp tl) (hQ : OKT T K) (hrle : -2147483648 ≤ le ∧ le < 2147483648) : Kx l dC dI k yX11_spell (.code yX11_spell cX11_spell 2 (some .int)) ({ frames := 6, cells := 1, slots := 6, locals := 82 } : Room) [.ref qa, .int (iI le)] ([] ++ tl) (fun r w gc gs => (∃ (tl2 : va_W), (PS dI k T (KKn (K 0 0 + 1) (uz (K 1) (K 0 0) le) (K 2)) qa cp tl2) ∧ ((0 ≤ le ∧ le ≤ 3) ∧ K 0 0 < 6) ∧ r = some (.int (iI (K 0 0 + 1))) ∧ w = ([] ++ tl2) ∧ gc = 1 ∧ gs = 6)) (fun E w gc gs => ((¬ (0 ≤ le ∧ le ≤ 3)) ∧ E = "java/lang/IndexOutOfBoundsException" ∧ w = ([] ++ tl) ∧ gc = 1 ∧ gs = 6) ∨ (((0 ≤ le ∧ le ≤ 3) ∧ ¬ K 0 0 < 6) ∧ E = "java/lang/IllegalStateException" ∧ w = ([] ++ tl) ∧ gc = 1 ∧ gs = 6)) := by
  obtain ⟨A, X, G, Mc, Y, O, L, C, hPR, rfl, hL⟩ := hPS
  have K0 := k_spell l dC dI k hl0 T A X tl G Mc Y O L C K cp le hPR hQ.1 hQ.2.1 hrle
  refine kx_post K0 ?_ ?_
  · rintro r w gc gs ⟨tl2, q0, z0, hr, hw, hgc, hgs⟩
    exact ⟨w, List.Perm.refl _, tl2, ⟨A, X, G, Mc, Y, O, L, C, q0, rfl, hL⟩, z0, hr, hw, hgc, hgs⟩
  · exact fun E w gc gs h => ⟨w, List.Perm.refl _, h⟩


theorem a_mark (l : Launch) (dC : Nat → ClassId) (dI : Nat → Nat → Nat) (k : Nat → ClassId) (hl0 : l.stackTraces = false) (T : Nat → Int → Int → Int → Int) (K : Nat → Int → Int) (qa : Nat) (cp : Nat) (tl : va_W) (wt : Int) (va : Int) (hPS : PS dI k T K qa cp tl) (hQ : OKT T K) (hrwt : -2147483648 ≤ wt ∧ wt < 2147483648) (hrva : -2147483648 ≤ va ∧ va < 2147483648) : Kx l dC dI k yX11_mark (.code yX11_mark cX11_mark 4 (some .int)) ({ frames := 6, cells := 1, slots := 6, locals := 82 } : Room) [.ref qa, .int (iI wt), .int (iI va)] ([] ++ tl) (fun r w gc gs => (∃ (tl2 : va_W), (PS dI k T (KKn (K 0 0) (K 1) (uz (K 2) wt va)) qa cp tl2) ∧ ((0 ≤ wt ∧ wt ≤ 4) ∧ (va = -1 ∨ (lmZ wt ≤ va ∧ va ≤ mmZ T wt))) ∧ r = some (.int (iI (K 2 wt))) ∧ w = ([] ++ tl2) ∧ gc = 1 ∧ gs = 6)) (fun E w gc gs => ((¬ (0 ≤ wt ∧ wt ≤ 4)) ∧ E = "java/lang/IndexOutOfBoundsException" ∧ w = ([] ++ tl) ∧ gc = 1 ∧ gs = 6) ∨ (((0 ≤ wt ∧ wt ≤ 4) ∧ ¬ (va = -1 ∨ (lmZ wt ≤ va ∧ va ≤ mmZ T wt))) ∧ E = "java/lang/IllegalArgumentException" ∧ w = ([] ++ tl) ∧ gc = 1 ∧ gs = 6)) := by
  obtain ⟨A, X, G, Mc, Y, O, L, C, hPR, rfl, hL⟩ := hPS
  have K0 := k_mark2 l dC dI k hl0 T A X tl G Mc Y O L C K cp wt va hPR hQ.1 hQ.2.1 hrwt hrva
  refine kx_post K0 ?_ ?_
  · rintro r w gc gs ⟨tl2, q0, z0, hr, hw, hgc, hgs⟩
    exact ⟨w, List.Perm.refl _, tl2, ⟨A, X, G, Mc, Y, O, L, C, q0, rfl, hL⟩, z0, hr, hw, hgc, hgs⟩
  · exact fun E w gc gs h => ⟨w, List.Perm.refl _, h⟩


theorem a_key (l : Launch) (dC : Nat → ClassId) (dI : Nat → Nat → Nat) (k : Nat → ClassId) (hl0 : l.stackTraces = false) (T : Nat → Int → Int → Int → Int) (K : Nat → Int → Int) (qa : Nat) (cp : Nat) (tl : va_W) (te : Int) (ky_ : Int) (hPS : PS dI k T K qa cp tl) (hQ : OKT T K) (hrte : -2147483648 ≤ te ∧ te < 2147483648) (hrky_ : -2147483648 ≤ ky_ ∧ ky_ < 2147483648) : Kx l dC dI k yX11_key (.code yX11_key cX11_key 4 (some .int)) ({ frames := 7, cells := 1, slots := 6, locals := 102 } : Room) [.ref qa, .int (iI te), .int (iI ky_)] ([] ++ tl) (fun r w gc gs => (∃ (tl2 : va_W), (PS dI k (kyT T te ky_) K qa cp tl2) ∧ ((0 ≤ te ∧ te ≤ 7) ∧ 0 ≤ ky_ ∧ ky_ ≤ 999) ∧ r = some (.int (iI (T 15 te 0 0))) ∧ w = ([] ++ tl2) ∧ gc = 1 ∧ gs = 6)) (fun E w gc gs => ((¬ (0 ≤ te ∧ te ≤ 7)) ∧ E = "java/lang/IndexOutOfBoundsException" ∧ w = ([] ++ tl) ∧ gc = 1 ∧ gs = 6) ∨ (((0 ≤ te ∧ te ≤ 7) ∧ ¬ (0 ≤ ky_ ∧ ky_ ≤ 999)) ∧ E = "java/lang/IllegalArgumentException" ∧ w = ([] ++ tl) ∧ gc = 1 ∧ gs = 6)) := by
  obtain ⟨A, X, G, Mc, Y, O, L, C, hPR, rfl, hL⟩ := hPS
  have K0 := k_key l dC dI k hl0 T A X tl G Mc Y O L C K cp te ky_ hPR hQ.1 hQ.2.1 hrte hrky_
  refine kx_post K0 ?_ ?_
  · rintro r w gc gs ⟨tl2, q0, z0, hr, hw, hgc, hgs⟩
    exact ⟨w, List.Perm.refl _, tl2, ⟨A, X, G, Mc, Y, O, L, C, q0, rfl, (fun u a b => LSq_ky (hL u a b))⟩, z0, hr, hw, hgc, hgs⟩
  · exact fun E w gc gs h => ⟨w, List.Perm.refl _, h⟩


theorem a_paper (l : Launch) (dC : Nat → ClassId) (dI : Nat → Nat → Nat) (k : Nat → ClassId) (hl0 : l.stackTraces = false) (T : Nat → Int → Int → Int → Int) (K : Nat → Int → Int) (qa : Nat) (cp : Nat) (tl : va_W) (wi : Int) (he_ : Int) (hPS : PS dI k T K qa cp tl) (hQ : OKT T K) (hrwi : -2147483648 ≤ wi ∧ wi < 2147483648) (hrhe_ : -2147483648 ≤ he_ ∧ he_ < 2147483648) : Kx l dC dI k yX11_paper (.code yX11_paper cX11_paper 4 (some .int)) ({ frames := 6, cells := 1, slots := 6, locals := 82 } : Room) [.ref qa, .int (iI wi), .int (iI he_)] ([] ++ tl) (fun r w gc gs => (∃ (tl2 : va_W), (PS dI k (paT T wi he_) K qa cp tl2) ∧ ((30 ≤ wi ∧ wi ≤ 120) ∧ 6 ≤ he_ ∧ he_ ≤ 40) ∧ r = some (.int (iI (T 16 0 0 0))) ∧ w = ([] ++ tl2) ∧ gc = 1 ∧ gs = 6)) (fun E w gc gs => ((¬ ((30 ≤ wi ∧ wi ≤ 120) ∧ 6 ≤ he_ ∧ he_ ≤ 40)) ∧ E = "java/lang/IllegalArgumentException" ∧ w = ([] ++ tl) ∧ gc = 1 ∧ gs = 6)) := by
  obtain ⟨A, X, G, Mc, Y, O, L, C, hPR, rfl, hL⟩ := hPS
  have K0 := k_paper l dC dI k hl0 T A X tl G Mc Y O L C K cp wi he_ hPR hQ.1 hQ.2.1 hrwi hrhe_
  refine kx_post K0 ?_ ?_
  · rintro r w gc gs ⟨L2, tl2, q0, z0, z1, hr, hw, hgc, hgs⟩
    exact ⟨w, List.Perm.refl _, tl2, ⟨A, X, G, Mc, Y, O, L2, C, q0, rfl, (fun u a b => Or.inl (z1 u a b))⟩, z0, hr, hw, hgc, hgs⟩
  · exact fun E w gc gs h => ⟨w, List.Perm.refl _, h⟩


theorem a_figure (l : Launch) (dC : Nat → ClassId) (dI : Nat → Nat → Nat) (k : Nat → ClassId) (hl0 : l.stackTraces = false) (T : Nat → Int → Int → Int → Int) (K : Nat → Int → Int) (qa : Nat) (cp : Nat) (tl : va_W) (ki : Int) (he_ : Int) (hPS : PS dI k T K qa cp tl) (hQ : OKT T K) (hrki : -2147483648 ≤ ki ∧ ki < 2147483648) (hrhe_ : -2147483648 ≤ he_ ∧ he_ < 2147483648) : Kx l dC dI k yX11_figure (.code yX11_figure cX11_figure 4 (some .int)) ({ frames := 6, cells := 1, slots := 6, locals := 82 } : Room) [.ref qa, .int (iI ki), .int (iI he_)] ([] ++ tl) (fun r w gc gs => (∃ (tl2 : va_W), (PS dI k (fiT T ki he_) K qa cp tl2) ∧ (((0 ≤ ki ∧ ki ≤ 1) ∧ 1 ≤ he_ ∧ he_ ≤ 40) ∧ T 12 0 0 0 < 5) ∧ r = some (.int (iI (T 12 0 0 0))) ∧ w = ([] ++ tl2) ∧ gc = 1 ∧ gs = 6)) (fun E w gc gs => ((¬ ((0 ≤ ki ∧ ki ≤ 1) ∧ 1 ≤ he_ ∧ he_ ≤ 40)) ∧ E = "java/lang/IllegalArgumentException" ∧ w = ([] ++ tl) ∧ gc = 1 ∧ gs = 6) ∨ ((((0 ≤ ki ∧ ki ≤ 1) ∧ 1 ≤ he_ ∧ he_ ≤ 40) ∧ ¬ T 12 0 0 0 < 5) ∧ E = "java/lang/IllegalStateException" ∧ w = ([] ++ tl) ∧ gc = 1 ∧ gs = 6)) := by
  obtain ⟨A, X, G, Mc, Y, O, L, C, hPR, rfl, hL⟩ := hPS
  have K0 := k_figure l dC dI k hl0 T A X tl G Mc Y O L C K cp ki he_ hPR hQ.1 hQ.2.1 hrki hrhe_
  refine kx_post K0 ?_ ?_
  · rintro r w gc gs ⟨L2, tl2, q0, z0, z1, hr, hw, hgc, hgs⟩
    exact ⟨w, List.Perm.refl _, tl2, ⟨A, X, G, Mc, Y, O, L2, C, q0, rfl, (fun u a b => Or.inl (z1 u a b))⟩, z0, hr, hw, hgc, hgs⟩
  · exact fun E w gc gs h => ⟨w, List.Perm.refl _, h⟩


theorem a_style (l : Launch) (dC : Nat → ClassId) (dI : Nat → Nat → Nat) (k : Nat → ClassId) (hl0 : l.stackTraces = false) (T : Nat → Int → Int → Int → Int) (K : Nat → Int → Int) (qa : Nat) (cp : Nat) (tl : va_W) (pl : Int) (st_ : Int) (va : Int) (hPS : PS dI k T K qa cp tl) (hQ : OKT T K) (hrpl : -2147483648 ≤ pl ∧ pl < 2147483648) (hrst_ : -2147483648 ≤ st_ ∧ st_ < 2147483648) (hrva : -2147483648 ≤ va ∧ va < 2147483648) : Kx l dC dI k yX11_style (.code yX11_style cX11_style 6 (some .int)) ({ frames := 8, cells := 1, slots := 6, locals := 124 } : Room) [.ref qa, .int (iI pl), .int (iI st_), .int (iI va)] ([] ++ tl) (fun r w gc gs => (∃ (tl2 : va_W), (PS dI k (stT T pl st_ va) K qa cp tl2) ∧ ((0 ≤ pl ∧ pl < T 0 0 0 0) ∧ (0 ≤ st_ ∧ st_ ≤ 6) ∧ (lsZ st_ ≤ va ∧ va ≤ msZ st_)) ∧ r = some (.int (iI (T 2 pl st_ 0))) ∧ w = ([] ++ tl2) ∧ gc = 1 ∧ gs = 6)) (fun E w gc gs => ((¬ ((0 ≤ pl ∧ pl < T 0 0 0 0) ∧ (0 ≤ st_ ∧ st_ ≤ 6))) ∧ E = "java/lang/IndexOutOfBoundsException" ∧ w = ([] ++ tl) ∧ gc = 1 ∧ gs = 6) ∨ (((0 ≤ pl ∧ pl < T 0 0 0 0) ∧ (0 ≤ st_ ∧ st_ ≤ 6) ∧ ¬ (lsZ st_ ≤ va ∧ va ≤ msZ st_)) ∧ E = "java/lang/IllegalArgumentException" ∧ w = ([] ++ tl) ∧ gc = 1 ∧ gs = 6)) := by
  obtain ⟨A, X, G, Mc, Y, O, L, C, hPR, rfl, hL⟩ := hPS
  have K0 := k_style l dC dI k hl0 T A X tl G Mc Y O L C K cp pl st_ va hPR hQ.1 hQ.2.1 hrpl hrst_ hrva
  refine kx_post K0 ?_ ?_
  · rintro r w gc gs ⟨L2, tl2, q0, z0, z1, hr, hw, hgc, hgs⟩
    exact ⟨w, List.Perm.refl _, tl2, ⟨A, X, G, Mc, Y, O, L2, C, q0, rfl, (fun u a b => Or.inl (z1 u a b))⟩, z0, hr, hw, hgc, hgs⟩
  · exact fun E w gc gs h => ⟨w, List.Perm.refl _, h⟩


theorem a_cell (l : Launch) (dC : Nat → ClassId) (dI : Nat → Nat → Nat) (k : Nat → ClassId) (hl0 : l.stackTraces = false) (T : Nat → Int → Int → Int → Int) (K : Nat → Int → Int) (qa : Nat) (cp : Nat) (tl : va_W) (pl : Int) (ro : Int) (co : Int) (sn : Int) (le : Int) (be : Int) (hPS : PS dI k T K qa cp tl) (hQ : OKT T K) (hrpl : -2147483648 ≤ pl ∧ pl < 2147483648) (hrro : -2147483648 ≤ ro ∧ ro < 2147483648) (hrco : -2147483648 ≤ co ∧ co < 2147483648) (hrsn : -2147483648 ≤ sn ∧ sn < 2147483648) (hrle : -2147483648 ≤ le ∧ le < 2147483648) (hrbe : -2147483648 ≤ be ∧ be < 2147483648) : Kx l dC dI k yX11_cell (.code yX11_cell cX11_cell 8 (some .int)) ({ frames := 8, cells := 1, slots := 6, locals := 124 } : Room) [.ref qa, .int (iI pl), .int (iI ro), .int (iI co), .int (iI sn), .int (iI le), .int (iI be)] ([] ++ tl) (fun r w gc gs => (∃ (tl2 : va_W), (PS dI k (teT T pl ((ro * 3) + co) sn le be) K qa cp tl2) ∧ ((0 ≤ pl ∧ pl < T 0 0 0 0) ∧ ((0 ≤ ro ∧ ro ≤ 3) ∧ (0 ≤ co ∧ co ≤ 2) ∧ 1 ≤ sn ∧ sn ≤ 3 - co) ∧ ((0 ≤ le ∧ le ≤ 60) ∧ le ≤ be ∧ be ≤ 200) ∧ T 1 pl 0 0 = 3) ∧ r = some (.int (iI (rcT (teT T pl ((ro * 3) + co) sn le be) pl))) ∧ w = ([] ++ tl2) ∧ gc = 1 ∧ gs = 6)) (fun E w gc gs => ((¬ (0 ≤ pl ∧ pl < T 0 0 0 0)) ∧ E = "java/lang/IndexOutOfBoundsException" ∧ w = ([] ++ tl) ∧ gc = 1 ∧ gs = 6) ∨ (((0 ≤ pl ∧ pl < T 0 0 0 0) ∧ ¬ (((0 ≤ ro ∧ ro ≤ 3) ∧ (0 ≤ co ∧ co ≤ 2) ∧ 1 ≤ sn ∧ sn ≤ 3 - co) ∧ ((0 ≤ le ∧ le ≤ 60) ∧ le ≤ be ∧ be ≤ 200))) ∧ E = "java/lang/IllegalArgumentException" ∧ w = ([] ++ tl) ∧ gc = 1 ∧ gs = 6) ∨ (((0 ≤ pl ∧ pl < T 0 0 0 0) ∧ ((0 ≤ ro ∧ ro ≤ 3) ∧ (0 ≤ co ∧ co ≤ 2) ∧ 1 ≤ sn ∧ sn ≤ 3 - co) ∧ ((0 ≤ le ∧ le ≤ 60) ∧ le ≤ be ∧ be ≤ 200) ∧ ¬ T 1 pl 0 0 = 3) ∧ E = "java/lang/IllegalStateException" ∧ w = ([] ++ tl) ∧ gc = 1 ∧ gs = 6)) := by
  obtain ⟨A, X, G, Mc, Y, O, L, C, hPR, rfl, hL⟩ := hPS
  have K0 := k_cell l dC dI k hl0 T A X tl G Mc Y O L C K cp pl ro co sn le be hPR hQ.1 hQ.2.1 hrpl hrro hrco hrsn hrle hrbe
  refine kx_post K0 ?_ ?_
  · rintro r w gc gs ⟨L2, tl2, q0, z0, z1, hr, hw, hgc, hgs⟩
    exact ⟨w, List.Perm.refl _, tl2, ⟨A, X, G, Mc, Y, O, L2, C, q0, rfl, (fun u a b => Or.inl (z1 u a b))⟩, z0, hr, hw, hgc, hgs⟩
  · exact fun E w gc gs h => ⟨w, List.Perm.refl _, h⟩


theorem a_take (l : Launch) (dC : Nat → ClassId) (dI : Nat → Nat → Nat) (k : Nat → ClassId) (hl0 : l.stackTraces = false) (T : Nat → Int → Int → Int → Int) (K : Nat → Int → Int) (qa : Nat) (cp : Nat) (tl : va_W) (pl : Int) (at_ : Int) (hPS : PS dI k T K qa cp tl) (hQ : OKT T K) (hrpl : -2147483648 ≤ pl ∧ pl < 2147483648) (hrat_ : -2147483648 ≤ at_ ∧ at_ < 2147483648) : Kx l dC dI k yX11_take (.code yX11_take cX11_take 4 (some .int)) ({ frames := 13, cells := 1, slots := 40, locals := 423 } : Room) [.ref qa, .int (iI pl), .int (iI at_)] ([] ++ tl) (fun r w gc gs => (∃ (tl2 : va_W), (PS dI k (tkT T pl at_) K qa cp tl2) ∧ ((0 ≤ pl ∧ pl < T 0 0 0 0) ∧ 0 ≤ at_ ∧ at_ < T 3 pl 0 0) ∧ r = some (.int (iI (T 3 pl 0 0 - 1))) ∧ w = ([] ++ tl2) ∧ gc = 1 ∧ gs = 40)) (fun E w gc gs => ((¬ ((0 ≤ pl ∧ pl < T 0 0 0 0) ∧ 0 ≤ at_ ∧ at_ < T 3 pl 0 0)) ∧ E = "java/lang/IndexOutOfBoundsException" ∧ w = ([] ++ tl) ∧ gc = 1 ∧ gs = 6)) := by
  obtain ⟨A, X, G, Mc, Y, O, L, C, hPR, rfl, hL⟩ := hPS
  have K0 := k_take l dC dI k hl0 T A X tl G Mc Y O L C K cp pl at_ hPR hQ.1 hQ.2.1 hrpl hrat_
  refine kx_post K0 ?_ ?_
  · rintro r w gc gs ⟨L2, e2, c2, tl2, q0, z0, z1, hr, hw, hgc, hgs⟩
    exact ⟨w, List.Perm.refl _, tl2, ⟨(tkA A pl at_ e2), X, (upG G 1 pl c2), (upM Mc 1 pl (Mc 1 pl + 1)), Y, O, L2, C, q0, rfl, (fun u a b => Or.inl (z1 u a b))⟩, z0, hr, hw, hgc, hgs⟩
  · exact fun E w gc gs h => ⟨w, List.Perm.refl _, h⟩


theorem a_word (l : Launch) (dC : Nat → ClassId) (dI : Nat → Nat → Nat) (k : Nat → ClassId) (hl0 : l.stackTraces = false) (T : Nat → Int → Int → Int → Int) (K : Nat → Int → Int) (qa : Nat) (cp : Nat) (tl : va_W) (pl : Int) (at_ : Int) (hPS : PS dI k T K qa cp tl) (hQ : OKT T K) (hrpl : -2147483648 ≤ pl ∧ pl < 2147483648) (hrat_ : -2147483648 ≤ at_ ∧ at_ < 2147483648) : Kx l dC dI k yX11_word (.code yX11_word cX11_word 5 (some .int)) ({ frames := 14, cells := 4, slots := 60, locals := 447 } : Room) [.ref qa, .int (iI pl), .int (iI at_)] ([] ++ tl) (fun r w gc gs => (∃ (gq : Nat) (tl2 : va_W), (PS dI k (puT T pl at_ (Int.toNat (K 0 0)) (spF K) (-1) (K 2) (gsZ T (spF K) ((Int.toNat (K 0 0) : Nat) : Int))) (KKn 0 (K 1) (fun _ : Int => (-1))) qa cp tl2) ∧ (((0 ≤ pl ∧ pl < T 0 0 0 0) ∧ 0 ≤ at_ ∧ at_ ≤ T 3 pl 0 0) ∧ (T 1 pl 0 0 ≤ 2 ∧ T 3 pl 0 0 < 12) ∧ 0 < K 0 0) ∧ (gq ≤ 60) ∧ r = some (.int (iI (T 3 pl 0 0 + 1))) ∧ w = ([] ++ tl2) ∧ gc = 4 ∧ gs = (gq + 0))) (fun E w gc gs => ((¬ ((0 ≤ pl ∧ pl < T 0 0 0 0) ∧ 0 ≤ at_ ∧ at_ ≤ T 3 pl 0 0)) ∧ E = "java/lang/IndexOutOfBoundsException" ∧ w = ([] ++ tl) ∧ gc = 1 ∧ gs = 6) ∨ ((((0 ≤ pl ∧ pl < T 0 0 0 0) ∧ 0 ≤ at_ ∧ at_ ≤ T 3 pl 0 0) ∧ ¬ ((T 1 pl 0 0 ≤ 2 ∧ T 3 pl 0 0 < 12) ∧ 0 < K 0 0)) ∧ E = "java/lang/IllegalStateException" ∧ w = ([] ++ tl) ∧ gc = 1 ∧ gs = 6)) := by
  obtain ⟨A, X, G, Mc, Y, O, L, C, hPR, rfl, hL⟩ := hPS
  have K0 := k_word l dC dI k hl0 T A X tl G Mc Y O L C K cp pl at_ hPR hQ.1 hQ.2.1 hrpl hrat_ hQ.2.2.1
  refine kx_post K0 ?_ ?_
  · rintro r w gc gs ⟨L2, e2, c2, v9, la_, ma, gq, tl2, q0, z0, z1, z2, hr, hw, hgc, hgs⟩
    exact ⟨w, List.Perm.refl _, gq, tl2, ⟨(puA A pl at_ v9 la_ ma e2), X, (upG G 1 pl c2), (upM Mc 1 pl (Mc 1 pl + 1)), Y, O, L2, C, q0, rfl, (fun u a b => Or.inl (z0 u a b))⟩, z1, z2, hr, hw, hgc, hgs⟩
  · exact fun E w gc gs h => ⟨w, List.Perm.refl _, h⟩


theorem a_reference (l : Launch) (dC : Nat → ClassId) (dI : Nat → Nat → Nat) (k : Nat → ClassId) (hl0 : l.stackTraces = false) (T : Nat → Int → Int → Int → Int) (K : Nat → Int → Int) (qa : Nat) (cp : Nat) (tl : va_W) (pl : Int) (at_ : Int) (lab : Int) (hPS : PS dI k T K qa cp tl) (hQ : OKT T K) (hrpl : -2147483648 ≤ pl ∧ pl < 2147483648) (hrat_ : -2147483648 ≤ at_ ∧ at_ < 2147483648) (hrlab : -2147483648 ≤ lab ∧ lab < 2147483648) : Kx l dC dI k yX11_reference (.code yX11_reference cX11_reference 5 (some .int)) ({ frames := 14, cells := 4, slots := 60, locals := 447 } : Room) [.ref qa, .int (iI pl), .int (iI at_), .int (iI lab)] ([] ++ tl) (fun r w gc gs => (∃ (gq : Nat) (tl2 : va_W), (PS dI k (puT T pl at_ 0 (fun _ : Int => (0 : Int)) lab (K 2) (gsZ T (fun _ : Int => (0 : Int)) ((0 : Nat) : Int))) (KKn (K 0 0) (K 1) (fun _ : Int => (-1))) qa cp tl2) ∧ ((((0 ≤ pl ∧ pl < T 0 0 0 0) ∧ 0 ≤ at_ ∧ at_ ≤ T 3 pl 0 0) ∧ (0 ≤ lab ∧ lab ≤ 5)) ∧ (T 1 pl 0 0 ≤ 2 ∧ T 3 pl 0 0 < 12)) ∧ (gq ≤ 60) ∧ r = some (.int (iI (T 3 pl 0 0 + 1))) ∧ w = ([] ++ tl2) ∧ gc = 4 ∧ gs = (gq + 0))) (fun E w gc gs => ((¬ (((0 ≤ pl ∧ pl < T 0 0 0 0) ∧ 0 ≤ at_ ∧ at_ ≤ T 3 pl 0 0) ∧ (0 ≤ lab ∧ lab ≤ 5))) ∧ E = "java/lang/IndexOutOfBoundsException" ∧ w = ([] ++ tl) ∧ gc = 1 ∧ gs = 6) ∨ (((((0 ≤ pl ∧ pl < T 0 0 0 0) ∧ 0 ≤ at_ ∧ at_ ≤ T 3 pl 0 0) ∧ (0 ≤ lab ∧ lab ≤ 5)) ∧ ¬ (T 1 pl 0 0 ≤ 2 ∧ T 3 pl 0 0 < 12)) ∧ E = "java/lang/IllegalStateException" ∧ w = ([] ++ tl) ∧ gc = 1 ∧ gs = 6)) := by
  obtain ⟨A, X, G, Mc, Y, O, L, C, hPR, rfl, hL⟩ := hPS
  have K0 := k_reference l dC dI k hl0 T A X tl G Mc Y O L C K cp pl at_ lab hPR hQ.1 hQ.2.1 hrpl hrat_ hrlab
  refine kx_post K0 ?_ ?_
  · rintro r w gc gs ⟨L2, e2, c2, v9, la_, ma, gq, tl2, q0, z0, z1, z2, hr, hw, hgc, hgs⟩
    exact ⟨w, List.Perm.refl _, gq, tl2, ⟨(puA A pl at_ v9 la_ ma e2), X, (upG G 1 pl c2), (upM Mc 1 pl (Mc 1 pl + 1)), Y, O, L2, C, q0, rfl, (fun u a b => Or.inl (z0 u a b))⟩, z1, z2, hr, hw, hgc, hgs⟩
  · exact fun E w gc gs h => ⟨w, List.Perm.refl _, h⟩


theorem a_remove (l : Launch) (dC : Nat → ClassId) (dI : Nat → Nat → Nat) (k : Nat → ClassId) (hl0 : l.stackTraces = false) (T : Nat → Int → Int → Int → Int) (K : Nat → Int → Int) (qa : Nat) (cp : Nat) (tl : va_W) (pl : Int) (hPS : PS dI k T K qa cp tl) (hQ : OKT T K) (hrpl : -2147483648 ≤ pl ∧ pl < 2147483648) : Kx l dC dI k yX11_remove (.code yX11_remove cX11_remove 2 (some .int)) ({ frames := 13, cells := 1, slots := 40, locals := 423 } : Room) [.ref qa, .int (iI pl)] ([] ++ tl) (fun r w gc gs => (∃ (tl2 : va_W), (PS dI k (rbT T pl) K qa cp tl2) ∧ ((0 ≤ pl ∧ pl < T 0 0 0 0)) ∧ r = some (.int (iI (T 0 0 0 0 - 1))) ∧ w = ([] ++ tl2) ∧ gc = 1 ∧ gs = 40)) (fun E w gc gs => ((¬ (0 ≤ pl ∧ pl < T 0 0 0 0)) ∧ E = "java/lang/IndexOutOfBoundsException" ∧ w = ([] ++ tl) ∧ gc = 1 ∧ gs = 6)) := by
  obtain ⟨A, X, G, Mc, Y, O, L, C, hPR, rfl, hL⟩ := hPS
  have K0 := k_remove_ l dC dI k hl0 T A X tl G Mc Y O L C K cp pl hPR hQ.1 hQ.2.1 hrpl
  refine kx_post K0 ?_ ?_
  · rintro r w gc gs ⟨L2, e2, c2, tl2, q0, z0, z1, hr, hw, hgc, hgs⟩
    exact ⟨w, List.Perm.refl _, tl2, ⟨(rbA A pl e2), (rbX X pl), (rbG G pl c2), (rbM Mc pl), Y, O, L2, C, q0, rfl, (fun u a b => Or.inl (z1 u a b))⟩, z0, hr, hw, hgc, hgs⟩
  · exact fun E w gc gs h => ⟨w, List.Perm.refl _, h⟩


theorem a_block (l : Launch) (dC : Nat → ClassId) (dI : Nat → Nat → Nat) (k : Nat → ClassId) (hl0 : l.stackTraces = false) (T : Nat → Int → Int → Int → Int) (K : Nat → Int → Int) (qa : Nat) (cp : Nat) (tl : va_W) (pl : Int) (kd : Int) (hPS : PS dI k T K qa cp tl) (hQ : OKT T K) (hrpl : -2147483648 ≤ pl ∧ pl < 2147483648) (hrkd : -2147483648 ≤ kd ∧ kd < 2147483648) : Kx l dC dI k yX11_block (.code yX11_block cX11_block 3 (some .int)) ({ frames := 13, cells := 12, slots := 110, locals := 424 } : Room) [.ref qa, .int (iI pl), .int (iI kd)] ([] ++ tl) (fun r w gc gs => (∃ (gr : Nat) (gq : Nat) (tl2 : va_W), (PS dI k (ibT T pl kd) K qa cp tl2) ∧ ((0 ≤ pl ∧ pl ≤ T 0 0 0 0) ∧ (0 ≤ kd ∧ kd ≤ 6) ∧ T 0 0 0 0 < 16) ∧ (gr ≤ 12) ∧ (gq ≤ 110) ∧ r = some (.int (iI (T 0 0 0 0 + 1))) ∧ w = ([] ++ tl2) ∧ gc = (gr + 0) ∧ gs = (gq + 0))) (fun E w gc gs => ((¬ (0 ≤ pl ∧ pl ≤ T 0 0 0 0)) ∧ E = "java/lang/IndexOutOfBoundsException" ∧ w = ([] ++ tl) ∧ gc = 1 ∧ gs = 6) ∨ (((0 ≤ pl ∧ pl ≤ T 0 0 0 0) ∧ ¬ (0 ≤ kd ∧ kd ≤ 6)) ∧ E = "java/lang/IllegalArgumentException" ∧ w = ([] ++ tl) ∧ gc = 1 ∧ gs = 6) ∨ (((0 ≤ pl ∧ pl ≤ T 0 0 0 0) ∧ (0 ≤ kd ∧ kd ≤ 6) ∧ ¬ T 0 0 0 0 < 16) ∧ E = "java/lang/IllegalStateException" ∧ w = ([] ++ tl) ∧ gc = 1 ∧ gs = 6)) := by
  obtain ⟨A, X, G, Mc, Y, O, L, C, hPR, rfl, hL⟩ := hPS
  have K0 := k_block l dC dI k hl0 T A X tl G Mc Y O L C K cp pl kd hPR hQ.1 hQ.2.1 hrpl hrkd
  refine kx_post K0 ?_ ?_
  · rintro r w gc gs ⟨L2, b9, st9, wl9, tb9, s9f, e2, c2, gr, gq, tl2, q0, z0, z1, z2, z3, hr, hw, hgc, hgs⟩
    exact ⟨w, List.Perm.refl _, gr, gq, tl2, ⟨(ibA A pl b9 st9 wl9 tb9 (dI 99 1) s9f e2), (ibX X pl), (ibG G pl c2), (ibM Mc pl), Y, O, L2, C, q0, rfl, (fun u a b => Or.inl (z0 u a b))⟩, z1, z2, z3, hr, hw, hgc, hgs⟩
  · exact fun E w gc gs h => ⟨w, List.Perm.refl _, h⟩


theorem a_pattern (l : Launch) (dC : Nat → ClassId) (dI : Nat → Nat → Nat) (k : Nat → ClassId) (hl0 : l.stackTraces = false) (T : Nat → Int → Int → Int → Int) (K : Nat → Int → Int) (qa : Nat) (cp : Nat) (tl : va_W) (gp : Int) (lv_ : Int) (hPS : PS dI k T K qa cp tl) (hQ : OKT T K) (hrgp : -2147483648 ≤ gp ∧ gp < 2147483648) (hrlv_ : -2147483648 ≤ lv_ ∧ lv_ < 2147483648) : Kx l dC dI k yX11_pattern (.code yX11_pattern cX11_pattern 3 (some .int)) ({ frames := 14, cells := 3, slots := 50, locals := 446 } : Room) [.ref qa, .int (iI gp), .int (iI lv_)] ([] ++ tl) (fun r w gc gs => (∃ (gq : Nat) (tl2 : va_W), (PS dI k (gpT (apT T (Int.toNat (K 0 0)) (spF K) gp lv_) (T 0 0 0 0) 0) (KKn 0 (K 1) (K 2)) qa cp tl2) ∧ (((0 ≤ gp ∧ gp ≤ K 0 0) ∧ 1 ≤ lv_ ∧ lv_ ≤ 5) ∧ ((0 < K 0 0 ∧ K 0 0 ≤ 3) ∧ T 18 0 0 0 < 8)) ∧ (gq ≤ 50) ∧ r = some (.int (iI (T 18 0 0 0 + 1))) ∧ w = ([] ++ tl2) ∧ gc = 3 ∧ gs = (gq + 0))) (fun E w gc gs => ((¬ ((0 ≤ gp ∧ gp ≤ K 0 0) ∧ 1 ≤ lv_ ∧ lv_ ≤ 5)) ∧ E = "java/lang/IllegalArgumentException" ∧ w = ([] ++ tl) ∧ gc = 1 ∧ gs = 6) ∨ ((((0 ≤ gp ∧ gp ≤ K 0 0) ∧ 1 ≤ lv_ ∧ lv_ ≤ 5) ∧ ¬ ((0 < K 0 0 ∧ K 0 0 ≤ 3) ∧ T 18 0 0 0 < 8)) ∧ E = "java/lang/IllegalStateException" ∧ w = ([] ++ tl) ∧ gc = 1 ∧ gs = 6)) := by
  obtain ⟨A, X, G, Mc, Y, O, L, C, hPR, rfl, hL⟩ := hPS
  have K0 := k_pattern l dC dI k hl0 T A X tl G Mc Y O L C K cp gp lv_ hPR hQ.1 hQ.2.1 hrgp hrlv_
  refine kx_post K0 ?_ ?_
  · rintro r w gc gs ⟨L2, p9, le_, e2, c2, gq, tl2, q0, z0, z1, z2, hr, hw, hgc, hgs⟩
    exact ⟨w, List.Perm.refl _, gq, tl2, ⟨(apA A (T 18 0 0 0) p9 le_ e2), X, (upG G 2 0 c2), (upM Mc 2 0 (Mc 2 0 + 1)), Y, O, L2, C, q0, rfl, (fun u a b => Or.inl (z0 u a b))⟩, z1, z2, hr, hw, hgc, hgs⟩
  · exact fun E w gc gs h => ⟨w, List.Perm.refl _, h⟩


end
