section
section TKT
variable {T : Nat → Int → Int → Int → Int}
theorem tkT_o {i a j : Int} {c : Nat} (e : ¬ j = i) : tkT T i a c j = T c j := if_neg (fun h => e h.2.2)
theorem TK_tkT (hK : TK T) {i a : Int} (h : 0 ≤ a ∧ a < T 3 i 0 0) : TK (tkT T i a) := ⟨TK_nb (T := T) hK, TK_kind (T := T) hK, TK_sty (T := T) hK, TK_ind (T := T) hK, TK_side (T := T) hK, TK_dep (T := T) hK, (fun j => by by_cases e : j = i; (subst e; rw [tkT_3]; have q := TK_nw hK j; dsimp only; omega); (rw [tkT_o e]; exact TK_nw hK j)), (fun j q => by by_cases e : j = i; (subst e; simp only [tkT_w (c := 4) (show 4 ≤ 4 ∧ 4 ≤ 8 by omega)]; exact TK_len hK j (rsh a q)); (simp only [tkT_o (c := 4) e]; exact TK_len hK j q)), (fun j q r9 => by by_cases e : j = i; (subst e; simp only [tkT_w (c := 5) (show 4 ≤ 5 ∧ 5 ≤ 8 by omega)]; exact TK_let hK j (rsh a q) r9); (simp only [tkT_o (c := 5) e]; exact TK_let hK j q r9)), (fun j q => by by_cases e : j = i; (subst e; simp only [tkT_w (c := 6) (show 4 ≤ 6 ∧ 6 ≤ 8 by omega)]; exact TK_lab hK j (rsh a q)); (simp only [tkT_o (c := 6) e]; exact TK_lab hK j q)), (fun j q r9 => by by_cases e : j = i; (subst e; simp only [tkT_w (c := 7) (show 4 ≤ 7 ∧ 7 ≤ 8 by omega)]; exact TK_mrk hK j (rsh a q) r9); (simp only [tkT_o (c := 7) e]; exact TK_mrk hK j q r9)), (fun j q => by by_cases e : j = i; (subst e; simp only [tkT_w (c := 7) (show 4 ≤ 7 ∧ 7 ≤ 8 by omega)]; exact TK_note hK j (rsh a q)); (simp only [tkT_o (c := 7) e]; exact TK_note hK j q)), (fun j q => by by_cases e : j = i; (subst e; simp only [tkT_w (c := 7) (show 4 ≤ 7 ∧ 7 ≤ 8 by omega)]; exact TK_men hK j (rsh a q)); (simp only [tkT_o (c := 7) e]; exact TK_men hK j q)), (fun j q => by by_cases e : j = i; (subst e; simp only [tkT_w (c := 7) (show 4 ≤ 7 ∧ 7 ≤ 8 by omega)]; exact TK_mlab hK j (rsh a q)); (simp only [tkT_o (c := 7) e]; exact TK_mlab hK j q)), (fun j q => by by_cases e : j = i; (subst e; simp only [tkT_w (c := 8) (show 4 ≤ 8 ∧ 8 ≤ 8 by omega)]; exact TK_gap hK j (rsh a q)); (simp only [tkT_o (c := 8) e]; exact TK_gap hK j q)), TK_span (T := T) hK, TK_least (T := T) hK, TK_best (T := T) hK, TK_fc (T := T) hK, TK_fk (T := T) hK, TK_fh (T := T) hK, TK_key (T := T) hK, TK_wid (T := T) hK, TK_hei (T := T) hK, TK_np (T := T) hK, TK_pl (T := T) hK, TK_plt (T := T) hK, TK_pg (T := T) hK, TK_plv (T := T) hK, (fun j q r9 => by by_cases e : j = i; (subst e; simp only [tkT_w (c := 8) (show 4 ≤ 8 ∧ 8 ≤ 8 by omega), tkT_w (c := 4) (show 4 ≤ 4 ∧ 4 ≤ 8 by omega)]; exact TK_gapb hK j (rsh a q) r9); (simp only [tkT_o (c := 8) e, tkT_o (c := 4) e]; exact TK_gapb hK j q r9)), (fun j => by by_cases e : j = i; (subst e; rw [tkT_3]; intro g; exact TK_hasw hK j (by omega)); (rw [tkT_o (c := 3) e, tkT_o (c := 1) e]; exact TK_hasw hK j)), TK_spc (T := T) hK, (fun j q => by by_cases e : j = i; (subst e; simp only [tkT_w (c := 6) (show 4 ≤ 6 ∧ 6 ≤ 8 by omega), tkT_w (c := 4) (show 4 ≤ 4 ∧ 4 ≤ 8 by omega)]; exact TK_wl hK j (rsh a q)); (simp only [tkT_o (c := 6) e, tkT_o (c := 4) e]; exact TK_wl hK j q)), TK_lst (T := T) hK⟩
end TKT

theorem mw_1112 : (Jvm.Cond.methodLink "Galleyforge" (149 : Nat) ({ cls := "java/util/ArrayList", name := "remove", desc := "(I)Ljava/lang/Object;" } : Jvm.MethodName)) ∈ gt := gt_at 1182 (by decide +kernel) (by decide +kernel)
theorem mw_1113 : (Jvm.Cond.instanceMethod ({ cls := "java/util/ArrayList", name := "remove", desc := "(I)Ljava/lang/Object;" } : Jvm.MethodName)) ∈ gt := gt_at 1183 (by decide +kernel) (by decide +kernel)
theorem mw_1114 : (Jvm.Cond.selects "java/util/ArrayList" ({ cls := "java/util/ArrayList", name := "remove", desc := "(I)Ljava/lang/Object;" } : Jvm.MethodName) ({ cls := "java/util/ArrayList", name := "remove", desc := "(I)Ljava/lang/Object;" } : Jvm.MethodName)) ∈ gt := gt_at 1184 (by decide +kernel) (by decide +kernel)
theorem mw_1115 : (Jvm.Cond.code ({ cls := "java/util/ArrayList", name := "remove", desc := "(I)Ljava/lang/Object;" } : Jvm.MethodName) prog_40_method_29_code (4 : Nat) (Option.some (Jvm.ClassFile.FieldType.object "java/lang/Object"))) ∈ gt := gt_at 1185 (by decide +kernel) (by decide +kernel)
theorem mV_Jx4a65c_remove_915e3 : mV yJx4a65c_remove_915e3 cJx4a65c_remove_915e3 4 (some (.object "java/lang/Object")) 1 := ⟨⟨mw_1115, mw_5, by decide, by decide, by decide +kernel⟩, mw_1113, mw_1114⟩
theorem dX11_take_0 : decode cX11_take 0 = .ok (.aload_n 0, 1) := by decide +kernel
theorem dX11_take_1 : decode cX11_take 1 = .ok (.iload_n 1, 1) := by decide +kernel
theorem dX11_take_2 : decode cX11_take 2 = .ok (.invokevirtual 109, 3) := by decide +kernel
theorem dX11_take_5 : decode cX11_take 5 = .ok (.astore_n 3, 1) := by decide +kernel
theorem dX11_take_6 : decode cX11_take 6 = .ok (.aload_n 3, 1) := by decide +kernel
theorem dX11_take_7 : decode cX11_take 7 = .ok (.iload_n 2, 1) := by decide +kernel
theorem dX11_take_8 : decode cX11_take 8 = .ok (.invokestatic 141, 3) := by decide +kernel
theorem dX11_take_11 : decode cX11_take 11 = .ok (.aload_n 3, 1) := by decide +kernel
theorem dX11_take_12 : decode cX11_take 12 = .ok (.getfield 144, 3) := by decide +kernel
theorem dX11_take_15 : decode cX11_take 15 = .ok (.iload_n 2, 1) := by decide +kernel
theorem dX11_take_16 : decode cX11_take 16 = .ok (.invokevirtual 149, 3) := by decide +kernel
theorem dX11_take_19 : decode cX11_take 19 = .ok (.pop, 1) := by decide +kernel
theorem dX11_take_20 : decode cX11_take 20 = .ok (.aload_n 0, 1) := by decide +kernel
theorem dX11_take_21 : decode cX11_take 21 = .ok (.invokevirtual 106, 3) := by decide +kernel
theorem dX11_take_24 : decode cX11_take 24 = .ok (.aload_n 3, 1) := by decide +kernel
theorem dX11_take_25 : decode cX11_take 25 = .ok (.getfield 144, 3) := by decide +kernel
theorem dX11_take_28 : decode cX11_take 28 = .ok (.invokevirtual 85, 3) := by decide +kernel
theorem dX11_take_31 : decode cX11_take 31 = .ok (.ireturn, 1) := by decide +kernel
set_option maxHeartbeats 4000000 in
set_option maxRecDepth 100000 in
theorem k_take (l : Launch) (dC : Nat → ClassId) (dI : Nat → Nat → Nat) (k : Nat → ClassId) (hl0 : l.stackTraces = false) (T : Nat → Int → Int → Int → Int) (A : Nat → Int → Int → Nat) (X : Nat → Int → Int → Int) (tl : va_W) (G : Nat → Int → Nat) (Mc : Nat → Int → Int) (Y : Nat → Int → Nat) (O : Nat → Nat) (L : Int → Nat → Int → Int) (C : Nat → Int → Int) (K : Nat → Int → Int) (cp : Nat) (pl : Int) (at_ : Int) (hPR : PR dI k T A X G Mc Y O L C K cp tl) (hK : TK T) (hKK : KK T K) (hrpl : -2147483648 ≤ pl ∧ pl < 2147483648) (hrat_ : -2147483648 ≤ at_ ∧ at_ < 2147483648) : Kx l dC dI k yX11_take (.code yX11_take cX11_take 4 (some .int)) ({ frames := 13, cells := 1, slots := 40, locals := 423 } : Room) [.ref (Y 0 0), .int (iI pl), .int (iI at_)] ([] ++ tl) (fun r w gc gs => (∃ (L2 : Int → Nat → Int → Int) (e2 : Nat) (c2 : Nat) (tl2 : va_W), (PR dI k (tkT T pl at_) (tkA A pl at_ e2) X (upG G 1 pl c2) (upM Mc 1 pl (Mc 1 pl + 1)) Y O L2 C K cp tl2) ∧ ((0 ≤ pl ∧ pl < T 0 0 0 0) ∧ 0 ≤ at_ ∧ at_ < T 3 pl 0 0) ∧ (∀ u, 0 ≤ u → u ≤ 1 → LF (L2 u)) ∧ r = some (.int (iI (T 3 pl 0 0 - 1))) ∧ w = ([] ++ tl2) ∧ gc = 1 ∧ gs = 40)) (fun E w gc gs => ((¬ ((0 ≤ pl ∧ pl < T 0 0 0 0) ∧ 0 ≤ at_ ∧ at_ < T 3 pl 0 0)) ∧ E = "java/lang/IndexOutOfBoundsException" ∧ w = ([] ++ tl) ∧ gc = 1 ∧ gs = 6)) := by
  refine kx_of (by decide) (Nat.le_of_ble_eq_true rfl) ?_
  intro p e s m args below meth c H locs B hr hex ls hl
  have hx := B.1.1
  have hb := B.1.2.1
  have hl : lv_has ls 4 [(0, .ref (Y 0 0)), (1, .int (iI pl)), (2, .int (iI at_))] := hl
  have hT := PR_TI hPR
  have hnb0 := TK_nb hK
  have hcp0 : 512 ≤ cp ∧ cp ≤ 131072 := by have q9 := hPR.2.2.2; unfold cpOk at q9; omega
  refine lv_aload_n hx hb dX11_take_0 rfl (lv_at hl 0 rfl) ?_
  refine lv_iload_n hx hb dX11_take_1 rfl (lv_at hl 1 rfl) ?_
  have B := bd_swap (a := []) (b := []) (d := tl) (bd_to rfl B)
  obtain ⟨k_1, hk_1⟩ := pk_at (hs := []) (show (((Y 0 0), .inr (11, [.ref (A 50 0 0), .ref (Y 1 0), .ref (Y 2 0), .int (iI (K 0 0)), .ref (Y 3 0)])) : Nat × va_E) ∈ tl from PR_m hPR 0 0 rfl rfl)
  refine k_Vx (rest := []) (wc := ([] ++ tl)) (wr := []) (k_blockAt l dC dI k hl0 T A X tl G Mc Y O L C K cp pl hPR hK hrpl) B mV_X11_blockAt mw_784 hl (q0 := k_1) (ci := 11) hk_1 rfl rfl ⟨Nat.le_of_ble_eq_true rfl, Nat.le_of_ble_eq_true rfl⟩ (Nat.le_of_ble_eq_true rfl) rfl dX11_take_2 ⟨Nat.le_of_ble_eq_true rfl, Nat.le_of_ble_eq_true rfl⟩ (fun E ce q9 w gc gs H locs hp B h1 h2 h3 => ?_) (fun r w gc gs H locs hp B => ?_)
  · skip
    obtain ⟨z_2, rfl, hw9, rfl, rfl⟩ := hp
    rw [hw9] at B; clear hw9
    have B := bd_to (ws' := ([] ++ tl)) rfl B
    exact k_out hex (⟨(by omega), rfl, rfl, rfl, rfl⟩) B h1 h2 h3 ⟨Nat.le_of_ble_eq_true rfl, Nat.le_of_ble_eq_true rfl⟩ ⟨Nat.le_of_ble_eq_true rfl, Nat.le_of_ble_eq_true rfl⟩
  · skip
    obtain ⟨z_3, rfl, hw9, rfl, rfl⟩ := hp
    rw [hw9] at B; clear hw9
    have B := bd_to (ws' := ([] ++ tl)) rfl B
    refine lv_astore_n (lv' := [(3, .ref (A 0 pl 0)), (0, .ref (Y 0 0)), (1, .int (iI pl)), (2, .int (iI at_))]) hx hb dX11_take_5 rfl hl (by decide) rfl (fun ls hl => ?_)
    refine lv_aload_n hx hb dX11_take_6 rfl (lv_at hl 0 rfl) ?_
    refine lv_iload_n hx hb dX11_take_7 rfl (lv_at hl 3 rfl) ?_
    have B := bd_swap (a := []) (b := []) (d := tl) (bd_to rfl B)
    refine k_Sx (rest := []) (wc := ([] ++ tl)) (wr := []) (k_checkWord l dC dI k hl0 T A X tl G Mc Y O L C K cp pl at_ hPR hK z_3 hrat_) B mS_X11_checkWord mw_1108 hl ⟨Nat.le_of_ble_eq_true rfl, Nat.le_of_ble_eq_true rfl⟩ (Nat.le_of_ble_eq_true rfl) rfl dX11_take_8 ⟨Nat.le_of_ble_eq_true rfl, Nat.le_of_ble_eq_true rfl⟩ (fun E ce q9 w gc gs H locs hp B h1 h2 h3 => ?_) (fun r w gc gs H locs hp B => ?_)
    · skip
      obtain ⟨z_4, rfl, hw9, rfl, rfl⟩ := hp
      rw [hw9] at B; clear hw9
      have B := bd_to (ws' := ([] ++ tl)) rfl B
      exact k_out hex (⟨(by omega), rfl, rfl, rfl, rfl⟩) B h1 h2 h3 ⟨Nat.le_of_ble_eq_true rfl, Nat.le_of_ble_eq_true rfl⟩ ⟨Nat.le_of_ble_eq_true rfl, Nat.le_of_ble_eq_true rfl⟩
    · skip
      obtain ⟨z_5, rfl, hw9, rfl, rfl⟩ := hp
      rw [hw9] at B; clear hw9
      have B := bd_to (ws' := ([] ++ tl)) rfl B
      refine lv_aload_n hx hb dX11_take_11 rfl (lv_at hl 0 rfl) ?_
      obtain ⟨k_6, hk_6⟩ := pk_at (hs := []) (hT.2.2.2.1 pl (by omega) (by omega)).1
      refine x_get (ci := 0) (C := RX0) (T := TX0) (N := 4) (v := .ref (A 2 pl 0)) B k_6 hk_6 rfl in_X0 2 (by decide) mw_1183 (fun _ h9 => h9) rfl dX11_take_12 ?_
      refine lv_iload_n hx hb dX11_take_15 rfl (lv_at hl 3 rfl) ?_
      have B := bd_swap (a := []) (b := []) (d := tl) (bd_to rfl B)
      obtain ⟨k_7, fk_7, hk_7⟩ := LI_at (hs := []) (hT.2.2.2.1 pl (by omega) (by omega)).2.2
      refine k_V (rest := []) (wc := ([] ++ tl)) (wr := []) (k_takeP l dC dI k T A X tl G Mc Y O L C K cp pl at_ hPR hK (by omega) z_5) B mV_Jx4a65c_remove_915e3 mw_1112 hl (q0 := k_7) (ci := 12) hk_7 rfl rfl ⟨Nat.le_of_ble_eq_true rfl, Nat.le_of_ble_eq_true rfl⟩ (Nat.le_of_ble_eq_true rfl) rfl dX11_take_16 ⟨Nat.le_of_ble_eq_true rfl, Nat.le_of_ble_eq_true rfl⟩ (fun r w gc gs H locs hp B => ?_)
      obtain ⟨e2_8, c2_9, tl2_10, z_11, rfl, hw9, rfl, rfl⟩ := hp
      rw [hw9] at B; clear hw9
      have B := bd_to (ws' := ([] ++ tl2_10)) rfl B
      have hPR : PR dI k (tkT T pl at_) (tkA A pl at_ e2_8) X (upG G 1 pl c2_9) (upM Mc 1 pl (Mc 1 pl + 1)) Y O L C K cp tl2_10 := z_11
      have hT : TI dI k (tkT T pl at_) (tkA A pl at_ e2_8) X tl2_10 := PR_TI hPR
      refine lv_pop hx hb dX11_take_19 rfl ?_
      refine lv_aload_n hx hb dX11_take_20 rfl (lv_at hl 1 rfl) ?_
      have B := bd_swap (a := []) (b := []) (d := tl2_10) (bd_to rfl B)
      obtain ⟨k_12, hk_12⟩ := pk_at (hs := []) (show (((Y 0 0), .inr (11, [.ref (A 50 0 0), .ref (Y 1 0), .ref (Y 2 0), .int (iI (K 0 0)), .ref (Y 3 0)])) : Nat × va_E) ∈ tl2_10 from (PR_m hPR 0 0 rfl rfl))
      refine k_V (rest := []) (wc := ([] ++ tl2_10)) (wr := []) (k_forgetAll l dC dI k (tkT T pl at_) (tkA A pl at_ e2_8) X tl2_10 (upG G 1 pl c2_9) (upM Mc 1 pl (Mc 1 pl + 1)) Y O L C K cp z_11 (TK_tkT hK (by omega))) B mV_X11_forgetLayouts mw_769 hl (q0 := k_12) (ci := 11) hk_12 rfl rfl ⟨Nat.le_of_ble_eq_true rfl, Nat.le_of_ble_eq_true rfl⟩ (Nat.le_of_ble_eq_true rfl) rfl dX11_take_21 ⟨Nat.le_of_ble_eq_true rfl, Nat.le_of_ble_eq_true rfl⟩ (fun r w gc gs H locs hp B => ?_)
      obtain ⟨L2_13, tl2_14, z_15, z_16, rfl, hw9, rfl, rfl⟩ := hp
      rw [hw9] at B; clear hw9
      have B := bd_to (ws' := ([] ++ tl2_14)) rfl B
      have hPR : PR dI k (tkT T pl at_) (tkA A pl at_ e2_8) X (upG G 1 pl c2_9) (upM Mc 1 pl (Mc 1 pl + 1)) Y O L2_13 C K cp tl2_14 := z_15
      have hT : TI dI k (tkT T pl at_) (tkA A pl at_ e2_8) X tl2_14 := PR_TI hPR
      refine lv_aload_n hx hb dX11_take_24 rfl (lv_at hl 0 rfl) ?_
      obtain ⟨k_17, hk_17⟩ := pk_at (hs := []) (show (((A 0 pl 0), .inr (0, [.int (iI ((tkT T pl at_) 1 pl 0 0)), .ref ((tkA A pl at_ e2_8) 1 pl 0), .ref ((tkA A pl at_ e2_8) 2 pl 0), va_rf (if (tkT T pl at_) 1 pl 0 0 = 3 then some ((tkA A pl at_ e2_8) 7 pl 0) else none)])) : Nat × va_E) ∈ tl2_14 from (hT.2.2.2.1 pl (show 0 ≤ pl by omega) (show pl < T 0 0 0 0 by omega)).1)
      refine x_get (ci := 0) (C := RX0) (T := TX0) (N := 4) (v := .ref ((tkA A pl at_ e2_8) 2 pl 0)) B k_17 hk_17 rfl in_X0 2 (by decide) mw_1183 (fun _ h9 => h9) rfl dX11_take_25 ?_
      have B := bd_swap (a := []) (b := []) (d := tl2_14) (bd_to rfl B)
      obtain ⟨k_18, fk_18, hk_18⟩ := LI_at (hs := []) (hT.2.2.2.1 pl (show 0 ≤ pl by omega) (show pl < T 0 0 0 0 by omega)).2.2
      refine k_V (rest := []) (wc := ([] ++ tl2_14)) (wr := []) (k_sizeW l dC dI k (tkT T pl at_) (tkA A pl at_ e2_8) X tl2_14 pl hT (TK_tkT hK (by omega)) (show 0 ≤ pl ∧ pl < T 0 0 0 0 by omega)) B mV_Jx4a65c_size_8abf5 mw_637 hl (q0 := k_18) (ci := 12) hk_18 rfl rfl ⟨Nat.le_of_ble_eq_true rfl, Nat.le_of_ble_eq_true rfl⟩ (Nat.le_of_ble_eq_true rfl) rfl dX11_take_28 ⟨Nat.le_of_ble_eq_true rfl, Nat.le_of_ble_eq_true rfl⟩ (fun r w gc gs H locs hp B => ?_)
      obtain ⟨z_19, rfl, hw9, rfl, rfl⟩ := hp
      rw [hw9] at B; clear hw9
      have B := bd_to (ws' := ([] ++ tl2_14)) rfl B
      have e_20 : (T 3 pl 0 0 - 1) = ((tkT T pl at_) 3 pl 0 0) := (by rw [tkT_3])
      skip
      exact vx_ret (k_iret B hr (⟨L2_13, e2_8, c2_9, tl2_14, hPR, (by omega), z_16, (by rw [e_20]), rfl, rfl, rfl⟩) ⟨Nat.le_of_ble_eq_true rfl, Nat.le_of_ble_eq_true rfl⟩ ⟨Nat.le_of_ble_eq_true rfl, Nat.le_of_ble_eq_true rfl⟩ dX11_take_31)

end
