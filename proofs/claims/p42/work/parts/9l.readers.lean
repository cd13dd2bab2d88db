section
/-- answers of a press, as its text has them -/
abbrev M0 (T : Nat → Int → Int → Int → Int) (v : Int) : Nat → Int → Int := moC T v (dgN T v)
abbrev P00 (T : Nat → Int → Int → Int → Int) (v : Int) : Nat → Int → Int := mkZ T (moC T v (dgN T v))
def whZ (T : Nat → Int → Int → Int → Int) (v pl at_ : Int) : Int := if M0 T v 9 ((pl * 12) + at_) = -1 then -1 else (1000 * P00 T v 5 (M0 T v 9 ((pl * 12) + at_)) + M0 T v 9 ((pl * 12) + at_)) - P00 T v 1 (P00 T v 5 (M0 T v 9 ((pl * 12) + at_)) - 1)
def txZ (T : Nat → Int → Int → Int → Int) (v pg ro : Int) : Int := 1000 * M0 T v 2 (P00 T v 1 (pg - 1) + ro) + M0 T v 3 (P00 T v 1 (pg - 1) + ro)
def onZ (T : Nat → Int → Int → Int → Int) (v pg wh : Int) : Int := if wh = 0 then P00 T v 2 (pg - 1) else if wh = 1 then P00 T v 3 (pg - 1) else P00 T v 4 (pg - 1)
def coZ (T : Nat → Int → Int → Int → Int) (v ix : Int) : Int := 1000 * haZ T v ix + P00 T v 5 (M0 T v 7 (haZ T v ix))
def nuZ (T : Nat → Int → Int → Int → Int) (v pl : Int) : Int := if ¬ thB T pl v then -1 else if T 1 pl 0 0 = 1 then hnZ T v pl else if T 1 pl 0 0 = 0 ∧ T 2 pl 1 0 = 1 then prZ T v pl else 0

theorem dX11_blocks_0 : decode cX11_blocks 0 = .ok (.aload_n 0, 1) := by decide +kernel
theorem dX11_blocks_1 : decode cX11_blocks 1 = .ok (.getfield 12, 3) := by decide +kernel
theorem dX11_blocks_4 : decode cX11_blocks 4 = .ok (.getfield 153, 3) := by decide +kernel
theorem dX11_blocks_7 : decode cX11_blocks 7 = .ok (.invokevirtual 85, 3) := by decide +kernel
theorem dX11_blocks_10 : decode cX11_blocks 10 = .ok (.ireturn, 1) := by decide +kernel
set_option maxHeartbeats 4000000 in
set_option maxRecDepth 100000 in
theorem k_blocks (l : Launch) (dC : Nat → ClassId) (dI : Nat → Nat → Nat) (k : Nat → ClassId) (T : Nat → Int → Int → Int → Int) (A : Nat → Int → Int → Nat) (X : Nat → Int → Int → Int) (tl : va_W) (G : Nat → Int → Nat) (Mc : Nat → Int → Int) (Y : Nat → Int → Nat) (O : Nat → Nat) (L : Int → Nat → Int → Int) (C : Nat → Int → Int) (K : Nat → Int → Int) (cp : Nat) (hPR : PR dI k T A X G Mc Y O L C K cp tl) (hK : TK T) (hL : ∀ u, 0 ≤ u → u ≤ 1 → LSq T u (L u)) (hF : FINE T) : Kn l dC dI k yX11_blocks (.code yX11_blocks cX11_blocks 1 (some .int)) ({ frames := 1, cells := (131072 - cp + 1), slots := (12 * (131072 - cp) + 6), locals := 20 } : Room) [.ref (Y 0 0)] ([] ++ tl) (fun r w gc gs => (∃ (O2 : Nat → Nat) (L2 : Int → Nat → Int → Int) (C2 : Nat → Int → Int) (X2 : Nat → Int → Int → Int) (cp2 : Nat) (tl2 : va_W), (PR dI k T A X2 G Mc Y O2 L2 C2 K cp2 tl2) ∧ (∀ u, 0 ≤ u → u ≤ 1 → LSq T u (L2 u)) ∧ (cp ≤ cp2 ∧ cp2 ≤ 131072) ∧ r = some (.int (iI (T 0 0 0 0))) ∧ w = ([] ++ tl2) ∧ gc = (cp2 - cp) ∧ gs = (12 * (cp2 - cp)))) := by
  refine kn_of (by decide) (Nat.le_of_ble_eq_true rfl) ?_
  intro p e s m args below meth c H locs B hr hnm ls hl
  have hx := B.1.1
  have hb := B.1.2.1
  have hl : lv_has ls 1 [(0, .ref (Y 0 0))] := hl
  have hT := PR_TI hPR
  have hnb0 := TK_nb hK
  have hcp0 : 512 ≤ cp ∧ cp ≤ 131072 := by have q9 := hPR.2.2.2; unfold cpOk at q9; omega
  have hcap := hF.1
  refine lv_aload_n hx hb dX11_blocks_0 rfl (lv_at hl 0 rfl) ?_
  obtain ⟨k_1, hk_1⟩ := pk_at (hs := []) (show (((Y 0 0), .inr (11, [.ref (A 50 0 0), .ref (Y 1 0), .ref (Y 2 0), .int (iI (K 0 0)), .ref (Y 3 0)])) : Nat × va_E) ∈ tl from PR_m hPR 0 0 rfl rfl)
  refine x_get (ci := 11) (C := RX11) (T := TX11) (N := 5) (v := .ref (A 50 0 0)) B k_1 hk_1 rfl in_X11 0 (by decide) mw_474 (fun _ h9 => h9) rfl dX11_blocks_1 ?_
  obtain ⟨k_2, hk_2⟩ := pk_at (hs := []) hT.1.1
  refine x_get (ci := 9) (C := RX9) (T := TX9) (N := 8) (v := .ref (A 51 0 0)) B k_2 hk_2 rfl in_X9 0 (by decide) mw_78 (fun _ h9 => h9) rfl dX11_blocks_4 ?_
  have B := bd_swap (a := []) (b := []) (d := tl) (bd_to rfl B)
  obtain ⟨k_3, fk_3, hk_3⟩ := LI_at (hs := []) hT.2.1
  refine k_V (rest := []) (wc := ([] ++ tl)) (wr := []) (k_sizeB l dC dI k T A X tl hT hK) B mV_Jx4a65c_size_8abf5 mw_637 hl (q0 := k_3) (ci := 12) hk_3 rfl rfl ⟨Nat.le_of_ble_eq_true rfl, Nat.le_of_ble_eq_true rfl⟩ (Nat.le_of_ble_eq_true rfl) rfl dX11_blocks_7 ⟨by dsimp only; omega, by dsimp only; omega⟩ (fun r w gc gs H locs hp B => ?_)
  obtain ⟨z_4, rfl, hw9, rfl, rfl⟩ := hp
  rw [hw9] at B; clear hw9
  have B := bd_to (ws' := ([] ++ tl)) rfl B
  exact k_iret B hr (⟨O, L, C, X, cp, tl, hPR, hL, (by omega), rfl, rfl, rfl, rfl⟩) ⟨(by first | omega | (dsimp only; omega)), (by first | omega | (dsimp only; omega))⟩ ⟨(by first | omega | (dsimp only; omega)), (by first | omega | (dsimp only; omega))⟩ dX11_blocks_10

theorem dX11_words_0 : decode cX11_words 0 = .ok (.aload_n 0, 1) := by decide +kernel
theorem dX11_words_1 : decode cX11_words 1 = .ok (.iload_n 1, 1) := by decide +kernel
theorem dX11_words_2 : decode cX11_words 2 = .ok (.invokevirtual 109, 3) := by decide +kernel
theorem dX11_words_5 : decode cX11_words 5 = .ok (.getfield 144, 3) := by decide +kernel
theorem dX11_words_8 : decode cX11_words 8 = .ok (.invokevirtual 85, 3) := by decide +kernel
theorem dX11_words_11 : decode cX11_words 11 = .ok (.ireturn, 1) := by decide +kernel
set_option maxHeartbeats 4000000 in
set_option maxRecDepth 100000 in
theorem k_words (l : Launch) (dC : Nat → ClassId) (dI : Nat → Nat → Nat) (k : Nat → ClassId) (hl0 : l.stackTraces = false) (T : Nat → Int → Int → Int → Int) (A : Nat → Int → Int → Nat) (X : Nat → Int → Int → Int) (tl : va_W) (G : Nat → Int → Nat) (Mc : Nat → Int → Int) (Y : Nat → Int → Nat) (O : Nat → Nat) (L : Int → Nat → Int → Int) (C : Nat → Int → Int) (K : Nat → Int → Int) (cp : Nat) (pl : Int) (hPR : PR dI k T A X G Mc Y O L C K cp tl) (hK : TK T) (hL : ∀ u, 0 ≤ u → u ≤ 1 → LSq T u (L u)) (hF : FINE T) (hrpl : -2147483648 ≤ pl ∧ pl < 2147483648) : Kx l dC dI k yX11_words (.code yX11_words cX11_words 2 (some .int)) ({ frames := 8, cells := (131072 - cp + 1), slots := (12 * (131072 - cp) + 6), locals := 124 } : Room) [.ref (Y 0 0), .int (iI pl)] ([] ++ tl) (fun r w gc gs => (∃ (O2 : Nat → Nat) (L2 : Int → Nat → Int → Int) (C2 : Nat → Int → Int) (X2 : Nat → Int → Int → Int) (cp2 : Nat) (tl2 : va_W), (PR dI k T A X2 G Mc Y O2 L2 C2 K cp2 tl2) ∧ (∀ u, 0 ≤ u → u ≤ 1 → LSq T u (L2 u)) ∧ (cp ≤ cp2 ∧ cp2 ≤ 131072) ∧ (0 ≤ pl ∧ pl < T 0 0 0 0) ∧ r = some (.int (iI (T 3 pl 0 0))) ∧ w = ([] ++ tl2) ∧ gc = (cp2 - cp) ∧ gs = (12 * (cp2 - cp)))) (fun E w gc gs => (∃ (O2 : Nat → Nat) (L2 : Int → Nat → Int → Int) (C2 : Nat → Int → Int) (X2 : Nat → Int → Int → Int) (cp2 : Nat) (tl2 : va_W), (PR dI k T A X2 G Mc Y O2 L2 C2 K cp2 tl2) ∧ (∀ u, 0 ≤ u → u ≤ 1 → LSq T u (L2 u)) ∧ (cp ≤ cp2 ∧ cp2 ≤ 131072) ∧ (¬ (0 ≤ pl ∧ pl < T 0 0 0 0)) ∧ E = "java/lang/IndexOutOfBoundsException" ∧ w = ([] ++ tl2) ∧ gc = (cp2 - cp + 1) ∧ gs = (12 * (cp2 - cp) + 6))) := by
  refine kx_of (by decide) (Nat.le_of_ble_eq_true rfl) ?_
  intro p e s m args below meth c H locs B hr hex ls hl
  have hx := B.1.1
  have hb := B.1.2.1
  have hl : lv_has ls 2 [(0, .ref (Y 0 0)), (1, .int (iI pl))] := hl
  have hT := PR_TI hPR
  have hnb0 := TK_nb hK
  have hcp0 : 512 ≤ cp ∧ cp ≤ 131072 := by have q9 := hPR.2.2.2; unfold cpOk at q9; omega
  have hcap := hF.1
  refine lv_aload_n hx hb dX11_words_0 rfl (lv_at hl 0 rfl) ?_
  refine lv_iload_n hx hb dX11_words_1 rfl (lv_at hl 1 rfl) ?_
  have B := bd_swap (a := []) (b := []) (d := tl) (bd_to rfl B)
  obtain ⟨k_1, hk_1⟩ := pk_at (hs := []) (show (((Y 0 0), .inr (11, [.ref (A 50 0 0), .ref (Y 1 0), .ref (Y 2 0), .int (iI (K 0 0)), .ref (Y 3 0)])) : Nat × va_E) ∈ tl from PR_m hPR 0 0 rfl rfl)
  refine k_Vx (rest := []) (wc := ([] ++ tl)) (wr := []) (k_blockAt l dC dI k hl0 T A X tl G Mc Y O L C K cp pl hPR hK hrpl) B mV_X11_blockAt mw_784 hl (q0 := k_1) (ci := 11) hk_1 rfl rfl ⟨Nat.le_of_ble_eq_true rfl, Nat.le_of_ble_eq_true rfl⟩ (Nat.le_of_ble_eq_true rfl) rfl dX11_words_2 ⟨by dsimp only; omega, by dsimp only; omega⟩ (fun E ce q9 w gc gs H locs hp B h1 h2 h3 => ?_) (fun r w gc gs H locs hp B => ?_)
  · skip
    obtain ⟨z_2, rfl, hw9, rfl, rfl⟩ := hp
    rw [hw9] at B; clear hw9
    have B := bd_to (ws' := ([] ++ tl)) rfl B
    exact k_out hex (⟨O, L, C, X, cp, tl, hPR, hL, (by omega), z_2, rfl, rfl, rfl, rfl⟩) B h1 h2 h3 ⟨(by first | omega | (dsimp only; omega)), (by first | omega | (dsimp only; omega))⟩ ⟨(by first | omega | (dsimp only; omega)), (by first | omega | (dsimp only; omega))⟩
  · skip
    obtain ⟨z_3, rfl, hw9, rfl, rfl⟩ := hp
    rw [hw9] at B; clear hw9
    have B := bd_to (ws' := ([] ++ tl)) rfl B
    obtain ⟨k_4, hk_4⟩ := pk_at (hs := []) (hT.2.2.2.1 pl (by omega) (by omega)).1
    refine x_get (ci := 0) (C := RX0) (T := TX0) (N := 4) (v := .ref (A 2 pl 0)) B k_4 hk_4 rfl in_X0 2 (by decide) mw_1183 (fun _ h9 => h9) rfl dX11_words_5 ?_
    have B := bd_swap (a := []) (b := []) (d := tl) (bd_to rfl B)
    obtain ⟨k_5, fk_5, hk_5⟩ := LI_at (hs := []) (hT.2.2.2.1 pl (by omega) (by omega)).2.2
    refine k_V (rest := []) (wc := ([] ++ tl)) (wr := []) (k_sizeW l dC dI k T A X tl pl hT hK z_3) B mV_Jx4a65c_size_8abf5 mw_637 hl (q0 := k_5) (ci := 12) hk_5 rfl rfl ⟨Nat.le_of_ble_eq_true rfl, Nat.le_of_ble_eq_true rfl⟩ (Nat.le_of_ble_eq_true rfl) rfl dX11_words_8 ⟨by dsimp only; omega, by dsimp only; omega⟩ (fun r w gc gs H locs hp B => ?_)
    obtain ⟨z_6, rfl, hw9, rfl, rfl⟩ := hp
    rw [hw9] at B; clear hw9
    have B := bd_to (ws' := ([] ++ tl)) rfl B
    exact vx_ret (k_iret B hr (⟨O, L, C, X, cp, tl, hPR, hL, (by omega), z_3, rfl, rfl, rfl, rfl⟩) ⟨(by first | omega | (dsimp only; omega)), (by first | omega | (dsimp only; omega))⟩ ⟨(by first | omega | (dsimp only; omega)), (by first | omega | (dsimp only; omega))⟩ dX11_words_11)

theorem mw_812 : (Jvm.Cond.classLink "Galleyforge" (123 : Nat) "Galleyforge$Word") ∈ gt := gt_at 882 (by decide +kernel) (by decide +kernel)
theorem mw_831 : (Jvm.Cond.fieldLink "Galleyforge" (235 : Nat) "Galleyforge$Word" "gapSet" "I") ∈ gt := gt_at 901 (by decide +kernel) (by decide +kernel)
theorem mw_1108 : (Jvm.Cond.methodLink "Galleyforge" (141 : Nat) ({ cls := "Galleyforge", name := "checkWord", desc := "(LGalleyforge$Block;I)V" } : Jvm.MethodName)) ∈ gt := gt_at 1178 (by decide +kernel) (by decide +kernel)
theorem mw_1109 : (Jvm.Cond.static ({ cls := "Galleyforge", name := "checkWord", desc := "(LGalleyforge$Block;I)V" } : Jvm.MethodName)) ∈ gt := gt_at 1179 (by decide +kernel) (by decide +kernel)
theorem mw_1110 : (Jvm.Cond.code ({ cls := "Galleyforge", name := "checkWord", desc := "(LGalleyforge$Block;I)V" } : Jvm.MethodName) prog_1_method_45_code (2 : Nat) (Option.none : Option Jvm.ClassFile.FieldType)) ∈ gt := gt_at 1180 (by decide +kernel) (by decide +kernel)
theorem mS_X11_checkWord : mS yX11_checkWord cX11_checkWord 2 none 2 := ⟨⟨mw_1110, mw_1, by decide, by decide, by decide +kernel⟩, mw_1109⟩
theorem dX11_gaps_0 : decode cX11_gaps 0 = .ok (.aload_n 0, 1) := by decide +kernel
theorem dX11_gaps_1 : decode cX11_gaps 1 = .ok (.iload_n 1, 1) := by decide +kernel
theorem dX11_gaps_2 : decode cX11_gaps 2 = .ok (.invokevirtual 109, 3) := by decide +kernel
theorem dX11_gaps_5 : decode cX11_gaps 5 = .ok (.astore_n 3, 1) := by decide +kernel
theorem dX11_gaps_6 : decode cX11_gaps 6 = .ok (.aload_n 3, 1) := by decide +kernel
theorem dX11_gaps_7 : decode cX11_gaps 7 = .ok (.iload_n 2, 1) := by decide +kernel
theorem dX11_gaps_8 : decode cX11_gaps 8 = .ok (.invokestatic 141, 3) := by decide +kernel
theorem dX11_gaps_11 : decode cX11_gaps 11 = .ok (.aload_n 3, 1) := by decide +kernel
theorem dX11_gaps_12 : decode cX11_gaps 12 = .ok (.getfield 144, 3) := by decide +kernel
theorem dX11_gaps_15 : decode cX11_gaps 15 = .ok (.iload_n 2, 1) := by decide +kernel
theorem dX11_gaps_16 : decode cX11_gaps 16 = .ok (.invokevirtual 232, 3) := by decide +kernel
theorem dX11_gaps_19 : decode cX11_gaps 19 = .ok (.checkcast 123, 3) := by decide +kernel
theorem dX11_gaps_22 : decode cX11_gaps 22 = .ok (.getfield 235, 3) := by decide +kernel
theorem dX11_gaps_25 : decode cX11_gaps 25 = .ok (.ireturn, 1) := by decide +kernel
set_option maxHeartbeats 4000000 in
set_option maxRecDepth 100000 in
theorem k_gaps (l : Launch) (dC : Nat → ClassId) (dI : Nat → Nat → Nat) (k : Nat → ClassId) (hl0 : l.stackTraces = false) (T : Nat → Int → Int → Int → Int) (A : Nat → Int → Int → Nat) (X : Nat → Int → Int → Int) (tl : va_W) (G : Nat → Int → Nat) (Mc : Nat → Int → Int) (Y : Nat → Int → Nat) (O : Nat → Nat) (L : Int → Nat → Int → Int) (C : Nat → Int → Int) (K : Nat → Int → Int) (cp : Nat) (pl : Int) (at_ : Int) (hPR : PR dI k T A X G Mc Y O L C K cp tl) (hK : TK T) (hL : ∀ u, 0 ≤ u → u ≤ 1 → LSq T u (L u)) (hF : FINE T) (hrpl : -2147483648 ≤ pl ∧ pl < 2147483648) (hrat_ : -2147483648 ≤ at_ ∧ at_ < 2147483648) : Kx l dC dI k yX11_gaps (.code yX11_gaps cX11_gaps 4 (some .int)) ({ frames := 8, cells := (131072 - cp + 1), slots := (12 * (131072 - cp) + 6), locals := 124 } : Room) [.ref (Y 0 0), .int (iI pl), .int (iI at_)] ([] ++ tl) (fun r w gc gs => (∃ (O2 : Nat → Nat) (L2 : Int → Nat → Int → Int) (C2 : Nat → Int → Int) (X2 : Nat → Int → Int → Int) (cp2 : Nat) (tl2 : va_W), (PR dI k T A X2 G Mc Y O2 L2 C2 K cp2 tl2) ∧ (∀ u, 0 ≤ u → u ≤ 1 → LSq T u (L2 u)) ∧ (cp ≤ cp2 ∧ cp2 ≤ 131072) ∧ ((0 ≤ pl ∧ pl < T 0 0 0 0) ∧ 0 ≤ at_ ∧ at_ < T 3 pl 0 0) ∧ r = some (.int (iI (T 8 pl at_ 0))) ∧ w = ([] ++ tl2) ∧ gc = (cp2 - cp) ∧ gs = (12 * (cp2 - cp)))) (fun E w gc gs => (∃ (O2 : Nat → Nat) (L2 : Int → Nat → Int → Int) (C2 : Nat → Int → Int) (X2 : Nat → Int → Int → Int) (cp2 : Nat) (tl2 : va_W), (PR dI k T A X2 G Mc Y O2 L2 C2 K cp2 tl2) ∧ (∀ u, 0 ≤ u → u ≤ 1 → LSq T u (L2 u)) ∧ (cp ≤ cp2 ∧ cp2 ≤ 131072) ∧ (¬ ((0 ≤ pl ∧ pl < T 0 0 0 0) ∧ 0 ≤ at_ ∧ at_ < T 3 pl 0 0)) ∧ E = "java/lang/IndexOutOfBoundsException" ∧ w = ([] ++ tl2) ∧ gc = (cp2 - cp + 1) ∧ gs = (12 * (cp2 - cp) + 6))) := by
  refine kx_of (by decide) (Nat.le_of_ble_eq_true rfl) ?_
  intro p e s m args below meth c H locs B hr hex ls hl
  have hx := B.1.1
  have hb := B.1.2.1
  have hl : lv_has ls 4 [(0, .ref (Y 0 0)), (1, .int (iI pl)), (2, .int (iI at_))] := hl
  have hT := PR_TI hPR
  have hnb0 := TK_nb hK
  have hcp0 : 512 ≤ cp ∧ cp ≤ 131072 := by have q9 := hPR.2.2.2; unfold cpOk at q9; omega
  have hcap := hF.1
  refine lv_aload_n hx hb dX11_gaps_0 rfl (lv_at hl 0 rfl) ?_
  refine lv_iload_n hx hb dX11_gaps_1 rfl (lv_at hl 1 rfl) ?_
  have B := bd_swap (a := []) (b := []) (d := tl) (bd_to rfl B)
  obtain ⟨k_1, hk_1⟩ := pk_at (hs := []) (show (((Y 0 0), .inr (11, [.ref (A 50 0 0), .ref (Y 1 0), .ref (Y 2 0), .int (iI (K 0 0)), .ref (Y 3 0)])) : Nat × va_E) ∈ tl from PR_m hPR 0 0 rfl rfl)
  refine k_Vx (rest := []) (wc := ([] ++ tl)) (wr := []) (k_blockAt l dC dI k hl0 T A X tl G Mc Y O L C K cp pl hPR hK hrpl) B mV_X11_blockAt mw_784 hl (q0 := k_1) (ci := 11) hk_1 rfl rfl ⟨Nat.le_of_ble_eq_true rfl, Nat.le_of_ble_eq_true rfl⟩ (Nat.le_of_ble_eq_true rfl) rfl dX11_gaps_2 ⟨by dsimp only; omega, by dsimp only; omega⟩ (fun E ce q9 w gc gs H locs hp B h1 h2 h3 => ?_) (fun r w gc gs H locs hp B => ?_)
  · skip
    obtain ⟨z_2, rfl, hw9, rfl, rfl⟩ := hp
    rw [hw9] at B; clear hw9
    have B := bd_to (ws' := ([] ++ tl)) rfl B
    exact k_out hex (⟨O, L, C, X, cp, tl, hPR, hL, (by omega), (by omega), rfl, rfl, rfl, rfl⟩) B h1 h2 h3 ⟨(by first | omega | (dsimp only; omega)), (by first | omega | (dsimp only; omega))⟩ ⟨(by first | omega | (dsimp only; omega)), (by first | omega | (dsimp only; omega))⟩
  · skip
    obtain ⟨z_3, rfl, hw9, rfl, rfl⟩ := hp
    rw [hw9] at B; clear hw9
    have B := bd_to (ws' := ([] ++ tl)) rfl B
    refine lv_astore_n (lv' := [(3, .ref (A 0 pl 0)), (0, .ref (Y 0 0)), (1, .int (iI pl)), (2, .int (iI at_))]) hx hb dX11_gaps_5 rfl hl (by decide) rfl (fun ls hl => ?_)
    refine lv_aload_n hx hb dX11_gaps_6 rfl (lv_at hl 0 rfl) ?_
    refine lv_iload_n hx hb dX11_gaps_7 rfl (lv_at hl 3 rfl) ?_
    have B := bd_swap (a := []) (b := []) (d := tl) (bd_to rfl B)
    refine k_Sx (rest := []) (wc := ([] ++ tl)) (wr := []) (k_checkWord l dC dI k hl0 T A X tl G Mc Y O L C K cp pl at_ hPR hK z_3 hrat_) B mS_X11_checkWord mw_1108 hl ⟨Nat.le_of_ble_eq_true rfl, Nat.le_of_ble_eq_true rfl⟩ (Nat.le_of_ble_eq_true rfl) rfl dX11_gaps_8 ⟨by dsimp only; omega, by dsimp only; omega⟩ (fun E ce q9 w gc gs H locs hp B h1 h2 h3 => ?_) (fun r w gc gs H locs hp B => ?_)
    · skip
      obtain ⟨z_4, rfl, hw9, rfl, rfl⟩ := hp
      rw [hw9] at B; clear hw9
      have B := bd_to (ws' := ([] ++ tl)) rfl B
      exact k_out hex (⟨O, L, C, X, cp, tl, hPR, hL, (by omega), (by omega), rfl, rfl, rfl, rfl⟩) B h1 h2 h3 ⟨(by first | omega | (dsimp only; omega)), (by first | omega | (dsimp only; omega))⟩ ⟨(by first | omega | (dsimp only; omega)), (by first | omega | (dsimp only; omega))⟩
    · skip
      obtain ⟨z_5, rfl, hw9, rfl, rfl⟩ := hp
      rw [hw9] at B; clear hw9
      have B := bd_to (ws' := ([] ++ tl)) rfl B
      refine lv_aload_n hx hb dX11_gaps_11 rfl (lv_at hl 0 rfl) ?_
      obtain ⟨k_6, hk_6⟩ := pk_at (hs := []) (hT.2.2.2.1 pl (by omega) (by omega)).1
      refine x_get (ci := 0) (C := RX0) (T := TX0) (N := 4) (v := .ref (A 2 pl 0)) B k_6 hk_6 rfl in_X0 2 (by decide) mw_1183 (fun _ h9 => h9) rfl dX11_gaps_12 ?_
      refine lv_iload_n hx hb dX11_gaps_15 rfl (lv_at hl 3 rfl) ?_
      have B := bd_swap (a := []) (b := []) (d := tl) (bd_to rfl B)
      obtain ⟨k_7, fk_7, hk_7⟩ := LI_at (hs := []) (hT.2.2.2.1 pl (by omega) (by omega)).2.2
      refine k_V (rest := []) (wc := ([] ++ tl)) (wr := []) (k_getW l dC dI k T A X tl pl at_ hT hK z_3 z_5) B mV_Jx4a65c_get_915e3 mw_793 hl (q0 := k_7) (ci := 12) hk_7 rfl rfl ⟨Nat.le_of_ble_eq_true rfl, Nat.le_of_ble_eq_true rfl⟩ (Nat.le_of_ble_eq_true rfl) rfl dX11_gaps_16 ⟨by dsimp only; omega, by dsimp only; omega⟩ (fun r w gc gs H locs hp B => ?_)
      obtain ⟨rfl, hw9, rfl, rfl⟩ := hp
      rw [hw9] at B; clear hw9
      have B := bd_to (ws' := ([] ++ tl)) rfl B
      obtain ⟨k_8, hk_8⟩ := pk_at (hs := []) (hT.2.2.2.2.1 pl at_ (by omega) (by omega) (by omega) (by omega)).1
      refine x_cast (ci := 10) (C := RX10) (T := TX10) (N := 4) B k_8 hk_8 rfl mw_812 dX11_gaps_19 ?_
      obtain ⟨k_9, hk_9⟩ := pk_at (hs := []) (hT.2.2.2.2.1 pl at_ (by omega) (by omega) (by omega) (by omega)).1
      refine x_get (ci := 10) (C := RX10) (T := TX10) (N := 4) (v := .int (iI (T 8 pl at_ 0))) B k_9 hk_9 rfl in_X10 3 (by decide) mw_831 (fun _ h9 => h9) rfl dX11_gaps_22 ?_
      have z_10 : 0 ≤ T 8 pl at_ 0 ∧ T 8 pl at_ 0 < 64 := TK_gap hK pl at_
      exact vx_ret (k_iret B hr (⟨O, L, C, X, cp, tl, hPR, hL, (by omega), (by omega), rfl, rfl, rfl, rfl⟩) ⟨(by first | omega | (dsimp only; omega)), (by first | omega | (dsimp only; omega))⟩ ⟨(by first | omega | (dsimp only; omega)), (by first | omega | (dsimp only; omega))⟩ dX11_gaps_25)

theorem mw_1367 : (Jvm.Cond.methodLink "Galleyforge" (279 : Nat) ({ cls := "Galleyforge", name := "layoutOf", desc := "(I)LGalleyforge$Layout;" } : Jvm.MethodName)) ∈ gt := gt_at 1437 (by decide +kernel) (by decide +kernel)
theorem mw_1369 : (Jvm.Cond.instanceMethod ({ cls := "Galleyforge", name := "layoutOf", desc := "(I)LGalleyforge$Layout;" } : Jvm.MethodName)) ∈ gt := gt_at 1439 (by decide +kernel) (by decide +kernel)
theorem mw_1370 : (Jvm.Cond.code ({ cls := "Galleyforge", name := "layoutOf", desc := "(I)LGalleyforge$Layout;" } : Jvm.MethodName) prog_1_method_51_code (4 : Nat) (Option.some (Jvm.ClassFile.FieldType.object "Galleyforge$Layout"))) ∈ gt := gt_at 1440 (by decide +kernel) (by decide +kernel)
theorem ms_18 : Cond.selects "Galleyforge" (⟨"Galleyforge", "layoutOf", "(I)LGalleyforge$Layout;"⟩ : MethodName) (⟨"Galleyforge", "layoutOf", "(I)LGalleyforge$Layout;"⟩ : MethodName) ∈ gt := gt_at 18 (by decide +kernel) (by decide +kernel)
theorem mV_X11_layoutOf : mV yX11_layoutOf cX11_layoutOf 4 (some (.object "Galleyforge$Layout")) 1 := ⟨⟨mw_1370, mw_1, by decide, by decide, by decide +kernel⟩, mw_1369, ms_18⟩
theorem dX11_lines_0 : decode cX11_lines 0 = .ok (.iload_n 1, 1) := by decide +kernel
theorem dX11_lines_1 : decode cX11_lines 1 = .ok (.invokestatic 238, 3) := by decide +kernel
theorem dX11_lines_4 : decode cX11_lines 4 = .ok (.aload_n 0, 1) := by decide +kernel
theorem dX11_lines_5 : decode cX11_lines 5 = .ok (.iload_n 2, 1) := by decide +kernel
theorem dX11_lines_6 : decode cX11_lines 6 = .ok (.invokevirtual 168, 3) := by decide +kernel
theorem dX11_lines_9 : decode cX11_lines 9 = .ok (.aload_n 0, 1) := by decide +kernel
theorem dX11_lines_10 : decode cX11_lines 10 = .ok (.iload_n 1, 1) := by decide +kernel
theorem dX11_lines_11 : decode cX11_lines 11 = .ok (.invokevirtual 279, 3) := by decide +kernel
theorem dX11_lines_14 : decode cX11_lines 14 = .ok (.getfield 283, 3) := by decide +kernel
theorem dX11_lines_17 : decode cX11_lines 17 = .ok (.iload_n 2, 1) := by decide +kernel
theorem dX11_lines_18 : decode cX11_lines 18 = .ok (.iaload, 1) := by decide +kernel
theorem dX11_lines_19 : decode cX11_lines 19 = .ok (.ireturn, 1) := by decide +kernel
set_option maxHeartbeats 4000000 in
set_option maxRecDepth 100000 in
theorem k_lines (l : Launch) (dC : Nat → ClassId) (dI : Nat → Nat → Nat) (k : Nat → ClassId) (hl0 : l.stackTraces = false) (T : Nat → Int → Int → Int → Int) (A : Nat → Int → Int → Nat) (X : Nat → Int → Int → Int) (tl : va_W) (G : Nat → Int → Nat) (Mc : Nat → Int → Int) (Y : Nat → Int → Nat) (O : Nat → Nat) (L : Int → Nat → Int → Int) (C : Nat → Int → Int) (K : Nat → Int → Int) (cp : Nat) (v : Int) (pl : Int) (hPR : PR dI k T A X G Mc Y O L C K cp tl) (hK : TK T) (hL : ∀ u, 0 ≤ u → u ≤ 1 → LSq T u (L u)) (hF : FINE T) (hrv : -2147483648 ≤ v ∧ v < 2147483648) (hrpl : -2147483648 ≤ pl ∧ pl < 2147483648) : Kx l dC dI k yX11_lines (.code yX11_lines cX11_lines 3 (some .int)) ({ frames := 9, cells := (131072 - cp + 1), slots := (12 * (131072 - cp) + 6), locals := 205 } : Room) [.ref (Y 0 0), .int (iI v), .int (iI pl)] ([] ++ tl) (fun r w gc gs => (∃ (O2 : Nat → Nat) (L2 : Int → Nat → Int → Int) (C2 : Nat → Int → Int) (X2 : Nat → Int → Int → Int) (cp2 : Nat) (tl2 : va_W), (PR dI k T A X2 G Mc Y O2 L2 C2 K cp2 tl2) ∧ (∀ u, 0 ≤ u → u ≤ 1 → LSq T u (L2 u)) ∧ (cp ≤ cp2 ∧ cp2 ≤ 131072) ∧ ((0 ≤ v ∧ v ≤ 1) ∧ 0 ≤ pl ∧ pl < T 0 0 0 0) ∧ r = some (.int (iI (LCz T v (dgN T v) pl))) ∧ w = ([] ++ tl2) ∧ gc = (cp2 - cp) ∧ gs = (12 * (cp2 - cp)))) (fun E w gc gs => (∃ (O2 : Nat → Nat) (L2 : Int → Nat → Int → Int) (C2 : Nat → Int → Int) (X2 : Nat → Int → Int → Int) (cp2 : Nat) (tl2 : va_W), (PR dI k T A X2 G Mc Y O2 L2 C2 K cp2 tl2) ∧ (∀ u, 0 ≤ u → u ≤ 1 → LSq T u (L2 u)) ∧ (cp ≤ cp2 ∧ cp2 ≤ 131072) ∧ (¬ ((0 ≤ v ∧ v ≤ 1) ∧ 0 ≤ pl ∧ pl < T 0 0 0 0)) ∧ E = "java/lang/IndexOutOfBoundsException" ∧ w = ([] ++ tl2) ∧ gc = (cp2 - cp + 1) ∧ gs = (12 * (cp2 - cp) + 6))) := by
  refine kx_of (by decide) (Nat.le_of_ble_eq_true rfl) ?_
  intro p e s m args below meth c H locs B hr hex ls hl
  have hx := B.1.1
  have hb := B.1.2.1
  have hl : lv_has ls 3 [(0, .ref (Y 0 0)), (1, .int (iI v)), (2, .int (iI pl))] := hl
  have hT := PR_TI hPR
  have hnb0 := TK_nb hK
  have hcp0 : 512 ≤ cp ∧ cp ≤ 131072 := by have q9 := hPR.2.2.2; unfold cpOk at q9; omega
  have hcap := hF.1
  refine lv_iload_n hx hb dX11_lines_0 rfl (lv_at hl 1 rfl) ?_
  have B := bd_to (ws' := [] ++ ([] ++ tl)) rfl B
  refine k_Sx (rest := []) (wc := []) (wr := ([] ++ tl)) (k_checkVariant l dC dI k hl0 v hrv) B mS_X11_checkVariant mw_1287 hl ⟨Nat.le_of_ble_eq_true rfl, Nat.le_of_ble_eq_true rfl⟩ (Nat.le_of_ble_eq_true rfl) rfl dX11_lines_1 ⟨by dsimp only; omega, by dsimp only; omega⟩ (fun E ce q9 w gc gs H locs hp B h1 h2 h3 => ?_) (fun r w gc gs H locs hp B => ?_)
  · skip
    obtain ⟨z_1, rfl, hw9, rfl, rfl⟩ := hp
    rw [hw9] at B; clear hw9
    have B := bd_swap (a := []) (b := tl) (d := []) B
    have B := bd_to (ws' := ([] ++ tl)) rfl B
    exact k_out hex (⟨O, L, C, X, cp, tl, hPR, hL, (by omega), (by omega), rfl, rfl, rfl, rfl⟩) B h1 h2 h3 ⟨(by first | omega | (dsimp only; omega)), (by first | omega | (dsimp only; omega))⟩ ⟨(by first | omega | (dsimp only; omega)), (by first | omega | (dsimp only; omega))⟩
  · skip
    obtain ⟨z_2, rfl, hw9, rfl, rfl⟩ := hp
    rw [hw9] at B; clear hw9
    have B := bd_swap (a := []) (b := tl) (d := []) B
    have B := bd_to (ws' := ([] ++ tl)) rfl B
    refine lv_aload_n hx hb dX11_lines_4 rfl (lv_at hl 0 rfl) ?_
    refine lv_iload_n hx hb dX11_lines_5 rfl (lv_at hl 2 rfl) ?_
    have B := bd_swap (a := []) (b := []) (d := tl) (bd_to rfl B)
    obtain ⟨k_3, hk_3⟩ := pk_at (hs := []) (show (((Y 0 0), .inr (11, [.ref (A 50 0 0), .ref (Y 1 0), .ref (Y 2 0), .int (iI (K 0 0)), .ref (Y 3 0)])) : Nat × va_E) ∈ tl from PR_m hPR 0 0 rfl rfl)
    refine k_Vx (rest := []) (wc := ([] ++ tl)) (wr := []) (k_checkBlock l dC dI k hl0 T A X tl G Mc Y O L C K cp pl hPR hK hrpl) B mV_X11_checkBlock mw_788 hl (q0 := k_3) (ci := 11) hk_3 rfl rfl ⟨Nat.le_of_ble_eq_true rfl, Nat.le_of_ble_eq_true rfl⟩ (Nat.le_of_ble_eq_true rfl) rfl dX11_lines_6 ⟨by dsimp only; omega, by dsimp only; omega⟩ (fun E ce q9 w gc gs H locs hp B h1 h2 h3 => ?_) (fun r w gc gs H locs hp B => ?_)
    · skip
      obtain ⟨z_4, rfl, hw9, rfl, rfl⟩ := hp
      rw [hw9] at B; clear hw9
      have B := bd_to (ws' := ([] ++ tl)) rfl B
      exact k_out hex (⟨O, L, C, X, cp, tl, hPR, hL, (by omega), (by omega), rfl, rfl, rfl, rfl⟩) B h1 h2 h3 ⟨(by first | omega | (dsimp only; omega)), (by first | omega | (dsimp only; omega))⟩ ⟨(by first | omega | (dsimp only; omega)), (by first | omega | (dsimp only; omega))⟩
    · skip
      obtain ⟨z_5, rfl, hw9, rfl, rfl⟩ := hp
      rw [hw9] at B; clear hw9
      have B := bd_to (ws' := ([] ++ tl)) rfl B
      refine lv_aload_n hx hb dX11_lines_9 rfl (lv_at hl 0 rfl) ?_
      refine lv_iload_n hx hb dX11_lines_10 rfl (lv_at hl 1 rfl) ?_
      have B := bd_swap (a := []) (b := []) (d := tl) (bd_to rfl B)
      obtain ⟨k_6, hk_6⟩ := pk_at (hs := []) (show (((Y 0 0), .inr (11, [.ref (A 50 0 0), .ref (Y 1 0), .ref (Y 2 0), .int (iI (K 0 0)), .ref (Y 3 0)])) : Nat × va_E) ∈ tl from PR_m hPR 0 0 rfl rfl)
      refine k_Vx (rest := []) (wc := ([] ++ tl)) (wr := []) (k_layoutOf l dC dI k hl0 T A X tl G Mc Y O L C K cp v hPR hK hL hcap hrv) B mV_X11_layoutOf mw_1367 hl (q0 := k_6) (ci := 11) hk_6 rfl rfl ⟨Nat.le_of_ble_eq_true rfl, Nat.le_of_ble_eq_true rfl⟩ (Nat.le_of_ble_eq_true rfl) rfl dX11_lines_11 ⟨by dsimp only; omega, by dsimp only; omega⟩ (fun E ce q9 w gc gs H locs hp B h1 h2 h3 => ?_) (fun r w gc gs H locs hp B => ?_)
      · skip
        obtain ⟨z_7, rfl, hw9, rfl, rfl⟩ := hp
        rw [hw9] at B; clear hw9
        have B := bd_to (ws' := ([] ++ tl)) rfl B
        exact k_out hex (⟨O, L, C, X, cp, tl, hPR, hL, (by omega), (by omega), rfl, rfl, rfl, rfl⟩) B h1 h2 h3 ⟨(by first | omega | (dsimp only; omega)), (by first | omega | (dsimp only; omega))⟩ ⟨(by first | omega | (dsimp only; omega)), (by first | omega | (dsimp only; omega))⟩
      · skip
        obtain ⟨O2_8, L2_9, C2_10, X2_11, cp2_12, tl2_13, z_14, z_15, z_16, z_17, z_18, rfl, hw9, rfl, rfl⟩ := hp
        rw [hw9] at B; clear hw9
        have B := bd_to (ws' := ([] ++ tl2_13)) rfl B
        have hPR : PR dI k T A X2_11 G Mc Y O2_8 L2_9 C2_10 K cp2_12 tl2_13 := z_14
        have hLD : LD T v (L2_9 v) := z_15
        have hLo : ∀ u, u ≠ v → L2_9 u = L u := z_16
        have hT : TI dI k T A X2_11 tl2_13 := PR_TI hPR
        have hP9 : PgI (moC T v (dgN T v)) (mkZ T (moC T v (dgN T v))) := hF.2 v (by omega) (by omega)
        obtain ⟨k_19, hk_19⟩ := pk_at (hs := []) (show (((Y 4 v), .inr (1, [.ref (A 50 0 0), .int (iI v), .ref (Y 5 0), .ref (Y 60 v), .ref (Y 61 v), .int (iI ((L2_9 v) 0 0)), .int (iI ((L2_9 v) 0 1)), .ref (Y 21 v), .ref (Y 22 v), .ref (Y 23 v), .ref (Y 24 v), .ref (Y 25 v), .ref (Y 26 v), .int (iI ((L2_9 v) 0 2)), .int (iI ((L2_9 v) 0 3)), .int (iI ((L2_9 v) 0 4)), .ref (Y 27 v)])) : Nat × va_E) ∈ tl2_13 from PR_ly hPR (show 0 ≤ v ∧ v ≤ 1 by omega) 0 rfl)
        refine x_get (ci := 1) (C := RX1) (T := TX1) (N := 17) (v := .ref (Y 21 v)) B k_19 hk_19 rfl in_X1 7 (by decide) mw_421 (fun _ h9 => h9) rfl dX11_lines_14 ?_
        refine lv_iload_n hx hb dX11_lines_17 rfl (lv_at hl 2 rfl) ?_
        obtain ⟨k_20, hk_20⟩ := pk_at (hs := []) (show (((Y 21 v), .inl (k 0, 16, .inl (fun i9 : Nat => iI (((L2_9 v) 1) i9)))) : Nat × va_E) ∈ tl2_13 from PR_la hPR (show 0 ≤ v ∧ v ≤ 1 by omega) 0 rfl)
        refine x_iald' (f := ((L2_9 v) 1)) (z := pl) B k_20 hk_20 (by omega) dX11_lines_18 ?_
        refine lv_seti (y := iI (LCz T v (dgN T v) pl)) (congrArg iI (show ((L2_9 v) 1) pl = LCz T v (dgN T v) pl from (hLD.2.1.1 _ (by omega) (by omega)).1)) ?_
        have z_21 : 0 ≤ LCz T v (dgN T v) pl ∧ LCz T v (dgN T v) pl ≤ 48 := (LCz_in (i := pl) (v := v) (dg := dgN T v) hK).1
        exact vx_ret (k_iret B hr (⟨O2_8, L2_9, C2_10, X2_11, cp2_12, tl2_13, hPR, (fun u a9 b9 => by by_cases e9 : u = v; (rw [e9]; exact Or.inr hLD); (rw [hLo u e9]; exact hL u a9 b9)), z_17, (by omega), rfl, rfl, rfl, rfl⟩) ⟨(by first | omega | (dsimp only; omega)), (by first | omega | (dsimp only; omega))⟩ ⟨(by first | omega | (dsimp only; omega)), (by first | omega | (dsimp only; omega))⟩ dX11_lines_19)

theorem mw_423 : (Jvm.Cond.fieldLink "Galleyforge" (290 : Nat) "Galleyforge$Layout" "lineEnds" "[I") ∈ gt := gt_at 493 (by decide +kernel) (by decide +kernel)
theorem mw_1682 : (Jvm.Cond.methodLink "Galleyforge" (286 : Nat) ({ cls := "Galleyforge", name := "checkLine", desc := "(LGalleyforge$Layout;II)V" } : Jvm.MethodName)) ∈ gt := gt_at 1752 (by decide +kernel) (by decide +kernel)
theorem mw_1684 : (Jvm.Cond.instanceMethod ({ cls := "Galleyforge", name := "checkLine", desc := "(LGalleyforge$Layout;II)V" } : Jvm.MethodName)) ∈ gt := gt_at 1754 (by decide +kernel) (by decide +kernel)
theorem mw_1685 : (Jvm.Cond.code ({ cls := "Galleyforge", name := "checkLine", desc := "(LGalleyforge$Layout;II)V" } : Jvm.MethodName) prog_1_method_52_code (4 : Nat) (Option.none : Option Jvm.ClassFile.FieldType)) ∈ gt := gt_at 1755 (by decide +kernel) (by decide +kernel)
theorem ms_65 : Cond.selects "Galleyforge" (⟨"Galleyforge", "checkLine", "(LGalleyforge$Layout;II)V"⟩ : MethodName) (⟨"Galleyforge", "checkLine", "(LGalleyforge$Layout;II)V"⟩ : MethodName) ∈ gt := gt_at 65 (by decide +kernel) (by decide +kernel)
theorem mV_X11_checkLine : mV yX11_checkLine cX11_checkLine 4 none 3 := ⟨⟨mw_1685, mw_1, by decide, by decide, by decide +kernel⟩, mw_1684, ms_65⟩
theorem dX11_lineEnd_0 : decode cX11_lineEnd 0 = .ok (.aload_n 0, 1) := by decide +kernel
theorem dX11_lineEnd_1 : decode cX11_lineEnd 1 = .ok (.iload_n 1, 1) := by decide +kernel
theorem dX11_lineEnd_2 : decode cX11_lineEnd 2 = .ok (.invokevirtual 279, 3) := by decide +kernel
theorem dX11_lineEnd_5 : decode cX11_lineEnd 5 = .ok (.astore 4, 2) := by decide +kernel
theorem dX11_lineEnd_7 : decode cX11_lineEnd 7 = .ok (.aload_n 0, 1) := by decide +kernel
theorem dX11_lineEnd_8 : decode cX11_lineEnd 8 = .ok (.aload 4, 2) := by decide +kernel
theorem dX11_lineEnd_10 : decode cX11_lineEnd 10 = .ok (.iload_n 2, 1) := by decide +kernel
theorem dX11_lineEnd_11 : decode cX11_lineEnd 11 = .ok (.iload_n 3, 1) := by decide +kernel
theorem dX11_lineEnd_12 : decode cX11_lineEnd 12 = .ok (.invokevirtual 286, 3) := by decide +kernel
theorem dX11_lineEnd_15 : decode cX11_lineEnd 15 = .ok (.aload 4, 2) := by decide +kernel
theorem dX11_lineEnd_17 : decode cX11_lineEnd 17 = .ok (.getfield 290, 3) := by decide +kernel
theorem dX11_lineEnd_20 : decode cX11_lineEnd 20 = .ok (.iload_n 2, 1) := by decide +kernel
theorem dX11_lineEnd_21 : decode cX11_lineEnd 21 = .ok (.bipush 48, 2) := by decide +kernel
theorem dX11_lineEnd_23 : decode cX11_lineEnd 23 = .ok (.imul, 1) := by decide +kernel
theorem dX11_lineEnd_24 : decode cX11_lineEnd 24 = .ok (.iload_n 3, 1) := by decide +kernel
theorem dX11_lineEnd_25 : decode cX11_lineEnd 25 = .ok (.iadd, 1) := by decide +kernel
theorem dX11_lineEnd_26 : decode cX11_lineEnd 26 = .ok (.iaload, 1) := by decide +kernel
theorem dX11_lineEnd_27 : decode cX11_lineEnd 27 = .ok (.ireturn, 1) := by decide +kernel
set_option maxHeartbeats 4000000 in
set_option maxRecDepth 100000 in
theorem k_lineEnd (l : Launch) (dC : Nat → ClassId) (dI : Nat → Nat → Nat) (k : Nat → ClassId) (hl0 : l.stackTraces = false) (T : Nat → Int → Int → Int → Int) (A : Nat → Int → Int → Nat) (X : Nat → Int → Int → Int) (tl : va_W) (G : Nat → Int → Nat) (Mc : Nat → Int → Int) (Y : Nat → Int → Nat) (O : Nat → Nat) (L : Int → Nat → Int → Int) (C : Nat → Int → Int) (K : Nat → Int → Int) (cp : Nat) (v : Int) (pl : Int) (li : Int) (hPR : PR dI k T A X G Mc Y O L C K cp tl) (hK : TK T) (hL : ∀ u, 0 ≤ u → u ≤ 1 → LSq T u (L u)) (hF : FINE T) (hrv : -2147483648 ≤ v ∧ v < 2147483648) (hrpl : -2147483648 ≤ pl ∧ pl < 2147483648) (hrli : -2147483648 ≤ li ∧ li < 2147483648) : Kx l dC dI k yX11_lineEnd (.code yX11_lineEnd cX11_lineEnd 5 (some .int)) ({ frames := 9, cells := (131072 - cp + 1), slots := (12 * (131072 - cp) + 6), locals := 205 } : Room) [.ref (Y 0 0), .int (iI v), .int (iI pl), .int (iI li)] ([] ++ tl) (fun r w gc gs => (∃ (O2 : Nat → Nat) (L2 : Int → Nat → Int → Int) (C2 : Nat → Int → Int) (X2 : Nat → Int → Int → Int) (cp2 : Nat) (tl2 : va_W), (PR dI k T A X2 G Mc Y O2 L2 C2 K cp2 tl2) ∧ (∀ u, 0 ≤ u → u ≤ 1 → LSq T u (L2 u)) ∧ (cp ≤ cp2 ∧ cp2 ≤ 131072) ∧ ((0 ≤ v ∧ v ≤ 1) ∧ (0 ≤ pl ∧ pl < T 0 0 0 0) ∧ 0 ≤ li ∧ li < LCz T v (dgN T v) pl) ∧ r = some (.int (iI (LEz T v (dgN T v) pl li))) ∧ w = ([] ++ tl2) ∧ gc = (cp2 - cp) ∧ gs = (12 * (cp2 - cp)))) (fun E w gc gs => (∃ (O2 : Nat → Nat) (L2 : Int → Nat → Int → Int) (C2 : Nat → Int → Int) (X2 : Nat → Int → Int → Int) (cp2 : Nat) (tl2 : va_W), (PR dI k T A X2 G Mc Y O2 L2 C2 K cp2 tl2) ∧ (∀ u, 0 ≤ u → u ≤ 1 → LSq T u (L2 u)) ∧ (cp ≤ cp2 ∧ cp2 ≤ 131072) ∧ (¬ ((0 ≤ v ∧ v ≤ 1) ∧ (0 ≤ pl ∧ pl < T 0 0 0 0) ∧ 0 ≤ li ∧ li < LCz T v (dgN T v) pl)) ∧ E = "java/lang/IndexOutOfBoundsException" ∧ w = ([] ++ tl2) ∧ gc = (cp2 - cp + 1) ∧ gs = (12 * (cp2 - cp) + 6))) := by
  refine kx_of (by decide) (Nat.le_of_ble_eq_true rfl) ?_
  intro p e s m args below meth c H locs B hr hex ls hl
  have hx := B.1.1
  have hb := B.1.2.1
  have hl : lv_has ls 5 [(0, .ref (Y 0 0)), (1, .int (iI v)), (2, .int (iI pl)), (3, .int (iI li))] := hl
  have hT := PR_TI hPR
  have hnb0 := TK_nb hK
  have hcp0 : 512 ≤ cp ∧ cp ≤ 131072 := by have q9 := hPR.2.2.2; unfold cpOk at q9; omega
  have hcap := hF.1
  refine lv_aload_n hx hb dX11_lineEnd_0 rfl (lv_at hl 0 rfl) ?_
  refine lv_iload_n hx hb dX11_lineEnd_1 rfl (lv_at hl 1 rfl) ?_
  have B := bd_swap (a := []) (b := []) (d := tl) (bd_to rfl B)
  obtain ⟨k_1, hk_1⟩ := pk_at (hs := []) (show (((Y 0 0), .inr (11, [.ref (A 50 0 0), .ref (Y 1 0), .ref (Y 2 0), .int (iI (K 0 0)), .ref (Y 3 0)])) : Nat × va_E) ∈ tl from PR_m hPR 0 0 rfl rfl)
  refine k_Vx (rest := []) (wc := ([] ++ tl)) (wr := []) (k_layoutOf l dC dI k hl0 T A X tl G Mc Y O L C K cp v hPR hK hL hcap hrv) B mV_X11_layoutOf mw_1367 hl (q0 := k_1) (ci := 11) hk_1 rfl rfl ⟨Nat.le_of_ble_eq_true rfl, Nat.le_of_ble_eq_true rfl⟩ (Nat.le_of_ble_eq_true rfl) rfl dX11_lineEnd_2 ⟨by dsimp only; omega, by dsimp only; omega⟩ (fun E ce q9 w gc gs H locs hp B h1 h2 h3 => ?_) (fun r w gc gs H locs hp B => ?_)
  · skip
    obtain ⟨z_2, rfl, hw9, rfl, rfl⟩ := hp
    rw [hw9] at B; clear hw9
    have B := bd_to (ws' := ([] ++ tl)) rfl B
    exact k_out hex (⟨O, L, C, X, cp, tl, hPR, hL, (by omega), (by omega), rfl, rfl, rfl, rfl⟩) B h1 h2 h3 ⟨(by first | omega | (dsimp only; omega)), (by first | omega | (dsimp only; omega))⟩ ⟨(by first | omega | (dsimp only; omega)), (by first | omega | (dsimp only; omega))⟩
  · skip
    obtain ⟨O2_3, L2_4, C2_5, X2_6, cp2_7, tl2_8, z_9, z_10, z_11, z_12, z_13, rfl, hw9, rfl, rfl⟩ := hp
    rw [hw9] at B; clear hw9
    have B := bd_to (ws' := ([] ++ tl2_8)) rfl B
    have hPR : PR dI k T A X2_6 G Mc Y O2_3 L2_4 C2_5 K cp2_7 tl2_8 := z_9
    have hLD : LD T v (L2_4 v) := z_10
    have hLo : ∀ u, u ≠ v → L2_4 u = L u := z_11
    have hT : TI dI k T A X2_6 tl2_8 := PR_TI hPR
    have hP9 : PgI (moC T v (dgN T v)) (mkZ T (moC T v (dgN T v))) := hF.2 v (by omega) (by omega)
    refine lv_astore (lv' := [(4, .ref (Y 4 v)), (0, .ref (Y 0 0)), (1, .int (iI v)), (2, .int (iI pl)), (3, .int (iI li))]) hx hb dX11_lineEnd_5 hl (by decide) rfl (fun ls hl => ?_)
    refine lv_aload_n hx hb dX11_lineEnd_7 rfl (lv_at hl 1 rfl) ?_
    refine lv_aload hx hb dX11_lineEnd_8 (lv_at hl 0 rfl) ?_
    refine lv_iload_n hx hb dX11_lineEnd_10 rfl (lv_at hl 3 rfl) ?_
    refine lv_iload_n hx hb dX11_lineEnd_11 rfl (lv_at hl 4 rfl) ?_
    have B := bd_swap (a := []) (b := []) (d := tl2_8) (bd_to rfl B)
    obtain ⟨k_14, hk_14⟩ := pk_at (hs := []) (show (((Y 0 0), .inr (11, [.ref (A 50 0 0), .ref (Y 1 0), .ref (Y 2 0), .int (iI (K 0 0)), .ref (Y 3 0)])) : Nat × va_E) ∈ tl2_8 from PR_m hPR 0 0 rfl rfl)
    refine k_Vx (rest := []) (wc := ([] ++ tl2_8)) (wr := []) (k_checkLine l dC dI k hl0 T A X2_6 tl2_8 G Mc Y O2_3 L2_4 C2_5 K cp2_7 v pl li z_9 hK z_10 z_13 hF hrpl hrli) B mV_X11_checkLine mw_1682 hl (q0 := k_14) (ci := 11) hk_14 rfl rfl ⟨Nat.le_of_ble_eq_true rfl, Nat.le_of_ble_eq_true rfl⟩ (Nat.le_of_ble_eq_true rfl) rfl dX11_lineEnd_12 ⟨by dsimp only; omega, by dsimp only; omega⟩ (fun E ce q9 w gc gs H locs hp B h1 h2 h3 => ?_) (fun r w gc gs H locs hp B => ?_)
    · skip
      obtain ⟨z_15, rfl, hw9, rfl, rfl⟩ := hp
      rw [hw9] at B; clear hw9
      have B := bd_to (ws' := ([] ++ tl2_8)) rfl B
      exact k_out hex (⟨O2_3, L2_4, C2_5, X2_6, cp2_7, tl2_8, hPR, (fun u a9 b9 => by by_cases e9 : u = v; (rw [e9]; exact Or.inr hLD); (rw [hLo u e9]; exact hL u a9 b9)), z_12, (by omega), rfl, rfl, rfl, rfl⟩) B h1 h2 h3 ⟨(by first | omega | (dsimp only; omega)), (by first | omega | (dsimp only; omega))⟩ ⟨(by first | omega | (dsimp only; omega)), (by first | omega | (dsimp only; omega))⟩
    · skip
      obtain ⟨z_16, z_17, rfl, hw9, rfl, rfl⟩ := hp
      rw [hw9] at B; clear hw9
      have B := bd_to (ws' := ([] ++ tl2_8)) rfl B
      refine lv_aload hx hb dX11_lineEnd_15 (lv_at hl 0 rfl) ?_
      obtain ⟨k_18, hk_18⟩ := pk_at (hs := []) (show (((Y 4 v), .inr (1, [.ref (A 50 0 0), .int (iI v), .ref (Y 5 0), .ref (Y 60 v), .ref (Y 61 v), .int (iI ((L2_4 v) 0 0)), .int (iI ((L2_4 v) 0 1)), .ref (Y 21 v), .ref (Y 22 v), .ref (Y 23 v), .ref (Y 24 v), .ref (Y 25 v), .ref (Y 26 v), .int (iI ((L2_4 v) 0 2)), .int (iI ((L2_4 v) 0 3)), .int (iI ((L2_4 v) 0 4)), .ref (Y 27 v)])) : Nat × va_E) ∈ tl2_8 from PR_ly hPR (show 0 ≤ v ∧ v ≤ 1 by omega) 0 rfl)
      refine x_get (ci := 1) (C := RX1) (T := TX1) (N := 17) (v := .ref (Y 22 v)) B k_18 hk_18 rfl in_X1 8 (by decide) mw_423 (fun _ h9 => h9) rfl dX11_lineEnd_17 ?_
      refine lv_iload_n hx hb dX11_lineEnd_20 rfl (lv_at hl 3 rfl) ?_
      refine lv_bipush (v := iI 48) hx hb dX11_lineEnd_21 (by decide) ?_
      refine y_mul hx hb dX11_lineEnd_23 ?_
      refine lv_iload_n hx hb dX11_lineEnd_24 rfl (lv_at hl 4 rfl) ?_
      refine y_add hx hb dX11_lineEnd_25 ?_
      obtain ⟨k_19, hk_19⟩ := pk_at (hs := []) (show (((Y 22 v), .inl (k 0, 768, .inl (fun i9 : Nat => iI (((L2_4 v) 2) i9)))) : Nat × va_E) ∈ tl2_8 from PR_la hPR (show 0 ≤ v ∧ v ≤ 1 by omega) 1 rfl)
      refine x_iald' (f := ((L2_4 v) 2)) (z := ((pl * 48) + li)) B k_19 hk_19 (by omega) dX11_lineEnd_26 ?_
      refine lv_seti (y := iI (LEz T v (dgN T v) pl li)) (congrArg iI (show ((L2_4 v) 2) ((pl * 48) + li) = LEz T v (dgN T v) pl li from (hLD.2.1.2.1 _ _ (by omega) (by omega) (by omega) (by omega)).1)) ?_
      have z_20 : 0 ≤ LEz T v (dgN T v) pl li ∧ LEz T v (dgN T v) pl li ≤ 120 := LEz_in hK _
      exact vx_ret (k_iret B hr (⟨O2_3, L2_4, C2_5, X2_6, cp2_7, tl2_8, hPR, (fun u a9 b9 => by by_cases e9 : u = v; (rw [e9]; exact Or.inr hLD); (rw [hLo u e9]; exact hL u a9 b9)), z_12, (by omega), rfl, rfl, rfl, rfl⟩) ⟨(by first | omega | (dsimp only; omega)), (by first | omega | (dsimp only; omega))⟩ ⟨(by first | omega | (dsimp only; omega)), (by first | omega | (dsimp only; omega))⟩ dX11_lineEnd_27)

theorem mw_425 : (Jvm.Cond.fieldLink "Galleyforge" (293 : Nat) "Galleyforge$Layout" "lineClasses" "[I") ∈ gt := gt_at 495 (by decide +kernel) (by decide +kernel)
theorem dX11_tightness_0 : decode cX11_tightness 0 = .ok (.aload_n 0, 1) := by decide +kernel
theorem dX11_tightness_1 : decode cX11_tightness 1 = .ok (.iload_n 1, 1) := by decide +kernel
theorem dX11_tightness_2 : decode cX11_tightness 2 = .ok (.invokevirtual 279, 3) := by decide +kernel
theorem dX11_tightness_5 : decode cX11_tightness 5 = .ok (.astore 4, 2) := by decide +kernel
theorem dX11_tightness_7 : decode cX11_tightness 7 = .ok (.aload_n 0, 1) := by decide +kernel
theorem dX11_tightness_8 : decode cX11_tightness 8 = .ok (.aload 4, 2) := by decide +kernel
theorem dX11_tightness_10 : decode cX11_tightness 10 = .ok (.iload_n 2, 1) := by decide +kernel
theorem dX11_tightness_11 : decode cX11_tightness 11 = .ok (.iload_n 3, 1) := by decide +kernel
theorem dX11_tightness_12 : decode cX11_tightness 12 = .ok (.invokevirtual 286, 3) := by decide +kernel
theorem dX11_tightness_15 : decode cX11_tightness 15 = .ok (.aload 4, 2) := by decide +kernel
theorem dX11_tightness_17 : decode cX11_tightness 17 = .ok (.getfield 293, 3) := by decide +kernel
theorem dX11_tightness_20 : decode cX11_tightness 20 = .ok (.iload_n 2, 1) := by decide +kernel
theorem dX11_tightness_21 : decode cX11_tightness 21 = .ok (.bipush 48, 2) := by decide +kernel
theorem dX11_tightness_23 : decode cX11_tightness 23 = .ok (.imul, 1) := by decide +kernel
theorem dX11_tightness_24 : decode cX11_tightness 24 = .ok (.iload_n 3, 1) := by decide +kernel
theorem dX11_tightness_25 : decode cX11_tightness 25 = .ok (.iadd, 1) := by decide +kernel
theorem dX11_tightness_26 : decode cX11_tightness 26 = .ok (.iaload, 1) := by decide +kernel
theorem dX11_tightness_27 : decode cX11_tightness 27 = .ok (.ireturn, 1) := by decide +kernel
set_option maxHeartbeats 4000000 in
set_option maxRecDepth 100000 in
theorem k_tight (l : Launch) (dC : Nat → ClassId) (dI : Nat → Nat → Nat) (k : Nat → ClassId) (hl0 : l.stackTraces = false) (T : Nat → Int → Int → Int → Int) (A : Nat → Int → Int → Nat) (X : Nat → Int → Int → Int) (tl : va_W) (G : Nat → Int → Nat) (Mc : Nat → Int → Int) (Y : Nat → Int → Nat) (O : Nat → Nat) (L : Int → Nat → Int → Int) (C : Nat → Int → Int) (K : Nat → Int → Int) (cp : Nat) (v : Int) (pl : Int) (li : Int) (hPR : PR dI k T A X G Mc Y O L C K cp tl) (hK : TK T) (hL : ∀ u, 0 ≤ u → u ≤ 1 → LSq T u (L u)) (hF : FINE T) (hrv : -2147483648 ≤ v ∧ v < 2147483648) (hrpl : -2147483648 ≤ pl ∧ pl < 2147483648) (hrli : -2147483648 ≤ li ∧ li < 2147483648) : Kx l dC dI k yX11_tightness (.code yX11_tightness cX11_tightness 5 (some .int)) ({ frames := 9, cells := (131072 - cp + 1), slots := (12 * (131072 - cp) + 6), locals := 205 } : Room) [.ref (Y 0 0), .int (iI v), .int (iI pl), .int (iI li)] ([] ++ tl) (fun r w gc gs => (∃ (O2 : Nat → Nat) (L2 : Int → Nat → Int → Int) (C2 : Nat → Int → Int) (X2 : Nat → Int → Int → Int) (cp2 : Nat) (tl2 : va_W), (PR dI k T A X2 G Mc Y O2 L2 C2 K cp2 tl2) ∧ (∀ u, 0 ≤ u → u ≤ 1 → LSq T u (L2 u)) ∧ (cp ≤ cp2 ∧ cp2 ≤ 131072) ∧ ((0 ≤ v ∧ v ≤ 1) ∧ (0 ≤ pl ∧ pl < T 0 0 0 0) ∧ 0 ≤ li ∧ li < LCz T v (dgN T v) pl) ∧ r = some (.int (iI (LKz T v (dgN T v) pl li))) ∧ w = ([] ++ tl2) ∧ gc = (cp2 - cp) ∧ gs = (12 * (cp2 - cp)))) (fun E w gc gs => (∃ (O2 : Nat → Nat) (L2 : Int → Nat → Int → Int) (C2 : Nat → Int → Int) (X2 : Nat → Int → Int → Int) (cp2 : Nat) (tl2 : va_W), (PR dI k T A X2 G Mc Y O2 L2 C2 K cp2 tl2) ∧ (∀ u, 0 ≤ u → u ≤ 1 → LSq T u (L2 u)) ∧ (cp ≤ cp2 ∧ cp2 ≤ 131072) ∧ (¬ ((0 ≤ v ∧ v ≤ 1) ∧ (0 ≤ pl ∧ pl < T 0 0 0 0) ∧ 0 ≤ li ∧ li < LCz T v (dgN T v) pl)) ∧ E = "java/lang/IndexOutOfBoundsException" ∧ w = ([] ++ tl2) ∧ gc = (cp2 - cp + 1) ∧ gs = (12 * (cp2 - cp) + 6))) := by
  refine kx_of (by decide) (Nat.le_of_ble_eq_true rfl) ?_
  intro p e s m args below meth c H locs B hr hex ls hl
  have hx := B.1.1
  have hb := B.1.2.1
  have hl : lv_has ls 5 [(0, .ref (Y 0 0)), (1, .int (iI v)), (2, .int (iI pl)), (3, .int (iI li))] := hl
  have hT := PR_TI hPR
  have hnb0 := TK_nb hK
  have hcp0 : 512 ≤ cp ∧ cp ≤ 131072 := by have q9 := hPR.2.2.2; unfold cpOk at q9; omega
  have hcap := hF.1
  refine lv_aload_n hx hb dX11_tightness_0 rfl (lv_at hl 0 rfl) ?_
  refine lv_iload_n hx hb dX11_tightness_1 rfl (lv_at hl 1 rfl) ?_
  have B := bd_swap (a := []) (b := []) (d := tl) (bd_to rfl B)
  obtain ⟨k_1, hk_1⟩ := pk_at (hs := []) (show (((Y 0 0), .inr (11, [.ref (A 50 0 0), .ref (Y 1 0), .ref (Y 2 0), .int (iI (K 0 0)), .ref (Y 3 0)])) : Nat × va_E) ∈ tl from PR_m hPR 0 0 rfl rfl)
  refine k_Vx (rest := []) (wc := ([] ++ tl)) (wr := []) (k_layoutOf l dC dI k hl0 T A X tl G Mc Y O L C K cp v hPR hK hL hcap hrv) B mV_X11_layoutOf mw_1367 hl (q0 := k_1) (ci := 11) hk_1 rfl rfl ⟨Nat.le_of_ble_eq_true rfl, Nat.le_of_ble_eq_true rfl⟩ (Nat.le_of_ble_eq_true rfl) rfl dX11_tightness_2 ⟨by dsimp only; omega, by dsimp only; omega⟩ (fun E ce q9 w gc gs H locs hp B h1 h2 h3 => ?_) (fun r w gc gs H locs hp B => ?_)
  · skip
    obtain ⟨z_2, rfl, hw9, rfl, rfl⟩ := hp
    rw [hw9] at B; clear hw9
    have B := bd_to (ws' := ([] ++ tl)) rfl B
    exact k_out hex (⟨O, L, C, X, cp, tl, hPR, hL, (by omega), (by omega), rfl, rfl, rfl, rfl⟩) B h1 h2 h3 ⟨(by first | omega | (dsimp only; omega)), (by first | omega | (dsimp only; omega))⟩ ⟨(by first | omega | (dsimp only; omega)), (by first | omega | (dsimp only; omega))⟩
  · skip
    obtain ⟨O2_3, L2_4, C2_5, X2_6, cp2_7, tl2_8, z_9, z_10, z_11, z_12, z_13, rfl, hw9, rfl, rfl⟩ := hp
    rw [hw9] at B; clear hw9
    have B := bd_to (ws' := ([] ++ tl2_8)) rfl B
    have hPR : PR dI k T A X2_6 G Mc Y O2_3 L2_4 C2_5 K cp2_7 tl2_8 := z_9
    have hLD : LD T v (L2_4 v) := z_10
    have hLo : ∀ u, u ≠ v → L2_4 u = L u := z_11
    have hT : TI dI k T A X2_6 tl2_8 := PR_TI hPR
    have hP9 : PgI (moC T v (dgN T v)) (mkZ T (moC T v (dgN T v))) := hF.2 v (by omega) (by omega)
    refine lv_astore (lv' := [(4, .ref (Y 4 v)), (0, .ref (Y 0 0)), (1, .int (iI v)), (2, .int (iI pl)), (3, .int (iI li))]) hx hb dX11_tightness_5 hl (by decide) rfl (fun ls hl => ?_)
    refine lv_aload_n hx hb dX11_tightness_7 rfl (lv_at hl 1 rfl) ?_
    refine lv_aload hx hb dX11_tightness_8 (lv_at hl 0 rfl) ?_
    refine lv_iload_n hx hb dX11_tightness_10 rfl (lv_at hl 3 rfl) ?_
    refine lv_iload_n hx hb dX11_tightness_11 rfl (lv_at hl 4 rfl) ?_
    have B := bd_swap (a := []) (b := []) (d := tl2_8) (bd_to rfl B)
    obtain ⟨k_14, hk_14⟩ := pk_at (hs := []) (show (((Y 0 0), .inr (11, [.ref (A 50 0 0), .ref (Y 1 0), .ref (Y 2 0), .int (iI (K 0 0)), .ref (Y 3 0)])) : Nat × va_E) ∈ tl2_8 from PR_m hPR 0 0 rfl rfl)
    refine k_Vx (rest := []) (wc := ([] ++ tl2_8)) (wr := []) (k_checkLine l dC dI k hl0 T A X2_6 tl2_8 G Mc Y O2_3 L2_4 C2_5 K cp2_7 v pl li z_9 hK z_10 z_13 hF hrpl hrli) B mV_X11_checkLine mw_1682 hl (q0 := k_14) (ci := 11) hk_14 rfl rfl ⟨Nat.le_of_ble_eq_true rfl, Nat.le_of_ble_eq_true rfl⟩ (Nat.le_of_ble_eq_true rfl) rfl dX11_tightness_12 ⟨by dsimp only; omega, by dsimp only; omega⟩ (fun E ce q9 w gc gs H locs hp B h1 h2 h3 => ?_) (fun r w gc gs H locs hp B => ?_)
    · skip
      obtain ⟨z_15, rfl, hw9, rfl, rfl⟩ := hp
      rw [hw9] at B; clear hw9
      have B := bd_to (ws' := ([] ++ tl2_8)) rfl B
      exact k_out hex (⟨O2_3, L2_4, C2_5, X2_6, cp2_7, tl2_8, hPR, (fun u a9 b9 => by by_cases e9 : u = v; (rw [e9]; exact Or.inr hLD); (rw [hLo u e9]; exact hL u a9 b9)), z_12, (by omega), rfl, rfl, rfl, rfl⟩) B h1 h2 h3 ⟨(by first | omega | (dsimp only; omega)), (by first | omega | (dsimp only; omega))⟩ ⟨(by first | omega | (dsimp only; omega)), (by first | omega | (dsimp only; omega))⟩
    · skip
      obtain ⟨z_16, z_17, rfl, hw9, rfl, rfl⟩ := hp
      rw [hw9] at B; clear hw9
      have B := bd_to (ws' := ([] ++ tl2_8)) rfl B
      refine lv_aload hx hb dX11_tightness_15 (lv_at hl 0 rfl) ?_
      obtain ⟨k_18, hk_18⟩ := pk_at (hs := []) (show (((Y 4 v), .inr (1, [.ref (A 50 0 0), .int (iI v), .ref (Y 5 0), .ref (Y 60 v), .ref (Y 61 v), .int (iI ((L2_4 v) 0 0)), .int (iI ((L2_4 v) 0 1)), .ref (Y 21 v), .ref (Y 22 v), .ref (Y 23 v), .ref (Y 24 v), .ref (Y 25 v), .ref (Y 26 v), .int (iI ((L2_4 v) 0 2)), .int (iI ((L2_4 v) 0 3)), .int (iI ((L2_4 v) 0 4)), .ref (Y 27 v)])) : Nat × va_E) ∈ tl2_8 from PR_ly hPR (show 0 ≤ v ∧ v ≤ 1 by omega) 0 rfl)
      refine x_get (ci := 1) (C := RX1) (T := TX1) (N := 17) (v := .ref (Y 23 v)) B k_18 hk_18 rfl in_X1 9 (by decide) mw_425 (fun _ h9 => h9) rfl dX11_tightness_17 ?_
      refine lv_iload_n hx hb dX11_tightness_20 rfl (lv_at hl 3 rfl) ?_
      refine lv_bipush (v := iI 48) hx hb dX11_tightness_21 (by decide) ?_
      refine y_mul hx hb dX11_tightness_23 ?_
      refine lv_iload_n hx hb dX11_tightness_24 rfl (lv_at hl 4 rfl) ?_
      refine y_add hx hb dX11_tightness_25 ?_
      obtain ⟨k_19, hk_19⟩ := pk_at (hs := []) (show (((Y 23 v), .inl (k 0, 768, .inl (fun i9 : Nat => iI (((L2_4 v) 3) i9)))) : Nat × va_E) ∈ tl2_8 from PR_la hPR (show 0 ≤ v ∧ v ≤ 1 by omega) 2 rfl)
      refine x_iald' (f := ((L2_4 v) 3)) (z := ((pl * 48) + li)) B k_19 hk_19 (by omega) dX11_tightness_26 ?_
      refine lv_seti (y := iI (LKz T v (dgN T v) pl li)) (congrArg iI (show ((L2_4 v) 3) ((pl * 48) + li) = LKz T v (dgN T v) pl li from (hLD.2.1.2.1 _ _ (by omega) (by omega) (by omega) (by omega)).2)) ?_
      exact vx_ret (k_iret B hr (⟨O2_3, L2_4, C2_5, X2_6, cp2_7, tl2_8, hPR, (fun u a9 b9 => by by_cases e9 : u = v; (rw [e9]; exact Or.inr hLD); (rw [hLo u e9]; exact hL u a9 b9)), z_12, (by omega), rfl, rfl, rfl, rfl⟩) ⟨(by first | omega | (dsimp only; omega)), (by first | omega | (dsimp only; omega))⟩ ⟨(by first | omega | (dsimp only; omega)), (by first | omega | (dsimp only; omega))⟩ dX11_tightness_27)

theorem mw_427 : (Jvm.Cond.fieldLink "Galleyforge" (296 : Nat) "Galleyforge$Layout" "lineDemerits" "[J") ∈ gt := gt_at 497 (by decide +kernel) (by decide +kernel)
theorem dX11_demerits_0 : decode cX11_demerits 0 = .ok (.iload_n 1, 1) := by decide +kernel
theorem dX11_demerits_1 : decode cX11_demerits 1 = .ok (.invokestatic 238, 3) := by decide +kernel
theorem dX11_demerits_4 : decode cX11_demerits 4 = .ok (.aload_n 0, 1) := by decide +kernel
theorem dX11_demerits_5 : decode cX11_demerits 5 = .ok (.iload_n 2, 1) := by decide +kernel
theorem dX11_demerits_6 : decode cX11_demerits 6 = .ok (.invokevirtual 168, 3) := by decide +kernel
theorem dX11_demerits_9 : decode cX11_demerits 9 = .ok (.aload_n 0, 1) := by decide +kernel
theorem dX11_demerits_10 : decode cX11_demerits 10 = .ok (.iload_n 1, 1) := by decide +kernel
theorem dX11_demerits_11 : decode cX11_demerits 11 = .ok (.invokevirtual 279, 3) := by decide +kernel
theorem dX11_demerits_14 : decode cX11_demerits 14 = .ok (.getfield 296, 3) := by decide +kernel
theorem dX11_demerits_17 : decode cX11_demerits 17 = .ok (.iload_n 2, 1) := by decide +kernel
theorem dX11_demerits_18 : decode cX11_demerits 18 = .ok (.laload, 1) := by decide +kernel
theorem dX11_demerits_19 : decode cX11_demerits 19 = .ok (.lreturn, 1) := by decide +kernel
set_option maxHeartbeats 4000000 in
set_option maxRecDepth 100000 in
theorem k_demerits (l : Launch) (dC : Nat → ClassId) (dI : Nat → Nat → Nat) (k : Nat → ClassId) (hl0 : l.stackTraces = false) (T : Nat → Int → Int → Int → Int) (A : Nat → Int → Int → Nat) (X : Nat → Int → Int → Int) (tl : va_W) (G : Nat → Int → Nat) (Mc : Nat → Int → Int) (Y : Nat → Int → Nat) (O : Nat → Nat) (L : Int → Nat → Int → Int) (C : Nat → Int → Int) (K : Nat → Int → Int) (cp : Nat) (v : Int) (pl : Int) (hPR : PR dI k T A X G Mc Y O L C K cp tl) (hK : TK T) (hL : ∀ u, 0 ≤ u → u ≤ 1 → LSq T u (L u)) (hF : FINE T) (hrv : -2147483648 ≤ v ∧ v < 2147483648) (hrpl : -2147483648 ≤ pl ∧ pl < 2147483648) : Kx l dC dI k yX11_demerits (.code yX11_demerits cX11_demerits 3 (some .long)) ({ frames := 9, cells := (131072 - cp + 1), slots := (12 * (131072 - cp) + 6), locals := 205 } : Room) [.ref (Y 0 0), .int (iI v), .int (iI pl)] ([] ++ tl) (fun r w gc gs => (∃ (O2 : Nat → Nat) (L2 : Int → Nat → Int → Int) (C2 : Nat → Int → Int) (X2 : Nat → Int → Int → Int) (cp2 : Nat) (tl2 : va_W), (PR dI k T A X2 G Mc Y O2 L2 C2 K cp2 tl2) ∧ (∀ u, 0 ≤ u → u ≤ 1 → LSq T u (L2 u)) ∧ (cp ≤ cp2 ∧ cp2 ≤ 131072) ∧ ((0 ≤ v ∧ v ≤ 1) ∧ 0 ≤ pl ∧ pl < T 0 0 0 0) ∧ r = some (.long (lI (LDz T v (dgN T v) pl))) ∧ w = ([] ++ tl2) ∧ gc = (cp2 - cp) ∧ gs = (12 * (cp2 - cp)))) (fun E w gc gs => (∃ (O2 : Nat → Nat) (L2 : Int → Nat → Int → Int) (C2 : Nat → Int → Int) (X2 : Nat → Int → Int → Int) (cp2 : Nat) (tl2 : va_W), (PR dI k T A X2 G Mc Y O2 L2 C2 K cp2 tl2) ∧ (∀ u, 0 ≤ u → u ≤ 1 → LSq T u (L2 u)) ∧ (cp ≤ cp2 ∧ cp2 ≤ 131072) ∧ (¬ ((0 ≤ v ∧ v ≤ 1) ∧ 0 ≤ pl ∧ pl < T 0 0 0 0)) ∧ E = "java/lang/IndexOutOfBoundsException" ∧ w = ([] ++ tl2) ∧ gc = (cp2 - cp + 1) ∧ gs = (12 * (cp2 - cp) + 6))) := by
  refine kx_of (by decide) (Nat.le_of_ble_eq_true rfl) ?_
  intro p e s m args below meth c H locs B hr hex ls hl
  have hx := B.1.1
  have hb := B.1.2.1
  have hl : lv_has ls 3 [(0, .ref (Y 0 0)), (1, .int (iI v)), (2, .int (iI pl))] := hl
  have hT := PR_TI hPR
  have hnb0 := TK_nb hK
  have hcp0 : 512 ≤ cp ∧ cp ≤ 131072 := by have q9 := hPR.2.2.2; unfold cpOk at q9; omega
  have hcap := hF.1
  refine lv_iload_n hx hb dX11_demerits_0 rfl (lv_at hl 1 rfl) ?_
  have B := bd_to (ws' := [] ++ ([] ++ tl)) rfl B
  refine k_Sx (rest := []) (wc := []) (wr := ([] ++ tl)) (k_checkVariant l dC dI k hl0 v hrv) B mS_X11_checkVariant mw_1287 hl ⟨Nat.le_of_ble_eq_true rfl, Nat.le_of_ble_eq_true rfl⟩ (Nat.le_of_ble_eq_true rfl) rfl dX11_demerits_1 ⟨by dsimp only; omega, by dsimp only; omega⟩ (fun E ce q9 w gc gs H locs hp B h1 h2 h3 => ?_) (fun r w gc gs H locs hp B => ?_)
  · skip
    obtain ⟨z_1, rfl, hw9, rfl, rfl⟩ := hp
    rw [hw9] at B; clear hw9
    have B := bd_swap (a := []) (b := tl) (d := []) B
    have B := bd_to (ws' := ([] ++ tl)) rfl B
    exact k_out hex (⟨O, L, C, X, cp, tl, hPR, hL, (by omega), (by omega), rfl, rfl, rfl, rfl⟩) B h1 h2 h3 ⟨(by first | omega | (dsimp only; omega)), (by first | omega | (dsimp only; omega))⟩ ⟨(by first | omega | (dsimp only; omega)), (by first | omega | (dsimp only; omega))⟩
  · skip
    obtain ⟨z_2, rfl, hw9, rfl, rfl⟩ := hp
    rw [hw9] at B; clear hw9
    have B := bd_swap (a := []) (b := tl) (d := []) B
    have B := bd_to (ws' := ([] ++ tl)) rfl B
    refine lv_aload_n hx hb dX11_demerits_4 rfl (lv_at hl 0 rfl) ?_
    refine lv_iload_n hx hb dX11_demerits_5 rfl (lv_at hl 2 rfl) ?_
    have B := bd_swap (a := []) (b := []) (d := tl) (bd_to rfl B)
    obtain ⟨k_3, hk_3⟩ := pk_at (hs := []) (show (((Y 0 0), .inr (11, [.ref (A 50 0 0), .ref (Y 1 0), .ref (Y 2 0), .int (iI (K 0 0)), .ref (Y 3 0)])) : Nat × va_E) ∈ tl from PR_m hPR 0 0 rfl rfl)
    refine k_Vx (rest := []) (wc := ([] ++ tl)) (wr := []) (k_checkBlock l dC dI k hl0 T A X tl G Mc Y O L C K cp pl hPR hK hrpl) B mV_X11_checkBlock mw_788 hl (q0 := k_3) (ci := 11) hk_3 rfl rfl ⟨Nat.le_of_ble_eq_true rfl, Nat.le_of_ble_eq_true rfl⟩ (Nat.le_of_ble_eq_true rfl) rfl dX11_demerits_6 ⟨by dsimp only; omega, by dsimp only; omega⟩ (fun E ce q9 w gc gs H locs hp B h1 h2 h3 => ?_) (fun r w gc gs H locs hp B => ?_)
    · skip
      obtain ⟨z_4, rfl, hw9, rfl, rfl⟩ := hp
      rw [hw9] at B; clear hw9
      have B := bd_to (ws' := ([] ++ tl)) rfl B
      exact k_out hex (⟨O, L, C, X, cp, tl, hPR, hL, (by omega), (by omega), rfl, rfl, rfl, rfl⟩) B h1 h2 h3 ⟨(by first | omega | (dsimp only; omega)), (by first | omega | (dsimp only; omega))⟩ ⟨(by first | omega | (dsimp only; omega)), (by first | omega | (dsimp only; omega))⟩
    · skip
      obtain ⟨z_5, rfl, hw9, rfl, rfl⟩ := hp
      rw [hw9] at B; clear hw9
      have B := bd_to (ws' := ([] ++ tl)) rfl B
      refine lv_aload_n hx hb dX11_demerits_9 rfl (lv_at hl 0 rfl) ?_
      refine lv_iload_n hx hb dX11_demerits_10 rfl (lv_at hl 1 rfl) ?_
      have B := bd_swap (a := []) (b := []) (d := tl) (bd_to rfl B)
      obtain ⟨k_6, hk_6⟩ := pk_at (hs := []) (show (((Y 0 0), .inr (11, [.ref (A 50 0 0), .ref (Y 1 0), .ref (Y 2 0), .int (iI (K 0 0)), .ref (Y 3 0)])) : Nat × va_E) ∈ tl from PR_m hPR 0 0 rfl rfl)
      refine k_Vx (rest := []) (wc := ([] ++ tl)) (wr := []) (k_layoutOf l dC dI k hl0 T A X tl G Mc Y O L C K cp v hPR hK hL hcap hrv) B mV_X11_layoutOf mw_1367 hl (q0 := k_6) (ci := 11) hk_6 rfl rfl ⟨Nat.le_of_ble_eq_true rfl, Nat.le_of_ble_eq_true rfl⟩ (Nat.le_of_ble_eq_true rfl) rfl dX11_demerits_11 ⟨by dsimp only; omega, by dsimp only; omega⟩ (fun E ce q9 w gc gs H locs hp B h1 h2 h3 => ?_) (fun r w gc gs H locs hp B => ?_)
      · skip
        obtain ⟨z_7, rfl, hw9, rfl, rfl⟩ := hp
        rw [hw9] at B; clear hw9
        have B := bd_to (ws' := ([] ++ tl)) rfl B
        exact k_out hex (⟨O, L, C, X, cp, tl, hPR, hL, (by omega), (by omega), rfl, rfl, rfl, rfl⟩) B h1 h2 h3 ⟨(by first | omega | (dsimp only; omega)), (by first | omega | (dsimp only; omega))⟩ ⟨(by first | omega | (dsimp only; omega)), (by first | omega | (dsimp only; omega))⟩
      · skip
        obtain ⟨O2_8, L2_9, C2_10, X2_11, cp2_12, tl2_13, z_14, z_15, z_16, z_17, z_18, rfl, hw9, rfl, rfl⟩ := hp
        rw [hw9] at B; clear hw9
        have B := bd_to (ws' := ([] ++ tl2_13)) rfl B
        have hPR : PR dI k T A X2_11 G Mc Y O2_8 L2_9 C2_10 K cp2_12 tl2_13 := z_14
        have hLD : LD T v (L2_9 v) := z_15
        have hLo : ∀ u, u ≠ v → L2_9 u = L u := z_16
        have hT : TI dI k T A X2_11 tl2_13 := PR_TI hPR
        have hP9 : PgI (moC T v (dgN T v)) (mkZ T (moC T v (dgN T v))) := hF.2 v (by omega) (by omega)
        obtain ⟨k_19, hk_19⟩ := pk_at (hs := []) (show (((Y 4 v), .inr (1, [.ref (A 50 0 0), .int (iI v), .ref (Y 5 0), .ref (Y 60 v), .ref (Y 61 v), .int (iI ((L2_9 v) 0 0)), .int (iI ((L2_9 v) 0 1)), .ref (Y 21 v), .ref (Y 22 v), .ref (Y 23 v), .ref (Y 24 v), .ref (Y 25 v), .ref (Y 26 v), .int (iI ((L2_9 v) 0 2)), .int (iI ((L2_9 v) 0 3)), .int (iI ((L2_9 v) 0 4)), .ref (Y 27 v)])) : Nat × va_E) ∈ tl2_13 from PR_ly hPR (show 0 ≤ v ∧ v ≤ 1 by omega) 0 rfl)
        refine x_get (ci := 1) (C := RX1) (T := TX1) (N := 17) (v := .ref (Y 24 v)) B k_19 hk_19 rfl in_X1 10 (by decide) mw_427 (fun _ h9 => h9) rfl dX11_demerits_14 ?_
        refine lv_iload_n hx hb dX11_demerits_17 rfl (lv_at hl 2 rfl) ?_
        obtain ⟨k_20, hk_20⟩ := pk_at (hs := []) (show (((Y 24 v), .inl (k 2, 16, .inr (.inl (fun i9 : Nat => lI (((L2_9 v) 4) i9))))) : Nat × va_E) ∈ tl2_13 from PR_la hPR (show 0 ≤ v ∧ v ≤ 1 by omega) 3 rfl)
        refine x_lald' (f := ((L2_9 v) 4)) (z := pl) B k_20 hk_20 (by omega) dX11_demerits_18 ?_
        refine lv_setl (y := lI (LDz T v (dgN T v) pl)) (congrArg lI (show ((L2_9 v) 4) pl = LDz T v (dgN T v) pl from (hLD.2.1.1 _ (by omega) (by omega)).2)) ?_
        have z_21 : 0 ≤ LDz T v (dgN T v) pl ∧ LDz T v (dgN T v) pl ≤ 41736600 * 48 := LDz_in hK
        exact vx_ret (k_lret B hr (⟨O2_8, L2_9, C2_10, X2_11, cp2_12, tl2_13, hPR, (fun u a9 b9 => by by_cases e9 : u = v; (rw [e9]; exact Or.inr hLD); (rw [hLo u e9]; exact hL u a9 b9)), z_17, (by omega), rfl, rfl, rfl, rfl⟩) ⟨(by first | omega | (dsimp only; omega)), (by first | omega | (dsimp only; omega))⟩ ⟨(by first | omega | (dsimp only; omega)), (by first | omega | (dsimp only; omega))⟩ dX11_demerits_19)

theorem mw_1709 : (Jvm.Cond.methodLink "Galleyforge" (300 : Nat) ({ cls := "Galleyforge$Layout", name := "demeritsByAllWays", desc := "(I)J" } : Jvm.MethodName)) ∈ gt := gt_at 1779 (by decide +kernel) (by decide +kernel)
theorem mw_1710 : (Jvm.Cond.instanceMethod ({ cls := "Galleyforge$Layout", name := "demeritsByAllWays", desc := "(I)J" } : Jvm.MethodName)) ∈ gt := gt_at 1780 (by decide +kernel) (by decide +kernel)
theorem mw_1711 : (Jvm.Cond.selects "Galleyforge$Layout" ({ cls := "Galleyforge$Layout", name := "demeritsByAllWays", desc := "(I)J" } : Jvm.MethodName) ({ cls := "Galleyforge$Layout", name := "demeritsByAllWays", desc := "(I)J" } : Jvm.MethodName)) ∈ gt := gt_at 1781 (by decide +kernel) (by decide +kernel)
theorem mw_1712 : (Jvm.Cond.code ({ cls := "Galleyforge$Layout", name := "demeritsByAllWays", desc := "(I)J" } : Jvm.MethodName) prog_3_method_10_code (2 : Nat) (Option.some Jvm.ClassFile.FieldType.long)) ∈ gt := gt_at 1782 (by decide +kernel) (by decide +kernel)
theorem mV_X1_demeritsByAllWays : mV yX1_demeritsByAllWays cX1_demeritsByAllWays 2 (some .long) 1 := ⟨⟨mw_1712, mw_8, by decide, by decide, by decide +kernel⟩, mw_1710, mw_1711⟩
theorem dX11_demeritsByAll_0 : decode cX11_demeritsByAll 0 = .ok (.iload_n 1, 1) := by decide +kernel
theorem dX11_demeritsByAll_1 : decode cX11_demeritsByAll 1 = .ok (.invokestatic 238, 3) := by decide +kernel
theorem dX11_demeritsByAll_4 : decode cX11_demeritsByAll 4 = .ok (.aload_n 0, 1) := by decide +kernel
theorem dX11_demeritsByAll_5 : decode cX11_demeritsByAll 5 = .ok (.iload_n 2, 1) := by decide +kernel
theorem dX11_demeritsByAll_6 : decode cX11_demeritsByAll 6 = .ok (.invokevirtual 168, 3) := by decide +kernel
theorem dX11_demeritsByAll_9 : decode cX11_demeritsByAll 9 = .ok (.aload_n 0, 1) := by decide +kernel
theorem dX11_demeritsByAll_10 : decode cX11_demeritsByAll 10 = .ok (.iload_n 1, 1) := by decide +kernel
theorem dX11_demeritsByAll_11 : decode cX11_demeritsByAll 11 = .ok (.invokevirtual 279, 3) := by decide +kernel
theorem dX11_demeritsByAll_14 : decode cX11_demeritsByAll 14 = .ok (.iload_n 2, 1) := by decide +kernel
theorem dX11_demeritsByAll_15 : decode cX11_demeritsByAll 15 = .ok (.invokevirtual 300, 3) := by decide +kernel
theorem dX11_demeritsByAll_18 : decode cX11_demeritsByAll 18 = .ok (.lreturn, 1) := by decide +kernel
set_option maxHeartbeats 4000000 in
set_option maxRecDepth 100000 in
theorem k_dByAll (l : Launch) (dC : Nat → ClassId) (dI : Nat → Nat → Nat) (k : Nat → ClassId) (hl0 : l.stackTraces = false) (T : Nat → Int → Int → Int → Int) (A : Nat → Int → Int → Nat) (X : Nat → Int → Int → Int) (tl : va_W) (G : Nat → Int → Nat) (Mc : Nat → Int → Int) (Y : Nat → Int → Nat) (O : Nat → Nat) (L : Int → Nat → Int → Int) (C : Nat → Int → Int) (K : Nat → Int → Int) (cp : Nat) (v : Int) (pl : Int) (hPR : PR dI k T A X G Mc Y O L C K cp tl) (hK : TK T) (hL : ∀ u, 0 ≤ u → u ≤ 1 → LSq T u (L u)) (hF : FINE T) (hrv : -2147483648 ≤ v ∧ v < 2147483648) (hrpl : -2147483648 ≤ pl ∧ pl < 2147483648) : Kx l dC dI k yX11_demeritsByAll (.code yX11_demeritsByAll cX11_demeritsByAll 3 (some .long)) ({ frames := 9, cells := (131072 - cp + 1), slots := (12 * (131072 - cp) + 6), locals := 205 } : Room) [.ref (Y 0 0), .int (iI v), .int (iI pl)] ([] ++ tl) (fun r w gc gs => (∃ (O2 : Nat → Nat) (L2 : Int → Nat → Int → Int) (C2 : Nat → Int → Int) (X2 : Nat → Int → Int → Int) (cp2 : Nat) (tl2 : va_W), (PR dI k T A X2 G Mc Y O2 L2 C2 K cp2 tl2) ∧ (∀ u, 0 ≤ u → u ≤ 1 → LSq T u (L2 u)) ∧ (cp ≤ cp2 ∧ cp2 ≤ 131072) ∧ ((0 ≤ v ∧ v ≤ 1) ∧ 0 ≤ pl ∧ pl < T 0 0 0 0) ∧ r = some (.long (lI (byZ T v (dgN T v) pl))) ∧ w = ([] ++ tl2) ∧ gc = (cp2 - cp) ∧ gs = (12 * (cp2 - cp)))) (fun E w gc gs => (∃ (O2 : Nat → Nat) (L2 : Int → Nat → Int → Int) (C2 : Nat → Int → Int) (X2 : Nat → Int → Int → Int) (cp2 : Nat) (tl2 : va_W), (PR dI k T A X2 G Mc Y O2 L2 C2 K cp2 tl2) ∧ (∀ u, 0 ≤ u → u ≤ 1 → LSq T u (L2 u)) ∧ (cp ≤ cp2 ∧ cp2 ≤ 131072) ∧ (¬ ((0 ≤ v ∧ v ≤ 1) ∧ 0 ≤ pl ∧ pl < T 0 0 0 0)) ∧ E = "java/lang/IndexOutOfBoundsException" ∧ w = ([] ++ tl2) ∧ gc = (cp2 - cp + 1) ∧ gs = (12 * (cp2 - cp) + 6))) := by
  refine kx_of (by decide) (Nat.le_of_ble_eq_true rfl) ?_
  intro p e s m args below meth c H locs B hr hex ls hl
  have hx := B.1.1
  have hb := B.1.2.1
  have hl : lv_has ls 3 [(0, .ref (Y 0 0)), (1, .int (iI v)), (2, .int (iI pl))] := hl
  have hT := PR_TI hPR
  have hnb0 := TK_nb hK
  have hcp0 : 512 ≤ cp ∧ cp ≤ 131072 := by have q9 := hPR.2.2.2; unfold cpOk at q9; omega
  have hcap := hF.1
  refine lv_iload_n hx hb dX11_demeritsByAll_0 rfl (lv_at hl 1 rfl) ?_
  have B := bd_to (ws' := [] ++ ([] ++ tl)) rfl B
  refine k_Sx (rest := []) (wc := []) (wr := ([] ++ tl)) (k_checkVariant l dC dI k hl0 v hrv) B mS_X11_checkVariant mw_1287 hl ⟨Nat.le_of_ble_eq_true rfl, Nat.le_of_ble_eq_true rfl⟩ (Nat.le_of_ble_eq_true rfl) rfl dX11_demeritsByAll_1 ⟨by dsimp only; omega, by dsimp only; omega⟩ (fun E ce q9 w gc gs H locs hp B h1 h2 h3 => ?_) (fun r w gc gs H locs hp B => ?_)
  · skip
    obtain ⟨z_1, rfl, hw9, rfl, rfl⟩ := hp
    rw [hw9] at B; clear hw9
    have B := bd_swap (a := []) (b := tl) (d := []) B
    have B := bd_to (ws' := ([] ++ tl)) rfl B
    exact k_out hex (⟨O, L, C, X, cp, tl, hPR, hL, (by omega), (by omega), rfl, rfl, rfl, rfl⟩) B h1 h2 h3 ⟨(by first | omega | (dsimp only; omega)), (by first | omega | (dsimp only; omega))⟩ ⟨(by first | omega | (dsimp only; omega)), (by first | omega | (dsimp only; omega))⟩
  · skip
    obtain ⟨z_2, rfl, hw9, rfl, rfl⟩ := hp
    rw [hw9] at B; clear hw9
    have B := bd_swap (a := []) (b := tl) (d := []) B
    have B := bd_to (ws' := ([] ++ tl)) rfl B
    refine lv_aload_n hx hb dX11_demeritsByAll_4 rfl (lv_at hl 0 rfl) ?_
    refine lv_iload_n hx hb dX11_demeritsByAll_5 rfl (lv_at hl 2 rfl) ?_
    have B := bd_swap (a := []) (b := []) (d := tl) (bd_to rfl B)
    obtain ⟨k_3, hk_3⟩ := pk_at (hs := []) (show (((Y 0 0), .inr (11, [.ref (A 50 0 0), .ref (Y 1 0), .ref (Y 2 0), .int (iI (K 0 0)), .ref (Y 3 0)])) : Nat × va_E) ∈ tl from PR_m hPR 0 0 rfl rfl)
    refine k_Vx (rest := []) (wc := ([] ++ tl)) (wr := []) (k_checkBlock l dC dI k hl0 T A X tl G Mc Y O L C K cp pl hPR hK hrpl) B mV_X11_checkBlock mw_788 hl (q0 := k_3) (ci := 11) hk_3 rfl rfl ⟨Nat.le_of_ble_eq_true rfl, Nat.le_of_ble_eq_true rfl⟩ (Nat.le_of_ble_eq_true rfl) rfl dX11_demeritsByAll_6 ⟨by dsimp only; omega, by dsimp only; omega⟩ (fun E ce q9 w gc gs H locs hp B h1 h2 h3 => ?_) (fun r w gc gs H locs hp B => ?_)
    · skip
      obtain ⟨z_4, rfl, hw9, rfl, rfl⟩ := hp
      rw [hw9] at B; clear hw9
      have B := bd_to (ws' := ([] ++ tl)) rfl B
      exact k_out hex (⟨O, L, C, X, cp, tl, hPR, hL, (by omega), (by omega), rfl, rfl, rfl, rfl⟩) B h1 h2 h3 ⟨(by first | omega | (dsimp only; omega)), (by first | omega | (dsimp only; omega))⟩ ⟨(by first | omega | (dsimp only; omega)), (by first | omega | (dsimp only; omega))⟩
    · skip
      obtain ⟨z_5, rfl, hw9, rfl, rfl⟩ := hp
      rw [hw9] at B; clear hw9
      have B := bd_to (ws' := ([] ++ tl)) rfl B
      refine lv_aload_n hx hb dX11_demeritsByAll_9 rfl (lv_at hl 0 rfl) ?_
      refine lv_iload_n hx hb dX11_demeritsByAll_10 rfl (lv_at hl 1 rfl) ?_
      have B := bd_swap (a := []) (b := []) (d := tl) (bd_to rfl B)
      obtain ⟨k_6, hk_6⟩ := pk_at (hs := []) (show (((Y 0 0), .inr (11, [.ref (A 50 0 0), .ref (Y 1 0), .ref (Y 2 0), .int (iI (K 0 0)), .ref (Y 3 0)])) : Nat × va_E) ∈ tl from PR_m hPR 0 0 rfl rfl)
      refine k_Vx (rest := []) (wc := ([] ++ tl)) (wr := []) (k_layoutOf l dC dI k hl0 T A X tl G Mc Y O L C K cp v hPR hK hL hcap hrv) B mV_X11_layoutOf mw_1367 hl (q0 := k_6) (ci := 11) hk_6 rfl rfl ⟨Nat.le_of_ble_eq_true rfl, Nat.le_of_ble_eq_true rfl⟩ (Nat.le_of_ble_eq_true rfl) rfl dX11_demeritsByAll_11 ⟨by dsimp only; omega, by dsimp only; omega⟩ (fun E ce q9 w gc gs H locs hp B h1 h2 h3 => ?_) (fun r w gc gs H locs hp B => ?_)
      · skip
        obtain ⟨z_7, rfl, hw9, rfl, rfl⟩ := hp
        rw [hw9] at B; clear hw9
        have B := bd_to (ws' := ([] ++ tl)) rfl B
        exact k_out hex (⟨O, L, C, X, cp, tl, hPR, hL, (by omega), (by omega), rfl, rfl, rfl, rfl⟩) B h1 h2 h3 ⟨(by first | omega | (dsimp only; omega)), (by first | omega | (dsimp only; omega))⟩ ⟨(by first | omega | (dsimp only; omega)), (by first | omega | (dsimp only; omega))⟩
      · skip
        obtain ⟨O2_8, L2_9, C2_10, X2_11, cp2_12, tl2_13, z_14, z_15, z_16, z_17, z_18, rfl, hw9, rfl, rfl⟩ := hp
        rw [hw9] at B; clear hw9
        have B := bd_to (ws' := ([] ++ tl2_13)) rfl B
        have hPR : PR dI k T A X2_11 G Mc Y O2_8 L2_9 C2_10 K cp2_12 tl2_13 := z_14
        have hLD : LD T v (L2_9 v) := z_15
        have hLo : ∀ u, u ≠ v → L2_9 u = L u := z_16
        have hT : TI dI k T A X2_11 tl2_13 := PR_TI hPR
        have hP9 : PgI (moC T v (dgN T v)) (mkZ T (moC T v (dgN T v))) := hF.2 v (by omega) (by omega)
        refine lv_iload_n hx hb dX11_demeritsByAll_14 rfl (lv_at hl 2 rfl) ?_
        have B := bd_swap (a := []) (b := []) (d := tl2_13) (bd_to rfl B)
        obtain ⟨k_19, hk_19⟩ := pk_at (hs := []) (show (((Y 4 v), .inr (1, [.ref (A 50 0 0), .int (iI v), .ref (Y 5 0), .ref (Y 60 v), .ref (Y 61 v), .int (iI ((L2_9 v) 0 0)), .int (iI ((L2_9 v) 0 1)), .ref (Y 21 v), .ref (Y 22 v), .ref (Y 23 v), .ref (Y 24 v), .ref (Y 25 v), .ref (Y 26 v), .int (iI ((L2_9 v) 0 2)), .int (iI ((L2_9 v) 0 3)), .int (iI ((L2_9 v) 0 4)), .ref (Y 27 v)])) : Nat × va_E) ∈ tl2_13 from PR_ly hPR (show 0 ≤ v ∧ v ≤ 1 by omega) 0 rfl)
        refine k_V (rest := []) (wc := ([] ++ tl2_13)) (wr := []) (k_byAllP l dC dI k T A X2_11 tl2_13 G Mc Y O2_8 L2_9 C2_10 K cp2_12 v pl z_14 hK z_15 z_2 z_5) B mV_X1_demeritsByAllWays mw_1709 hl (q0 := k_19) (ci := 1) hk_19 rfl rfl ⟨Nat.le_of_ble_eq_true rfl, Nat.le_of_ble_eq_true rfl⟩ (Nat.le_of_ble_eq_true rfl) rfl dX11_demeritsByAll_15 ⟨by dsimp only; omega, by dsimp only; omega⟩ (fun r w gc gs H locs hp B => ?_)
        obtain ⟨C2_20, tl2_21, z_22, rfl, hw9, rfl, rfl⟩ := hp
        rw [hw9] at B; clear hw9
        have B := bd_to (ws' := ([] ++ tl2_21)) rfl B
        have hPR : PR dI k T A X2_11 G Mc Y O2_8 L2_9 C2_20 K cp2_12 tl2_21 := z_22
        have hT : TI dI k T A X2_11 tl2_21 := PR_TI hPR
        exact vx_ret (k_lret B hr (⟨O2_8, L2_9, C2_20, X2_11, cp2_12, tl2_21, hPR, (fun u a9 b9 => by by_cases e9 : u = v; (rw [e9]; exact Or.inr hLD); (rw [hLo u e9]; exact hL u a9 b9)), z_17, (by omega), rfl, rfl, rfl, rfl⟩) ⟨(by first | omega | (dsimp only; omega)), (by first | omega | (dsimp only; omega))⟩ ⟨(by first | omega | (dsimp only; omega)), (by first | omega | (dsimp only; omega))⟩ dX11_demeritsByAll_18)

theorem mw_416 : (Jvm.Cond.fieldLink "Galleyforge" (304 : Nat) "Galleyforge$Layout" "pages" "LGalleyforge$Pages;") ∈ gt := gt_at 486 (by decide +kernel) (by decide +kernel)
theorem dX11_pages_0 : decode cX11_pages 0 = .ok (.aload_n 0, 1) := by decide +kernel
theorem dX11_pages_1 : decode cX11_pages 1 = .ok (.iload_n 1, 1) := by decide +kernel
theorem dX11_pages_2 : decode cX11_pages 2 = .ok (.invokevirtual 279, 3) := by decide +kernel
theorem dX11_pages_5 : decode cX11_pages 5 = .ok (.getfield 304, 3) := by decide +kernel
theorem dX11_pages_8 : decode cX11_pages 8 = .ok (.getfield 308, 3) := by decide +kernel
theorem dX11_pages_11 : decode cX11_pages 11 = .ok (.ireturn, 1) := by decide +kernel
set_option maxHeartbeats 4000000 in
set_option maxRecDepth 100000 in
theorem k_pages (l : Launch) (dC : Nat → ClassId) (dI : Nat → Nat → Nat) (k : Nat → ClassId) (hl0 : l.stackTraces = false) (T : Nat → Int → Int → Int → Int) (A : Nat → Int → Int → Nat) (X : Nat → Int → Int → Int) (tl : va_W) (G : Nat → Int → Nat) (Mc : Nat → Int → Int) (Y : Nat → Int → Nat) (O : Nat → Nat) (L : Int → Nat → Int → Int) (C : Nat → Int → Int) (K : Nat → Int → Int) (cp : Nat) (v : Int) (hPR : PR dI k T A X G Mc Y O L C K cp tl) (hK : TK T) (hL : ∀ u, 0 ≤ u → u ≤ 1 → LSq T u (L u)) (hF : FINE T) (hrv : -2147483648 ≤ v ∧ v < 2147483648) : Kx l dC dI k yX11_pages (.code yX11_pages cX11_pages 2 (some .int)) ({ frames := 9, cells := (131072 - cp + 1), slots := (12 * (131072 - cp) + 6), locals := 205 } : Room) [.ref (Y 0 0), .int (iI v)] ([] ++ tl) (fun r w gc gs => (∃ (O2 : Nat → Nat) (L2 : Int → Nat → Int → Int) (C2 : Nat → Int → Int) (X2 : Nat → Int → Int → Int) (cp2 : Nat) (tl2 : va_W), (PR dI k T A X2 G Mc Y O2 L2 C2 K cp2 tl2) ∧ (∀ u, 0 ≤ u → u ≤ 1 → LSq T u (L2 u)) ∧ (cp ≤ cp2 ∧ cp2 ≤ 131072) ∧ ((0 ≤ v ∧ v ≤ 1)) ∧ r = some (.int (iI ((mkZ T (moC T v (dgN T v))) 0 0))) ∧ w = ([] ++ tl2) ∧ gc = (cp2 - cp) ∧ gs = (12 * (cp2 - cp)))) (fun E w gc gs => (∃ (O2 : Nat → Nat) (L2 : Int → Nat → Int → Int) (C2 : Nat → Int → Int) (X2 : Nat → Int → Int → Int) (cp2 : Nat) (tl2 : va_W), (PR dI k T A X2 G Mc Y O2 L2 C2 K cp2 tl2) ∧ (∀ u, 0 ≤ u → u ≤ 1 → LSq T u (L2 u)) ∧ (cp ≤ cp2 ∧ cp2 ≤ 131072) ∧ (¬ ((0 ≤ v ∧ v ≤ 1))) ∧ E = "java/lang/IndexOutOfBoundsException" ∧ w = ([] ++ tl2) ∧ gc = (cp2 - cp + 1) ∧ gs = (12 * (cp2 - cp) + 6))) := by
  refine kx_of (by decide) (Nat.le_of_ble_eq_true rfl) ?_
  intro p e s m args below meth c H locs B hr hex ls hl
  have hx := B.1.1
  have hb := B.1.2.1
  have hl : lv_has ls 2 [(0, .ref (Y 0 0)), (1, .int (iI v))] := hl
  have hT := PR_TI hPR
  have hnb0 := TK_nb hK
  have hcp0 : 512 ≤ cp ∧ cp ≤ 131072 := by have q9 := hPR.2.2.2; unfold cpOk at q9; omega
  have hcap := hF.1
  refine lv_aload_n hx hb dX11_pages_0 rfl (lv_at hl 0 rfl) ?_
  refine lv_iload_n hx hb dX11_pages_1 rfl (lv_at hl 1 rfl) ?_
  have B := bd_swap (a := []) (b := []) (d := tl) (bd_to rfl B)
  obtain ⟨k_1, hk_1⟩ := pk_at (hs := []) (show (((Y 0 0), .inr (11, [.ref (A 50 0 0), .ref (Y 1 0), .ref (Y 2 0), .int (iI (K 0 0)), .ref (Y 3 0)])) : Nat × va_E) ∈ tl from PR_m hPR 0 0 rfl rfl)
  refine k_Vx (rest := []) (wc := ([] ++ tl)) (wr := []) (k_layoutOf l dC dI k hl0 T A X tl G Mc Y O L C K cp v hPR hK hL hcap hrv) B mV_X11_layoutOf mw_1367 hl (q0 := k_1) (ci := 11) hk_1 rfl rfl ⟨Nat.le_of_ble_eq_true rfl, Nat.le_of_ble_eq_true rfl⟩ (Nat.le_of_ble_eq_true rfl) rfl dX11_pages_2 ⟨by dsimp only; omega, by dsimp only; omega⟩ (fun E ce q9 w gc gs H locs hp B h1 h2 h3 => ?_) (fun r w gc gs H locs hp B => ?_)
  · skip
    obtain ⟨z_2, rfl, hw9, rfl, rfl⟩ := hp
    rw [hw9] at B; clear hw9
    have B := bd_to (ws' := ([] ++ tl)) rfl B
    exact k_out hex (⟨O, L, C, X, cp, tl, hPR, hL, (by omega), (by omega), rfl, rfl, rfl, rfl⟩) B h1 h2 h3 ⟨(by first | omega | (dsimp only; omega)), (by first | omega | (dsimp only; omega))⟩ ⟨(by first | omega | (dsimp only; omega)), (by first | omega | (dsimp only; omega))⟩
  · skip
    obtain ⟨O2_3, L2_4, C2_5, X2_6, cp2_7, tl2_8, z_9, z_10, z_11, z_12, z_13, rfl, hw9, rfl, rfl⟩ := hp
    rw [hw9] at B; clear hw9
    have B := bd_to (ws' := ([] ++ tl2_8)) rfl B
    have hPR : PR dI k T A X2_6 G Mc Y O2_3 L2_4 C2_5 K cp2_7 tl2_8 := z_9
    have hLD : LD T v (L2_4 v) := z_10
    have hLo : ∀ u, u ≠ v → L2_4 u = L u := z_11
    have hT : TI dI k T A X2_6 tl2_8 := PR_TI hPR
    have hP9 : PgI (moC T v (dgN T v)) (mkZ T (moC T v (dgN T v))) := hF.2 v (by omega) (by omega)
    obtain ⟨k_14, hk_14⟩ := pk_at (hs := []) (show (((Y 4 v), .inr (1, [.ref (A 50 0 0), .int (iI v), .ref (Y 5 0), .ref (Y 60 v), .ref (Y 61 v), .int (iI ((L2_4 v) 0 0)), .int (iI ((L2_4 v) 0 1)), .ref (Y 21 v), .ref (Y 22 v), .ref (Y 23 v), .ref (Y 24 v), .ref (Y 25 v), .ref (Y 26 v), .int (iI ((L2_4 v) 0 2)), .int (iI ((L2_4 v) 0 3)), .int (iI ((L2_4 v) 0 4)), .ref (Y 27 v)])) : Nat × va_E) ∈ tl2_8 from PR_ly hPR (show 0 ≤ v ∧ v ≤ 1 by omega) 0 rfl)
    refine x_get (ci := 1) (C := RX1) (T := TX1) (N := 17) (v := .ref (Y 61 v)) B k_14 hk_14 rfl in_X1 4 (by decide) mw_416 (fun _ h9 => h9) rfl dX11_pages_5 ?_
    obtain ⟨k_15, hk_15⟩ := pk_at (hs := []) (show (((Y 61 v), .inr (4, [.ref (A 50 0 0), .ref (Y 60 v), .ref (Y 62 v), .ref (Y 13 0), .int (iI ((L2_4 v) 50 0)), .int (iI ((L2_4 v) 50 1)), .ref (Y 63 v), .ref (Y 64 v), .ref (Y 65 v), .ref (Y 66 v), .ref (Y 67 v), .ref (Y 68 v)])) : Nat × va_E) ∈ tl2_8 from PR_pp hPR (show 0 ≤ v ∧ v ≤ 1 by omega) 0 rfl)
    refine x_get (ci := 4) (C := RX4) (T := TX4) (N := 12) (v := .int (iI ((L2_4 v) 50 0))) B k_15 hk_15 rfl in_X4 4 (by decide) mw_371 (fun _ h9 => h9) rfl dX11_pages_8 ?_
    refine lv_seti (y := iI (((mkZ T (moC T v (dgN T v))) 0 0))) (congrArg iI (show ((L2_4 v) 50 0) = ((mkZ T (moC T v (dgN T v))) 0 0) from hLD.2.2.2.2.1.1)) ?_
    have z_16 : 0 ≤ (mkZ T (moC T v (dgN T v))) 0 0 ∧ (mkZ T (moC T v (dgN T v))) 0 0 ≤ 965 := hP9.2.2.2.1
    exact vx_ret (k_iret B hr (⟨O2_3, L2_4, C2_5, X2_6, cp2_7, tl2_8, hPR, (fun u a9 b9 => by by_cases e9 : u = v; (rw [e9]; exact Or.inr hLD); (rw [hLo u e9]; exact hL u a9 b9)), z_12, (by omega), rfl, rfl, rfl, rfl⟩) ⟨(by first | omega | (dsimp only; omega)), (by first | omega | (dsimp only; omega))⟩ ⟨(by first | omega | (dsimp only; omega)), (by first | omega | (dsimp only; omega))⟩ dX11_pages_11)

theorem mw_373 : (Jvm.Cond.fieldLink "Galleyforge" (313 : Nat) "Galleyforge$Pages" "costs" "I") ∈ gt := gt_at 443 (by decide +kernel) (by decide +kernel)
theorem dX11_cost_0 : decode cX11_cost 0 = .ok (.aload_n 0, 1) := by decide +kernel
theorem dX11_cost_1 : decode cX11_cost 1 = .ok (.iload_n 1, 1) := by decide +kernel
theorem dX11_cost_2 : decode cX11_cost 2 = .ok (.invokevirtual 279, 3) := by decide +kernel
theorem dX11_cost_5 : decode cX11_cost 5 = .ok (.getfield 304, 3) := by decide +kernel
theorem dX11_cost_8 : decode cX11_cost 8 = .ok (.getfield 313, 3) := by decide +kernel
theorem dX11_cost_11 : decode cX11_cost 11 = .ok (.ireturn, 1) := by decide +kernel
set_option maxHeartbeats 4000000 in
set_option maxRecDepth 100000 in
theorem k_cost (l : Launch) (dC : Nat → ClassId) (dI : Nat → Nat → Nat) (k : Nat → ClassId) (hl0 : l.stackTraces = false) (T : Nat → Int → Int → Int → Int) (A : Nat → Int → Int → Nat) (X : Nat → Int → Int → Int) (tl : va_W) (G : Nat → Int → Nat) (Mc : Nat → Int → Int) (Y : Nat → Int → Nat) (O : Nat → Nat) (L : Int → Nat → Int → Int) (C : Nat → Int → Int) (K : Nat → Int → Int) (cp : Nat) (v : Int) (hPR : PR dI k T A X G Mc Y O L C K cp tl) (hK : TK T) (hL : ∀ u, 0 ≤ u → u ≤ 1 → LSq T u (L u)) (hF : FINE T) (hrv : -2147483648 ≤ v ∧ v < 2147483648) : Kx l dC dI k yX11_cost (.code yX11_cost cX11_cost 2 (some .int)) ({ frames := 9, cells := (131072 - cp + 1), slots := (12 * (131072 - cp) + 6), locals := 205 } : Room) [.ref (Y 0 0), .int (iI v)] ([] ++ tl) (fun r w gc gs => (∃ (O2 : Nat → Nat) (L2 : Int → Nat → Int → Int) (C2 : Nat → Int → Int) (X2 : Nat → Int → Int → Int) (cp2 : Nat) (tl2 : va_W), (PR dI k T A X2 G Mc Y O2 L2 C2 K cp2 tl2) ∧ (∀ u, 0 ≤ u → u ≤ 1 → LSq T u (L2 u)) ∧ (cp ≤ cp2 ∧ cp2 ≤ 131072) ∧ ((0 ≤ v ∧ v ≤ 1)) ∧ r = some (.int (iI ((mkZ T (moC T v (dgN T v))) 0 1))) ∧ w = ([] ++ tl2) ∧ gc = (cp2 - cp) ∧ gs = (12 * (cp2 - cp)))) (fun E w gc gs => (∃ (O2 : Nat → Nat) (L2 : Int → Nat → Int → Int) (C2 : Nat → Int → Int) (X2 : Nat → Int → Int → Int) (cp2 : Nat) (tl2 : va_W), (PR dI k T A X2 G Mc Y O2 L2 C2 K cp2 tl2) ∧ (∀ u, 0 ≤ u → u ≤ 1 → LSq T u (L2 u)) ∧ (cp ≤ cp2 ∧ cp2 ≤ 131072) ∧ (¬ ((0 ≤ v ∧ v ≤ 1))) ∧ E = "java/lang/IndexOutOfBoundsException" ∧ w = ([] ++ tl2) ∧ gc = (cp2 - cp + 1) ∧ gs = (12 * (cp2 - cp) + 6))) := by
  refine kx_of (by decide) (Nat.le_of_ble_eq_true rfl) ?_
  intro p e s m args below meth c H locs B hr hex ls hl
  have hx := B.1.1
  have hb := B.1.2.1
  have hl : lv_has ls 2 [(0, .ref (Y 0 0)), (1, .int (iI v))] := hl
  have hT := PR_TI hPR
  have hnb0 := TK_nb hK
  have hcp0 : 512 ≤ cp ∧ cp ≤ 131072 := by have q9 := hPR.2.2.2; unfold cpOk at q9; omega
  have hcap := hF.1
  refine lv_aload_n hx hb dX11_cost_0 rfl (lv_at hl 0 rfl) ?_
  refine lv_iload_n hx hb dX11_cost_1 rfl (lv_at hl 1 rfl) ?_
  have B := bd_swap (a := []) (b := []) (d := tl) (bd_to rfl B)
  obtain ⟨k_1, hk_1⟩ := pk_at (hs := []) (show (((Y 0 0), .inr (11, [.ref (A 50 0 0), .ref (Y 1 0), .ref (Y 2 0), .int (iI (K 0 0)), .ref (Y 3 0)])) : Nat × va_E) ∈ tl from PR_m hPR 0 0 rfl rfl)
  refine k_Vx (rest := []) (wc := ([] ++ tl)) (wr := []) (k_layoutOf l dC dI k hl0 T A X tl G Mc Y O L C K cp v hPR hK hL hcap hrv) B mV_X11_layoutOf mw_1367 hl (q0 := k_1) (ci := 11) hk_1 rfl rfl ⟨Nat.le_of_ble_eq_true rfl, Nat.le_of_ble_eq_true rfl⟩ (Nat.le_of_ble_eq_true rfl) rfl dX11_cost_2 ⟨by dsimp only; omega, by dsimp only; omega⟩ (fun E ce q9 w gc gs H locs hp B h1 h2 h3 => ?_) (fun r w gc gs H locs hp B => ?_)
  · skip
    obtain ⟨z_2, rfl, hw9, rfl, rfl⟩ := hp
    rw [hw9] at B; clear hw9
    have B := bd_to (ws' := ([] ++ tl)) rfl B
    exact k_out hex (⟨O, L, C, X, cp, tl, hPR, hL, (by omega), (by omega), rfl, rfl, rfl, rfl⟩) B h1 h2 h3 ⟨(by first | omega | (dsimp only; omega)), (by first | omega | (dsimp only; omega))⟩ ⟨(by first | omega | (dsimp only; omega)), (by first | omega | (dsimp only; omega))⟩
  · skip
    obtain ⟨O2_3, L2_4, C2_5, X2_6, cp2_7, tl2_8, z_9, z_10, z_11, z_12, z_13, rfl, hw9, rfl, rfl⟩ := hp
    rw [hw9] at B; clear hw9
    have B := bd_to (ws' := ([] ++ tl2_8)) rfl B
    have hPR : PR dI k T A X2_6 G Mc Y O2_3 L2_4 C2_5 K cp2_7 tl2_8 := z_9
    have hLD : LD T v (L2_4 v) := z_10
    have hLo : ∀ u, u ≠ v → L2_4 u = L u := z_11
    have hT : TI dI k T A X2_6 tl2_8 := PR_TI hPR
    have hP9 : PgI (moC T v (dgN T v)) (mkZ T (moC T v (dgN T v))) := hF.2 v (by omega) (by omega)
    obtain ⟨k_14, hk_14⟩ := pk_at (hs := []) (show (((Y 4 v), .inr (1, [.ref (A 50 0 0), .int (iI v), .ref (Y 5 0), .ref (Y 60 v), .ref (Y 61 v), .int (iI ((L2_4 v) 0 0)), .int (iI ((L2_4 v) 0 1)), .ref (Y 21 v), .ref (Y 22 v), .ref (Y 23 v), .ref (Y 24 v), .ref (Y 25 v), .ref (Y 26 v), .int (iI ((L2_4 v) 0 2)), .int (iI ((L2_4 v) 0 3)), .int (iI ((L2_4 v) 0 4)), .ref (Y 27 v)])) : Nat × va_E) ∈ tl2_8 from PR_ly hPR (show 0 ≤ v ∧ v ≤ 1 by omega) 0 rfl)
    refine x_get (ci := 1) (C := RX1) (T := TX1) (N := 17) (v := .ref (Y 61 v)) B k_14 hk_14 rfl in_X1 4 (by decide) mw_416 (fun _ h9 => h9) rfl dX11_cost_5 ?_
    obtain ⟨k_15, hk_15⟩ := pk_at (hs := []) (show (((Y 61 v), .inr (4, [.ref (A 50 0 0), .ref (Y 60 v), .ref (Y 62 v), .ref (Y 13 0), .int (iI ((L2_4 v) 50 0)), .int (iI ((L2_4 v) 50 1)), .ref (Y 63 v), .ref (Y 64 v), .ref (Y 65 v), .ref (Y 66 v), .ref (Y 67 v), .ref (Y 68 v)])) : Nat × va_E) ∈ tl2_8 from PR_pp hPR (show 0 ≤ v ∧ v ≤ 1 by omega) 0 rfl)
    refine x_get (ci := 4) (C := RX4) (T := TX4) (N := 12) (v := .int (iI ((L2_4 v) 50 1))) B k_15 hk_15 rfl in_X4 5 (by decide) mw_373 (fun _ h9 => h9) rfl dX11_cost_8 ?_
    refine lv_seti (y := iI (((mkZ T (moC T v (dgN T v))) 0 1))) (congrArg iI (show ((L2_4 v) 50 1) = ((mkZ T (moC T v (dgN T v))) 0 1) from hLD.2.2.2.2.1.2)) ?_
    have z_16 : 0 ≤ (mkZ T (moC T v (dgN T v))) 0 1 ∧ (mkZ T (moC T v (dgN T v))) 0 1 ≤ 61440000 := hP9.2.2.2.2.1
    exact vx_ret (k_iret B hr (⟨O2_3, L2_4, C2_5, X2_6, cp2_7, tl2_8, hPR, (fun u a9 b9 => by by_cases e9 : u = v; (rw [e9]; exact Or.inr hLD); (rw [hLo u e9]; exact hL u a9 b9)), z_12, (by omega), rfl, rfl, rfl, rfl⟩) ⟨(by first | omega | (dsimp only; omega)), (by first | omega | (dsimp only; omega))⟩ ⟨(by first | omega | (dsimp only; omega)), (by first | omega | (dsimp only; omega))⟩ dX11_cost_11)

theorem mw_431 : (Jvm.Cond.fieldLink "Galleyforge" (319 : Nat) "Galleyforge$Layout" "rounds" "I") ∈ gt := gt_at 501 (by decide +kernel) (by decide +kernel)
theorem dX11_rounds_0 : decode cX11_rounds 0 = .ok (.aload_n 0, 1) := by decide +kernel
theorem dX11_rounds_1 : decode cX11_rounds 1 = .ok (.iload_n 1, 1) := by decide +kernel
theorem dX11_rounds_2 : decode cX11_rounds 2 = .ok (.invokevirtual 279, 3) := by decide +kernel
theorem dX11_rounds_5 : decode cX11_rounds 5 = .ok (.getfield 319, 3) := by decide +kernel
theorem dX11_rounds_8 : decode cX11_rounds 8 = .ok (.ireturn, 1) := by decide +kernel
set_option maxHeartbeats 4000000 in
set_option maxRecDepth 100000 in
theorem k_rounds (l : Launch) (dC : Nat → ClassId) (dI : Nat → Nat → Nat) (k : Nat → ClassId) (hl0 : l.stackTraces = false) (T : Nat → Int → Int → Int → Int) (A : Nat → Int → Int → Nat) (X : Nat → Int → Int → Int) (tl : va_W) (G : Nat → Int → Nat) (Mc : Nat → Int → Int) (Y : Nat → Int → Nat) (O : Nat → Nat) (L : Int → Nat → Int → Int) (C : Nat → Int → Int) (K : Nat → Int → Int) (cp : Nat) (v : Int) (hPR : PR dI k T A X G Mc Y O L C K cp tl) (hK : TK T) (hL : ∀ u, 0 ≤ u → u ≤ 1 → LSq T u (L u)) (hF : FINE T) (hrv : -2147483648 ≤ v ∧ v < 2147483648) : Kx l dC dI k yX11_rounds (.code yX11_rounds cX11_rounds 2 (some .int)) ({ frames := 9, cells := (131072 - cp + 1), slots := (12 * (131072 - cp) + 6), locals := 205 } : Room) [.ref (Y 0 0), .int (iI v)] ([] ++ tl) (fun r w gc gs => (∃ (O2 : Nat → Nat) (L2 : Int → Nat → Int → Int) (C2 : Nat → Int → Int) (X2 : Nat → Int → Int → Int) (cp2 : Nat) (tl2 : va_W), (PR dI k T A X2 G Mc Y O2 L2 C2 K cp2 tl2) ∧ (∀ u, 0 ≤ u → u ≤ 1 → LSq T u (L2 u)) ∧ (cp ≤ cp2 ∧ cp2 ≤ 131072) ∧ ((0 ≤ v ∧ v ≤ 1)) ∧ r = some (.int (iI (rnN T v))) ∧ w = ([] ++ tl2) ∧ gc = (cp2 - cp) ∧ gs = (12 * (cp2 - cp)))) (fun E w gc gs => (∃ (O2 : Nat → Nat) (L2 : Int → Nat → Int → Int) (C2 : Nat → Int → Int) (X2 : Nat → Int → Int → Int) (cp2 : Nat) (tl2 : va_W), (PR dI k T A X2 G Mc Y O2 L2 C2 K cp2 tl2) ∧ (∀ u, 0 ≤ u → u ≤ 1 → LSq T u (L2 u)) ∧ (cp ≤ cp2 ∧ cp2 ≤ 131072) ∧ (¬ ((0 ≤ v ∧ v ≤ 1))) ∧ E = "java/lang/IndexOutOfBoundsException" ∧ w = ([] ++ tl2) ∧ gc = (cp2 - cp + 1) ∧ gs = (12 * (cp2 - cp) + 6))) := by
  refine kx_of (by decide) (Nat.le_of_ble_eq_true rfl) ?_
  intro p e s m args below meth c H locs B hr hex ls hl
  have hx := B.1.1
  have hb := B.1.2.1
  have hl : lv_has ls 2 [(0, .ref (Y 0 0)), (1, .int (iI v))] := hl
  have hT := PR_TI hPR
  have hnb0 := TK_nb hK
  have hcp0 : 512 ≤ cp ∧ cp ≤ 131072 := by have q9 := hPR.2.2.2; unfold cpOk at q9; omega
  have hcap := hF.1
  refine lv_aload_n hx hb dX11_rounds_0 rfl (lv_at hl 0 rfl) ?_
  refine lv_iload_n hx hb dX11_rounds_1 rfl (lv_at hl 1 rfl) ?_
  have B := bd_swap (a := []) (b := []) (d := tl) (bd_to rfl B)
  obtain ⟨k_1, hk_1⟩ := pk_at (hs := []) (show (((Y 0 0), .inr (11, [.ref (A 50 0 0), .ref (Y 1 0), .ref (Y 2 0), .int (iI (K 0 0)), .ref (Y 3 0)])) : Nat × va_E) ∈ tl from PR_m hPR 0 0 rfl rfl)
  refine k_Vx (rest := []) (wc := ([] ++ tl)) (wr := []) (k_layoutOf l dC dI k hl0 T A X tl G Mc Y O L C K cp v hPR hK hL hcap hrv) B mV_X11_layoutOf mw_1367 hl (q0 := k_1) (ci := 11) hk_1 rfl rfl ⟨Nat.le_of_ble_eq_true rfl, Nat.le_of_ble_eq_true rfl⟩ (Nat.le_of_ble_eq_true rfl) rfl dX11_rounds_2 ⟨by dsimp only; omega, by dsimp only; omega⟩ (fun E ce q9 w gc gs H locs hp B h1 h2 h3 => ?_) (fun r w gc gs H locs hp B => ?_)
  · skip
    obtain ⟨z_2, rfl, hw9, rfl, rfl⟩ := hp
    rw [hw9] at B; clear hw9
    have B := bd_to (ws' := ([] ++ tl)) rfl B
    exact k_out hex (⟨O, L, C, X, cp, tl, hPR, hL, (by omega), (by omega), rfl, rfl, rfl, rfl⟩) B h1 h2 h3 ⟨(by first | omega | (dsimp only; omega)), (by first | omega | (dsimp only; omega))⟩ ⟨(by first | omega | (dsimp only; omega)), (by first | omega | (dsimp only; omega))⟩
  · skip
    obtain ⟨O2_3, L2_4, C2_5, X2_6, cp2_7, tl2_8, z_9, z_10, z_11, z_12, z_13, rfl, hw9, rfl, rfl⟩ := hp
    rw [hw9] at B; clear hw9
    have B := bd_to (ws' := ([] ++ tl2_8)) rfl B
    have hPR : PR dI k T A X2_6 G Mc Y O2_3 L2_4 C2_5 K cp2_7 tl2_8 := z_9
    have hLD : LD T v (L2_4 v) := z_10
    have hLo : ∀ u, u ≠ v → L2_4 u = L u := z_11
    have hT : TI dI k T A X2_6 tl2_8 := PR_TI hPR
    have hP9 : PgI (moC T v (dgN T v)) (mkZ T (moC T v (dgN T v))) := hF.2 v (by omega) (by omega)
    obtain ⟨k_14, hk_14⟩ := pk_at (hs := []) (show (((Y 4 v), .inr (1, [.ref (A 50 0 0), .int (iI v), .ref (Y 5 0), .ref (Y 60 v), .ref (Y 61 v), .int (iI ((L2_4 v) 0 0)), .int (iI ((L2_4 v) 0 1)), .ref (Y 21 v), .ref (Y 22 v), .ref (Y 23 v), .ref (Y 24 v), .ref (Y 25 v), .ref (Y 26 v), .int (iI ((L2_4 v) 0 2)), .int (iI ((L2_4 v) 0 3)), .int (iI ((L2_4 v) 0 4)), .ref (Y 27 v)])) : Nat × va_E) ∈ tl2_8 from PR_ly hPR (show 0 ≤ v ∧ v ≤ 1 by omega) 0 rfl)
    refine x_get (ci := 1) (C := RX1) (T := TX1) (N := 17) (v := .int (iI ((L2_4 v) 0 2))) B k_14 hk_14 rfl in_X1 13 (by decide) mw_431 (fun _ h9 => h9) rfl dX11_rounds_5 ?_
    refine lv_seti (y := iI ((rnN T v))) (congrArg iI (show ((L2_4 v) 0 2) = (rnN T v) from hLD.1.2.1)) ?_
    have z_15 : 1 ≤ rnN T v ∧ rnN T v ≤ 731 := rnN_in
    exact vx_ret (k_iret B hr (⟨O2_3, L2_4, C2_5, X2_6, cp2_7, tl2_8, hPR, (fun u a9 b9 => by by_cases e9 : u = v; (rw [e9]; exact Or.inr hLD); (rw [hLo u e9]; exact hL u a9 b9)), z_12, (by omega), rfl, rfl, rfl, rfl⟩) ⟨(by first | omega | (dsimp only; omega)), (by first | omega | (dsimp only; omega))⟩ ⟨(by first | omega | (dsimp only; omega)), (by first | omega | (dsimp only; omega))⟩ dX11_rounds_8)

theorem mw_433 : (Jvm.Cond.fieldLink "Galleyforge" (322 : Nat) "Galleyforge$Layout" "settled" "Z") ∈ gt := gt_at 503 (by decide +kernel) (by decide +kernel)
theorem dX11_isSettled_0 : decode cX11_isSettled 0 = .ok (.aload_n 0, 1) := by decide +kernel
theorem dX11_isSettled_1 : decode cX11_isSettled 1 = .ok (.iload_n 1, 1) := by decide +kernel
theorem dX11_isSettled_2 : decode cX11_isSettled 2 = .ok (.invokevirtual 279, 3) := by decide +kernel
theorem dX11_isSettled_5 : decode cX11_isSettled 5 = .ok (.getfield 322, 3) := by decide +kernel
theorem dX11_isSettled_8 : decode cX11_isSettled 8 = .ok (.ireturn, 1) := by decide +kernel
set_option maxHeartbeats 4000000 in
set_option maxRecDepth 100000 in
theorem k_isSettled (l : Launch) (dC : Nat → ClassId) (dI : Nat → Nat → Nat) (k : Nat → ClassId) (hl0 : l.stackTraces = false) (T : Nat → Int → Int → Int → Int) (A : Nat → Int → Int → Nat) (X : Nat → Int → Int → Int) (tl : va_W) (G : Nat → Int → Nat) (Mc : Nat → Int → Int) (Y : Nat → Int → Nat) (O : Nat → Nat) (L : Int → Nat → Int → Int) (C : Nat → Int → Int) (K : Nat → Int → Int) (cp : Nat) (v : Int) (hPR : PR dI k T A X G Mc Y O L C K cp tl) (hK : TK T) (hL : ∀ u, 0 ≤ u → u ≤ 1 → LSq T u (L u)) (hF : FINE T) (hrv : -2147483648 ≤ v ∧ v < 2147483648) : Kx l dC dI k yX11_isSettled (.code yX11_isSettled cX11_isSettled 2 (some .boolean)) ({ frames := 9, cells := (131072 - cp + 1), slots := (12 * (131072 - cp) + 6), locals := 205 } : Room) [.ref (Y 0 0), .int (iI v)] ([] ++ tl) (fun r w gc gs => (∃ (O2 : Nat → Nat) (L2 : Int → Nat → Int → Int) (C2 : Nat → Int → Int) (X2 : Nat → Int → Int → Int) (cp2 : Nat) (tl2 : va_W), (PR dI k T A X2 G Mc Y O2 L2 C2 K cp2 tl2) ∧ (∀ u, 0 ≤ u → u ≤ 1 → LSq T u (L2 u)) ∧ (cp ≤ cp2 ∧ cp2 ≤ 131072) ∧ ((0 ≤ v ∧ v ≤ 1)) ∧ r = some (.int (iI (stN T v))) ∧ w = ([] ++ tl2) ∧ gc = (cp2 - cp) ∧ gs = (12 * (cp2 - cp)))) (fun E w gc gs => (∃ (O2 : Nat → Nat) (L2 : Int → Nat → Int → Int) (C2 : Nat → Int → Int) (X2 : Nat → Int → Int → Int) (cp2 : Nat) (tl2 : va_W), (PR dI k T A X2 G Mc Y O2 L2 C2 K cp2 tl2) ∧ (∀ u, 0 ≤ u → u ≤ 1 → LSq T u (L2 u)) ∧ (cp ≤ cp2 ∧ cp2 ≤ 131072) ∧ (¬ ((0 ≤ v ∧ v ≤ 1))) ∧ E = "java/lang/IndexOutOfBoundsException" ∧ w = ([] ++ tl2) ∧ gc = (cp2 - cp + 1) ∧ gs = (12 * (cp2 - cp) + 6))) := by
  refine kx_of (by decide) (Nat.le_of_ble_eq_true rfl) ?_
  intro p e s m args below meth c H locs B hr hex ls hl
  have hx := B.1.1
  have hb := B.1.2.1
  have hl : lv_has ls 2 [(0, .ref (Y 0 0)), (1, .int (iI v))] := hl
  have hT := PR_TI hPR
  have hnb0 := TK_nb hK
  have hcp0 : 512 ≤ cp ∧ cp ≤ 131072 := by have q9 := hPR.2.2.2; unfold cpOk at q9; omega
  have hcap := hF.1
  refine lv_aload_n hx hb dX11_isSettled_0 rfl (lv_at hl 0 rfl) ?_
  refine lv_iload_n hx hb dX11_isSettled_1 rfl (lv_at hl 1 rfl) ?_
  have B := bd_swap (a := []) (b := []) (d := tl) (bd_to rfl B)
  obtain ⟨k_1, hk_1⟩ := pk_at (hs := []) (show (((Y 0 0), .inr (11, [.ref (A 50 0 0), .ref (Y 1 0), .ref (Y 2 0), .int (iI (K 0 0)), .ref (Y 3 0)])) : Nat × va_E) ∈ tl from PR_m hPR 0 0 rfl rfl)
  refine k_Vx (rest := []) (wc := ([] ++ tl)) (wr := []) (k_layoutOf l dC dI k hl0 T A X tl G Mc Y O L C K cp v hPR hK hL hcap hrv) B mV_X11_layoutOf mw_1367 hl (q0 := k_1) (ci := 11) hk_1 rfl rfl ⟨Nat.le_of_ble_eq_true rfl, Nat.le_of_ble_eq_true rfl⟩ (Nat.le_of_ble_eq_true rfl) rfl dX11_isSettled_2 ⟨by dsimp only; omega, by dsimp only; omega⟩ (fun E ce q9 w gc gs H locs hp B h1 h2 h3 => ?_) (fun r w gc gs H locs hp B => ?_)
  · skip
    obtain ⟨z_2, rfl, hw9, rfl, rfl⟩ := hp
    rw [hw9] at B; clear hw9
    have B := bd_to (ws' := ([] ++ tl)) rfl B
    exact k_out hex (⟨O, L, C, X, cp, tl, hPR, hL, (by omega), (by omega), rfl, rfl, rfl, rfl⟩) B h1 h2 h3 ⟨(by first | omega | (dsimp only; omega)), (by first | omega | (dsimp only; omega))⟩ ⟨(by first | omega | (dsimp only; omega)), (by first | omega | (dsimp only; omega))⟩
  · skip
    obtain ⟨O2_3, L2_4, C2_5, X2_6, cp2_7, tl2_8, z_9, z_10, z_11, z_12, z_13, rfl, hw9, rfl, rfl⟩ := hp
    rw [hw9] at B; clear hw9
    have B := bd_to (ws' := ([] ++ tl2_8)) rfl B
    have hPR : PR dI k T A X2_6 G Mc Y O2_3 L2_4 C2_5 K cp2_7 tl2_8 := z_9
    have hLD : LD T v (L2_4 v) := z_10
    have hLo : ∀ u, u ≠ v → L2_4 u = L u := z_11
    have hT : TI dI k T A X2_6 tl2_8 := PR_TI hPR
    have hP9 : PgI (moC T v (dgN T v)) (mkZ T (moC T v (dgN T v))) := hF.2 v (by omega) (by omega)
    obtain ⟨k_14, hk_14⟩ := pk_at (hs := []) (show (((Y 4 v), .inr (1, [.ref (A 50 0 0), .int (iI v), .ref (Y 5 0), .ref (Y 60 v), .ref (Y 61 v), .int (iI ((L2_4 v) 0 0)), .int (iI ((L2_4 v) 0 1)), .ref (Y 21 v), .ref (Y 22 v), .ref (Y 23 v), .ref (Y 24 v), .ref (Y 25 v), .ref (Y 26 v), .int (iI ((L2_4 v) 0 2)), .int (iI ((L2_4 v) 0 3)), .int (iI ((L2_4 v) 0 4)), .ref (Y 27 v)])) : Nat × va_E) ∈ tl2_8 from PR_ly hPR (show 0 ≤ v ∧ v ≤ 1 by omega) 0 rfl)
    refine x_get (ci := 1) (C := RX1) (T := TX1) (N := 17) (v := .int (iI ((L2_4 v) 0 3))) B k_14 hk_14 rfl in_X1 14 (by decide) mw_433 (fun _ h9 => h9) rfl dX11_isSettled_5 ?_
    refine lv_seti (y := iI ((stN T v))) (congrArg iI (show ((L2_4 v) 0 3) = (stN T v) from hLD.1.2.2.1)) ?_
    have z_15 : stN T v = 0 ∨ stN T v = 1 := stN_in
    exact vx_ret (k_zret B hr (by omega) (⟨O2_3, L2_4, C2_5, X2_6, cp2_7, tl2_8, hPR, (fun u a9 b9 => by by_cases e9 : u = v; (rw [e9]; exact Or.inr hLD); (rw [hLo u e9]; exact hL u a9 b9)), z_12, (by omega), rfl, rfl, rfl, rfl⟩) ⟨(by first | omega | (dsimp only; omega)), (by first | omega | (dsimp only; omega))⟩ ⟨(by first | omega | (dsimp only; omega)), (by first | omega | (dsimp only; omega))⟩ dX11_isSettled_8)

theorem mw_377 : (Jvm.Cond.fieldLink "Galleyforge" (330 : Nat) "Galleyforge$Pages" "rowCounts" "[I") ∈ gt := gt_at 447 (by decide +kernel) (by decide +kernel)
theorem mw_379 : (Jvm.Cond.fieldLink "Galleyforge" (333 : Nat) "Galleyforge$Pages" "noteLines" "[I") ∈ gt := gt_at 449 (by decide +kernel) (by decide +kernel)
theorem mw_381 : (Jvm.Cond.fieldLink "Galleyforge" (336 : Nat) "Galleyforge$Pages" "used" "[I") ∈ gt := gt_at 451 (by decide +kernel) (by decide +kernel)
theorem mw_1763 : (Jvm.Cond.methodLink "Galleyforge" (326 : Nat) ({ cls := "Galleyforge", name := "checkPage", desc := "(LGalleyforge$Pages;I)V" } : Jvm.MethodName)) ∈ gt := gt_at 1833 (by decide +kernel) (by decide +kernel)
theorem mw_1764 : (Jvm.Cond.static ({ cls := "Galleyforge", name := "checkPage", desc := "(LGalleyforge$Pages;I)V" } : Jvm.MethodName)) ∈ gt := gt_at 1834 (by decide +kernel) (by decide +kernel)
theorem mw_1765 : (Jvm.Cond.code ({ cls := "Galleyforge", name := "checkPage", desc := "(LGalleyforge$Pages;I)V" } : Jvm.MethodName) prog_1_method_44_code (2 : Nat) (Option.none : Option Jvm.ClassFile.FieldType)) ∈ gt := gt_at 1835 (by decide +kernel) (by decide +kernel)
theorem mS_X11_checkPage : mS yX11_checkPage cX11_checkPage 2 none 2 := ⟨⟨mw_1765, mw_1, by decide, by decide, by decide +kernel⟩, mw_1764⟩
theorem dX11_on_0 : decode cX11_on 0 = .ok (.aload_n 0, 1) := by decide +kernel
theorem dX11_on_1 : decode cX11_on 1 = .ok (.iload_n 1, 1) := by decide +kernel
theorem dX11_on_2 : decode cX11_on 2 = .ok (.invokevirtual 279, 3) := by decide +kernel
theorem dX11_on_5 : decode cX11_on 5 = .ok (.getfield 304, 3) := by decide +kernel
theorem dX11_on_8 : decode cX11_on 8 = .ok (.astore 4, 2) := by decide +kernel
theorem dX11_on_10 : decode cX11_on 10 = .ok (.aload 4, 2) := by decide +kernel
theorem dX11_on_12 : decode cX11_on 12 = .ok (.iload_n 2, 1) := by decide +kernel
theorem dX11_on_13 : decode cX11_on 13 = .ok (.invokestatic 326, 3) := by decide +kernel
theorem dX11_on_16 : decode cX11_on 16 = .ok (.iload_n 3, 1) := by decide +kernel
theorem dX11_on_17 : decode cX11_on 17 = .ok (.tableswitch 57 0 2 #[27, 37, 47], 27) := by decide +kernel
theorem dX11_on_44 : decode cX11_on 44 = .ok (.aload 4, 2) := by decide +kernel
theorem dX11_on_46 : decode cX11_on 46 = .ok (.getfield 330, 3) := by decide +kernel
theorem dX11_on_49 : decode cX11_on 49 = .ok (.iload_n 2, 1) := by decide +kernel
theorem dX11_on_50 : decode cX11_on 50 = .ok (.iconst 1, 1) := by decide +kernel
theorem dX11_on_51 : decode cX11_on 51 = .ok (.isub, 1) := by decide +kernel
theorem dX11_on_52 : decode cX11_on 52 = .ok (.iaload, 1) := by decide +kernel
theorem dX11_on_53 : decode cX11_on 53 = .ok (.ireturn, 1) := by decide +kernel
theorem dX11_on_54 : decode cX11_on 54 = .ok (.aload 4, 2) := by decide +kernel
theorem dX11_on_56 : decode cX11_on 56 = .ok (.getfield 333, 3) := by decide +kernel
theorem dX11_on_59 : decode cX11_on 59 = .ok (.iload_n 2, 1) := by decide +kernel
theorem dX11_on_60 : decode cX11_on 60 = .ok (.iconst 1, 1) := by decide +kernel
theorem dX11_on_61 : decode cX11_on 61 = .ok (.isub, 1) := by decide +kernel
theorem dX11_on_62 : decode cX11_on 62 = .ok (.iaload, 1) := by decide +kernel
theorem dX11_on_63 : decode cX11_on 63 = .ok (.ireturn, 1) := by decide +kernel
theorem dX11_on_64 : decode cX11_on 64 = .ok (.aload 4, 2) := by decide +kernel
theorem dX11_on_66 : decode cX11_on 66 = .ok (.getfield 336, 3) := by decide +kernel
theorem dX11_on_69 : decode cX11_on 69 = .ok (.iload_n 2, 1) := by decide +kernel
theorem dX11_on_70 : decode cX11_on 70 = .ok (.iconst 1, 1) := by decide +kernel
theorem dX11_on_71 : decode cX11_on 71 = .ok (.isub, 1) := by decide +kernel
theorem dX11_on_72 : decode cX11_on 72 = .ok (.iaload, 1) := by decide +kernel
theorem dX11_on_73 : decode cX11_on 73 = .ok (.ireturn, 1) := by decide +kernel
set_option maxHeartbeats 4000000 in
set_option maxRecDepth 100000 in
theorem k_on (l : Launch) (dC : Nat → ClassId) (dI : Nat → Nat → Nat) (k : Nat → ClassId) (hl0 : l.stackTraces = false) (T : Nat → Int → Int → Int → Int) (A : Nat → Int → Int → Nat) (X : Nat → Int → Int → Int) (tl : va_W) (G : Nat → Int → Nat) (Mc : Nat → Int → Int) (Y : Nat → Int → Nat) (O : Nat → Nat) (L : Int → Nat → Int → Int) (C : Nat → Int → Int) (K : Nat → Int → Int) (cp : Nat) (v : Int) (pg_ : Int) (wh : Int) (hPR : PR dI k T A X G Mc Y O L C K cp tl) (hK : TK T) (hL : ∀ u, 0 ≤ u → u ≤ 1 → LSq T u (L u)) (hF : FINE T) (hrv : -2147483648 ≤ v ∧ v < 2147483648) (hrpg_ : -2147483648 ≤ pg_ ∧ pg_ < 2147483648) (hrwh : -2147483648 ≤ wh ∧ wh < 2147483648) (hwh : 0 ≤ wh ∧ wh ≤ 2) : Kx l dC dI k yX11_on (.code yX11_on cX11_on 5 (some .int)) ({ frames := 9, cells := (131072 - cp + 1), slots := (12 * (131072 - cp) + 6), locals := 205 } : Room) [.ref (Y 0 0), .int (iI v), .int (iI pg_), .int (iI wh)] ([] ++ tl) (fun r w gc gs => (∃ (O2 : Nat → Nat) (L2 : Int → Nat → Int → Int) (C2 : Nat → Int → Int) (X2 : Nat → Int → Int → Int) (cp2 : Nat) (tl2 : va_W), (PR dI k T A X2 G Mc Y O2 L2 C2 K cp2 tl2) ∧ (∀ u, 0 ≤ u → u ≤ 1 → LSq T u (L2 u)) ∧ (cp ≤ cp2 ∧ cp2 ≤ 131072) ∧ ((0 ≤ v ∧ v ≤ 1) ∧ (1 ≤ pg_ ∧ pg_ ≤ (mkZ T (moC T v (dgN T v))) 0 0)) ∧ r = some (.int (iI (onZ T v pg_ wh))) ∧ w = ([] ++ tl2) ∧ gc = (cp2 - cp) ∧ gs = (12 * (cp2 - cp)))) (fun E w gc gs => (∃ (O2 : Nat → Nat) (L2 : Int → Nat → Int → Int) (C2 : Nat → Int → Int) (X2 : Nat → Int → Int → Int) (cp2 : Nat) (tl2 : va_W), (PR dI k T A X2 G Mc Y O2 L2 C2 K cp2 tl2) ∧ (∀ u, 0 ≤ u → u ≤ 1 → LSq T u (L2 u)) ∧ (cp ≤ cp2 ∧ cp2 ≤ 131072) ∧ (¬ ((0 ≤ v ∧ v ≤ 1) ∧ (1 ≤ pg_ ∧ pg_ ≤ (mkZ T (moC T v (dgN T v))) 0 0))) ∧ E = "java/lang/IndexOutOfBoundsException" ∧ w = ([] ++ tl2) ∧ gc = (cp2 - cp + 1) ∧ gs = (12 * (cp2 - cp) + 6))) := by
  refine kx_of (by decide) (Nat.le_of_ble_eq_true rfl) ?_
  intro p e s m args below meth c H locs B hr hex ls hl
  have hx := B.1.1
  have hb := B.1.2.1
  have hl : lv_has ls 5 [(0, .ref (Y 0 0)), (1, .int (iI v)), (2, .int (iI pg_)), (3, .int (iI wh))] := hl
  have hT := PR_TI hPR
  have hnb0 := TK_nb hK
  have hcp0 : 512 ≤ cp ∧ cp ≤ 131072 := by have q9 := hPR.2.2.2; unfold cpOk at q9; omega
  have hcap := hF.1
  refine lv_aload_n hx hb dX11_on_0 rfl (lv_at hl 0 rfl) ?_
  refine lv_iload_n hx hb dX11_on_1 rfl (lv_at hl 1 rfl) ?_
  have B := bd_swap (a := []) (b := []) (d := tl) (bd_to rfl B)
  obtain ⟨k_1, hk_1⟩ := pk_at (hs := []) (show (((Y 0 0), .inr (11, [.ref (A 50 0 0), .ref (Y 1 0), .ref (Y 2 0), .int (iI (K 0 0)), .ref (Y 3 0)])) : Nat × va_E) ∈ tl from PR_m hPR 0 0 rfl rfl)
  refine k_Vx (rest := []) (wc := ([] ++ tl)) (wr := []) (k_layoutOf l dC dI k hl0 T A X tl G Mc Y O L C K cp v hPR hK hL hcap hrv) B mV_X11_layoutOf mw_1367 hl (q0 := k_1) (ci := 11) hk_1 rfl rfl ⟨Nat.le_of_ble_eq_true rfl, Nat.le_of_ble_eq_true rfl⟩ (Nat.le_of_ble_eq_true rfl) rfl dX11_on_2 ⟨by dsimp only; omega, by dsimp only; omega⟩ (fun E ce q9 w gc gs H locs hp B h1 h2 h3 => ?_) (fun r w gc gs H locs hp B => ?_)
  · skip
    obtain ⟨z_2, rfl, hw9, rfl, rfl⟩ := hp
    rw [hw9] at B; clear hw9
    have B := bd_to (ws' := ([] ++ tl)) rfl B
    exact k_out hex (⟨O, L, C, X, cp, tl, hPR, hL, (by omega), (by omega), rfl, rfl, rfl, rfl⟩) B h1 h2 h3 ⟨(by first | omega | (dsimp only; omega)), (by first | omega | (dsimp only; omega))⟩ ⟨(by first | omega | (dsimp only; omega)), (by first | omega | (dsimp only; omega))⟩
  · skip
    obtain ⟨O2_3, L2_4, C2_5, X2_6, cp2_7, tl2_8, z_9, z_10, z_11, z_12, z_13, rfl, hw9, rfl, rfl⟩ := hp
    rw [hw9] at B; clear hw9
    have B := bd_to (ws' := ([] ++ tl2_8)) rfl B
    have hPR : PR dI k T A X2_6 G Mc Y O2_3 L2_4 C2_5 K cp2_7 tl2_8 := z_9
    have hLD : LD T v (L2_4 v) := z_10
    have hLo : ∀ u, u ≠ v → L2_4 u = L u := z_11
    have hT : TI dI k T A X2_6 tl2_8 := PR_TI hPR
    have hP9 : PgI (moC T v (dgN T v)) (mkZ T (moC T v (dgN T v))) := hF.2 v (by omega) (by omega)
    obtain ⟨k_14, hk_14⟩ := pk_at (hs := []) (show (((Y 4 v), .inr (1, [.ref (A 50 0 0), .int (iI v), .ref (Y 5 0), .ref (Y 60 v), .ref (Y 61 v), .int (iI ((L2_4 v) 0 0)), .int (iI ((L2_4 v) 0 1)), .ref (Y 21 v), .ref (Y 22 v), .ref (Y 23 v), .ref (Y 24 v), .ref (Y 25 v), .ref (Y 26 v), .int (iI ((L2_4 v) 0 2)), .int (iI ((L2_4 v) 0 3)), .int (iI ((L2_4 v) 0 4)), .ref (Y 27 v)])) : Nat × va_E) ∈ tl2_8 from PR_ly hPR (show 0 ≤ v ∧ v ≤ 1 by omega) 0 rfl)
    refine x_get (ci := 1) (C := RX1) (T := TX1) (N := 17) (v := .ref (Y 61 v)) B k_14 hk_14 rfl in_X1 4 (by decide) mw_416 (fun _ h9 => h9) rfl dX11_on_5 ?_
    refine lv_astore (lv' := [(4, .ref (Y 61 v)), (0, .ref (Y 0 0)), (1, .int (iI v)), (2, .int (iI pg_)), (3, .int (iI wh))]) hx hb dX11_on_8 hl (by decide) rfl (fun ls hl => ?_)
    refine lv_aload hx hb dX11_on_10 (lv_at hl 0 rfl) ?_
    refine lv_iload_n hx hb dX11_on_12 rfl (lv_at hl 3 rfl) ?_
    have B := bd_swap (a := []) (b := []) (d := tl2_8) (bd_to rfl B)
    refine k_Sx (rest := []) (wc := ([] ++ tl2_8)) (wr := []) (k_checkPage l dC dI k hl0 T A X2_6 tl2_8 G Mc Y O2_3 L2_4 C2_5 K cp2_7 v pg_ z_9 hK z_10 z_13 hF hrpg_) B mS_X11_checkPage mw_1763 hl ⟨Nat.le_of_ble_eq_true rfl, Nat.le_of_ble_eq_true rfl⟩ (Nat.le_of_ble_eq_true rfl) rfl dX11_on_13 ⟨by dsimp only; omega, by dsimp only; omega⟩ (fun E ce q9 w gc gs H locs hp B h1 h2 h3 => ?_) (fun r w gc gs H locs hp B => ?_)
    · skip
      obtain ⟨z_15, rfl, hw9, rfl, rfl⟩ := hp
      rw [hw9] at B; clear hw9
      have B := bd_to (ws' := ([] ++ tl2_8)) rfl B
      exact k_out hex (⟨O2_3, L2_4, C2_5, X2_6, cp2_7, tl2_8, hPR, (fun u a9 b9 => by by_cases e9 : u = v; (rw [e9]; exact Or.inr hLD); (rw [hLo u e9]; exact hL u a9 b9)), z_12, (by omega), rfl, rfl, rfl, rfl⟩) B h1 h2 h3 ⟨(by first | omega | (dsimp only; omega)), (by first | omega | (dsimp only; omega))⟩ ⟨(by first | omega | (dsimp only; omega)), (by first | omega | (dsimp only; omega))⟩
    · skip
      obtain ⟨z_16, z_17, rfl, hw9, rfl, rfl⟩ := hp
      rw [hw9] at B; clear hw9
      have B := bd_to (ws' := ([] ++ tl2_8)) rfl B
      refine lv_iload_n hx hb dX11_on_16 rfl (lv_at hl 4 rfl) ?_
      have zc_18 : wh = 0 ∨ wh = 1 ∨ wh = 2 := by omega
      rcases zc_18 with zc_18 | zc_18 | zc_18
      · refine lv_seti (y := iI 0) (congrArg iI zc_18) ?_
        refine lv_tableIn (off := 27) (tgt := 44) hx hb dX11_on_17 (by decide) (by decide) (by decide) (by decide) ?_
        refine lv_aload hx hb dX11_on_44 (lv_at hl 0 rfl) ?_
        obtain ⟨k_19, hk_19⟩ := pk_at (hs := []) (show (((Y 61 v), .inr (4, [.ref (A 50 0 0), .ref (Y 60 v), .ref (Y 62 v), .ref (Y 13 0), .int (iI ((L2_4 v) 50 0)), .int (iI ((L2_4 v) 50 1)), .ref (Y 63 v), .ref (Y 64 v), .ref (Y 65 v), .ref (Y 66 v), .ref (Y 67 v), .ref (Y 68 v)])) : Nat × va_E) ∈ tl2_8 from PR_pp hPR (show 0 ≤ v ∧ v ≤ 1 by omega) 0 rfl)
        refine x_get (ci := 4) (C := RX4) (T := TX4) (N := 12) (v := .ref (Y 64 v)) B k_19 hk_19 rfl in_X4 7 (by decide) mw_377 (fun _ h9 => h9) rfl dX11_on_46 ?_
        refine lv_iload_n hx hb dX11_on_49 rfl (lv_at hl 3 rfl) ?_
        refine lv_iconst (v := iI 1) hx hb dX11_on_50 (by decide) ?_
        refine y_sub hx hb dX11_on_51 ?_
        obtain ⟨k_20, hk_20⟩ := pk_at (hs := []) (show (((Y 64 v), .inl (k 0, 965, .inl (fun i9 : Nat => iI (((L2_4 v) 52) i9)))) : Nat × va_E) ∈ tl2_8 from PR_pp hPR (show 0 ≤ v ∧ v ≤ 1 by omega) 2 rfl)
        refine x_iald' (f := ((L2_4 v) 52)) (z := (pg_ - 1)) B k_20 hk_20 (by omega) dX11_on_52 ?_
        refine lv_seti (y := iI ((mkZ T (moC T v (dgN T v))) 2 (pg_ - 1))) (congrArg iI (show ((L2_4 v) 52) (pg_ - 1) = (mkZ T (moC T v (dgN T v))) 2 (pg_ - 1) from (hLD.2.2.2.2.2.1 _ (by omega) (by omega)).2.1)) ?_
        have z_21 : 0 ≤ (moC T v (dgN T v)) 0 0 ∧ (moC T v (dgN T v)) 0 0 ≤ 768 := MK_cnt (moC_in (v := v) (dg := dgN T v) hK).1
        have z_22 : (0 ≤ (mkZ T (moC T v (dgN T v))) 1 (pg_ - 1) ∧ 0 ≤ (mkZ T (moC T v (dgN T v))) 2 (pg_ - 1) ∧ (mkZ T (moC T v (dgN T v))) 1 (pg_ - 1) + (mkZ T (moC T v (dgN T v))) 2 (pg_ - 1) ≤ (moC T v (dgN T v)) 0 0) := (hP9.1 _ (by omega) (by omega)).1
        have z_23 : 0 ≤ (mkZ T (moC T v (dgN T v))) 3 (pg_ - 1) ∧ (mkZ T (moC T v (dgN T v))) 3 (pg_ - 1) ≤ 100000 := (hP9.1 _ (by omega) (by omega)).2.1
        have e_24 : (onZ T v pg_ wh) = ((mkZ T (moC T v (dgN T v))) 2 (pg_ - 1)) := (by unfold onZ; first | (rw [if_pos (by omega)]; done) | (rw [if_neg (by omega), if_pos (by omega)]; done) | (rw [if_neg (by omega), if_neg (by omega)]; done))
        skip
        exact vx_ret (k_iret B hr (⟨O2_3, L2_4, C2_5, X2_6, cp2_7, tl2_8, hPR, (fun u a9 b9 => by by_cases e9 : u = v; (rw [e9]; exact Or.inr hLD); (rw [hLo u e9]; exact hL u a9 b9)), z_12, (by omega), (by rw [e_24]), rfl, rfl, rfl⟩) ⟨(by first | omega | (dsimp only; omega)), (by first | omega | (dsimp only; omega))⟩ ⟨(by first | omega | (dsimp only; omega)), (by first | omega | (dsimp only; omega))⟩ dX11_on_53)
      · refine lv_seti (y := iI 1) (congrArg iI zc_18) ?_
        refine lv_tableIn (off := 37) (tgt := 54) hx hb dX11_on_17 (by decide) (by decide) (by decide) (by decide) ?_
        refine lv_aload hx hb dX11_on_54 (lv_at hl 0 rfl) ?_
        obtain ⟨k_25, hk_25⟩ := pk_at (hs := []) (show (((Y 61 v), .inr (4, [.ref (A 50 0 0), .ref (Y 60 v), .ref (Y 62 v), .ref (Y 13 0), .int (iI ((L2_4 v) 50 0)), .int (iI ((L2_4 v) 50 1)), .ref (Y 63 v), .ref (Y 64 v), .ref (Y 65 v), .ref (Y 66 v), .ref (Y 67 v), .ref (Y 68 v)])) : Nat × va_E) ∈ tl2_8 from PR_pp hPR (show 0 ≤ v ∧ v ≤ 1 by omega) 0 rfl)
        refine x_get (ci := 4) (C := RX4) (T := TX4) (N := 12) (v := .ref (Y 65 v)) B k_25 hk_25 rfl in_X4 8 (by decide) mw_379 (fun _ h9 => h9) rfl dX11_on_56 ?_
        refine lv_iload_n hx hb dX11_on_59 rfl (lv_at hl 3 rfl) ?_
        refine lv_iconst (v := iI 1) hx hb dX11_on_60 (by decide) ?_
        refine y_sub hx hb dX11_on_61 ?_
        obtain ⟨k_26, hk_26⟩ := pk_at (hs := []) (show (((Y 65 v), .inl (k 0, 965, .inl (fun i9 : Nat => iI (((L2_4 v) 53) i9)))) : Nat × va_E) ∈ tl2_8 from PR_pp hPR (show 0 ≤ v ∧ v ≤ 1 by omega) 3 rfl)
        refine x_iald' (f := ((L2_4 v) 53)) (z := (pg_ - 1)) B k_26 hk_26 (by omega) dX11_on_62 ?_
        refine lv_seti (y := iI ((mkZ T (moC T v (dgN T v))) 3 (pg_ - 1))) (congrArg iI (show ((L2_4 v) 53) (pg_ - 1) = (mkZ T (moC T v (dgN T v))) 3 (pg_ - 1) from (hLD.2.2.2.2.2.1 _ (by omega) (by omega)).2.2.1)) ?_
        have z_27 : 0 ≤ (moC T v (dgN T v)) 0 0 ∧ (moC T v (dgN T v)) 0 0 ≤ 768 := MK_cnt (moC_in (v := v) (dg := dgN T v) hK).1
        have z_28 : (0 ≤ (mkZ T (moC T v (dgN T v))) 1 (pg_ - 1) ∧ 0 ≤ (mkZ T (moC T v (dgN T v))) 2 (pg_ - 1) ∧ (mkZ T (moC T v (dgN T v))) 1 (pg_ - 1) + (mkZ T (moC T v (dgN T v))) 2 (pg_ - 1) ≤ (moC T v (dgN T v)) 0 0) := (hP9.1 _ (by omega) (by omega)).1
        have z_29 : 0 ≤ (mkZ T (moC T v (dgN T v))) 3 (pg_ - 1) ∧ (mkZ T (moC T v (dgN T v))) 3 (pg_ - 1) ≤ 100000 := (hP9.1 _ (by omega) (by omega)).2.1
        have e_30 : (onZ T v pg_ wh) = ((mkZ T (moC T v (dgN T v))) 3 (pg_ - 1)) := (by unfold onZ; first | (rw [if_pos (by omega)]; done) | (rw [if_neg (by omega), if_pos (by omega)]; done) | (rw [if_neg (by omega), if_neg (by omega)]; done))
        skip
        exact vx_ret (k_iret B hr (⟨O2_3, L2_4, C2_5, X2_6, cp2_7, tl2_8, hPR, (fun u a9 b9 => by by_cases e9 : u = v; (rw [e9]; exact Or.inr hLD); (rw [hLo u e9]; exact hL u a9 b9)), z_12, (by omega), (by rw [e_30]), rfl, rfl, rfl⟩) ⟨(by first | omega | (dsimp only; omega)), (by first | omega | (dsimp only; omega))⟩ ⟨(by first | omega | (dsimp only; omega)), (by first | omega | (dsimp only; omega))⟩ dX11_on_63)
      · refine lv_seti (y := iI 2) (congrArg iI zc_18) ?_
        refine lv_tableIn (off := 47) (tgt := 64) hx hb dX11_on_17 (by decide) (by decide) (by decide) (by decide) ?_
        refine lv_aload hx hb dX11_on_64 (lv_at hl 0 rfl) ?_
        obtain ⟨k_31, hk_31⟩ := pk_at (hs := []) (show (((Y 61 v), .inr (4, [.ref (A 50 0 0), .ref (Y 60 v), .ref (Y 62 v), .ref (Y 13 0), .int (iI ((L2_4 v) 50 0)), .int (iI ((L2_4 v) 50 1)), .ref (Y 63 v), .ref (Y 64 v), .ref (Y 65 v), .ref (Y 66 v), .ref (Y 67 v), .ref (Y 68 v)])) : Nat × va_E) ∈ tl2_8 from PR_pp hPR (show 0 ≤ v ∧ v ≤ 1 by omega) 0 rfl)
        refine x_get (ci := 4) (C := RX4) (T := TX4) (N := 12) (v := .ref (Y 66 v)) B k_31 hk_31 rfl in_X4 9 (by decide) mw_381 (fun _ h9 => h9) rfl dX11_on_66 ?_
        refine lv_iload_n hx hb dX11_on_69 rfl (lv_at hl 3 rfl) ?_
        refine lv_iconst (v := iI 1) hx hb dX11_on_70 (by decide) ?_
        refine y_sub hx hb dX11_on_71 ?_
        obtain ⟨k_32, hk_32⟩ := pk_at (hs := []) (show (((Y 66 v), .inl (k 0, 965, .inl (fun i9 : Nat => iI (((L2_4 v) 54) i9)))) : Nat × va_E) ∈ tl2_8 from PR_pp hPR (show 0 ≤ v ∧ v ≤ 1 by omega) 4 rfl)
        refine x_iald' (f := ((L2_4 v) 54)) (z := (pg_ - 1)) B k_32 hk_32 (by omega) dX11_on_72 ?_
        refine lv_seti (y := iI ((mkZ T (moC T v (dgN T v))) 4 (pg_ - 1))) (congrArg iI (show ((L2_4 v) 54) (pg_ - 1) = (mkZ T (moC T v (dgN T v))) 4 (pg_ - 1) from (hLD.2.2.2.2.2.1 _ (by omega) (by omega)).2.2.2)) ?_
        have z_33 : 0 ≤ (moC T v (dgN T v)) 0 0 ∧ (moC T v (dgN T v)) 0 0 ≤ 768 := MK_cnt (moC_in (v := v) (dg := dgN T v) hK).1
        have z_34 : (0 ≤ (mkZ T (moC T v (dgN T v))) 1 (pg_ - 1) ∧ 0 ≤ (mkZ T (moC T v (dgN T v))) 2 (pg_ - 1) ∧ (mkZ T (moC T v (dgN T v))) 1 (pg_ - 1) + (mkZ T (moC T v (dgN T v))) 2 (pg_ - 1) ≤ (moC T v (dgN T v)) 0 0) := (hP9.1 _ (by omega) (by omega)).1
        have z_35 : 0 ≤ (mkZ T (moC T v (dgN T v))) 3 (pg_ - 1) ∧ (mkZ T (moC T v (dgN T v))) 3 (pg_ - 1) ≤ 100000 := (hP9.1 _ (by omega) (by omega)).2.1
        have e_36 : (onZ T v pg_ wh) = ((mkZ T (moC T v (dgN T v))) 4 (pg_ - 1)) := (by unfold onZ; first | (rw [if_pos (by omega)]; done) | (rw [if_neg (by omega), if_pos (by omega)]; done) | (rw [if_neg (by omega), if_neg (by omega)]; done))
        skip
        exact vx_ret (k_iret B hr (⟨O2_3, L2_4, C2_5, X2_6, cp2_7, tl2_8, hPR, (fun u a9 b9 => by by_cases e9 : u = v; (rw [e9]; exact Or.inr hLD); (rw [hLo u e9]; exact hL u a9 b9)), z_12, (by omega), (by rw [e_36]), rfl, rfl, rfl⟩) ⟨(by first | omega | (dsimp only; omega)), (by first | omega | (dsimp only; omega))⟩ ⟨(by first | omega | (dsimp only; omega)), (by first | omega | (dsimp only; omega))⟩ dX11_on_73)

theorem mw_1775 : (Jvm.Cond.methodLink "Galleyforge" (341 : Nat) ({ cls := "Galleyforge$Layout", name := "headOf", desc := "(I)I" } : Jvm.MethodName)) ∈ gt := gt_at 1845 (by decide +kernel) (by decide +kernel)
theorem mw_1776 : (Jvm.Cond.instanceMethod ({ cls := "Galleyforge$Layout", name := "headOf", desc := "(I)I" } : Jvm.MethodName)) ∈ gt := gt_at 1846 (by decide +kernel) (by decide +kernel)
theorem mw_1777 : (Jvm.Cond.selects "Galleyforge$Layout" ({ cls := "Galleyforge$Layout", name := "headOf", desc := "(I)I" } : Jvm.MethodName) ({ cls := "Galleyforge$Layout", name := "headOf", desc := "(I)I" } : Jvm.MethodName)) ∈ gt := gt_at 1847 (by decide +kernel) (by decide +kernel)
theorem mw_1778 : (Jvm.Cond.code ({ cls := "Galleyforge$Layout", name := "headOf", desc := "(I)I" } : Jvm.MethodName) prog_3_method_11_code (5 : Nat) (Option.some Jvm.ClassFile.FieldType.int)) ∈ gt := gt_at 1848 (by decide +kernel) (by decide +kernel)
theorem mV_X1_headOf : mV yX1_headOf cX1_headOf 5 (some .int) 1 := ⟨⟨mw_1778, mw_8, by decide, by decide, by decide +kernel⟩, mw_1776, mw_1777⟩
theorem dX11_head_0 : decode cX11_head 0 = .ok (.aload_n 0, 1) := by decide +kernel
theorem dX11_head_1 : decode cX11_head 1 = .ok (.iload_n 1, 1) := by decide +kernel
theorem dX11_head_2 : decode cX11_head 2 = .ok (.invokevirtual 279, 3) := by decide +kernel
theorem dX11_head_5 : decode cX11_head 5 = .ok (.astore_n 3, 1) := by decide +kernel
theorem dX11_head_6 : decode cX11_head 6 = .ok (.aload_n 3, 1) := by decide +kernel
theorem dX11_head_7 : decode cX11_head 7 = .ok (.getfield 304, 3) := by decide +kernel
theorem dX11_head_10 : decode cX11_head 10 = .ok (.iload_n 2, 1) := by decide +kernel
theorem dX11_head_11 : decode cX11_head 11 = .ok (.invokestatic 326, 3) := by decide +kernel
theorem dX11_head_14 : decode cX11_head 14 = .ok (.aload_n 3, 1) := by decide +kernel
theorem dX11_head_15 : decode cX11_head 15 = .ok (.iload_n 2, 1) := by decide +kernel
theorem dX11_head_16 : decode cX11_head 16 = .ok (.invokevirtual 341, 3) := by decide +kernel
theorem dX11_head_19 : decode cX11_head 19 = .ok (.ireturn, 1) := by decide +kernel
set_option maxHeartbeats 4000000 in
set_option maxRecDepth 100000 in
theorem k_head (l : Launch) (dC : Nat → ClassId) (dI : Nat → Nat → Nat) (k : Nat → ClassId) (hl0 : l.stackTraces = false) (T : Nat → Int → Int → Int → Int) (A : Nat → Int → Int → Nat) (X : Nat → Int → Int → Int) (tl : va_W) (G : Nat → Int → Nat) (Mc : Nat → Int → Int) (Y : Nat → Int → Nat) (O : Nat → Nat) (L : Int → Nat → Int → Int) (C : Nat → Int → Int) (K : Nat → Int → Int) (cp : Nat) (v : Int) (pg_ : Int) (hPR : PR dI k T A X G Mc Y O L C K cp tl) (hK : TK T) (hL : ∀ u, 0 ≤ u → u ≤ 1 → LSq T u (L u)) (hF : FINE T) (hrv : -2147483648 ≤ v ∧ v < 2147483648) (hrpg_ : -2147483648 ≤ pg_ ∧ pg_ < 2147483648) : Kx l dC dI k yX11_head (.code yX11_head cX11_head 4 (some .int)) ({ frames := 9, cells := (131072 - cp + 1), slots := (12 * (131072 - cp) + 6), locals := 205 } : Room) [.ref (Y 0 0), .int (iI v), .int (iI pg_)] ([] ++ tl) (fun r w gc gs => (∃ (O2 : Nat → Nat) (L2 : Int → Nat → Int → Int) (C2 : Nat → Int → Int) (X2 : Nat → Int → Int → Int) (cp2 : Nat) (tl2 : va_W), (PR dI k T A X2 G Mc Y O2 L2 C2 K cp2 tl2) ∧ (∀ u, 0 ≤ u → u ≤ 1 → LSq T u (L2 u)) ∧ (cp ≤ cp2 ∧ cp2 ≤ 131072) ∧ ((0 ≤ v ∧ v ≤ 1) ∧ (1 ≤ pg_ ∧ pg_ ≤ (mkZ T (moC T v (dgN T v))) 0 0)) ∧ r = some (.int (iI (hoZ T (moC T v (dgN T v)) (mkZ T (moC T v (dgN T v))) v pg_))) ∧ w = ([] ++ tl2) ∧ gc = (cp2 - cp) ∧ gs = (12 * (cp2 - cp)))) (fun E w gc gs => (∃ (O2 : Nat → Nat) (L2 : Int → Nat → Int → Int) (C2 : Nat → Int → Int) (X2 : Nat → Int → Int → Int) (cp2 : Nat) (tl2 : va_W), (PR dI k T A X2 G Mc Y O2 L2 C2 K cp2 tl2) ∧ (∀ u, 0 ≤ u → u ≤ 1 → LSq T u (L2 u)) ∧ (cp ≤ cp2 ∧ cp2 ≤ 131072) ∧ (¬ ((0 ≤ v ∧ v ≤ 1) ∧ (1 ≤ pg_ ∧ pg_ ≤ (mkZ T (moC T v (dgN T v))) 0 0))) ∧ E = "java/lang/IndexOutOfBoundsException" ∧ w = ([] ++ tl2) ∧ gc = (cp2 - cp + 1) ∧ gs = (12 * (cp2 - cp) + 6))) := by
  refine kx_of (by decide) (Nat.le_of_ble_eq_true rfl) ?_
  intro p e s m args below meth c H locs B hr hex ls hl
  have hx := B.1.1
  have hb := B.1.2.1
  have hl : lv_has ls 4 [(0, .ref (Y 0 0)), (1, .int (iI v)), (2, .int (iI pg_))] := hl
  have hT := PR_TI hPR
  have hnb0 := TK_nb hK
  have hcp0 : 512 ≤ cp ∧ cp ≤ 131072 := by have q9 := hPR.2.2.2; unfold cpOk at q9; omega
  have hcap := hF.1
  refine lv_aload_n hx hb dX11_head_0 rfl (lv_at hl 0 rfl) ?_
  refine lv_iload_n hx hb dX11_head_1 rfl (lv_at hl 1 rfl) ?_
  have B := bd_swap (a := []) (b := []) (d := tl) (bd_to rfl B)
  obtain ⟨k_1, hk_1⟩ := pk_at (hs := []) (show (((Y 0 0), .inr (11, [.ref (A 50 0 0), .ref (Y 1 0), .ref (Y 2 0), .int (iI (K 0 0)), .ref (Y 3 0)])) : Nat × va_E) ∈ tl from PR_m hPR 0 0 rfl rfl)
  refine k_Vx (rest := []) (wc := ([] ++ tl)) (wr := []) (k_layoutOf l dC dI k hl0 T A X tl G Mc Y O L C K cp v hPR hK hL hcap hrv) B mV_X11_layoutOf mw_1367 hl (q0 := k_1) (ci := 11) hk_1 rfl rfl ⟨Nat.le_of_ble_eq_true rfl, Nat.le_of_ble_eq_true rfl⟩ (Nat.le_of_ble_eq_true rfl) rfl dX11_head_2 ⟨by dsimp only; omega, by dsimp only; omega⟩ (fun E ce q9 w gc gs H locs hp B h1 h2 h3 => ?_) (fun r w gc gs H locs hp B => ?_)
  · skip
    obtain ⟨z_2, rfl, hw9, rfl, rfl⟩ := hp
    rw [hw9] at B; clear hw9
    have B := bd_to (ws' := ([] ++ tl)) rfl B
    exact k_out hex (⟨O, L, C, X, cp, tl, hPR, hL, (by omega), (by omega), rfl, rfl, rfl, rfl⟩) B h1 h2 h3 ⟨(by first | omega | (dsimp only; omega)), (by first | omega | (dsimp only; omega))⟩ ⟨(by first | omega | (dsimp only; omega)), (by first | omega | (dsimp only; omega))⟩
  · skip
    obtain ⟨O2_3, L2_4, C2_5, X2_6, cp2_7, tl2_8, z_9, z_10, z_11, z_12, z_13, rfl, hw9, rfl, rfl⟩ := hp
    rw [hw9] at B; clear hw9
    have B := bd_to (ws' := ([] ++ tl2_8)) rfl B
    have hPR : PR dI k T A X2_6 G Mc Y O2_3 L2_4 C2_5 K cp2_7 tl2_8 := z_9
    have hLD : LD T v (L2_4 v) := z_10
    have hLo : ∀ u, u ≠ v → L2_4 u = L u := z_11
    have hT : TI dI k T A X2_6 tl2_8 := PR_TI hPR
    have hP9 : PgI (moC T v (dgN T v)) (mkZ T (moC T v (dgN T v))) := hF.2 v (by omega) (by omega)
    refine lv_astore_n (lv' := [(3, .ref (Y 4 v)), (0, .ref (Y 0 0)), (1, .int (iI v)), (2, .int (iI pg_))]) hx hb dX11_head_5 rfl hl (by decide) rfl (fun ls hl => ?_)
    refine lv_aload_n hx hb dX11_head_6 rfl (lv_at hl 0 rfl) ?_
    obtain ⟨k_14, hk_14⟩ := pk_at (hs := []) (show (((Y 4 v), .inr (1, [.ref (A 50 0 0), .int (iI v), .ref (Y 5 0), .ref (Y 60 v), .ref (Y 61 v), .int (iI ((L2_4 v) 0 0)), .int (iI ((L2_4 v) 0 1)), .ref (Y 21 v), .ref (Y 22 v), .ref (Y 23 v), .ref (Y 24 v), .ref (Y 25 v), .ref (Y 26 v), .int (iI ((L2_4 v) 0 2)), .int (iI ((L2_4 v) 0 3)), .int (iI ((L2_4 v) 0 4)), .ref (Y 27 v)])) : Nat × va_E) ∈ tl2_8 from PR_ly hPR (show 0 ≤ v ∧ v ≤ 1 by omega) 0 rfl)
    refine x_get (ci := 1) (C := RX1) (T := TX1) (N := 17) (v := .ref (Y 61 v)) B k_14 hk_14 rfl in_X1 4 (by decide) mw_416 (fun _ h9 => h9) rfl dX11_head_7 ?_
    refine lv_iload_n hx hb dX11_head_10 rfl (lv_at hl 3 rfl) ?_
    have B := bd_swap (a := []) (b := []) (d := tl2_8) (bd_to rfl B)
    refine k_Sx (rest := []) (wc := ([] ++ tl2_8)) (wr := []) (k_checkPage l dC dI k hl0 T A X2_6 tl2_8 G Mc Y O2_3 L2_4 C2_5 K cp2_7 v pg_ z_9 hK z_10 z_13 hF hrpg_) B mS_X11_checkPage mw_1763 hl ⟨Nat.le_of_ble_eq_true rfl, Nat.le_of_ble_eq_true rfl⟩ (Nat.le_of_ble_eq_true rfl) rfl dX11_head_11 ⟨by dsimp only; omega, by dsimp only; omega⟩ (fun E ce q9 w gc gs H locs hp B h1 h2 h3 => ?_) (fun r w gc gs H locs hp B => ?_)
    · skip
      obtain ⟨z_15, rfl, hw9, rfl, rfl⟩ := hp
      rw [hw9] at B; clear hw9
      have B := bd_to (ws' := ([] ++ tl2_8)) rfl B
      exact k_out hex (⟨O2_3, L2_4, C2_5, X2_6, cp2_7, tl2_8, hPR, (fun u a9 b9 => by by_cases e9 : u = v; (rw [e9]; exact Or.inr hLD); (rw [hLo u e9]; exact hL u a9 b9)), z_12, (by omega), rfl, rfl, rfl, rfl⟩) B h1 h2 h3 ⟨(by first | omega | (dsimp only; omega)), (by first | omega | (dsimp only; omega))⟩ ⟨(by first | omega | (dsimp only; omega)), (by first | omega | (dsimp only; omega))⟩
    · skip
      obtain ⟨z_16, z_17, rfl, hw9, rfl, rfl⟩ := hp
      rw [hw9] at B; clear hw9
      have B := bd_to (ws' := ([] ++ tl2_8)) rfl B
      refine lv_aload_n hx hb dX11_head_14 rfl (lv_at hl 0 rfl) ?_
      refine lv_iload_n hx hb dX11_head_15 rfl (lv_at hl 3 rfl) ?_
      have B := bd_swap (a := []) (b := []) (d := tl2_8) (bd_to rfl B)
      obtain ⟨k_18, hk_18⟩ := pk_at (hs := []) (show (((Y 4 v), .inr (1, [.ref (A 50 0 0), .int (iI v), .ref (Y 5 0), .ref (Y 60 v), .ref (Y 61 v), .int (iI ((L2_4 v) 0 0)), .int (iI ((L2_4 v) 0 1)), .ref (Y 21 v), .ref (Y 22 v), .ref (Y 23 v), .ref (Y 24 v), .ref (Y 25 v), .ref (Y 26 v), .int (iI ((L2_4 v) 0 2)), .int (iI ((L2_4 v) 0 3)), .int (iI ((L2_4 v) 0 4)), .ref (Y 27 v)])) : Nat × va_E) ∈ tl2_8 from PR_ly hPR (show 0 ≤ v ∧ v ≤ 1 by omega) 0 rfl)
      refine k_V (rest := []) (wc := ([] ++ tl2_8)) (wr := []) (k_headOfP l dC dI k T A X2_6 tl2_8 G Mc Y O2_3 L2_4 C2_5 K cp2_7 v pg_ z_9 hK z_10 z_13 hrpg_) B mV_X1_headOf mw_1775 hl (q0 := k_18) (ci := 1) hk_18 rfl rfl ⟨Nat.le_of_ble_eq_true rfl, Nat.le_of_ble_eq_true rfl⟩ (Nat.le_of_ble_eq_true rfl) rfl dX11_head_16 ⟨by dsimp only; omega, by dsimp only; omega⟩ (fun r w gc gs H locs hp B => ?_)
      obtain ⟨z_19, rfl, hw9, rfl, rfl⟩ := hp
      rw [hw9] at B; clear hw9
      have B := bd_to (ws' := ([] ++ tl2_8)) rfl B
      exact vx_ret (k_iret B hr (⟨O2_3, L2_4, C2_5, X2_6, cp2_7, tl2_8, hPR, (fun u a9 b9 => by by_cases e9 : u = v; (rw [e9]; exact Or.inr hLD); (rw [hLo u e9]; exact hL u a9 b9)), z_12, (by omega), rfl, rfl, rfl, rfl⟩) ⟨(by first | omega | (dsimp only; omega)), (by first | omega | (dsimp only; omega))⟩ ⟨(by first | omega | (dsimp only; omega)), (by first | omega | (dsimp only; omega))⟩ dX11_head_19)

theorem mw_230 : (Jvm.Cond.fieldLink "Galleyforge" (351 : Nat) "Galleyforge$Rows" "blocks" "[I") ∈ gt := gt_at 300 (by decide +kernel) (by decide +kernel)
theorem mw_233 : (Jvm.Cond.fieldLink "Galleyforge" (355 : Nat) "Galleyforge$Rows" "indexes" "[I") ∈ gt := gt_at 303 (by decide +kernel) (by decide +kernel)
theorem mw_375 : (Jvm.Cond.fieldLink "Galleyforge" (344 : Nat) "Galleyforge$Pages" "firstRows" "[I") ∈ gt := gt_at 445 (by decide +kernel) (by decide +kernel)
theorem mw_414 : (Jvm.Cond.fieldLink "Galleyforge" (347 : Nat) "Galleyforge$Layout" "rows" "LGalleyforge$Rows;") ∈ gt := gt_at 484 (by decide +kernel) (by decide +kernel)
theorem dX11_textAt_0 : decode cX11_textAt 0 = .ok (.aload_n 0, 1) := by decide +kernel
theorem dX11_textAt_1 : decode cX11_textAt 1 = .ok (.iload_n 1, 1) := by decide +kernel
theorem dX11_textAt_2 : decode cX11_textAt 2 = .ok (.invokevirtual 279, 3) := by decide +kernel
theorem dX11_textAt_5 : decode cX11_textAt 5 = .ok (.astore 4, 2) := by decide +kernel
theorem dX11_textAt_7 : decode cX11_textAt 7 = .ok (.aload 4, 2) := by decide +kernel
theorem dX11_textAt_9 : decode cX11_textAt 9 = .ok (.getfield 304, 3) := by decide +kernel
theorem dX11_textAt_12 : decode cX11_textAt 12 = .ok (.iload_n 2, 1) := by decide +kernel
theorem dX11_textAt_13 : decode cX11_textAt 13 = .ok (.invokestatic 326, 3) := by decide +kernel
theorem dX11_textAt_16 : decode cX11_textAt 16 = .ok (.iload_n 3, 1) := by decide +kernel
theorem dX11_textAt_17 : decode cX11_textAt 17 = .ok (.ifCond .lt 19, 3) := by decide +kernel
theorem dX11_textAt_20 : decode cX11_textAt 20 = .ok (.iload_n 3, 1) := by decide +kernel
theorem dX11_textAt_21 : decode cX11_textAt 21 = .ok (.aload 4, 2) := by decide +kernel
theorem dX11_textAt_23 : decode cX11_textAt 23 = .ok (.getfield 304, 3) := by decide +kernel
theorem dX11_textAt_26 : decode cX11_textAt 26 = .ok (.getfield 330, 3) := by decide +kernel
theorem dX11_textAt_29 : decode cX11_textAt 29 = .ok (.iload_n 2, 1) := by decide +kernel
theorem dX11_textAt_30 : decode cX11_textAt 30 = .ok (.iconst 1, 1) := by decide +kernel
theorem dX11_textAt_31 : decode cX11_textAt 31 = .ok (.isub, 1) := by decide +kernel
theorem dX11_textAt_32 : decode cX11_textAt 32 = .ok (.iaload, 1) := by decide +kernel
theorem dX11_textAt_33 : decode cX11_textAt 33 = .ok (.if_icmp .lt 14, 3) := by decide +kernel
theorem dX11_textAt_36 : decode cX11_textAt 36 = .ok (.new 47, 3) := by decide +kernel
theorem dX11_textAt_39 : decode cX11_textAt 39 = .ok (.dup, 1) := by decide +kernel
theorem dX11_textAt_40 : decode cX11_textAt 40 = .ok (.ldc_w 274, 3) := by decide +kernel
theorem dX11_textAt_43 : decode cX11_textAt 43 = .ok (.invokespecial 51, 3) := by decide +kernel
theorem dX11_textAt_46 : decode cX11_textAt 46 = .ok (.athrow, 1) := by decide +kernel
theorem dX11_textAt_47 : decode cX11_textAt 47 = .ok (.aload 4, 2) := by decide +kernel
theorem dX11_textAt_49 : decode cX11_textAt 49 = .ok (.getfield 304, 3) := by decide +kernel
theorem dX11_textAt_52 : decode cX11_textAt 52 = .ok (.getfield 344, 3) := by decide +kernel
theorem dX11_textAt_55 : decode cX11_textAt 55 = .ok (.iload_n 2, 1) := by decide +kernel
theorem dX11_textAt_56 : decode cX11_textAt 56 = .ok (.iconst 1, 1) := by decide +kernel
theorem dX11_textAt_57 : decode cX11_textAt 57 = .ok (.isub, 1) := by decide +kernel
theorem dX11_textAt_58 : decode cX11_textAt 58 = .ok (.iaload, 1) := by decide +kernel
theorem dX11_textAt_59 : decode cX11_textAt 59 = .ok (.iload_n 3, 1) := by decide +kernel
theorem dX11_textAt_60 : decode cX11_textAt 60 = .ok (.iadd, 1) := by decide +kernel
theorem dX11_textAt_61 : decode cX11_textAt 61 = .ok (.istore 5, 2) := by decide +kernel
theorem dX11_textAt_63 : decode cX11_textAt 63 = .ok (.sipush 1000, 3) := by decide +kernel
theorem dX11_textAt_66 : decode cX11_textAt 66 = .ok (.aload 4, 2) := by decide +kernel
theorem dX11_textAt_68 : decode cX11_textAt 68 = .ok (.getfield 347, 3) := by decide +kernel
theorem dX11_textAt_71 : decode cX11_textAt 71 = .ok (.getfield 351, 3) := by decide +kernel
theorem dX11_textAt_74 : decode cX11_textAt 74 = .ok (.iload 5, 2) := by decide +kernel
theorem dX11_textAt_76 : decode cX11_textAt 76 = .ok (.iaload, 1) := by decide +kernel
theorem dX11_textAt_77 : decode cX11_textAt 77 = .ok (.imul, 1) := by decide +kernel
theorem dX11_textAt_78 : decode cX11_textAt 78 = .ok (.aload 4, 2) := by decide +kernel
theorem dX11_textAt_80 : decode cX11_textAt 80 = .ok (.getfield 347, 3) := by decide +kernel
theorem dX11_textAt_83 : decode cX11_textAt 83 = .ok (.getfield 355, 3) := by decide +kernel
theorem dX11_textAt_86 : decode cX11_textAt 86 = .ok (.iload 5, 2) := by decide +kernel
theorem dX11_textAt_88 : decode cX11_textAt 88 = .ok (.iaload, 1) := by decide +kernel
theorem dX11_textAt_89 : decode cX11_textAt 89 = .ok (.iadd, 1) := by decide +kernel
theorem dX11_textAt_90 : decode cX11_textAt 90 = .ok (.ireturn, 1) := by decide +kernel
set_option maxHeartbeats 4000000 in
set_option maxRecDepth 100000 in
theorem k_textAt (l : Launch) (dC : Nat → ClassId) (dI : Nat → Nat → Nat) (k : Nat → ClassId) (hl0 : l.stackTraces = false) (T : Nat → Int → Int → Int → Int) (A : Nat → Int → Int → Nat) (X : Nat → Int → Int → Int) (tl : va_W) (G : Nat → Int → Nat) (Mc : Nat → Int → Int) (Y : Nat → Int → Nat) (O : Nat → Nat) (L : Int → Nat → Int → Int) (C : Nat → Int → Int) (K : Nat → Int → Int) (cp : Nat) (v : Int) (pg_ : Int) (ro : Int) (hPR : PR dI k T A X G Mc Y O L C K cp tl) (hK : TK T) (hL : ∀ u, 0 ≤ u → u ≤ 1 → LSq T u (L u)) (hF : FINE T) (hrv : -2147483648 ≤ v ∧ v < 2147483648) (hrpg_ : -2147483648 ≤ pg_ ∧ pg_ < 2147483648) (hrro : -2147483648 ≤ ro ∧ ro < 2147483648) : Kx l dC dI k yX11_textAt (.code yX11_textAt cX11_textAt 6 (some .int)) ({ frames := 9, cells := (131072 - cp + 1), slots := (12 * (131072 - cp) + 6), locals := 205 } : Room) [.ref (Y 0 0), .int (iI v), .int (iI pg_), .int (iI ro)] ([] ++ tl) (fun r w gc gs => (∃ (O2 : Nat → Nat) (L2 : Int → Nat → Int → Int) (C2 : Nat → Int → Int) (X2 : Nat → Int → Int → Int) (cp2 : Nat) (tl2 : va_W), (PR dI k T A X2 G Mc Y O2 L2 C2 K cp2 tl2) ∧ (∀ u, 0 ≤ u → u ≤ 1 → LSq T u (L2 u)) ∧ (cp ≤ cp2 ∧ cp2 ≤ 131072) ∧ ((0 ≤ v ∧ v ≤ 1) ∧ (1 ≤ pg_ ∧ pg_ ≤ (mkZ T (moC T v (dgN T v))) 0 0) ∧ (0 ≤ ro ∧ ro < (mkZ T (moC T v (dgN T v))) 2 (pg_ - 1))) ∧ r = some (.int (iI (txZ T v pg_ ro))) ∧ w = ([] ++ tl2) ∧ gc = (cp2 - cp) ∧ gs = (12 * (cp2 - cp)))) (fun E w gc gs => (∃ (O2 : Nat → Nat) (L2 : Int → Nat → Int → Int) (C2 : Nat → Int → Int) (X2 : Nat → Int → Int → Int) (cp2 : Nat) (tl2 : va_W), (PR dI k T A X2 G Mc Y O2 L2 C2 K cp2 tl2) ∧ (∀ u, 0 ≤ u → u ≤ 1 → LSq T u (L2 u)) ∧ (cp ≤ cp2 ∧ cp2 ≤ 131072) ∧ (¬ ((0 ≤ v ∧ v ≤ 1) ∧ (1 ≤ pg_ ∧ pg_ ≤ (mkZ T (moC T v (dgN T v))) 0 0) ∧ (0 ≤ ro ∧ ro < (mkZ T (moC T v (dgN T v))) 2 (pg_ - 1)))) ∧ E = "java/lang/IndexOutOfBoundsException" ∧ w = ([] ++ tl2) ∧ gc = (cp2 - cp + 1) ∧ gs = (12 * (cp2 - cp) + 6))) := by
  refine kx_of (by decide) (Nat.le_of_ble_eq_true rfl) ?_
  intro p e s m args below meth c H locs B hr hex ls hl
  have hx := B.1.1
  have hb := B.1.2.1
  have hl : lv_has ls 6 [(0, .ref (Y 0 0)), (1, .int (iI v)), (2, .int (iI pg_)), (3, .int (iI ro))] := hl
  have hT := PR_TI hPR
  have hnb0 := TK_nb hK
  have hcp0 : 512 ≤ cp ∧ cp ≤ 131072 := by have q9 := hPR.2.2.2; unfold cpOk at q9; omega
  have hcap := hF.1
  refine lv_aload_n hx hb dX11_textAt_0 rfl (lv_at hl 0 rfl) ?_
  refine lv_iload_n hx hb dX11_textAt_1 rfl (lv_at hl 1 rfl) ?_
  have B := bd_swap (a := []) (b := []) (d := tl) (bd_to rfl B)
  obtain ⟨k_1, hk_1⟩ := pk_at (hs := []) (show (((Y 0 0), .inr (11, [.ref (A 50 0 0), .ref (Y 1 0), .ref (Y 2 0), .int (iI (K 0 0)), .ref (Y 3 0)])) : Nat × va_E) ∈ tl from PR_m hPR 0 0 rfl rfl)
  refine k_Vx (rest := []) (wc := ([] ++ tl)) (wr := []) (k_layoutOf l dC dI k hl0 T A X tl G Mc Y O L C K cp v hPR hK hL hcap hrv) B mV_X11_layoutOf mw_1367 hl (q0 := k_1) (ci := 11) hk_1 rfl rfl ⟨Nat.le_of_ble_eq_true rfl, Nat.le_of_ble_eq_true rfl⟩ (Nat.le_of_ble_eq_true rfl) rfl dX11_textAt_2 ⟨by dsimp only; omega, by dsimp only; omega⟩ (fun E ce q9 w gc gs H locs hp B h1 h2 h3 => ?_) (fun r w gc gs H locs hp B => ?_)
  · skip
    obtain ⟨z_2, rfl, hw9, rfl, rfl⟩ := hp
    rw [hw9] at B; clear hw9
    have B := bd_to (ws' := ([] ++ tl)) rfl B
    exact k_out hex (⟨O, L, C, X, cp, tl, hPR, hL, (by omega), (by omega), rfl, rfl, rfl, rfl⟩) B h1 h2 h3 ⟨(by first | omega | (dsimp only; omega)), (by first | omega | (dsimp only; omega))⟩ ⟨(by first | omega | (dsimp only; omega)), (by first | omega | (dsimp only; omega))⟩
  · skip
    obtain ⟨O2_3, L2_4, C2_5, X2_6, cp2_7, tl2_8, z_9, z_10, z_11, z_12, z_13, rfl, hw9, rfl, rfl⟩ := hp
    rw [hw9] at B; clear hw9
    have B := bd_to (ws' := ([] ++ tl2_8)) rfl B
    have hPR : PR dI k T A X2_6 G Mc Y O2_3 L2_4 C2_5 K cp2_7 tl2_8 := z_9
    have hLD : LD T v (L2_4 v) := z_10
    have hLo : ∀ u, u ≠ v → L2_4 u = L u := z_11
    have hT : TI dI k T A X2_6 tl2_8 := PR_TI hPR
    have hP9 : PgI (moC T v (dgN T v)) (mkZ T (moC T v (dgN T v))) := hF.2 v (by omega) (by omega)
    refine lv_astore (lv' := [(4, .ref (Y 4 v)), (0, .ref (Y 0 0)), (1, .int (iI v)), (2, .int (iI pg_)), (3, .int (iI ro))]) hx hb dX11_textAt_5 hl (by decide) rfl (fun ls hl => ?_)
    refine lv_aload hx hb dX11_textAt_7 (lv_at hl 0 rfl) ?_
    obtain ⟨k_14, hk_14⟩ := pk_at (hs := []) (show (((Y 4 v), .inr (1, [.ref (A 50 0 0), .int (iI v), .ref (Y 5 0), .ref (Y 60 v), .ref (Y 61 v), .int (iI ((L2_4 v) 0 0)), .int (iI ((L2_4 v) 0 1)), .ref (Y 21 v), .ref (Y 22 v), .ref (Y 23 v), .ref (Y 24 v), .ref (Y 25 v), .ref (Y 26 v), .int (iI ((L2_4 v) 0 2)), .int (iI ((L2_4 v) 0 3)), .int (iI ((L2_4 v) 0 4)), .ref (Y 27 v)])) : Nat × va_E) ∈ tl2_8 from PR_ly hPR (show 0 ≤ v ∧ v ≤ 1 by omega) 0 rfl)
    refine x_get (ci := 1) (C := RX1) (T := TX1) (N := 17) (v := .ref (Y 61 v)) B k_14 hk_14 rfl in_X1 4 (by decide) mw_416 (fun _ h9 => h9) rfl dX11_textAt_9 ?_
    refine lv_iload_n hx hb dX11_textAt_12 rfl (lv_at hl 3 rfl) ?_
    have B := bd_swap (a := []) (b := []) (d := tl2_8) (bd_to rfl B)
    refine k_Sx (rest := []) (wc := ([] ++ tl2_8)) (wr := []) (k_checkPage l dC dI k hl0 T A X2_6 tl2_8 G Mc Y O2_3 L2_4 C2_5 K cp2_7 v pg_ z_9 hK z_10 z_13 hF hrpg_) B mS_X11_checkPage mw_1763 hl ⟨Nat.le_of_ble_eq_true rfl, Nat.le_of_ble_eq_true rfl⟩ (Nat.le_of_ble_eq_true rfl) rfl dX11_textAt_13 ⟨by dsimp only; omega, by dsimp only; omega⟩ (fun E ce q9 w gc gs H locs hp B h1 h2 h3 => ?_) (fun r w gc gs H locs hp B => ?_)
    · skip
      obtain ⟨z_15, rfl, hw9, rfl, rfl⟩ := hp
      rw [hw9] at B; clear hw9
      have B := bd_to (ws' := ([] ++ tl2_8)) rfl B
      exact k_out hex (⟨O2_3, L2_4, C2_5, X2_6, cp2_7, tl2_8, hPR, (fun u a9 b9 => by by_cases e9 : u = v; (rw [e9]; exact Or.inr hLD); (rw [hLo u e9]; exact hL u a9 b9)), z_12, (by omega), rfl, rfl, rfl, rfl⟩) B h1 h2 h3 ⟨(by first | omega | (dsimp only; omega)), (by first | omega | (dsimp only; omega))⟩ ⟨(by first | omega | (dsimp only; omega)), (by first | omega | (dsimp only; omega))⟩
    · skip
      obtain ⟨z_16, z_17, rfl, hw9, rfl, rfl⟩ := hp
      rw [hw9] at B; clear hw9
      have B := bd_to (ws' := ([] ++ tl2_8)) rfl B
      refine lv_iload_n hx hb dX11_textAt_16 rfl (lv_at hl 4 rfl) ?_
      refine lv_if_lt (tgt := 36) hx hb dX11_textAt_17 (by decide) (fun c_18 => ?_) (fun c_18 => ?_)
      · have zc_18 : ro < 0 := jlt (a := ro) (b := 0) (by omega) (by omega) c_18
        exact k_thrWG (tx := "no such row") xE_ioobe (⟨O2_3, L2_4, C2_5, X2_6, cp2_7, tl2_8, hPR, (fun u a9 b9 => by by_cases e9 : u = v; (rw [e9]; exact Or.inr hLD); (rw [hLo u e9]; exact hL u a9 b9)), z_12, (by omega), rfl, rfl, rfl, rfl⟩) ⟨(by first | omega | (dsimp only; omega)), (by first | omega | (dsimp only; omega))⟩ hl0 B hex hl (by decide +kernel) dX11_textAt_36 dX11_textAt_39 dX11_textAt_40 dX11_textAt_43 dX11_textAt_46 ⟨(by first | exact Nat.le_of_ble_eq_true rfl | omega | (dsimp only; omega)), (by first | exact Nat.le_of_ble_eq_true rfl | omega | (dsimp only; omega)), (by first | omega | (dsimp only; omega)), (by first | omega | (dsimp only; omega))⟩ ⟨(by first | omega | (dsimp only; omega)), (by first | omega | (dsimp only; omega))⟩
      · have zc_18 : 0 ≤ ro := jnlt (a := ro) (b := 0) (by omega) (by omega) c_18
        refine lv_iload_n hx hb dX11_textAt_20 rfl (lv_at hl 4 rfl) ?_
        refine lv_aload hx hb dX11_textAt_21 (lv_at hl 0 rfl) ?_
        obtain ⟨k_19, hk_19⟩ := pk_at (hs := []) (show (((Y 4 v), .inr (1, [.ref (A 50 0 0), .int (iI v), .ref (Y 5 0), .ref (Y 60 v), .ref (Y 61 v), .int (iI ((L2_4 v) 0 0)), .int (iI ((L2_4 v) 0 1)), .ref (Y 21 v), .ref (Y 22 v), .ref (Y 23 v), .ref (Y 24 v), .ref (Y 25 v), .ref (Y 26 v), .int (iI ((L2_4 v) 0 2)), .int (iI ((L2_4 v) 0 3)), .int (iI ((L2_4 v) 0 4)), .ref (Y 27 v)])) : Nat × va_E) ∈ tl2_8 from PR_ly hPR (show 0 ≤ v ∧ v ≤ 1 by omega) 0 rfl)
        refine x_get (ci := 1) (C := RX1) (T := TX1) (N := 17) (v := .ref (Y 61 v)) B k_19 hk_19 rfl in_X1 4 (by decide) mw_416 (fun _ h9 => h9) rfl dX11_textAt_23 ?_
        obtain ⟨k_20, hk_20⟩ := pk_at (hs := []) (show (((Y 61 v), .inr (4, [.ref (A 50 0 0), .ref (Y 60 v), .ref (Y 62 v), .ref (Y 13 0), .int (iI ((L2_4 v) 50 0)), .int (iI ((L2_4 v) 50 1)), .ref (Y 63 v), .ref (Y 64 v), .ref (Y 65 v), .ref (Y 66 v), .ref (Y 67 v), .ref (Y 68 v)])) : Nat × va_E) ∈ tl2_8 from PR_pp hPR (show 0 ≤ v ∧ v ≤ 1 by omega) 0 rfl)
        refine x_get (ci := 4) (C := RX4) (T := TX4) (N := 12) (v := .ref (Y 64 v)) B k_20 hk_20 rfl in_X4 7 (by decide) mw_377 (fun _ h9 => h9) rfl dX11_textAt_26 ?_
        refine lv_iload_n hx hb dX11_textAt_29 rfl (lv_at hl 3 rfl) ?_
        refine lv_iconst (v := iI 1) hx hb dX11_textAt_30 (by decide) ?_
        refine y_sub hx hb dX11_textAt_31 ?_
        obtain ⟨k_21, hk_21⟩ := pk_at (hs := []) (show (((Y 64 v), .inl (k 0, 965, .inl (fun i9 : Nat => iI (((L2_4 v) 52) i9)))) : Nat × va_E) ∈ tl2_8 from PR_pp hPR (show 0 ≤ v ∧ v ≤ 1 by omega) 2 rfl)
        refine x_iald' (f := ((L2_4 v) 52)) (z := (pg_ - 1)) B k_21 hk_21 (by omega) dX11_textAt_32 ?_
        refine lv_seti (y := iI ((mkZ T (moC T v (dgN T v))) 2 (pg_ - 1))) (congrArg iI (show ((L2_4 v) 52) (pg_ - 1) = (mkZ T (moC T v (dgN T v))) 2 (pg_ - 1) from (hLD.2.2.2.2.2.1 _ (by omega) (by omega)).2.1)) ?_
        have z_22 : 0 ≤ (moC T v (dgN T v)) 0 0 ∧ (moC T v (dgN T v)) 0 0 ≤ 768 := MK_cnt (moC_in (v := v) (dg := dgN T v) hK).1
        have z_23 : (0 ≤ (mkZ T (moC T v (dgN T v))) 1 (pg_ - 1) ∧ 0 ≤ (mkZ T (moC T v (dgN T v))) 2 (pg_ - 1) ∧ (mkZ T (moC T v (dgN T v))) 1 (pg_ - 1) + (mkZ T (moC T v (dgN T v))) 2 (pg_ - 1) ≤ (moC T v (dgN T v)) 0 0) := (hP9.1 _ (by omega) (by omega)).1
        have z_24 : 0 ≤ (mkZ T (moC T v (dgN T v))) 3 (pg_ - 1) ∧ (mkZ T (moC T v (dgN T v))) 3 (pg_ - 1) ≤ 100000 := (hP9.1 _ (by omega) (by omega)).2.1
        refine lv_icmp_lt (tgt := 47) hx hb dX11_textAt_33 (by decide) (fun c_25 => ?_) (fun c_25 => ?_)
        · have zc_25 : ro < ((mkZ T (moC T v (dgN T v))) 2 (pg_ - 1)) := jlt (a := ro) (b := ((mkZ T (moC T v (dgN T v))) 2 (pg_ - 1))) (by omega) (by omega) c_25
          refine lv_aload hx hb dX11_textAt_47 (lv_at hl 0 rfl) ?_
          obtain ⟨k_26, hk_26⟩ := pk_at (hs := []) (show (((Y 4 v), .inr (1, [.ref (A 50 0 0), .int (iI v), .ref (Y 5 0), .ref (Y 60 v), .ref (Y 61 v), .int (iI ((L2_4 v) 0 0)), .int (iI ((L2_4 v) 0 1)), .ref (Y 21 v), .ref (Y 22 v), .ref (Y 23 v), .ref (Y 24 v), .ref (Y 25 v), .ref (Y 26 v), .int (iI ((L2_4 v) 0 2)), .int (iI ((L2_4 v) 0 3)), .int (iI ((L2_4 v) 0 4)), .ref (Y 27 v)])) : Nat × va_E) ∈ tl2_8 from PR_ly hPR (show 0 ≤ v ∧ v ≤ 1 by omega) 0 rfl)
          refine x_get (ci := 1) (C := RX1) (T := TX1) (N := 17) (v := .ref (Y 61 v)) B k_26 hk_26 rfl in_X1 4 (by decide) mw_416 (fun _ h9 => h9) rfl dX11_textAt_49 ?_
          obtain ⟨k_27, hk_27⟩ := pk_at (hs := []) (show (((Y 61 v), .inr (4, [.ref (A 50 0 0), .ref (Y 60 v), .ref (Y 62 v), .ref (Y 13 0), .int (iI ((L2_4 v) 50 0)), .int (iI ((L2_4 v) 50 1)), .ref (Y 63 v), .ref (Y 64 v), .ref (Y 65 v), .ref (Y 66 v), .ref (Y 67 v), .ref (Y 68 v)])) : Nat × va_E) ∈ tl2_8 from PR_pp hPR (show 0 ≤ v ∧ v ≤ 1 by omega) 0 rfl)
          refine x_get (ci := 4) (C := RX4) (T := TX4) (N := 12) (v := .ref (Y 63 v)) B k_27 hk_27 rfl in_X4 6 (by decide) mw_375 (fun _ h9 => h9) rfl dX11_textAt_52 ?_
          refine lv_iload_n hx hb dX11_textAt_55 rfl (lv_at hl 3 rfl) ?_
          refine lv_iconst (v := iI 1) hx hb dX11_textAt_56 (by decide) ?_
          refine y_sub hx hb dX11_textAt_57 ?_
          obtain ⟨k_28, hk_28⟩ := pk_at (hs := []) (show (((Y 63 v), .inl (k 0, 965, .inl (fun i9 : Nat => iI (((L2_4 v) 51) i9)))) : Nat × va_E) ∈ tl2_8 from PR_pp hPR (show 0 ≤ v ∧ v ≤ 1 by omega) 1 rfl)
          refine x_iald' (f := ((L2_4 v) 51)) (z := (pg_ - 1)) B k_28 hk_28 (by omega) dX11_textAt_58 ?_
          refine lv_seti (y := iI ((mkZ T (moC T v (dgN T v))) 1 (pg_ - 1))) (congrArg iI (show ((L2_4 v) 51) (pg_ - 1) = (mkZ T (moC T v (dgN T v))) 1 (pg_ - 1) from (hLD.2.2.2.2.2.1 _ (by omega) (by omega)).1)) ?_
          have z_29 : 0 ≤ (moC T v (dgN T v)) 0 0 ∧ (moC T v (dgN T v)) 0 0 ≤ 768 := MK_cnt (moC_in (v := v) (dg := dgN T v) hK).1
          have z_30 : (0 ≤ (mkZ T (moC T v (dgN T v))) 1 (pg_ - 1) ∧ 0 ≤ (mkZ T (moC T v (dgN T v))) 2 (pg_ - 1) ∧ (mkZ T (moC T v (dgN T v))) 1 (pg_ - 1) + (mkZ T (moC T v (dgN T v))) 2 (pg_ - 1) ≤ (moC T v (dgN T v)) 0 0) := (hP9.1 _ (by omega) (by omega)).1
          have z_31 : 0 ≤ (mkZ T (moC T v (dgN T v))) 3 (pg_ - 1) ∧ (mkZ T (moC T v (dgN T v))) 3 (pg_ - 1) ≤ 100000 := (hP9.1 _ (by omega) (by omega)).2.1
          refine lv_iload_n hx hb dX11_textAt_59 rfl (lv_at hl 4 rfl) ?_
          refine y_add hx hb dX11_textAt_60 ?_
          refine lv_istore (lv' := [(5, .int (iI (((mkZ T (moC T v (dgN T v))) 1 (pg_ - 1)) + ro))), (4, .ref (Y 4 v)), (0, .ref (Y 0 0)), (1, .int (iI v)), (2, .int (iI pg_)), (3, .int (iI ro))]) hx hb dX11_textAt_61 hl (by decide) rfl (fun ls hl => ?_)
          have z_32 : 0 ≤ (moC T v (dgN T v)) 0 0 ∧ (moC T v (dgN T v)) 0 0 ≤ 768 := MK_cnt (moC_in (v := v) (dg := dgN T v) hK).1
          refine lv_sipush (v := iI 1000) hx hb dX11_textAt_63 (by decide) ?_
          refine lv_aload hx hb dX11_textAt_66 (lv_at hl 1 rfl) ?_
          obtain ⟨k_33, hk_33⟩ := pk_at (hs := []) (show (((Y 4 v), .inr (1, [.ref (A 50 0 0), .int (iI v), .ref (Y 5 0), .ref (Y 60 v), .ref (Y 61 v), .int (iI ((L2_4 v) 0 0)), .int (iI ((L2_4 v) 0 1)), .ref (Y 21 v), .ref (Y 22 v), .ref (Y 23 v), .ref (Y 24 v), .ref (Y 25 v), .ref (Y 26 v), .int (iI ((L2_4 v) 0 2)), .int (iI ((L2_4 v) 0 3)), .int (iI ((L2_4 v) 0 4)), .ref (Y 27 v)])) : Nat × va_E) ∈ tl2_8 from PR_ly hPR (show 0 ≤ v ∧ v ≤ 1 by omega) 0 rfl)
          refine x_get (ci := 1) (C := RX1) (T := TX1) (N := 17) (v := .ref (Y 60 v)) B k_33 hk_33 rfl in_X1 3 (by decide) mw_414 (fun _ h9 => h9) rfl dX11_textAt_68 ?_
          obtain ⟨k_34, hk_34⟩ := pk_at (hs := []) (show (((Y 60 v), .inr (6, [.int (iI ((L2_4 v) 30 0)), .ref (Y 41 v), .ref (Y 42 v), .ref (Y 43 v), .ref (Y 44 v), .ref (Y 45 v), .ref (Y 46 v), .ref (Y 47 v), .ref (Y 48 v), .ref (Y 49 v), .ref (Y 50 v), .ref (Y 51 v), .int (iI ((L2_4 v) 42 0)), .int (iI ((L2_4 v) 43 0)), .ref (Y 54 v), .ref (Y 55 v), .ref (Y 56 v), .int (iI ((L2_4 v) 47 0))])) : Nat × va_E) ∈ tl2_8 from PR_rw hPR (show 0 ≤ v ∧ v ≤ 1 by omega) 0 rfl)
          refine x_get (ci := 6) (C := RX6) (T := TX6) (N := 18) (v := .ref (Y 42 v)) B k_34 hk_34 rfl in_X6 2 (by decide) mw_230 (fun _ h9 => h9) rfl dX11_textAt_71 ?_
          refine lv_iload hx hb dX11_textAt_74 (lv_at hl 0 rfl) ?_
          obtain ⟨k_35, hk_35⟩ := pk_at (hs := []) (show (((Y 42 v), .inl (k 0, 768, .inl (fun i9 : Nat => iI (((L2_4 v) 32) i9)))) : Nat × va_E) ∈ tl2_8 from PR_rw hPR (show 0 ≤ v ∧ v ≤ 1 by omega) 2 rfl)
          refine x_iald' (f := ((L2_4 v) 32)) (z := (((mkZ T (moC T v (dgN T v))) 1 (pg_ - 1)) + ro)) B k_35 hk_35 (by omega) dX11_textAt_76 ?_
          refine lv_seti (y := iI ((moC T v (dgN T v)) 2 (((mkZ T (moC T v (dgN T v))) 1 (pg_ - 1)) + ro))) (congrArg iI (show ((L2_4 v) 32) (((mkZ T (moC T v (dgN T v))) 1 (pg_ - 1)) + ro) = (moC T v (dgN T v)) 2 (((mkZ T (moC T v (dgN T v))) 1 (pg_ - 1)) + ro) from (RA_2 hLD.2.2.1 _ (by omega) (by omega)))) ?_
          have z_36 : 0 ≤ (moC T v (dgN T v)) 2 (((mkZ T (moC T v (dgN T v))) 1 (pg_ - 1)) + ro) ∧ (moC T v (dgN T v)) 2 (((mkZ T (moC T v (dgN T v))) 1 (pg_ - 1)) + ro) ≤ 15 := MK_2 (moC_in hK).1 _
          refine y_mul hx hb dX11_textAt_77 ?_
          refine lv_aload hx hb dX11_textAt_78 (lv_at hl 1 rfl) ?_
          obtain ⟨k_37, hk_37⟩ := pk_at (hs := []) (show (((Y 4 v), .inr (1, [.ref (A 50 0 0), .int (iI v), .ref (Y 5 0), .ref (Y 60 v), .ref (Y 61 v), .int (iI ((L2_4 v) 0 0)), .int (iI ((L2_4 v) 0 1)), .ref (Y 21 v), .ref (Y 22 v), .ref (Y 23 v), .ref (Y 24 v), .ref (Y 25 v), .ref (Y 26 v), .int (iI ((L2_4 v) 0 2)), .int (iI ((L2_4 v) 0 3)), .int (iI ((L2_4 v) 0 4)), .ref (Y 27 v)])) : Nat × va_E) ∈ tl2_8 from PR_ly hPR (show 0 ≤ v ∧ v ≤ 1 by omega) 0 rfl)
          refine x_get (ci := 1) (C := RX1) (T := TX1) (N := 17) (v := .ref (Y 60 v)) B k_37 hk_37 rfl in_X1 3 (by decide) mw_414 (fun _ h9 => h9) rfl dX11_textAt_80 ?_
          obtain ⟨k_38, hk_38⟩ := pk_at (hs := []) (show (((Y 60 v), .inr (6, [.int (iI ((L2_4 v) 30 0)), .ref (Y 41 v), .ref (Y 42 v), .ref (Y 43 v), .ref (Y 44 v), .ref (Y 45 v), .ref (Y 46 v), .ref (Y 47 v), .ref (Y 48 v), .ref (Y 49 v), .ref (Y 50 v), .ref (Y 51 v), .int (iI ((L2_4 v) 42 0)), .int (iI ((L2_4 v) 43 0)), .ref (Y 54 v), .ref (Y 55 v), .ref (Y 56 v), .int (iI ((L2_4 v) 47 0))])) : Nat × va_E) ∈ tl2_8 from PR_rw hPR (show 0 ≤ v ∧ v ≤ 1 by omega) 0 rfl)
          refine x_get (ci := 6) (C := RX6) (T := TX6) (N := 18) (v := .ref (Y 43 v)) B k_38 hk_38 rfl in_X6 3 (by decide) mw_233 (fun _ h9 => h9) rfl dX11_textAt_83 ?_
          refine lv_iload hx hb dX11_textAt_86 (lv_at hl 0 rfl) ?_
          obtain ⟨k_39, hk_39⟩ := pk_at (hs := []) (show (((Y 43 v), .inl (k 0, 768, .inl (fun i9 : Nat => iI (((L2_4 v) 33) i9)))) : Nat × va_E) ∈ tl2_8 from PR_rw hPR (show 0 ≤ v ∧ v ≤ 1 by omega) 3 rfl)
          refine x_iald' (f := ((L2_4 v) 33)) (z := (((mkZ T (moC T v (dgN T v))) 1 (pg_ - 1)) + ro)) B k_39 hk_39 (by omega) dX11_textAt_88 ?_
          refine lv_seti (y := iI ((moC T v (dgN T v)) 3 (((mkZ T (moC T v (dgN T v))) 1 (pg_ - 1)) + ro))) (congrArg iI (show ((L2_4 v) 33) (((mkZ T (moC T v (dgN T v))) 1 (pg_ - 1)) + ro) = (moC T v (dgN T v)) 3 (((mkZ T (moC T v (dgN T v))) 1 (pg_ - 1)) + ro) from (RA_3 hLD.2.2.1 _ (by omega) (by omega)))) ?_
          have z_40 : 0 ≤ (moC T v (dgN T v)) 3 (((mkZ T (moC T v (dgN T v))) 1 (pg_ - 1)) + ro) ∧ (moC T v (dgN T v)) 3 (((mkZ T (moC T v (dgN T v))) 1 (pg_ - 1)) + ro) ≤ 47 := MK_3 (moC_in hK).1 _
          refine y_add hx hb dX11_textAt_89 ?_
          have e_41 : (txZ T v pg_ ro) = ((1000 * ((moC T v (dgN T v)) 2 (((mkZ T (moC T v (dgN T v))) 1 (pg_ - 1)) + ro))) + ((moC T v (dgN T v)) 3 (((mkZ T (moC T v (dgN T v))) 1 (pg_ - 1)) + ro))) := rfl
          skip
          exact vx_ret (k_iret B hr (⟨O2_3, L2_4, C2_5, X2_6, cp2_7, tl2_8, hPR, (fun u a9 b9 => by by_cases e9 : u = v; (rw [e9]; exact Or.inr hLD); (rw [hLo u e9]; exact hL u a9 b9)), z_12, (by omega), (by rw [e_41]), rfl, rfl, rfl⟩) ⟨(by first | omega | (dsimp only; omega)), (by first | omega | (dsimp only; omega))⟩ ⟨(by first | omega | (dsimp only; omega)), (by first | omega | (dsimp only; omega))⟩ dX11_textAt_90)
        · have zc_25 : ((mkZ T (moC T v (dgN T v))) 2 (pg_ - 1)) ≤ ro := jnlt (a := ro) (b := ((mkZ T (moC T v (dgN T v))) 2 (pg_ - 1))) (by omega) (by omega) c_25
          exact k_thrWG (tx := "no such row") xE_ioobe (⟨O2_3, L2_4, C2_5, X2_6, cp2_7, tl2_8, hPR, (fun u a9 b9 => by by_cases e9 : u = v; (rw [e9]; exact Or.inr hLD); (rw [hLo u e9]; exact hL u a9 b9)), z_12, (by omega), rfl, rfl, rfl, rfl⟩) ⟨(by first | omega | (dsimp only; omega)), (by first | omega | (dsimp only; omega))⟩ hl0 B hex hl (by decide +kernel) dX11_textAt_36 dX11_textAt_39 dX11_textAt_40 dX11_textAt_43 dX11_textAt_46 ⟨(by first | exact Nat.le_of_ble_eq_true rfl | omega | (dsimp only; omega)), (by first | exact Nat.le_of_ble_eq_true rfl | omega | (dsimp only; omega)), (by first | omega | (dsimp only; omega)), (by first | omega | (dsimp only; omega))⟩ ⟨(by first | omega | (dsimp only; omega)), (by first | omega | (dsimp only; omega))⟩

theorem mw_247 : (Jvm.Cond.fieldLink "Galleyforge" (358 : Nat) "Galleyforge$Rows" "wordRows" "[I") ∈ gt := gt_at 317 (by decide +kernel) (by decide +kernel)
theorem mw_1798 : (Jvm.Cond.methodLink "Galleyforge" (361 : Nat) ({ cls := "Galleyforge$Pages", name := "pageOf", desc := "(I)I" } : Jvm.MethodName)) ∈ gt := gt_at 1868 (by decide +kernel) (by decide +kernel)
theorem dX11_whereIs_0 : decode cX11_whereIs 0 = .ok (.iload_n 1, 1) := by decide +kernel
theorem dX11_whereIs_1 : decode cX11_whereIs 1 = .ok (.invokestatic 238, 3) := by decide +kernel
theorem dX11_whereIs_4 : decode cX11_whereIs 4 = .ok (.aload_n 0, 1) := by decide +kernel
theorem dX11_whereIs_5 : decode cX11_whereIs 5 = .ok (.iload_n 2, 1) := by decide +kernel
theorem dX11_whereIs_6 : decode cX11_whereIs 6 = .ok (.invokevirtual 109, 3) := by decide +kernel
theorem dX11_whereIs_9 : decode cX11_whereIs 9 = .ok (.iload_n 3, 1) := by decide +kernel
theorem dX11_whereIs_10 : decode cX11_whereIs 10 = .ok (.invokestatic 141, 3) := by decide +kernel
theorem dX11_whereIs_13 : decode cX11_whereIs 13 = .ok (.aload_n 0, 1) := by decide +kernel
theorem dX11_whereIs_14 : decode cX11_whereIs 14 = .ok (.iload_n 1, 1) := by decide +kernel
theorem dX11_whereIs_15 : decode cX11_whereIs 15 = .ok (.invokevirtual 279, 3) := by decide +kernel
theorem dX11_whereIs_18 : decode cX11_whereIs 18 = .ok (.astore 4, 2) := by decide +kernel
theorem dX11_whereIs_20 : decode cX11_whereIs 20 = .ok (.aload 4, 2) := by decide +kernel
theorem dX11_whereIs_22 : decode cX11_whereIs 22 = .ok (.getfield 347, 3) := by decide +kernel
theorem dX11_whereIs_25 : decode cX11_whereIs 25 = .ok (.getfield 358, 3) := by decide +kernel
theorem dX11_whereIs_28 : decode cX11_whereIs 28 = .ok (.iload_n 2, 1) := by decide +kernel
theorem dX11_whereIs_29 : decode cX11_whereIs 29 = .ok (.bipush 12, 2) := by decide +kernel
theorem dX11_whereIs_31 : decode cX11_whereIs 31 = .ok (.imul, 1) := by decide +kernel
theorem dX11_whereIs_32 : decode cX11_whereIs 32 = .ok (.iload_n 3, 1) := by decide +kernel
theorem dX11_whereIs_33 : decode cX11_whereIs 33 = .ok (.iadd, 1) := by decide +kernel
theorem dX11_whereIs_34 : decode cX11_whereIs 34 = .ok (.iaload, 1) := by decide +kernel
theorem dX11_whereIs_35 : decode cX11_whereIs 35 = .ok (.istore 5, 2) := by decide +kernel
theorem dX11_whereIs_37 : decode cX11_whereIs 37 = .ok (.iload 5, 2) := by decide +kernel
theorem dX11_whereIs_39 : decode cX11_whereIs 39 = .ok (.iconst (-1), 1) := by decide +kernel
theorem dX11_whereIs_40 : decode cX11_whereIs 40 = .ok (.if_icmp .ne 5, 3) := by decide +kernel
theorem dX11_whereIs_43 : decode cX11_whereIs 43 = .ok (.iconst (-1), 1) := by decide +kernel
theorem dX11_whereIs_44 : decode cX11_whereIs 44 = .ok (.ireturn, 1) := by decide +kernel
theorem dX11_whereIs_45 : decode cX11_whereIs 45 = .ok (.aload 4, 2) := by decide +kernel
theorem dX11_whereIs_47 : decode cX11_whereIs 47 = .ok (.getfield 304, 3) := by decide +kernel
theorem dX11_whereIs_50 : decode cX11_whereIs 50 = .ok (.iload 5, 2) := by decide +kernel
theorem dX11_whereIs_52 : decode cX11_whereIs 52 = .ok (.invokevirtual 361, 3) := by decide +kernel
theorem dX11_whereIs_55 : decode cX11_whereIs 55 = .ok (.istore 6, 2) := by decide +kernel
theorem dX11_whereIs_57 : decode cX11_whereIs 57 = .ok (.sipush 1000, 3) := by decide +kernel
theorem dX11_whereIs_60 : decode cX11_whereIs 60 = .ok (.iload 6, 2) := by decide +kernel
theorem dX11_whereIs_62 : decode cX11_whereIs 62 = .ok (.imul, 1) := by decide +kernel
theorem dX11_whereIs_63 : decode cX11_whereIs 63 = .ok (.iload 5, 2) := by decide +kernel
theorem dX11_whereIs_65 : decode cX11_whereIs 65 = .ok (.iadd, 1) := by decide +kernel
theorem dX11_whereIs_66 : decode cX11_whereIs 66 = .ok (.aload 4, 2) := by decide +kernel
theorem dX11_whereIs_68 : decode cX11_whereIs 68 = .ok (.getfield 304, 3) := by decide +kernel
theorem dX11_whereIs_71 : decode cX11_whereIs 71 = .ok (.getfield 344, 3) := by decide +kernel
theorem dX11_whereIs_74 : decode cX11_whereIs 74 = .ok (.iload 6, 2) := by decide +kernel
theorem dX11_whereIs_76 : decode cX11_whereIs 76 = .ok (.iconst 1, 1) := by decide +kernel
theorem dX11_whereIs_77 : decode cX11_whereIs 77 = .ok (.isub, 1) := by decide +kernel
theorem dX11_whereIs_78 : decode cX11_whereIs 78 = .ok (.iaload, 1) := by decide +kernel
theorem dX11_whereIs_79 : decode cX11_whereIs 79 = .ok (.isub, 1) := by decide +kernel
theorem dX11_whereIs_80 : decode cX11_whereIs 80 = .ok (.ireturn, 1) := by decide +kernel
set_option maxHeartbeats 4000000 in
set_option maxRecDepth 100000 in
theorem k_whereIs (l : Launch) (dC : Nat → ClassId) (dI : Nat → Nat → Nat) (k : Nat → ClassId) (hl0 : l.stackTraces = false) (T : Nat → Int → Int → Int → Int) (A : Nat → Int → Int → Nat) (X : Nat → Int → Int → Int) (tl : va_W) (G : Nat → Int → Nat) (Mc : Nat → Int → Int) (Y : Nat → Int → Nat) (O : Nat → Nat) (L : Int → Nat → Int → Int) (C : Nat → Int → Int) (K : Nat → Int → Int) (cp : Nat) (v : Int) (pl : Int) (at_ : Int) (hPR : PR dI k T A X G Mc Y O L C K cp tl) (hK : TK T) (hL : ∀ u, 0 ≤ u → u ≤ 1 → LSq T u (L u)) (hF : FINE T) (hrv : -2147483648 ≤ v ∧ v < 2147483648) (hrpl : -2147483648 ≤ pl ∧ pl < 2147483648) (hrat_ : -2147483648 ≤ at_ ∧ at_ < 2147483648) : Kx l dC dI k yX11_whereIs (.code yX11_whereIs cX11_whereIs 7 (some .int)) ({ frames := 9, cells := (131072 - cp + 1), slots := (12 * (131072 - cp) + 6), locals := 205 } : Room) [.ref (Y 0 0), .int (iI v), .int (iI pl), .int (iI at_)] ([] ++ tl) (fun r w gc gs => (∃ (O2 : Nat → Nat) (L2 : Int → Nat → Int → Int) (C2 : Nat → Int → Int) (X2 : Nat → Int → Int → Int) (cp2 : Nat) (tl2 : va_W), (PR dI k T A X2 G Mc Y O2 L2 C2 K cp2 tl2) ∧ (∀ u, 0 ≤ u → u ≤ 1 → LSq T u (L2 u)) ∧ (cp ≤ cp2 ∧ cp2 ≤ 131072) ∧ ((0 ≤ v ∧ v ≤ 1) ∧ (0 ≤ pl ∧ pl < T 0 0 0 0) ∧ (0 ≤ at_ ∧ at_ < T 3 pl 0 0)) ∧ r = some (.int (iI (whZ T v pl at_))) ∧ w = ([] ++ tl2) ∧ gc = (cp2 - cp) ∧ gs = (12 * (cp2 - cp)))) (fun E w gc gs => (∃ (O2 : Nat → Nat) (L2 : Int → Nat → Int → Int) (C2 : Nat → Int → Int) (X2 : Nat → Int → Int → Int) (cp2 : Nat) (tl2 : va_W), (PR dI k T A X2 G Mc Y O2 L2 C2 K cp2 tl2) ∧ (∀ u, 0 ≤ u → u ≤ 1 → LSq T u (L2 u)) ∧ (cp ≤ cp2 ∧ cp2 ≤ 131072) ∧ (¬ ((0 ≤ v ∧ v ≤ 1) ∧ (0 ≤ pl ∧ pl < T 0 0 0 0) ∧ (0 ≤ at_ ∧ at_ < T 3 pl 0 0))) ∧ E = "java/lang/IndexOutOfBoundsException" ∧ w = ([] ++ tl2) ∧ gc = (cp2 - cp + 1) ∧ gs = (12 * (cp2 - cp) + 6))) := by
  refine kx_of (by decide) (Nat.le_of_ble_eq_true rfl) ?_
  intro p e s m args below meth c H locs B hr hex ls hl
  have hx := B.1.1
  have hb := B.1.2.1
  have hl : lv_has ls 7 [(0, .ref (Y 0 0)), (1, .int (iI v)), (2, .int (iI pl)), (3, .int (iI at_))] := hl
  have hT := PR_TI hPR
  have hnb0 := TK_nb hK
  have hcp0 : 512 ≤ cp ∧ cp ≤ 131072 := by have q9 := hPR.2.2.2; unfold cpOk at q9; omega
  have hcap := hF.1
  have hnw0 := TK_nw hK pl
  refine lv_iload_n hx hb dX11_whereIs_0 rfl (lv_at hl 1 rfl) ?_
  have B := bd_to (ws' := [] ++ ([] ++ tl)) rfl B
  refine k_Sx (rest := []) (wc := []) (wr := ([] ++ tl)) (k_checkVariant l dC dI k hl0 v hrv) B mS_X11_checkVariant mw_1287 hl ⟨Nat.le_of_ble_eq_true rfl, Nat.le_of_ble_eq_true rfl⟩ (Nat.le_of_ble_eq_true rfl) rfl dX11_whereIs_1 ⟨by dsimp only; omega, by dsimp only; omega⟩ (fun E ce q9 w gc gs H locs hp B h1 h2 h3 => ?_) (fun r w gc gs H locs hp B => ?_)
  · skip
    obtain ⟨z_1, rfl, hw9, rfl, rfl⟩ := hp
    rw [hw9] at B; clear hw9
    have B := bd_swap (a := []) (b := tl) (d := []) B
    have B := bd_to (ws' := ([] ++ tl)) rfl B
    exact k_out hex (⟨O, L, C, X, cp, tl, hPR, hL, (by omega), (by omega), rfl, rfl, rfl, rfl⟩) B h1 h2 h3 ⟨(by first | omega | (dsimp only; omega)), (by first | omega | (dsimp only; omega))⟩ ⟨(by first | omega | (dsimp only; omega)), (by first | omega | (dsimp only; omega))⟩
  · skip
    obtain ⟨z_2, rfl, hw9, rfl, rfl⟩ := hp
    rw [hw9] at B; clear hw9
    have B := bd_swap (a := []) (b := tl) (d := []) B
    have B := bd_to (ws' := ([] ++ tl)) rfl B
    refine lv_aload_n hx hb dX11_whereIs_4 rfl (lv_at hl 0 rfl) ?_
    refine lv_iload_n hx hb dX11_whereIs_5 rfl (lv_at hl 2 rfl) ?_
    have B := bd_swap (a := []) (b := []) (d := tl) (bd_to rfl B)
    obtain ⟨k_3, hk_3⟩ := pk_at (hs := []) (show (((Y 0 0), .inr (11, [.ref (A 50 0 0), .ref (Y 1 0), .ref (Y 2 0), .int (iI (K 0 0)), .ref (Y 3 0)])) : Nat × va_E) ∈ tl from PR_m hPR 0 0 rfl rfl)
    refine k_Vx (rest := []) (wc := ([] ++ tl)) (wr := []) (k_blockAt l dC dI k hl0 T A X tl G Mc Y O L C K cp pl hPR hK hrpl) B mV_X11_blockAt mw_784 hl (q0 := k_3) (ci := 11) hk_3 rfl rfl ⟨Nat.le_of_ble_eq_true rfl, Nat.le_of_ble_eq_true rfl⟩ (Nat.le_of_ble_eq_true rfl) rfl dX11_whereIs_6 ⟨by dsimp only; omega, by dsimp only; omega⟩ (fun E ce q9 w gc gs H locs hp B h1 h2 h3 => ?_) (fun r w gc gs H locs hp B => ?_)
    · skip
      obtain ⟨z_4, rfl, hw9, rfl, rfl⟩ := hp
      rw [hw9] at B; clear hw9
      have B := bd_to (ws' := ([] ++ tl)) rfl B
      exact k_out hex (⟨O, L, C, X, cp, tl, hPR, hL, (by omega), (by omega), rfl, rfl, rfl, rfl⟩) B h1 h2 h3 ⟨(by first | omega | (dsimp only; omega)), (by first | omega | (dsimp only; omega))⟩ ⟨(by first | omega | (dsimp only; omega)), (by first | omega | (dsimp only; omega))⟩
    · skip
      obtain ⟨z_5, rfl, hw9, rfl, rfl⟩ := hp
      rw [hw9] at B; clear hw9
      have B := bd_to (ws' := ([] ++ tl)) rfl B
      refine lv_iload_n hx hb dX11_whereIs_9 rfl (lv_at hl 3 rfl) ?_
      have B := bd_swap (a := []) (b := []) (d := tl) (bd_to rfl B)
      refine k_Sx (rest := []) (wc := ([] ++ tl)) (wr := []) (k_checkWord l dC dI k hl0 T A X tl G Mc Y O L C K cp pl at_ hPR hK z_5 hrat_) B mS_X11_checkWord mw_1108 hl ⟨Nat.le_of_ble_eq_true rfl, Nat.le_of_ble_eq_true rfl⟩ (Nat.le_of_ble_eq_true rfl) rfl dX11_whereIs_10 ⟨by dsimp only; omega, by dsimp only; omega⟩ (fun E ce q9 w gc gs H locs hp B h1 h2 h3 => ?_) (fun r w gc gs H locs hp B => ?_)
      · skip
        obtain ⟨z_6, rfl, hw9, rfl, rfl⟩ := hp
        rw [hw9] at B; clear hw9
        have B := bd_to (ws' := ([] ++ tl)) rfl B
        exact k_out hex (⟨O, L, C, X, cp, tl, hPR, hL, (by omega), (by omega), rfl, rfl, rfl, rfl⟩) B h1 h2 h3 ⟨(by first | omega | (dsimp only; omega)), (by first | omega | (dsimp only; omega))⟩ ⟨(by first | omega | (dsimp only; omega)), (by first | omega | (dsimp only; omega))⟩
      · skip
        obtain ⟨z_7, rfl, hw9, rfl, rfl⟩ := hp
        rw [hw9] at B; clear hw9
        have B := bd_to (ws' := ([] ++ tl)) rfl B
        refine lv_aload_n hx hb dX11_whereIs_13 rfl (lv_at hl 0 rfl) ?_
        refine lv_iload_n hx hb dX11_whereIs_14 rfl (lv_at hl 1 rfl) ?_
        have B := bd_swap (a := []) (b := []) (d := tl) (bd_to rfl B)
        obtain ⟨k_8, hk_8⟩ := pk_at (hs := []) (show (((Y 0 0), .inr (11, [.ref (A 50 0 0), .ref (Y 1 0), .ref (Y 2 0), .int (iI (K 0 0)), .ref (Y 3 0)])) : Nat × va_E) ∈ tl from PR_m hPR 0 0 rfl rfl)
        refine k_Vx (rest := []) (wc := ([] ++ tl)) (wr := []) (k_layoutOf l dC dI k hl0 T A X tl G Mc Y O L C K cp v hPR hK hL hcap hrv) B mV_X11_layoutOf mw_1367 hl (q0 := k_8) (ci := 11) hk_8 rfl rfl ⟨Nat.le_of_ble_eq_true rfl, Nat.le_of_ble_eq_true rfl⟩ (Nat.le_of_ble_eq_true rfl) rfl dX11_whereIs_15 ⟨by dsimp only; omega, by dsimp only; omega⟩ (fun E ce q9 w gc gs H locs hp B h1 h2 h3 => ?_) (fun r w gc gs H locs hp B => ?_)
        · skip
          obtain ⟨z_9, rfl, hw9, rfl, rfl⟩ := hp
          rw [hw9] at B; clear hw9
          have B := bd_to (ws' := ([] ++ tl)) rfl B
          exact k_out hex (⟨O, L, C, X, cp, tl, hPR, hL, (by omega), (by omega), rfl, rfl, rfl, rfl⟩) B h1 h2 h3 ⟨(by first | omega | (dsimp only; omega)), (by first | omega | (dsimp only; omega))⟩ ⟨(by first | omega | (dsimp only; omega)), (by first | omega | (dsimp only; omega))⟩
        · skip
          obtain ⟨O2_10, L2_11, C2_12, X2_13, cp2_14, tl2_15, z_16, z_17, z_18, z_19, z_20, rfl, hw9, rfl, rfl⟩ := hp
          rw [hw9] at B; clear hw9
          have B := bd_to (ws' := ([] ++ tl2_15)) rfl B
          have hPR : PR dI k T A X2_13 G Mc Y O2_10 L2_11 C2_12 K cp2_14 tl2_15 := z_16
          have hLD : LD T v (L2_11 v) := z_17
          have hLo : ∀ u, u ≠ v → L2_11 u = L u := z_18
          have hT : TI dI k T A X2_13 tl2_15 := PR_TI hPR
          have hP9 : PgI (moC T v (dgN T v)) (mkZ T (moC T v (dgN T v))) := hF.2 v (by omega) (by omega)
          refine lv_astore (lv' := [(4, .ref (Y 4 v)), (0, .ref (Y 0 0)), (1, .int (iI v)), (2, .int (iI pl)), (3, .int (iI at_))]) hx hb dX11_whereIs_18 hl (by decide) rfl (fun ls hl => ?_)
          refine lv_aload hx hb dX11_whereIs_20 (lv_at hl 0 rfl) ?_
          obtain ⟨k_21, hk_21⟩ := pk_at (hs := []) (show (((Y 4 v), .inr (1, [.ref (A 50 0 0), .int (iI v), .ref (Y 5 0), .ref (Y 60 v), .ref (Y 61 v), .int (iI ((L2_11 v) 0 0)), .int (iI ((L2_11 v) 0 1)), .ref (Y 21 v), .ref (Y 22 v), .ref (Y 23 v), .ref (Y 24 v), .ref (Y 25 v), .ref (Y 26 v), .int (iI ((L2_11 v) 0 2)), .int (iI ((L2_11 v) 0 3)), .int (iI ((L2_11 v) 0 4)), .ref (Y 27 v)])) : Nat × va_E) ∈ tl2_15 from PR_ly hPR (show 0 ≤ v ∧ v ≤ 1 by omega) 0 rfl)
          refine x_get (ci := 1) (C := RX1) (T := TX1) (N := 17) (v := .ref (Y 60 v)) B k_21 hk_21 rfl in_X1 3 (by decide) mw_414 (fun _ h9 => h9) rfl dX11_whereIs_22 ?_
          obtain ⟨k_22, hk_22⟩ := pk_at (hs := []) (show (((Y 60 v), .inr (6, [.int (iI ((L2_11 v) 30 0)), .ref (Y 41 v), .ref (Y 42 v), .ref (Y 43 v), .ref (Y 44 v), .ref (Y 45 v), .ref (Y 46 v), .ref (Y 47 v), .ref (Y 48 v), .ref (Y 49 v), .ref (Y 50 v), .ref (Y 51 v), .int (iI ((L2_11 v) 42 0)), .int (iI ((L2_11 v) 43 0)), .ref (Y 54 v), .ref (Y 55 v), .ref (Y 56 v), .int (iI ((L2_11 v) 47 0))])) : Nat × va_E) ∈ tl2_15 from PR_rw hPR (show 0 ≤ v ∧ v ≤ 1 by omega) 0 rfl)
          refine x_get (ci := 6) (C := RX6) (T := TX6) (N := 18) (v := .ref (Y 49 v)) B k_22 hk_22 rfl in_X6 9 (by decide) mw_247 (fun _ h9 => h9) rfl dX11_whereIs_25 ?_
          refine lv_iload_n hx hb dX11_whereIs_28 rfl (lv_at hl 3 rfl) ?_
          refine lv_bipush (v := iI 12) hx hb dX11_whereIs_29 (by decide) ?_
          refine y_mul hx hb dX11_whereIs_31 ?_
          refine lv_iload_n hx hb dX11_whereIs_32 rfl (lv_at hl 4 rfl) ?_
          refine y_add hx hb dX11_whereIs_33 ?_
          obtain ⟨k_23, hk_23⟩ := pk_at (hs := []) (show (((Y 49 v), .inl (k 0, 192, .inl (fun i9 : Nat => iI (((L2_11 v) 39) i9)))) : Nat × va_E) ∈ tl2_15 from PR_rw hPR (show 0 ≤ v ∧ v ≤ 1 by omega) 9 rfl)
          refine x_iald' (f := ((L2_11 v) 39)) (z := ((pl * 12) + at_)) B k_23 hk_23 (by omega) dX11_whereIs_34 ?_
          refine lv_seti (y := iI ((moC T v (dgN T v)) 9 ((pl * 12) + at_))) (congrArg iI (show ((L2_11 v) 39) ((pl * 12) + at_) = (moC T v (dgN T v)) 9 ((pl * 12) + at_) from (RA_9 hLD.2.2.1 _ (by omega) (by omega)))) ?_
          have z_24 : (-1) ≤ (moC T v (dgN T v)) 9 ((pl * 12) + at_) ∧ (moC T v (dgN T v)) 9 ((pl * 12) + at_) ≤ 767 := MK_9 (moC_in hK).1 _
          have z_25 : ((moC T v (dgN T v)) 9 ((pl * 12) + at_)) = -1 ∨ (0 ≤ ((moC T v (dgN T v)) 9 ((pl * 12) + at_)) ∧ ((moC T v (dgN T v)) 9 ((pl * 12) + at_)) < (moC T v (dgN T v)) 0 0) := by by_cases e9 : ((moC T v (dgN T v)) 9 ((pl * 12) + at_)) = -1; (exact Or.inl e9); (have q9 := moC_9w (v := v) (dg := dgN T v) (i := pl) (j := at_) hK (by omega) (by omega) (by omega) (by omega) e9; exact Or.inr ⟨q9.1, q9.2.1⟩)
          refine lv_istore (lv' := [(5, .int (iI ((moC T v (dgN T v)) 9 ((pl * 12) + at_)))), (4, .ref (Y 4 v)), (0, .ref (Y 0 0)), (1, .int (iI v)), (2, .int (iI pl)), (3, .int (iI at_))]) hx hb dX11_whereIs_35 hl (by decide) rfl (fun ls hl => ?_)
          refine lv_iload hx hb dX11_whereIs_37 (lv_at hl 0 rfl) ?_
          refine lv_iconst (v := iI (-1)) hx hb dX11_whereIs_39 (by decide) ?_
          refine lv_icmp_ne (tgt := 45) hx hb dX11_whereIs_40 (by decide) (fun c_26 => ?_) (fun c_26 => ?_)
          · have zc_26 : ((moC T v (dgN T v)) 9 ((pl * 12) + at_)) ≠ (-1) := jne (a := ((moC T v (dgN T v)) 9 ((pl * 12) + at_))) (b := (-1)) (by omega) (by omega) c_26
            refine lv_aload hx hb dX11_whereIs_45 (lv_at hl 1 rfl) ?_
            obtain ⟨k_27, hk_27⟩ := pk_at (hs := []) (show (((Y 4 v), .inr (1, [.ref (A 50 0 0), .int (iI v), .ref (Y 5 0), .ref (Y 60 v), .ref (Y 61 v), .int (iI ((L2_11 v) 0 0)), .int (iI ((L2_11 v) 0 1)), .ref (Y 21 v), .ref (Y 22 v), .ref (Y 23 v), .ref (Y 24 v), .ref (Y 25 v), .ref (Y 26 v), .int (iI ((L2_11 v) 0 2)), .int (iI ((L2_11 v) 0 3)), .int (iI ((L2_11 v) 0 4)), .ref (Y 27 v)])) : Nat × va_E) ∈ tl2_15 from PR_ly hPR (show 0 ≤ v ∧ v ≤ 1 by omega) 0 rfl)
            refine x_get (ci := 1) (C := RX1) (T := TX1) (N := 17) (v := .ref (Y 61 v)) B k_27 hk_27 rfl in_X1 4 (by decide) mw_416 (fun _ h9 => h9) rfl dX11_whereIs_47 ?_
            refine lv_iload hx hb dX11_whereIs_50 (lv_at hl 0 rfl) ?_
            have B := bd_swap (a := []) (b := []) (d := tl2_15) (bd_to rfl B)
            obtain ⟨k_28, hk_28⟩ := pk_at (hs := []) (show (((Y 61 v), .inr (4, [.ref (A 50 0 0), .ref (Y 60 v), .ref (Y 62 v), .ref (Y 13 0), .int (iI ((L2_11 v) 50 0)), .int (iI ((L2_11 v) 50 1)), .ref (Y 63 v), .ref (Y 64 v), .ref (Y 65 v), .ref (Y 66 v), .ref (Y 67 v), .ref (Y 68 v)])) : Nat × va_E) ∈ tl2_15 from PR_pp hPR (show 0 ≤ v ∧ v ≤ 1 by omega) 0 rfl)
            refine k_V (rest := []) (wc := ([] ++ tl2_15)) (wr := []) (k_pageOfP l dC dI k T A X2_13 tl2_15 G Mc Y O2_10 L2_11 C2_12 K cp2_14 v ((moC T v (dgN T v)) 9 ((pl * 12) + at_)) z_16 hK z_17 z_2 hF (by omega)) B mV_X4_pageOf mw_1798 hl (q0 := k_28) (ci := 4) hk_28 rfl rfl ⟨Nat.le_of_ble_eq_true rfl, Nat.le_of_ble_eq_true rfl⟩ (Nat.le_of_ble_eq_true rfl) rfl dX11_whereIs_52 ⟨by dsimp only; omega, by dsimp only; omega⟩ (fun r w gc gs H locs hp B => ?_)
            obtain ⟨z_29, z_30, rfl, hw9, rfl, rfl⟩ := hp
            rw [hw9] at B; clear hw9
            have B := bd_to (ws' := ([] ++ tl2_15)) rfl B
            refine lv_istore (lv' := [(6, .int (iI ((mkZ T (moC T v (dgN T v))) 5 ((moC T v (dgN T v)) 9 ((pl * 12) + at_))))), (5, .int (iI ((moC T v (dgN T v)) 9 ((pl * 12) + at_)))), (4, .ref (Y 4 v)), (0, .ref (Y 0 0)), (1, .int (iI v)), (2, .int (iI pl)), (3, .int (iI at_))]) hx hb dX11_whereIs_55 hl (by decide) rfl (fun ls hl => ?_)
            refine lv_sipush (v := iI 1000) hx hb dX11_whereIs_57 (by decide) ?_
            refine lv_iload hx hb dX11_whereIs_60 (lv_at hl 0 rfl) ?_
            refine y_mul hx hb dX11_whereIs_62 ?_
            refine lv_iload hx hb dX11_whereIs_63 (lv_at hl 1 rfl) ?_
            refine y_add hx hb dX11_whereIs_65 ?_
            refine lv_aload hx hb dX11_whereIs_66 (lv_at hl 2 rfl) ?_
            obtain ⟨k_31, hk_31⟩ := pk_at (hs := []) (show (((Y 4 v), .inr (1, [.ref (A 50 0 0), .int (iI v), .ref (Y 5 0), .ref (Y 60 v), .ref (Y 61 v), .int (iI ((L2_11 v) 0 0)), .int (iI ((L2_11 v) 0 1)), .ref (Y 21 v), .ref (Y 22 v), .ref (Y 23 v), .ref (Y 24 v), .ref (Y 25 v), .ref (Y 26 v), .int (iI ((L2_11 v) 0 2)), .int (iI ((L2_11 v) 0 3)), .int (iI ((L2_11 v) 0 4)), .ref (Y 27 v)])) : Nat × va_E) ∈ tl2_15 from PR_ly hPR (show 0 ≤ v ∧ v ≤ 1 by omega) 0 rfl)
            refine x_get (ci := 1) (C := RX1) (T := TX1) (N := 17) (v := .ref (Y 61 v)) B k_31 hk_31 rfl in_X1 4 (by decide) mw_416 (fun _ h9 => h9) rfl dX11_whereIs_68 ?_
            obtain ⟨k_32, hk_32⟩ := pk_at (hs := []) (show (((Y 61 v), .inr (4, [.ref (A 50 0 0), .ref (Y 60 v), .ref (Y 62 v), .ref (Y 13 0), .int (iI ((L2_11 v) 50 0)), .int (iI ((L2_11 v) 50 1)), .ref (Y 63 v), .ref (Y 64 v), .ref (Y 65 v), .ref (Y 66 v), .ref (Y 67 v), .ref (Y 68 v)])) : Nat × va_E) ∈ tl2_15 from PR_pp hPR (show 0 ≤ v ∧ v ≤ 1 by omega) 0 rfl)
            refine x_get (ci := 4) (C := RX4) (T := TX4) (N := 12) (v := .ref (Y 63 v)) B k_32 hk_32 rfl in_X4 6 (by decide) mw_375 (fun _ h9 => h9) rfl dX11_whereIs_71 ?_
            refine lv_iload hx hb dX11_whereIs_74 (lv_at hl 0 rfl) ?_
            refine lv_iconst (v := iI 1) hx hb dX11_whereIs_76 (by decide) ?_
            refine y_sub hx hb dX11_whereIs_77 ?_
            obtain ⟨k_33, hk_33⟩ := pk_at (hs := []) (show (((Y 63 v), .inl (k 0, 965, .inl (fun i9 : Nat => iI (((L2_11 v) 51) i9)))) : Nat × va_E) ∈ tl2_15 from PR_pp hPR (show 0 ≤ v ∧ v ≤ 1 by omega) 1 rfl)
            refine x_iald' (f := ((L2_11 v) 51)) (z := (((mkZ T (moC T v (dgN T v))) 5 ((moC T v (dgN T v)) 9 ((pl * 12) + at_))) - 1)) B k_33 hk_33 (by omega) dX11_whereIs_78 ?_
            refine lv_seti (y := iI ((mkZ T (moC T v (dgN T v))) 1 (((mkZ T (moC T v (dgN T v))) 5 ((moC T v (dgN T v)) 9 ((pl * 12) + at_))) - 1))) (congrArg iI (show ((L2_11 v) 51) (((mkZ T (moC T v (dgN T v))) 5 ((moC T v (dgN T v)) 9 ((pl * 12) + at_))) - 1) = (mkZ T (moC T v (dgN T v))) 1 (((mkZ T (moC T v (dgN T v))) 5 ((moC T v (dgN T v)) 9 ((pl * 12) + at_))) - 1) from (hLD.2.2.2.2.2.1 _ (by omega) (by omega)).1)) ?_
            have z_34 : 0 ≤ (moC T v (dgN T v)) 0 0 ∧ (moC T v (dgN T v)) 0 0 ≤ 768 := MK_cnt (moC_in (v := v) (dg := dgN T v) hK).1
            have z_35 : (0 ≤ (mkZ T (moC T v (dgN T v))) 1 (((mkZ T (moC T v (dgN T v))) 5 ((moC T v (dgN T v)) 9 ((pl * 12) + at_))) - 1) ∧ 0 ≤ (mkZ T (moC T v (dgN T v))) 2 (((mkZ T (moC T v (dgN T v))) 5 ((moC T v (dgN T v)) 9 ((pl * 12) + at_))) - 1) ∧ (mkZ T (moC T v (dgN T v))) 1 (((mkZ T (moC T v (dgN T v))) 5 ((moC T v (dgN T v)) 9 ((pl * 12) + at_))) - 1) + (mkZ T (moC T v (dgN T v))) 2 (((mkZ T (moC T v (dgN T v))) 5 ((moC T v (dgN T v)) 9 ((pl * 12) + at_))) - 1) ≤ (moC T v (dgN T v)) 0 0) := (hP9.1 _ (by omega) (by omega)).1
            have z_36 : 0 ≤ (mkZ T (moC T v (dgN T v))) 3 (((mkZ T (moC T v (dgN T v))) 5 ((moC T v (dgN T v)) 9 ((pl * 12) + at_))) - 1) ∧ (mkZ T (moC T v (dgN T v))) 3 (((mkZ T (moC T v (dgN T v))) 5 ((moC T v (dgN T v)) 9 ((pl * 12) + at_))) - 1) ≤ 100000 := (hP9.1 _ (by omega) (by omega)).2.1
            refine y_sub hx hb dX11_whereIs_79 ?_
            have e_37 : (whZ T v pl at_) = (((1000 * ((mkZ T (moC T v (dgN T v))) 5 ((moC T v (dgN T v)) 9 ((pl * 12) + at_)))) + ((moC T v (dgN T v)) 9 ((pl * 12) + at_))) - ((mkZ T (moC T v (dgN T v))) 1 (((mkZ T (moC T v (dgN T v))) 5 ((moC T v (dgN T v)) 9 ((pl * 12) + at_))) - 1))) := (by unfold whZ; first | (rw [if_pos (by omega)]; done) | (rw [if_neg (by omega)]; done))
            skip
            exact vx_ret (k_iret B hr (⟨O2_10, L2_11, C2_12, X2_13, cp2_14, tl2_15, hPR, (fun u a9 b9 => by by_cases e9 : u = v; (rw [e9]; exact Or.inr hLD); (rw [hLo u e9]; exact hL u a9 b9)), z_19, (by omega), (by rw [e_37]), rfl, rfl, rfl⟩) ⟨(by first | omega | (dsimp only; omega)), (by first | omega | (dsimp only; omega))⟩ ⟨(by first | omega | (dsimp only; omega)), (by first | omega | (dsimp only; omega))⟩ dX11_whereIs_80)
          · have zc_26 : ((moC T v (dgN T v)) 9 ((pl * 12) + at_)) = (-1) := jeq (a := ((moC T v (dgN T v)) 9 ((pl * 12) + at_))) (b := (-1)) (by omega) (by omega) c_26
            refine lv_iconst (v := iI (-1)) hx hb dX11_whereIs_43 (by decide) ?_
            have e_38 : (whZ T v pl at_) = (-1) := (by unfold whZ; first | (rw [if_pos (by omega)]; done) | (rw [if_neg (by omega)]; done))
            skip
            exact vx_ret (k_iret B hr (⟨O2_10, L2_11, C2_12, X2_13, cp2_14, tl2_15, hPR, (fun u a9 b9 => by by_cases e9 : u = v; (rw [e9]; exact Or.inr hLD); (rw [hLo u e9]; exact hL u a9 b9)), z_19, (by omega), (by rw [e_38]), rfl, rfl, rfl⟩) ⟨(by first | omega | (dsimp only; omega)), (by first | omega | (dsimp only; omega))⟩ ⟨(by first | omega | (dsimp only; omega)), (by first | omega | (dsimp only; omega))⟩ dX11_whereIs_44)

theorem mw_90 : (Jvm.Cond.fieldLink "Galleyforge" (205 : Nat) "Galleyforge$Text" "figureCount" "I") ∈ gt := gt_at 160 (by decide +kernel) (by decide +kernel)
theorem mw_384 : (Jvm.Cond.fieldLink "Galleyforge" (366 : Nat) "Galleyforge$Pages" "figuresAt" "[I") ∈ gt := gt_at 454 (by decide +kernel) (by decide +kernel)
theorem dX11_figureAt_0 : decode cX11_figureAt 0 = .ok (.iload_n 1, 1) := by decide +kernel
theorem dX11_figureAt_1 : decode cX11_figureAt 1 = .ok (.invokestatic 238, 3) := by decide +kernel
theorem dX11_figureAt_4 : decode cX11_figureAt 4 = .ok (.iload_n 2, 1) := by decide +kernel
theorem dX11_figureAt_5 : decode cX11_figureAt 5 = .ok (.ifCond .lt 14, 3) := by decide +kernel
theorem dX11_figureAt_8 : decode cX11_figureAt 8 = .ok (.iload_n 2, 1) := by decide +kernel
theorem dX11_figureAt_9 : decode cX11_figureAt 9 = .ok (.aload_n 0, 1) := by decide +kernel
theorem dX11_figureAt_10 : decode cX11_figureAt 10 = .ok (.getfield 12, 3) := by decide +kernel
theorem dX11_figureAt_13 : decode cX11_figureAt 13 = .ok (.getfield 205, 3) := by decide +kernel
theorem dX11_figureAt_16 : decode cX11_figureAt 16 = .ok (.if_icmp .lt 14, 3) := by decide +kernel
theorem dX11_figureAt_19 : decode cX11_figureAt 19 = .ok (.new 47, 3) := by decide +kernel
theorem dX11_figureAt_22 : decode cX11_figureAt 22 = .ok (.dup, 1) := by decide +kernel
theorem dX11_figureAt_23 : decode cX11_figureAt 23 = .ok (.ldc_w 364, 3) := by decide +kernel
theorem dX11_figureAt_26 : decode cX11_figureAt 26 = .ok (.invokespecial 51, 3) := by decide +kernel
theorem dX11_figureAt_29 : decode cX11_figureAt 29 = .ok (.athrow, 1) := by decide +kernel
theorem dX11_figureAt_30 : decode cX11_figureAt 30 = .ok (.aload_n 0, 1) := by decide +kernel
theorem dX11_figureAt_31 : decode cX11_figureAt 31 = .ok (.iload_n 1, 1) := by decide +kernel
theorem dX11_figureAt_32 : decode cX11_figureAt 32 = .ok (.invokevirtual 279, 3) := by decide +kernel
theorem dX11_figureAt_35 : decode cX11_figureAt 35 = .ok (.getfield 304, 3) := by decide +kernel
theorem dX11_figureAt_38 : decode cX11_figureAt 38 = .ok (.getfield 366, 3) := by decide +kernel
theorem dX11_figureAt_41 : decode cX11_figureAt 41 = .ok (.iload_n 2, 1) := by decide +kernel
theorem dX11_figureAt_42 : decode cX11_figureAt 42 = .ok (.iaload, 1) := by decide +kernel
theorem dX11_figureAt_43 : decode cX11_figureAt 43 = .ok (.ireturn, 1) := by decide +kernel
set_option maxHeartbeats 4000000 in
set_option maxRecDepth 100000 in
theorem k_figureAt (l : Launch) (dC : Nat → ClassId) (dI : Nat → Nat → Nat) (k : Nat → ClassId) (hl0 : l.stackTraces = false) (T : Nat → Int → Int → Int → Int) (A : Nat → Int → Int → Nat) (X : Nat → Int → Int → Int) (tl : va_W) (G : Nat → Int → Nat) (Mc : Nat → Int → Int) (Y : Nat → Int → Nat) (O : Nat → Nat) (L : Int → Nat → Int → Int) (C : Nat → Int → Int) (K : Nat → Int → Int) (cp : Nat) (v : Int) (fi : Int) (hPR : PR dI k T A X G Mc Y O L C K cp tl) (hK : TK T) (hL : ∀ u, 0 ≤ u → u ≤ 1 → LSq T u (L u)) (hF : FINE T) (hrv : -2147483648 ≤ v ∧ v < 2147483648) (hrfi : -2147483648 ≤ fi ∧ fi < 2147483648) : Kx l dC dI k yX11_figureAt (.code yX11_figureAt cX11_figureAt 3 (some .int)) ({ frames := 9, cells := (131072 - cp + 1), slots := (12 * (131072 - cp) + 6), locals := 205 } : Room) [.ref (Y 0 0), .int (iI v), .int (iI fi)] ([] ++ tl) (fun r w gc gs => (∃ (O2 : Nat → Nat) (L2 : Int → Nat → Int → Int) (C2 : Nat → Int → Int) (X2 : Nat → Int → Int → Int) (cp2 : Nat) (tl2 : va_W), (PR dI k T A X2 G Mc Y O2 L2 C2 K cp2 tl2) ∧ (∀ u, 0 ≤ u → u ≤ 1 → LSq T u (L2 u)) ∧ (cp ≤ cp2 ∧ cp2 ≤ 131072) ∧ ((0 ≤ v ∧ v ≤ 1) ∧ (0 ≤ fi ∧ fi < T 12 0 0 0)) ∧ r = some (.int (iI ((mkZ T (moC T v (dgN T v))) 6 fi))) ∧ w = ([] ++ tl2) ∧ gc = (cp2 - cp) ∧ gs = (12 * (cp2 - cp)))) (fun E w gc gs => (∃ (O2 : Nat → Nat) (L2 : Int → Nat → Int → Int) (C2 : Nat → Int → Int) (X2 : Nat → Int → Int → Int) (cp2 : Nat) (tl2 : va_W), (PR dI k T A X2 G Mc Y O2 L2 C2 K cp2 tl2) ∧ (∀ u, 0 ≤ u → u ≤ 1 → LSq T u (L2 u)) ∧ (cp ≤ cp2 ∧ cp2 ≤ 131072) ∧ (¬ ((0 ≤ v ∧ v ≤ 1) ∧ (0 ≤ fi ∧ fi < T 12 0 0 0))) ∧ E = "java/lang/IndexOutOfBoundsException" ∧ w = ([] ++ tl2) ∧ gc = (cp2 - cp + 1) ∧ gs = (12 * (cp2 - cp) + 6))) := by
  refine kx_of (by decide) (Nat.le_of_ble_eq_true rfl) ?_
  intro p e s m args below meth c H locs B hr hex ls hl
  have hx := B.1.1
  have hb := B.1.2.1
  have hl : lv_has ls 3 [(0, .ref (Y 0 0)), (1, .int (iI v)), (2, .int (iI fi))] := hl
  have hT := PR_TI hPR
  have hnb0 := TK_nb hK
  have hcp0 : 512 ≤ cp ∧ cp ≤ 131072 := by have q9 := hPR.2.2.2; unfold cpOk at q9; omega
  have hcap := hF.1
  have hfc0 := TK_fc hK
  refine lv_iload_n hx hb dX11_figureAt_0 rfl (lv_at hl 1 rfl) ?_
  have B := bd_to (ws' := [] ++ ([] ++ tl)) rfl B
  refine k_Sx (rest := []) (wc := []) (wr := ([] ++ tl)) (k_checkVariant l dC dI k hl0 v hrv) B mS_X11_checkVariant mw_1287 hl ⟨Nat.le_of_ble_eq_true rfl, Nat.le_of_ble_eq_true rfl⟩ (Nat.le_of_ble_eq_true rfl) rfl dX11_figureAt_1 ⟨by dsimp only; omega, by dsimp only; omega⟩ (fun E ce q9 w gc gs H locs hp B h1 h2 h3 => ?_) (fun r w gc gs H locs hp B => ?_)
  · skip
    obtain ⟨z_1, rfl, hw9, rfl, rfl⟩ := hp
    rw [hw9] at B; clear hw9
    have B := bd_swap (a := []) (b := tl) (d := []) B
    have B := bd_to (ws' := ([] ++ tl)) rfl B
    exact k_out hex (⟨O, L, C, X, cp, tl, hPR, hL, (by omega), (by omega), rfl, rfl, rfl, rfl⟩) B h1 h2 h3 ⟨(by first | omega | (dsimp only; omega)), (by first | omega | (dsimp only; omega))⟩ ⟨(by first | omega | (dsimp only; omega)), (by first | omega | (dsimp only; omega))⟩
  · skip
    obtain ⟨z_2, rfl, hw9, rfl, rfl⟩ := hp
    rw [hw9] at B; clear hw9
    have B := bd_swap (a := []) (b := tl) (d := []) B
    have B := bd_to (ws' := ([] ++ tl)) rfl B
    refine lv_iload_n hx hb dX11_figureAt_4 rfl (lv_at hl 2 rfl) ?_
    refine lv_if_lt (tgt := 19) hx hb dX11_figureAt_5 (by decide) (fun c_3 => ?_) (fun c_3 => ?_)
    · have zc_3 : fi < 0 := jlt (a := fi) (b := 0) (by omega) (by omega) c_3
      exact k_thrWG (tx := "no such figure") xE_ioobe (⟨O, L, C, X, cp, tl, hPR, hL, (by omega), (by omega), rfl, rfl, rfl, rfl⟩) ⟨(by first | omega | (dsimp only; omega)), (by first | omega | (dsimp only; omega))⟩ hl0 B hex hl (by decide +kernel) dX11_figureAt_19 dX11_figureAt_22 dX11_figureAt_23 dX11_figureAt_26 dX11_figureAt_29 ⟨(by first | exact Nat.le_of_ble_eq_true rfl | omega | (dsimp only; omega)), (by first | exact Nat.le_of_ble_eq_true rfl | omega | (dsimp only; omega)), (by first | omega | (dsimp only; omega)), (by first | omega | (dsimp only; omega))⟩ ⟨(by first | omega | (dsimp only; omega)), (by first | omega | (dsimp only; omega))⟩
    · have zc_3 : 0 ≤ fi := jnlt (a := fi) (b := 0) (by omega) (by omega) c_3
      refine lv_iload_n hx hb dX11_figureAt_8 rfl (lv_at hl 2 rfl) ?_
      refine lv_aload_n hx hb dX11_figureAt_9 rfl (lv_at hl 0 rfl) ?_
      obtain ⟨k_4, hk_4⟩ := pk_at (hs := []) (show (((Y 0 0), .inr (11, [.ref (A 50 0 0), .ref (Y 1 0), .ref (Y 2 0), .int (iI (K 0 0)), .ref (Y 3 0)])) : Nat × va_E) ∈ tl from PR_m hPR 0 0 rfl rfl)
      refine x_get (ci := 11) (C := RX11) (T := TX11) (N := 5) (v := .ref (A 50 0 0)) B k_4 hk_4 rfl in_X11 0 (by decide) mw_474 (fun _ h9 => h9) rfl dX11_figureAt_10 ?_
      obtain ⟨k_5, hk_5⟩ := pk_at (hs := []) hT.1.1
      refine x_get (ci := 9) (C := RX9) (T := TX9) (N := 8) (v := .int (iI (T 12 0 0 0))) B k_5 hk_5 rfl in_X9 4 (by decide) mw_90 (fun _ h9 => h9) rfl dX11_figureAt_13 ?_
      have z_6 : 0 ≤ T 12 0 0 0 ∧ T 12 0 0 0 ≤ 5 := TK_fc hK
      refine lv_icmp_lt (tgt := 30) hx hb dX11_figureAt_16 (by decide) (fun c_7 => ?_) (fun c_7 => ?_)
      · have zc_7 : fi < (T 12 0 0 0) := jlt (a := fi) (b := (T 12 0 0 0)) (by omega) (by omega) c_7
        refine lv_aload_n hx hb dX11_figureAt_30 rfl (lv_at hl 0 rfl) ?_
        refine lv_iload_n hx hb dX11_figureAt_31 rfl (lv_at hl 1 rfl) ?_
        have B := bd_swap (a := []) (b := []) (d := tl) (bd_to rfl B)
        obtain ⟨k_8, hk_8⟩ := pk_at (hs := []) (show (((Y 0 0), .inr (11, [.ref (A 50 0 0), .ref (Y 1 0), .ref (Y 2 0), .int (iI (K 0 0)), .ref (Y 3 0)])) : Nat × va_E) ∈ tl from PR_m hPR 0 0 rfl rfl)
        refine k_Vx (rest := []) (wc := ([] ++ tl)) (wr := []) (k_layoutOf l dC dI k hl0 T A X tl G Mc Y O L C K cp v hPR hK hL hcap hrv) B mV_X11_layoutOf mw_1367 hl (q0 := k_8) (ci := 11) hk_8 rfl rfl ⟨Nat.le_of_ble_eq_true rfl, Nat.le_of_ble_eq_true rfl⟩ (Nat.le_of_ble_eq_true rfl) rfl dX11_figureAt_32 ⟨by dsimp only; omega, by dsimp only; omega⟩ (fun E ce q9 w gc gs H locs hp B h1 h2 h3 => ?_) (fun r w gc gs H locs hp B => ?_)
        · skip
          obtain ⟨z_9, rfl, hw9, rfl, rfl⟩ := hp
          rw [hw9] at B; clear hw9
          have B := bd_to (ws' := ([] ++ tl)) rfl B
          exact k_out hex (⟨O, L, C, X, cp, tl, hPR, hL, (by omega), (by omega), rfl, rfl, rfl, rfl⟩) B h1 h2 h3 ⟨(by first | omega | (dsimp only; omega)), (by first | omega | (dsimp only; omega))⟩ ⟨(by first | omega | (dsimp only; omega)), (by first | omega | (dsimp only; omega))⟩
        · skip
          obtain ⟨O2_10, L2_11, C2_12, X2_13, cp2_14, tl2_15, z_16, z_17, z_18, z_19, z_20, rfl, hw9, rfl, rfl⟩ := hp
          rw [hw9] at B; clear hw9
          have B := bd_to (ws' := ([] ++ tl2_15)) rfl B
          have hPR : PR dI k T A X2_13 G Mc Y O2_10 L2_11 C2_12 K cp2_14 tl2_15 := z_16
          have hLD : LD T v (L2_11 v) := z_17
          have hLo : ∀ u, u ≠ v → L2_11 u = L u := z_18
          have hT : TI dI k T A X2_13 tl2_15 := PR_TI hPR
          have hP9 : PgI (moC T v (dgN T v)) (mkZ T (moC T v (dgN T v))) := hF.2 v (by omega) (by omega)
          obtain ⟨k_21, hk_21⟩ := pk_at (hs := []) (show (((Y 4 v), .inr (1, [.ref (A 50 0 0), .int (iI v), .ref (Y 5 0), .ref (Y 60 v), .ref (Y 61 v), .int (iI ((L2_11 v) 0 0)), .int (iI ((L2_11 v) 0 1)), .ref (Y 21 v), .ref (Y 22 v), .ref (Y 23 v), .ref (Y 24 v), .ref (Y 25 v), .ref (Y 26 v), .int (iI ((L2_11 v) 0 2)), .int (iI ((L2_11 v) 0 3)), .int (iI ((L2_11 v) 0 4)), .ref (Y 27 v)])) : Nat × va_E) ∈ tl2_15 from PR_ly hPR (show 0 ≤ v ∧ v ≤ 1 by omega) 0 rfl)
          refine x_get (ci := 1) (C := RX1) (T := TX1) (N := 17) (v := .ref (Y 61 v)) B k_21 hk_21 rfl in_X1 4 (by decide) mw_416 (fun _ h9 => h9) rfl dX11_figureAt_35 ?_
          obtain ⟨k_22, hk_22⟩ := pk_at (hs := []) (show (((Y 61 v), .inr (4, [.ref (A 50 0 0), .ref (Y 60 v), .ref (Y 62 v), .ref (Y 13 0), .int (iI ((L2_11 v) 50 0)), .int (iI ((L2_11 v) 50 1)), .ref (Y 63 v), .ref (Y 64 v), .ref (Y 65 v), .ref (Y 66 v), .ref (Y 67 v), .ref (Y 68 v)])) : Nat × va_E) ∈ tl2_15 from PR_pp hPR (show 0 ≤ v ∧ v ≤ 1 by omega) 0 rfl)
          refine x_get (ci := 4) (C := RX4) (T := TX4) (N := 12) (v := .ref (Y 68 v)) B k_22 hk_22 rfl in_X4 11 (by decide) mw_384 (fun _ h9 => h9) rfl dX11_figureAt_38 ?_
          refine lv_iload_n hx hb dX11_figureAt_41 rfl (lv_at hl 2 rfl) ?_
          obtain ⟨k_23, hk_23⟩ := pk_at (hs := []) (show (((Y 68 v), .inl (k 0, 5, .inl (fun i9 : Nat => iI (((L2_11 v) 56) i9)))) : Nat × va_E) ∈ tl2_15 from PR_pp hPR (show 0 ≤ v ∧ v ≤ 1 by omega) 6 rfl)
          refine x_iald' (f := ((L2_11 v) 56)) (z := fi) B k_23 hk_23 (by omega) dX11_figureAt_42 ?_
          refine lv_seti (y := iI ((mkZ T (moC T v (dgN T v))) 6 fi)) (congrArg iI (show ((L2_11 v) 56) fi = (mkZ T (moC T v (dgN T v))) 6 fi from hLD.2.2.2.2.2.2.2 _ (by omega) (by omega))) ?_
          have z_24 : -1 ≤ (mkZ T (moC T v (dgN T v))) 6 fi ∧ (mkZ T (moC T v (dgN T v))) 6 fi ≤ 10000 := hP9.2.2.2.2.2 _
          exact vx_ret (k_iret B hr (⟨O2_10, L2_11, C2_12, X2_13, cp2_14, tl2_15, hPR, (fun u a9 b9 => by by_cases e9 : u = v; (rw [e9]; exact Or.inr hLD); (rw [hLo u e9]; exact hL u a9 b9)), z_19, (by omega), rfl, rfl, rfl, rfl⟩) ⟨(by first | omega | (dsimp only; omega)), (by first | omega | (dsimp only; omega))⟩ ⟨(by first | omega | (dsimp only; omega)), (by first | omega | (dsimp only; omega))⟩ dX11_figureAt_43)
      · have zc_7 : (T 12 0 0 0) ≤ fi := jnlt (a := fi) (b := (T 12 0 0 0)) (by omega) (by omega) c_7
        exact k_thrWG (tx := "no such figure") xE_ioobe (⟨O, L, C, X, cp, tl, hPR, hL, (by omega), (by omega), rfl, rfl, rfl, rfl⟩) ⟨(by first | omega | (dsimp only; omega)), (by first | omega | (dsimp only; omega))⟩ hl0 B hex hl (by decide +kernel) dX11_figureAt_19 dX11_figureAt_22 dX11_figureAt_23 dX11_figureAt_26 dX11_figureAt_29 ⟨(by first | exact Nat.le_of_ble_eq_true rfl | omega | (dsimp only; omega)), (by first | exact Nat.le_of_ble_eq_true rfl | omega | (dsimp only; omega)), (by first | omega | (dsimp only; omega)), (by first | omega | (dsimp only; omega))⟩ ⟨(by first | omega | (dsimp only; omega)), (by first | omega | (dsimp only; omega))⟩

theorem mw_1097 : (Jvm.Cond.methodLink "Galleyforge" (137 : Nat) ({ cls := "Galleyforge", name := "checkLabel", desc := "(I)V" } : Jvm.MethodName)) ∈ gt := gt_at 1167 (by decide +kernel) (by decide +kernel)
theorem mw_1098 : (Jvm.Cond.static ({ cls := "Galleyforge", name := "checkLabel", desc := "(I)V" } : Jvm.MethodName)) ∈ gt := gt_at 1168 (by decide +kernel) (by decide +kernel)
theorem mw_1099 : (Jvm.Cond.code ({ cls := "Galleyforge", name := "checkLabel", desc := "(I)V" } : Jvm.MethodName) prog_1_method_42_code (1 : Nat) (Option.none : Option Jvm.ClassFile.FieldType)) ∈ gt := gt_at 1169 (by decide +kernel) (by decide +kernel)
theorem mw_1814 : (Jvm.Cond.methodLink "Galleyforge" (369 : Nat) ({ cls := "Galleyforge$Layout", name := "pageOfLabel", desc := "(I)I" } : Jvm.MethodName)) ∈ gt := gt_at 1884 (by decide +kernel) (by decide +kernel)
theorem mS_X11_checkLabel : mS yX11_checkLabel cX11_checkLabel 1 none 1 := ⟨⟨mw_1099, mw_1, by decide, by decide, by decide +kernel⟩, mw_1098⟩
theorem dX11_labelPage_0 : decode cX11_labelPage 0 = .ok (.iload_n 1, 1) := by decide +kernel
theorem dX11_labelPage_1 : decode cX11_labelPage 1 = .ok (.invokestatic 238, 3) := by decide +kernel
theorem dX11_labelPage_4 : decode cX11_labelPage 4 = .ok (.iload_n 2, 1) := by decide +kernel
theorem dX11_labelPage_5 : decode cX11_labelPage 5 = .ok (.invokestatic 137, 3) := by decide +kernel
theorem dX11_labelPage_8 : decode cX11_labelPage 8 = .ok (.aload_n 0, 1) := by decide +kernel
theorem dX11_labelPage_9 : decode cX11_labelPage 9 = .ok (.iload_n 1, 1) := by decide +kernel
theorem dX11_labelPage_10 : decode cX11_labelPage 10 = .ok (.invokevirtual 279, 3) := by decide +kernel
theorem dX11_labelPage_13 : decode cX11_labelPage 13 = .ok (.iload_n 2, 1) := by decide +kernel
theorem dX11_labelPage_14 : decode cX11_labelPage 14 = .ok (.invokevirtual 369, 3) := by decide +kernel
theorem dX11_labelPage_17 : decode cX11_labelPage 17 = .ok (.ireturn, 1) := by decide +kernel
set_option maxHeartbeats 4000000 in
set_option maxRecDepth 100000 in
theorem k_labelPage (l : Launch) (dC : Nat → ClassId) (dI : Nat → Nat → Nat) (k : Nat → ClassId) (hl0 : l.stackTraces = false) (T : Nat → Int → Int → Int → Int) (A : Nat → Int → Int → Nat) (X : Nat → Int → Int → Int) (tl : va_W) (G : Nat → Int → Nat) (Mc : Nat → Int → Int) (Y : Nat → Int → Nat) (O : Nat → Nat) (L : Int → Nat → Int → Int) (C : Nat → Int → Int) (K : Nat → Int → Int) (cp : Nat) (v : Int) (b_ : Int) (hPR : PR dI k T A X G Mc Y O L C K cp tl) (hK : TK T) (hL : ∀ u, 0 ≤ u → u ≤ 1 → LSq T u (L u)) (hF : FINE T) (hrv : -2147483648 ≤ v ∧ v < 2147483648) (hrb_ : -2147483648 ≤ b_ ∧ b_ < 2147483648) : Kx l dC dI k yX11_labelPage (.code yX11_labelPage cX11_labelPage 3 (some .int)) ({ frames := 9, cells := (131072 - cp + 1), slots := (12 * (131072 - cp) + 6), locals := 205 } : Room) [.ref (Y 0 0), .int (iI v), .int (iI b_)] ([] ++ tl) (fun r w gc gs => (∃ (O2 : Nat → Nat) (L2 : Int → Nat → Int → Int) (C2 : Nat → Int → Int) (X2 : Nat → Int → Int → Int) (cp2 : Nat) (tl2 : va_W), (PR dI k T A X2 G Mc Y O2 L2 C2 K cp2 tl2) ∧ (∀ u, 0 ≤ u → u ≤ 1 → LSq T u (L2 u)) ∧ (cp ≤ cp2 ∧ cp2 ≤ 131072) ∧ ((0 ≤ v ∧ v ≤ 1) ∧ (0 ≤ b_ ∧ b_ ≤ 5)) ∧ r = some (.int (iI (lbZ (moC T v (dgN T v)) (mkZ T (moC T v (dgN T v))) b_))) ∧ w = ([] ++ tl2) ∧ gc = (cp2 - cp) ∧ gs = (12 * (cp2 - cp)))) (fun E w gc gs => (∃ (O2 : Nat → Nat) (L2 : Int → Nat → Int → Int) (C2 : Nat → Int → Int) (X2 : Nat → Int → Int → Int) (cp2 : Nat) (tl2 : va_W), (PR dI k T A X2 G Mc Y O2 L2 C2 K cp2 tl2) ∧ (∀ u, 0 ≤ u → u ≤ 1 → LSq T u (L2 u)) ∧ (cp ≤ cp2 ∧ cp2 ≤ 131072) ∧ (¬ ((0 ≤ v ∧ v ≤ 1) ∧ (0 ≤ b_ ∧ b_ ≤ 5))) ∧ E = "java/lang/IndexOutOfBoundsException" ∧ w = ([] ++ tl2) ∧ gc = (cp2 - cp + 1) ∧ gs = (12 * (cp2 - cp) + 6))) := by
  refine kx_of (by decide) (Nat.le_of_ble_eq_true rfl) ?_
  intro p e s m args below meth c H locs B hr hex ls hl
  have hx := B.1.1
  have hb := B.1.2.1
  have hl : lv_has ls 3 [(0, .ref (Y 0 0)), (1, .int (iI v)), (2, .int (iI b_))] := hl
  have hT := PR_TI hPR
  have hnb0 := TK_nb hK
  have hcp0 : 512 ≤ cp ∧ cp ≤ 131072 := by have q9 := hPR.2.2.2; unfold cpOk at q9; omega
  have hcap := hF.1
  refine lv_iload_n hx hb dX11_labelPage_0 rfl (lv_at hl 1 rfl) ?_
  have B := bd_to (ws' := [] ++ ([] ++ tl)) rfl B
  refine k_Sx (rest := []) (wc := []) (wr := ([] ++ tl)) (k_checkVariant l dC dI k hl0 v hrv) B mS_X11_checkVariant mw_1287 hl ⟨Nat.le_of_ble_eq_true rfl, Nat.le_of_ble_eq_true rfl⟩ (Nat.le_of_ble_eq_true rfl) rfl dX11_labelPage_1 ⟨by dsimp only; omega, by dsimp only; omega⟩ (fun E ce q9 w gc gs H locs hp B h1 h2 h3 => ?_) (fun r w gc gs H locs hp B => ?_)
  · skip
    obtain ⟨z_1, rfl, hw9, rfl, rfl⟩ := hp
    rw [hw9] at B; clear hw9
    have B := bd_swap (a := []) (b := tl) (d := []) B
    have B := bd_to (ws' := ([] ++ tl)) rfl B
    exact k_out hex (⟨O, L, C, X, cp, tl, hPR, hL, (by omega), (by omega), rfl, rfl, rfl, rfl⟩) B h1 h2 h3 ⟨(by first | omega | (dsimp only; omega)), (by first | omega | (dsimp only; omega))⟩ ⟨(by first | omega | (dsimp only; omega)), (by first | omega | (dsimp only; omega))⟩
  · skip
    obtain ⟨z_2, rfl, hw9, rfl, rfl⟩ := hp
    rw [hw9] at B; clear hw9
    have B := bd_swap (a := []) (b := tl) (d := []) B
    have B := bd_to (ws' := ([] ++ tl)) rfl B
    refine lv_iload_n hx hb dX11_labelPage_4 rfl (lv_at hl 2 rfl) ?_
    have B := bd_to (ws' := [] ++ ([] ++ tl)) rfl B
    refine k_Sx (rest := []) (wc := []) (wr := ([] ++ tl)) (k_checkLabel l dC dI k hl0 b_ hrb_) B mS_X11_checkLabel mw_1097 hl ⟨Nat.le_of_ble_eq_true rfl, Nat.le_of_ble_eq_true rfl⟩ (Nat.le_of_ble_eq_true rfl) rfl dX11_labelPage_5 ⟨by dsimp only; omega, by dsimp only; omega⟩ (fun E ce q9 w gc gs H locs hp B h1 h2 h3 => ?_) (fun r w gc gs H locs hp B => ?_)
    · skip
      obtain ⟨z_3, rfl, hw9, rfl, rfl⟩ := hp
      rw [hw9] at B; clear hw9
      have B := bd_swap (a := []) (b := tl) (d := []) B
      have B := bd_to (ws' := ([] ++ tl)) rfl B
      exact k_out hex (⟨O, L, C, X, cp, tl, hPR, hL, (by omega), (by omega), rfl, rfl, rfl, rfl⟩) B h1 h2 h3 ⟨(by first | omega | (dsimp only; omega)), (by first | omega | (dsimp only; omega))⟩ ⟨(by first | omega | (dsimp only; omega)), (by first | omega | (dsimp only; omega))⟩
    · skip
      obtain ⟨z_4, rfl, hw9, rfl, rfl⟩ := hp
      rw [hw9] at B; clear hw9
      have B := bd_swap (a := []) (b := tl) (d := []) B
      have B := bd_to (ws' := ([] ++ tl)) rfl B
      refine lv_aload_n hx hb dX11_labelPage_8 rfl (lv_at hl 0 rfl) ?_
      refine lv_iload_n hx hb dX11_labelPage_9 rfl (lv_at hl 1 rfl) ?_
      have B := bd_swap (a := []) (b := []) (d := tl) (bd_to rfl B)
      obtain ⟨k_5, hk_5⟩ := pk_at (hs := []) (show (((Y 0 0), .inr (11, [.ref (A 50 0 0), .ref (Y 1 0), .ref (Y 2 0), .int (iI (K 0 0)), .ref (Y 3 0)])) : Nat × va_E) ∈ tl from PR_m hPR 0 0 rfl rfl)
      refine k_Vx (rest := []) (wc := ([] ++ tl)) (wr := []) (k_layoutOf l dC dI k hl0 T A X tl G Mc Y O L C K cp v hPR hK hL hcap hrv) B mV_X11_layoutOf mw_1367 hl (q0 := k_5) (ci := 11) hk_5 rfl rfl ⟨Nat.le_of_ble_eq_true rfl, Nat.le_of_ble_eq_true rfl⟩ (Nat.le_of_ble_eq_true rfl) rfl dX11_labelPage_10 ⟨by dsimp only; omega, by dsimp only; omega⟩ (fun E ce q9 w gc gs H locs hp B h1 h2 h3 => ?_) (fun r w gc gs H locs hp B => ?_)
      · skip
        obtain ⟨z_6, rfl, hw9, rfl, rfl⟩ := hp
        rw [hw9] at B; clear hw9
        have B := bd_to (ws' := ([] ++ tl)) rfl B
        exact k_out hex (⟨O, L, C, X, cp, tl, hPR, hL, (by omega), (by omega), rfl, rfl, rfl, rfl⟩) B h1 h2 h3 ⟨(by first | omega | (dsimp only; omega)), (by first | omega | (dsimp only; omega))⟩ ⟨(by first | omega | (dsimp only; omega)), (by first | omega | (dsimp only; omega))⟩
      · skip
        obtain ⟨O2_7, L2_8, C2_9, X2_10, cp2_11, tl2_12, z_13, z_14, z_15, z_16, z_17, rfl, hw9, rfl, rfl⟩ := hp
        rw [hw9] at B; clear hw9
        have B := bd_to (ws' := ([] ++ tl2_12)) rfl B
        have hPR : PR dI k T A X2_10 G Mc Y O2_7 L2_8 C2_9 K cp2_11 tl2_12 := z_13
        have hLD : LD T v (L2_8 v) := z_14
        have hLo : ∀ u, u ≠ v → L2_8 u = L u := z_15
        have hT : TI dI k T A X2_10 tl2_12 := PR_TI hPR
        have hP9 : PgI (moC T v (dgN T v)) (mkZ T (moC T v (dgN T v))) := hF.2 v (by omega) (by omega)
        refine lv_iload_n hx hb dX11_labelPage_13 rfl (lv_at hl 2 rfl) ?_
        have B := bd_swap (a := []) (b := []) (d := tl2_12) (bd_to rfl B)
        obtain ⟨k_18, hk_18⟩ := pk_at (hs := []) (show (((Y 4 v), .inr (1, [.ref (A 50 0 0), .int (iI v), .ref (Y 5 0), .ref (Y 60 v), .ref (Y 61 v), .int (iI ((L2_8 v) 0 0)), .int (iI ((L2_8 v) 0 1)), .ref (Y 21 v), .ref (Y 22 v), .ref (Y 23 v), .ref (Y 24 v), .ref (Y 25 v), .ref (Y 26 v), .int (iI ((L2_8 v) 0 2)), .int (iI ((L2_8 v) 0 3)), .int (iI ((L2_8 v) 0 4)), .ref (Y 27 v)])) : Nat × va_E) ∈ tl2_12 from PR_ly hPR (show 0 ≤ v ∧ v ≤ 1 by omega) 0 rfl)
        refine k_V (rest := []) (wc := ([] ++ tl2_12)) (wr := []) (k_pageOfLabelP l dC dI k T A X2_10 tl2_12 G Mc Y O2_7 L2_8 C2_9 K cp2_11 v b_ z_13 hK z_14 z_2 (by omega)) B mV_X1_pageOfLabel mw_1814 hl (q0 := k_18) (ci := 1) hk_18 rfl rfl ⟨Nat.le_of_ble_eq_true rfl, Nat.le_of_ble_eq_true rfl⟩ (Nat.le_of_ble_eq_true rfl) rfl dX11_labelPage_14 ⟨by dsimp only; omega, by dsimp only; omega⟩ (fun r w gc gs H locs hp B => ?_)
        obtain ⟨z_19, rfl, hw9, rfl, rfl⟩ := hp
        rw [hw9] at B; clear hw9
        have B := bd_to (ws' := ([] ++ tl2_12)) rfl B
        exact vx_ret (k_iret B hr (⟨O2_7, L2_8, C2_9, X2_10, cp2_11, tl2_12, hPR, (fun u a9 b9 => by by_cases e9 : u = v; (rw [e9]; exact Or.inr hLD); (rw [hLo u e9]; exact hL u a9 b9)), z_16, (by omega), rfl, rfl, rfl, rfl⟩) ⟨(by first | omega | (dsimp only; omega)), (by first | omega | (dsimp only; omega))⟩ ⟨(by first | omega | (dsimp only; omega)), (by first | omega | (dsimp only; omega))⟩ dX11_labelPage_17)

theorem mw_242 : (Jvm.Cond.fieldLink "Galleyforge" (377 : Nat) "Galleyforge$Rows" "firstRows" "[I") ∈ gt := gt_at 312 (by decide +kernel) (by decide +kernel)
theorem mw_1822 : (Jvm.Cond.methodLink "Galleyforge" (372 : Nat) ({ cls := "Galleyforge$Layout", name := "headingAt", desc := "(I)I" } : Jvm.MethodName)) ∈ gt := gt_at 1892 (by decide +kernel) (by decide +kernel)
theorem mw_1823 : (Jvm.Cond.instanceMethod ({ cls := "Galleyforge$Layout", name := "headingAt", desc := "(I)I" } : Jvm.MethodName)) ∈ gt := gt_at 1893 (by decide +kernel) (by decide +kernel)
theorem mw_1824 : (Jvm.Cond.selects "Galleyforge$Layout" ({ cls := "Galleyforge$Layout", name := "headingAt", desc := "(I)I" } : Jvm.MethodName) ({ cls := "Galleyforge$Layout", name := "headingAt", desc := "(I)I" } : Jvm.MethodName)) ∈ gt := gt_at 1894 (by decide +kernel) (by decide +kernel)
theorem mw_1825 : (Jvm.Cond.code ({ cls := "Galleyforge$Layout", name := "headingAt", desc := "(I)I" } : Jvm.MethodName) prog_3_method_14_code (4 : Nat) (Option.some Jvm.ClassFile.FieldType.int)) ∈ gt := gt_at 1895 (by decide +kernel) (by decide +kernel)
theorem mV_X1_headingAt : mV yX1_headingAt cX1_headingAt 4 (some .int) 1 := ⟨⟨mw_1825, mw_8, by decide, by decide, by decide +kernel⟩, mw_1823, mw_1824⟩
theorem dX11_contentsAt_0 : decode cX11_contentsAt 0 = .ok (.aload_n 0, 1) := by decide +kernel
theorem dX11_contentsAt_1 : decode cX11_contentsAt 1 = .ok (.iload_n 1, 1) := by decide +kernel
theorem dX11_contentsAt_2 : decode cX11_contentsAt 2 = .ok (.invokevirtual 279, 3) := by decide +kernel
theorem dX11_contentsAt_5 : decode cX11_contentsAt 5 = .ok (.astore_n 3, 1) := by decide +kernel
theorem dX11_contentsAt_6 : decode cX11_contentsAt 6 = .ok (.aload_n 3, 1) := by decide +kernel
theorem dX11_contentsAt_7 : decode cX11_contentsAt 7 = .ok (.iload_n 2, 1) := by decide +kernel
theorem dX11_contentsAt_8 : decode cX11_contentsAt 8 = .ok (.invokevirtual 372, 3) := by decide +kernel
theorem dX11_contentsAt_11 : decode cX11_contentsAt 11 = .ok (.istore 4, 2) := by decide +kernel
theorem dX11_contentsAt_13 : decode cX11_contentsAt 13 = .ok (.iload 4, 2) := by decide +kernel
theorem dX11_contentsAt_15 : decode cX11_contentsAt 15 = .ok (.iconst (-1), 1) := by decide +kernel
theorem dX11_contentsAt_16 : decode cX11_contentsAt 16 = .ok (.if_icmp .ne 14, 3) := by decide +kernel
theorem dX11_contentsAt_19 : decode cX11_contentsAt 19 = .ok (.new 47, 3) := by decide +kernel
theorem dX11_contentsAt_22 : decode cX11_contentsAt 22 = .ok (.dup, 1) := by decide +kernel
theorem dX11_contentsAt_23 : decode cX11_contentsAt 23 = .ok (.ldc_w 375, 3) := by decide +kernel
theorem dX11_contentsAt_26 : decode cX11_contentsAt 26 = .ok (.invokespecial 51, 3) := by decide +kernel
theorem dX11_contentsAt_29 : decode cX11_contentsAt 29 = .ok (.athrow, 1) := by decide +kernel
theorem dX11_contentsAt_30 : decode cX11_contentsAt 30 = .ok (.sipush 1000, 3) := by decide +kernel
theorem dX11_contentsAt_33 : decode cX11_contentsAt 33 = .ok (.iload 4, 2) := by decide +kernel
theorem dX11_contentsAt_35 : decode cX11_contentsAt 35 = .ok (.imul, 1) := by decide +kernel
theorem dX11_contentsAt_36 : decode cX11_contentsAt 36 = .ok (.aload_n 3, 1) := by decide +kernel
theorem dX11_contentsAt_37 : decode cX11_contentsAt 37 = .ok (.getfield 304, 3) := by decide +kernel
theorem dX11_contentsAt_40 : decode cX11_contentsAt 40 = .ok (.aload_n 3, 1) := by decide +kernel
theorem dX11_contentsAt_41 : decode cX11_contentsAt 41 = .ok (.getfield 347, 3) := by decide +kernel
theorem dX11_contentsAt_44 : decode cX11_contentsAt 44 = .ok (.getfield 377, 3) := by decide +kernel
theorem dX11_contentsAt_47 : decode cX11_contentsAt 47 = .ok (.iload 4, 2) := by decide +kernel
theorem dX11_contentsAt_49 : decode cX11_contentsAt 49 = .ok (.iaload, 1) := by decide +kernel
theorem dX11_contentsAt_50 : decode cX11_contentsAt 50 = .ok (.invokevirtual 361, 3) := by decide +kernel
theorem dX11_contentsAt_53 : decode cX11_contentsAt 53 = .ok (.iadd, 1) := by decide +kernel
theorem dX11_contentsAt_54 : decode cX11_contentsAt 54 = .ok (.ireturn, 1) := by decide +kernel
set_option maxHeartbeats 4000000 in
set_option maxRecDepth 100000 in
theorem k_contentsAt (l : Launch) (dC : Nat → ClassId) (dI : Nat → Nat → Nat) (k : Nat → ClassId) (hl0 : l.stackTraces = false) (T : Nat → Int → Int → Int → Int) (A : Nat → Int → Int → Nat) (X : Nat → Int → Int → Int) (tl : va_W) (G : Nat → Int → Nat) (Mc : Nat → Int → Int) (Y : Nat → Int → Nat) (O : Nat → Nat) (L : Int → Nat → Int → Int) (C : Nat → Int → Int) (K : Nat → Int → Int) (cp : Nat) (v : Int) (ix : Int) (hPR : PR dI k T A X G Mc Y O L C K cp tl) (hK : TK T) (hL : ∀ u, 0 ≤ u → u ≤ 1 → LSq T u (L u)) (hF : FINE T) (hrv : -2147483648 ≤ v ∧ v < 2147483648) (hrix : -2147483648 ≤ ix ∧ ix < 2147483648) : Kx l dC dI k yX11_contentsAt (.code yX11_contentsAt cX11_contentsAt 5 (some .int)) ({ frames := 9, cells := (131072 - cp + 1), slots := (12 * (131072 - cp) + 6), locals := 205 } : Room) [.ref (Y 0 0), .int (iI v), .int (iI ix)] ([] ++ tl) (fun r w gc gs => (∃ (O2 : Nat → Nat) (L2 : Int → Nat → Int → Int) (C2 : Nat → Int → Int) (X2 : Nat → Int → Int → Int) (cp2 : Nat) (tl2 : va_W), (PR dI k T A X2 G Mc Y O2 L2 C2 K cp2 tl2) ∧ (∀ u, 0 ≤ u → u ≤ 1 → LSq T u (L2 u)) ∧ (cp ≤ cp2 ∧ cp2 ≤ 131072) ∧ ((0 ≤ v ∧ v ≤ 1) ∧ haZ T v ix ≠ -1) ∧ r = some (.int (iI (coZ T v ix))) ∧ w = ([] ++ tl2) ∧ gc = (cp2 - cp) ∧ gs = (12 * (cp2 - cp)))) (fun E w gc gs => (∃ (O2 : Nat → Nat) (L2 : Int → Nat → Int → Int) (C2 : Nat → Int → Int) (X2 : Nat → Int → Int → Int) (cp2 : Nat) (tl2 : va_W), (PR dI k T A X2 G Mc Y O2 L2 C2 K cp2 tl2) ∧ (∀ u, 0 ≤ u → u ≤ 1 → LSq T u (L2 u)) ∧ (cp ≤ cp2 ∧ cp2 ≤ 131072) ∧ (¬ ((0 ≤ v ∧ v ≤ 1) ∧ haZ T v ix ≠ -1)) ∧ E = "java/lang/IndexOutOfBoundsException" ∧ w = ([] ++ tl2) ∧ gc = (cp2 - cp + 1) ∧ gs = (12 * (cp2 - cp) + 6))) := by
  refine kx_of (by decide) (Nat.le_of_ble_eq_true rfl) ?_
  intro p e s m args below meth c H locs B hr hex ls hl
  have hx := B.1.1
  have hb := B.1.2.1
  have hl : lv_has ls 5 [(0, .ref (Y 0 0)), (1, .int (iI v)), (2, .int (iI ix))] := hl
  have hT := PR_TI hPR
  have hnb0 := TK_nb hK
  have hcp0 : 512 ≤ cp ∧ cp ≤ 131072 := by have q9 := hPR.2.2.2; unfold cpOk at q9; omega
  have hcap := hF.1
  refine lv_aload_n hx hb dX11_contentsAt_0 rfl (lv_at hl 0 rfl) ?_
  refine lv_iload_n hx hb dX11_contentsAt_1 rfl (lv_at hl 1 rfl) ?_
  have B := bd_swap (a := []) (b := []) (d := tl) (bd_to rfl B)
  obtain ⟨k_1, hk_1⟩ := pk_at (hs := []) (show (((Y 0 0), .inr (11, [.ref (A 50 0 0), .ref (Y 1 0), .ref (Y 2 0), .int (iI (K 0 0)), .ref (Y 3 0)])) : Nat × va_E) ∈ tl from PR_m hPR 0 0 rfl rfl)
  refine k_Vx (rest := []) (wc := ([] ++ tl)) (wr := []) (k_layoutOf l dC dI k hl0 T A X tl G Mc Y O L C K cp v hPR hK hL hcap hrv) B mV_X11_layoutOf mw_1367 hl (q0 := k_1) (ci := 11) hk_1 rfl rfl ⟨Nat.le_of_ble_eq_true rfl, Nat.le_of_ble_eq_true rfl⟩ (Nat.le_of_ble_eq_true rfl) rfl dX11_contentsAt_2 ⟨by dsimp only; omega, by dsimp only; omega⟩ (fun E ce q9 w gc gs H locs hp B h1 h2 h3 => ?_) (fun r w gc gs H locs hp B => ?_)
  · skip
    obtain ⟨z_2, rfl, hw9, rfl, rfl⟩ := hp
    rw [hw9] at B; clear hw9
    have B := bd_to (ws' := ([] ++ tl)) rfl B
    exact k_out hex (⟨O, L, C, X, cp, tl, hPR, hL, (by omega), (by omega), rfl, rfl, rfl, rfl⟩) B h1 h2 h3 ⟨(by first | omega | (dsimp only; omega)), (by first | omega | (dsimp only; omega))⟩ ⟨(by first | omega | (dsimp only; omega)), (by first | omega | (dsimp only; omega))⟩
  · skip
    obtain ⟨O2_3, L2_4, C2_5, X2_6, cp2_7, tl2_8, z_9, z_10, z_11, z_12, z_13, rfl, hw9, rfl, rfl⟩ := hp
    rw [hw9] at B; clear hw9
    have B := bd_to (ws' := ([] ++ tl2_8)) rfl B
    have hPR : PR dI k T A X2_6 G Mc Y O2_3 L2_4 C2_5 K cp2_7 tl2_8 := z_9
    have hLD : LD T v (L2_4 v) := z_10
    have hLo : ∀ u, u ≠ v → L2_4 u = L u := z_11
    have hT : TI dI k T A X2_6 tl2_8 := PR_TI hPR
    have hP9 : PgI (moC T v (dgN T v)) (mkZ T (moC T v (dgN T v))) := hF.2 v (by omega) (by omega)
    refine lv_astore_n (lv' := [(3, .ref (Y 4 v)), (0, .ref (Y 0 0)), (1, .int (iI v)), (2, .int (iI ix))]) hx hb dX11_contentsAt_5 rfl hl (by decide) rfl (fun ls hl => ?_)
    refine lv_aload_n hx hb dX11_contentsAt_6 rfl (lv_at hl 0 rfl) ?_
    refine lv_iload_n hx hb dX11_contentsAt_7 rfl (lv_at hl 3 rfl) ?_
    have B := bd_swap (a := []) (b := []) (d := tl2_8) (bd_to rfl B)
    obtain ⟨k_14, hk_14⟩ := pk_at (hs := []) (show (((Y 4 v), .inr (1, [.ref (A 50 0 0), .int (iI v), .ref (Y 5 0), .ref (Y 60 v), .ref (Y 61 v), .int (iI ((L2_4 v) 0 0)), .int (iI ((L2_4 v) 0 1)), .ref (Y 21 v), .ref (Y 22 v), .ref (Y 23 v), .ref (Y 24 v), .ref (Y 25 v), .ref (Y 26 v), .int (iI ((L2_4 v) 0 2)), .int (iI ((L2_4 v) 0 3)), .int (iI ((L2_4 v) 0 4)), .ref (Y 27 v)])) : Nat × va_E) ∈ tl2_8 from PR_ly hPR (show 0 ≤ v ∧ v ≤ 1 by omega) 0 rfl)
    refine k_V (rest := []) (wc := ([] ++ tl2_8)) (wr := []) (k_headingAtP l dC dI k T A X2_6 tl2_8 G Mc Y O2_3 L2_4 C2_5 K cp2_7 v ix z_9 hK z_10 z_13 hrix) B mV_X1_headingAt mw_1822 hl (q0 := k_14) (ci := 1) hk_14 rfl rfl ⟨Nat.le_of_ble_eq_true rfl, Nat.le_of_ble_eq_true rfl⟩ (Nat.le_of_ble_eq_true rfl) rfl dX11_contentsAt_8 ⟨by dsimp only; omega, by dsimp only; omega⟩ (fun r w gc gs H locs hp B => ?_)
    obtain ⟨z_15, rfl, hw9, rfl, rfl⟩ := hp
    rw [hw9] at B; clear hw9
    have B := bd_to (ws' := ([] ++ tl2_8)) rfl B
    refine lv_istore (lv' := [(4, .int (iI (haZ T v ix))), (3, .ref (Y 4 v)), (0, .ref (Y 0 0)), (1, .int (iI v)), (2, .int (iI ix))]) hx hb dX11_contentsAt_11 hl (by decide) rfl (fun ls hl => ?_)
    refine lv_iload hx hb dX11_contentsAt_13 (lv_at hl 0 rfl) ?_
    refine lv_iconst (v := iI (-1)) hx hb dX11_contentsAt_15 (by decide) ?_
    refine lv_icmp_ne (tgt := 30) hx hb dX11_contentsAt_16 (by decide) (fun c_16 => ?_) (fun c_16 => ?_)
    · have zc_16 : (haZ T v ix) ≠ (-1) := jne (a := (haZ T v ix)) (b := (-1)) (by omega) (by omega) c_16
      have hh9 : hdP T v (haZ T v ix) ∧ 0 ≤ haZ T v ix ∧ haZ T v ix < 0 + ((Int.toNat (T 0 0 0 0) : Nat) : Int) := haF_h _ 0 0 (by show haZ T v ix ≠ -1; omega)
      have z_17 : 0 ≤ (moC T v (dgN T v)) 7 (haZ T v ix) ∧ (moC T v (dgN T v)) 7 (haZ T v ix) < (moC T v (dgN T v)) 0 0 := moC_7h hK _ (by omega) (by omega) hh9.1
      refine lv_sipush (v := iI 1000) hx hb dX11_contentsAt_30 (by decide) ?_
      refine lv_iload hx hb dX11_contentsAt_33 (lv_at hl 0 rfl) ?_
      refine y_mul hx hb dX11_contentsAt_35 ?_
      refine lv_aload_n hx hb dX11_contentsAt_36 rfl (lv_at hl 1 rfl) ?_
      obtain ⟨k_18, hk_18⟩ := pk_at (hs := []) (show (((Y 4 v), .inr (1, [.ref (A 50 0 0), .int (iI v), .ref (Y 5 0), .ref (Y 60 v), .ref (Y 61 v), .int (iI ((L2_4 v) 0 0)), .int (iI ((L2_4 v) 0 1)), .ref (Y 21 v), .ref (Y 22 v), .ref (Y 23 v), .ref (Y 24 v), .ref (Y 25 v), .ref (Y 26 v), .int (iI ((L2_4 v) 0 2)), .int (iI ((L2_4 v) 0 3)), .int (iI ((L2_4 v) 0 4)), .ref (Y 27 v)])) : Nat × va_E) ∈ tl2_8 from PR_ly hPR (show 0 ≤ v ∧ v ≤ 1 by omega) 0 rfl)
      refine x_get (ci := 1) (C := RX1) (T := TX1) (N := 17) (v := .ref (Y 61 v)) B k_18 hk_18 rfl in_X1 4 (by decide) mw_416 (fun _ h9 => h9) rfl dX11_contentsAt_37 ?_
      refine lv_aload_n hx hb dX11_contentsAt_40 rfl (lv_at hl 1 rfl) ?_
      obtain ⟨k_19, hk_19⟩ := pk_at (hs := []) (show (((Y 4 v), .inr (1, [.ref (A 50 0 0), .int (iI v), .ref (Y 5 0), .ref (Y 60 v), .ref (Y 61 v), .int (iI ((L2_4 v) 0 0)), .int (iI ((L2_4 v) 0 1)), .ref (Y 21 v), .ref (Y 22 v), .ref (Y 23 v), .ref (Y 24 v), .ref (Y 25 v), .ref (Y 26 v), .int (iI ((L2_4 v) 0 2)), .int (iI ((L2_4 v) 0 3)), .int (iI ((L2_4 v) 0 4)), .ref (Y 27 v)])) : Nat × va_E) ∈ tl2_8 from PR_ly hPR (show 0 ≤ v ∧ v ≤ 1 by omega) 0 rfl)
      refine x_get (ci := 1) (C := RX1) (T := TX1) (N := 17) (v := .ref (Y 60 v)) B k_19 hk_19 rfl in_X1 3 (by decide) mw_414 (fun _ h9 => h9) rfl dX11_contentsAt_41 ?_
      obtain ⟨k_20, hk_20⟩ := pk_at (hs := []) (show (((Y 60 v), .inr (6, [.int (iI ((L2_4 v) 30 0)), .ref (Y 41 v), .ref (Y 42 v), .ref (Y 43 v), .ref (Y 44 v), .ref (Y 45 v), .ref (Y 46 v), .ref (Y 47 v), .ref (Y 48 v), .ref (Y 49 v), .ref (Y 50 v), .ref (Y 51 v), .int (iI ((L2_4 v) 42 0)), .int (iI ((L2_4 v) 43 0)), .ref (Y 54 v), .ref (Y 55 v), .ref (Y 56 v), .int (iI ((L2_4 v) 47 0))])) : Nat × va_E) ∈ tl2_8 from PR_rw hPR (show 0 ≤ v ∧ v ≤ 1 by omega) 0 rfl)
      refine x_get (ci := 6) (C := RX6) (T := TX6) (N := 18) (v := .ref (Y 47 v)) B k_20 hk_20 rfl in_X6 7 (by decide) mw_242 (fun _ h9 => h9) rfl dX11_contentsAt_44 ?_
      refine lv_iload hx hb dX11_contentsAt_47 (lv_at hl 0 rfl) ?_
      obtain ⟨k_21, hk_21⟩ := pk_at (hs := []) (show (((Y 47 v), .inl (k 0, 16, .inl (fun i9 : Nat => iI (((L2_4 v) 37) i9)))) : Nat × va_E) ∈ tl2_8 from PR_rw hPR (show 0 ≤ v ∧ v ≤ 1 by omega) 7 rfl)
      refine x_iald' (f := ((L2_4 v) 37)) (z := (haZ T v ix)) B k_21 hk_21 (by omega) dX11_contentsAt_49 ?_
      refine lv_seti (y := iI ((moC T v (dgN T v)) 7 (haZ T v ix))) (congrArg iI (show ((L2_4 v) 37) (haZ T v ix) = (moC T v (dgN T v)) 7 (haZ T v ix) from (RA_7 hLD.2.2.1 _ (by omega) (by omega)))) ?_
      have z_22 : 0 ≤ (moC T v (dgN T v)) 7 (haZ T v ix) ∧ (moC T v (dgN T v)) 7 (haZ T v ix) ≤ 768 := MK_7 (moC_in hK).1 _
      have B := bd_swap (a := []) (b := []) (d := tl2_8) (bd_to rfl B)
      obtain ⟨k_23, hk_23⟩ := pk_at (hs := []) (show (((Y 61 v), .inr (4, [.ref (A 50 0 0), .ref (Y 60 v), .ref (Y 62 v), .ref (Y 13 0), .int (iI ((L2_4 v) 50 0)), .int (iI ((L2_4 v) 50 1)), .ref (Y 63 v), .ref (Y 64 v), .ref (Y 65 v), .ref (Y 66 v), .ref (Y 67 v), .ref (Y 68 v)])) : Nat × va_E) ∈ tl2_8 from PR_pp hPR (show 0 ≤ v ∧ v ≤ 1 by omega) 0 rfl)
      refine k_V (rest := [.int (iI (1000 * (haZ T v ix)))]) (wc := ([] ++ tl2_8)) (wr := []) (k_pageOfP l dC dI k T A X2_6 tl2_8 G Mc Y O2_3 L2_4 C2_5 K cp2_7 v ((moC T v (dgN T v)) 7 (haZ T v ix)) z_9 hK z_10 z_13 hF (by omega)) B mV_X4_pageOf mw_1798 hl (q0 := k_23) (ci := 4) hk_23 rfl rfl ⟨Nat.le_of_ble_eq_true rfl, Nat.le_of_ble_eq_true rfl⟩ (Nat.le_of_ble_eq_true rfl) rfl dX11_contentsAt_50 ⟨by dsimp only; omega, by dsimp only; omega⟩ (fun r w gc gs H locs hp B => ?_)
      obtain ⟨z_24, z_25, rfl, hw9, rfl, rfl⟩ := hp
      rw [hw9] at B; clear hw9
      have B := bd_to (ws' := ([] ++ tl2_8)) rfl B
      refine y_add hx hb dX11_contentsAt_53 ?_
      have e_26 : (coZ T v ix) = ((1000 * (haZ T v ix)) + ((mkZ T (moC T v (dgN T v))) 5 ((moC T v (dgN T v)) 7 (haZ T v ix)))) := rfl
      skip
      exact vx_ret (k_iret B hr (⟨O2_3, L2_4, C2_5, X2_6, cp2_7, tl2_8, hPR, (fun u a9 b9 => by by_cases e9 : u = v; (rw [e9]; exact Or.inr hLD); (rw [hLo u e9]; exact hL u a9 b9)), z_12, (by omega), (by rw [e_26]), rfl, rfl, rfl⟩) ⟨(by first | omega | (dsimp only; omega)), (by first | omega | (dsimp only; omega))⟩ ⟨(by first | omega | (dsimp only; omega)), (by first | omega | (dsimp only; omega))⟩ dX11_contentsAt_54)
    · have zc_16 : (haZ T v ix) = (-1) := jeq (a := (haZ T v ix)) (b := (-1)) (by omega) (by omega) c_16
      exact k_thrWG (tx := "no such heading") xE_ioobe (⟨O2_3, L2_4, C2_5, X2_6, cp2_7, tl2_8, hPR, (fun u a9 b9 => by by_cases e9 : u = v; (rw [e9]; exact Or.inr hLD); (rw [hLo u e9]; exact hL u a9 b9)), z_12, (by omega), rfl, rfl, rfl, rfl⟩) ⟨(by first | omega | (dsimp only; omega)), (by first | omega | (dsimp only; omega))⟩ hl0 B hex hl (by decide +kernel) dX11_contentsAt_19 dX11_contentsAt_22 dX11_contentsAt_23 dX11_contentsAt_26 dX11_contentsAt_29 ⟨(by first | exact Nat.le_of_ble_eq_true rfl | omega | (dsimp only; omega)), (by first | exact Nat.le_of_ble_eq_true rfl | omega | (dsimp only; omega)), (by first | omega | (dsimp only; omega)), (by first | omega | (dsimp only; omega))⟩ ⟨(by first | omega | (dsimp only; omega)), (by first | omega | (dsimp only; omega))⟩

theorem mw_1834 : (Jvm.Cond.methodLink "Galleyforge" (378 : Nat) ({ cls := "Galleyforge$Layout", name := "termAt", desc := "(I)I" } : Jvm.MethodName)) ∈ gt := gt_at 1904 (by decide +kernel) (by decide +kernel)
theorem mw_1835 : (Jvm.Cond.instanceMethod ({ cls := "Galleyforge$Layout", name := "termAt", desc := "(I)I" } : Jvm.MethodName)) ∈ gt := gt_at 1905 (by decide +kernel) (by decide +kernel)
theorem mw_1836 : (Jvm.Cond.selects "Galleyforge$Layout" ({ cls := "Galleyforge$Layout", name := "termAt", desc := "(I)I" } : Jvm.MethodName) ({ cls := "Galleyforge$Layout", name := "termAt", desc := "(I)I" } : Jvm.MethodName)) ∈ gt := gt_at 1906 (by decide +kernel) (by decide +kernel)
theorem mw_1837 : (Jvm.Cond.code ({ cls := "Galleyforge$Layout", name := "termAt", desc := "(I)I" } : Jvm.MethodName) prog_3_method_15_code (3 : Nat) (Option.some Jvm.ClassFile.FieldType.int)) ∈ gt := gt_at 1907 (by decide +kernel) (by decide +kernel)
theorem mV_X1_termAt : mV yX1_termAt cX1_termAt 3 (some .int) 1 := ⟨⟨mw_1837, mw_8, by decide, by decide, by decide +kernel⟩, mw_1835, mw_1836⟩
theorem dX11_indexAt_0 : decode cX11_indexAt 0 = .ok (.aload_n 0, 1) := by decide +kernel
theorem dX11_indexAt_1 : decode cX11_indexAt 1 = .ok (.iload_n 1, 1) := by decide +kernel
theorem dX11_indexAt_2 : decode cX11_indexAt 2 = .ok (.invokevirtual 279, 3) := by decide +kernel
theorem dX11_indexAt_5 : decode cX11_indexAt 5 = .ok (.iload_n 2, 1) := by decide +kernel
theorem dX11_indexAt_6 : decode cX11_indexAt 6 = .ok (.invokevirtual 378, 3) := by decide +kernel
theorem dX11_indexAt_9 : decode cX11_indexAt 9 = .ok (.istore_n 3, 1) := by decide +kernel
theorem dX11_indexAt_10 : decode cX11_indexAt 10 = .ok (.iload_n 3, 1) := by decide +kernel
theorem dX11_indexAt_11 : decode cX11_indexAt 11 = .ok (.iconst (-1), 1) := by decide +kernel
theorem dX11_indexAt_12 : decode cX11_indexAt 12 = .ok (.if_icmp .ne 14, 3) := by decide +kernel
theorem dX11_indexAt_15 : decode cX11_indexAt 15 = .ok (.new 47, 3) := by decide +kernel
theorem dX11_indexAt_18 : decode cX11_indexAt 18 = .ok (.dup, 1) := by decide +kernel
theorem dX11_indexAt_19 : decode cX11_indexAt 19 = .ok (.ldc_w 381, 3) := by decide +kernel
theorem dX11_indexAt_22 : decode cX11_indexAt 22 = .ok (.invokespecial 51, 3) := by decide +kernel
theorem dX11_indexAt_25 : decode cX11_indexAt 25 = .ok (.athrow, 1) := by decide +kernel
theorem dX11_indexAt_26 : decode cX11_indexAt 26 = .ok (.iload_n 3, 1) := by decide +kernel
theorem dX11_indexAt_27 : decode cX11_indexAt 27 = .ok (.ireturn, 1) := by decide +kernel
set_option maxHeartbeats 4000000 in
set_option maxRecDepth 100000 in
theorem k_indexAt (l : Launch) (dC : Nat → ClassId) (dI : Nat → Nat → Nat) (k : Nat → ClassId) (hl0 : l.stackTraces = false) (T : Nat → Int → Int → Int → Int) (A : Nat → Int → Int → Nat) (X : Nat → Int → Int → Int) (tl : va_W) (G : Nat → Int → Nat) (Mc : Nat → Int → Int) (Y : Nat → Int → Nat) (O : Nat → Nat) (L : Int → Nat → Int → Int) (C : Nat → Int → Int) (K : Nat → Int → Int) (cp : Nat) (v : Int) (ix : Int) (hPR : PR dI k T A X G Mc Y O L C K cp tl) (hK : TK T) (hL : ∀ u, 0 ≤ u → u ≤ 1 → LSq T u (L u)) (hF : FINE T) (hrv : -2147483648 ≤ v ∧ v < 2147483648) (hrix : -2147483648 ≤ ix ∧ ix < 2147483648) : Kx l dC dI k yX11_indexAt (.code yX11_indexAt cX11_indexAt 4 (some .int)) ({ frames := 9, cells := (131072 - cp + 1), slots := (12 * (131072 - cp) + 6), locals := 205 } : Room) [.ref (Y 0 0), .int (iI v), .int (iI ix)] ([] ++ tl) (fun r w gc gs => (∃ (O2 : Nat → Nat) (L2 : Int → Nat → Int → Int) (C2 : Nat → Int → Int) (X2 : Nat → Int → Int → Int) (cp2 : Nat) (tl2 : va_W), (PR dI k T A X2 G Mc Y O2 L2 C2 K cp2 tl2) ∧ (∀ u, 0 ≤ u → u ≤ 1 → LSq T u (L2 u)) ∧ (cp ≤ cp2 ∧ cp2 ≤ 131072) ∧ ((0 ≤ v ∧ v ≤ 1) ∧ tmF T (moC T v (dgN T v)) ix 8 0 ≠ -1) ∧ r = some (.int (iI (tmF T (moC T v (dgN T v)) ix 8 0))) ∧ w = ([] ++ tl2) ∧ gc = (cp2 - cp) ∧ gs = (12 * (cp2 - cp)))) (fun E w gc gs => (∃ (O2 : Nat → Nat) (L2 : Int → Nat → Int → Int) (C2 : Nat → Int → Int) (X2 : Nat → Int → Int → Int) (cp2 : Nat) (tl2 : va_W), (PR dI k T A X2 G Mc Y O2 L2 C2 K cp2 tl2) ∧ (∀ u, 0 ≤ u → u ≤ 1 → LSq T u (L2 u)) ∧ (cp ≤ cp2 ∧ cp2 ≤ 131072) ∧ (¬ ((0 ≤ v ∧ v ≤ 1) ∧ tmF T (moC T v (dgN T v)) ix 8 0 ≠ -1)) ∧ E = "java/lang/IndexOutOfBoundsException" ∧ w = ([] ++ tl2) ∧ gc = (cp2 - cp + 1) ∧ gs = (12 * (cp2 - cp) + 6))) := by
  refine kx_of (by decide) (Nat.le_of_ble_eq_true rfl) ?_
  intro p e s m args below meth c H locs B hr hex ls hl
  have hx := B.1.1
  have hb := B.1.2.1
  have hl : lv_has ls 4 [(0, .ref (Y 0 0)), (1, .int (iI v)), (2, .int (iI ix))] := hl
  have hT := PR_TI hPR
  have hnb0 := TK_nb hK
  have hcp0 : 512 ≤ cp ∧ cp ≤ 131072 := by have q9 := hPR.2.2.2; unfold cpOk at q9; omega
  have hcap := hF.1
  refine lv_aload_n hx hb dX11_indexAt_0 rfl (lv_at hl 0 rfl) ?_
  refine lv_iload_n hx hb dX11_indexAt_1 rfl (lv_at hl 1 rfl) ?_
  have B := bd_swap (a := []) (b := []) (d := tl) (bd_to rfl B)
  obtain ⟨k_1, hk_1⟩ := pk_at (hs := []) (show (((Y 0 0), .inr (11, [.ref (A 50 0 0), .ref (Y 1 0), .ref (Y 2 0), .int (iI (K 0 0)), .ref (Y 3 0)])) : Nat × va_E) ∈ tl from PR_m hPR 0 0 rfl rfl)
  refine k_Vx (rest := []) (wc := ([] ++ tl)) (wr := []) (k_layoutOf l dC dI k hl0 T A X tl G Mc Y O L C K cp v hPR hK hL hcap hrv) B mV_X11_layoutOf mw_1367 hl (q0 := k_1) (ci := 11) hk_1 rfl rfl ⟨Nat.le_of_ble_eq_true rfl, Nat.le_of_ble_eq_true rfl⟩ (Nat.le_of_ble_eq_true rfl) rfl dX11_indexAt_2 ⟨by dsimp only; omega, by dsimp only; omega⟩ (fun E ce q9 w gc gs H locs hp B h1 h2 h3 => ?_) (fun r w gc gs H locs hp B => ?_)
  · skip
    obtain ⟨z_2, rfl, hw9, rfl, rfl⟩ := hp
    rw [hw9] at B; clear hw9
    have B := bd_to (ws' := ([] ++ tl)) rfl B
    exact k_out hex (⟨O, L, C, X, cp, tl, hPR, hL, (by omega), (by omega), rfl, rfl, rfl, rfl⟩) B h1 h2 h3 ⟨(by first | omega | (dsimp only; omega)), (by first | omega | (dsimp only; omega))⟩ ⟨(by first | omega | (dsimp only; omega)), (by first | omega | (dsimp only; omega))⟩
  · skip
    obtain ⟨O2_3, L2_4, C2_5, X2_6, cp2_7, tl2_8, z_9, z_10, z_11, z_12, z_13, rfl, hw9, rfl, rfl⟩ := hp
    rw [hw9] at B; clear hw9
    have B := bd_to (ws' := ([] ++ tl2_8)) rfl B
    have hPR : PR dI k T A X2_6 G Mc Y O2_3 L2_4 C2_5 K cp2_7 tl2_8 := z_9
    have hLD : LD T v (L2_4 v) := z_10
    have hLo : ∀ u, u ≠ v → L2_4 u = L u := z_11
    have hT : TI dI k T A X2_6 tl2_8 := PR_TI hPR
    have hP9 : PgI (moC T v (dgN T v)) (mkZ T (moC T v (dgN T v))) := hF.2 v (by omega) (by omega)
    refine lv_iload_n hx hb dX11_indexAt_5 rfl (lv_at hl 2 rfl) ?_
    have B := bd_swap (a := []) (b := []) (d := tl2_8) (bd_to rfl B)
    obtain ⟨k_14, hk_14⟩ := pk_at (hs := []) (show (((Y 4 v), .inr (1, [.ref (A 50 0 0), .int (iI v), .ref (Y 5 0), .ref (Y 60 v), .ref (Y 61 v), .int (iI ((L2_4 v) 0 0)), .int (iI ((L2_4 v) 0 1)), .ref (Y 21 v), .ref (Y 22 v), .ref (Y 23 v), .ref (Y 24 v), .ref (Y 25 v), .ref (Y 26 v), .int (iI ((L2_4 v) 0 2)), .int (iI ((L2_4 v) 0 3)), .int (iI ((L2_4 v) 0 4)), .ref (Y 27 v)])) : Nat × va_E) ∈ tl2_8 from PR_ly hPR (show 0 ≤ v ∧ v ≤ 1 by omega) 0 rfl)
    refine k_V (rest := []) (wc := ([] ++ tl2_8)) (wr := []) (k_termAtP l dC dI k T A X2_6 tl2_8 G Mc Y O2_3 L2_4 C2_5 K cp2_7 v ix z_9 hK z_10 z_13 hrix) B mV_X1_termAt mw_1834 hl (q0 := k_14) (ci := 1) hk_14 rfl rfl ⟨Nat.le_of_ble_eq_true rfl, Nat.le_of_ble_eq_true rfl⟩ (Nat.le_of_ble_eq_true rfl) rfl dX11_indexAt_6 ⟨by dsimp only; omega, by dsimp only; omega⟩ (fun r w gc gs H locs hp B => ?_)
    obtain ⟨z_15, rfl, hw9, rfl, rfl⟩ := hp
    rw [hw9] at B; clear hw9
    have B := bd_to (ws' := ([] ++ tl2_8)) rfl B
    refine lv_istore_n (lv' := [(3, .int (iI (tmF T (moC T v (dgN T v)) ix 8 0))), (0, .ref (Y 0 0)), (1, .int (iI v)), (2, .int (iI ix))]) hx hb dX11_indexAt_9 rfl hl (by decide) rfl (fun ls hl => ?_)
    refine lv_iload_n hx hb dX11_indexAt_10 rfl (lv_at hl 0 rfl) ?_
    refine lv_iconst (v := iI (-1)) hx hb dX11_indexAt_11 (by decide) ?_
    refine lv_icmp_ne (tgt := 26) hx hb dX11_indexAt_12 (by decide) (fun c_16 => ?_) (fun c_16 => ?_)
    · have zc_16 : (tmF T (moC T v (dgN T v)) ix 8 0) ≠ (-1) := jne (a := (tmF T (moC T v (dgN T v)) ix 8 0)) (b := (-1)) (by omega) (by omega) c_16
      refine lv_iload_n hx hb dX11_indexAt_26 rfl (lv_at hl 0 rfl) ?_
      exact vx_ret (k_iret B hr (⟨O2_3, L2_4, C2_5, X2_6, cp2_7, tl2_8, hPR, (fun u a9 b9 => by by_cases e9 : u = v; (rw [e9]; exact Or.inr hLD); (rw [hLo u e9]; exact hL u a9 b9)), z_12, (by omega), rfl, rfl, rfl, rfl⟩) ⟨(by first | omega | (dsimp only; omega)), (by first | omega | (dsimp only; omega))⟩ ⟨(by first | omega | (dsimp only; omega)), (by first | omega | (dsimp only; omega))⟩ dX11_indexAt_27)
    · have zc_16 : (tmF T (moC T v (dgN T v)) ix 8 0) = (-1) := jeq (a := (tmF T (moC T v (dgN T v)) ix 8 0)) (b := (-1)) (by omega) (by omega) c_16
      exact k_thrWG (tx := "not so many terms") xE_ioobe (⟨O2_3, L2_4, C2_5, X2_6, cp2_7, tl2_8, hPR, (fun u a9 b9 => by by_cases e9 : u = v; (rw [e9]; exact Or.inr hLD); (rw [hLo u e9]; exact hL u a9 b9)), z_12, (by omega), rfl, rfl, rfl, rfl⟩) ⟨(by first | omega | (dsimp only; omega)), (by first | omega | (dsimp only; omega))⟩ hl0 B hex hl (by decide +kernel) dX11_indexAt_15 dX11_indexAt_18 dX11_indexAt_19 dX11_indexAt_22 dX11_indexAt_25 ⟨(by first | exact Nat.le_of_ble_eq_true rfl | omega | (dsimp only; omega)), (by first | exact Nat.le_of_ble_eq_true rfl | omega | (dsimp only; omega)), (by first | omega | (dsimp only; omega)), (by first | omega | (dsimp only; omega))⟩ ⟨(by first | omega | (dsimp only; omega)), (by first | omega | (dsimp only; omega))⟩

theorem mw_1261 : (Jvm.Cond.methodLink "Galleyforge" (224 : Nat) ({ cls := "Galleyforge", name := "checkTerm", desc := "(I)V" } : Jvm.MethodName)) ∈ gt := gt_at 1331 (by decide +kernel) (by decide +kernel)
theorem mw_1262 : (Jvm.Cond.static ({ cls := "Galleyforge", name := "checkTerm", desc := "(I)V" } : Jvm.MethodName)) ∈ gt := gt_at 1332 (by decide +kernel) (by decide +kernel)
theorem mw_1263 : (Jvm.Cond.code ({ cls := "Galleyforge", name := "checkTerm", desc := "(I)V" } : Jvm.MethodName) prog_1_method_43_code (1 : Nat) (Option.none : Option Jvm.ClassFile.FieldType)) ∈ gt := gt_at 1333 (by decide +kernel) (by decide +kernel)
theorem mw_1850 : (Jvm.Cond.methodLink "Galleyforge" (383 : Nat) ({ cls := "Galleyforge$Layout", name := "rangeOf", desc := "(II)I" } : Jvm.MethodName)) ∈ gt := gt_at 1920 (by decide +kernel) (by decide +kernel)
theorem mw_1851 : (Jvm.Cond.instanceMethod ({ cls := "Galleyforge$Layout", name := "rangeOf", desc := "(II)I" } : Jvm.MethodName)) ∈ gt := gt_at 1921 (by decide +kernel) (by decide +kernel)
theorem mw_1852 : (Jvm.Cond.selects "Galleyforge$Layout" ({ cls := "Galleyforge$Layout", name := "rangeOf", desc := "(II)I" } : Jvm.MethodName) ({ cls := "Galleyforge$Layout", name := "rangeOf", desc := "(II)I" } : Jvm.MethodName)) ∈ gt := gt_at 1922 (by decide +kernel) (by decide +kernel)
theorem mw_1853 : (Jvm.Cond.code ({ cls := "Galleyforge$Layout", name := "rangeOf", desc := "(II)I" } : Jvm.MethodName) prog_3_method_17_code (6 : Nat) (Option.some Jvm.ClassFile.FieldType.int)) ∈ gt := gt_at 1923 (by decide +kernel) (by decide +kernel)
theorem mS_X11_checkTerm : mS yX11_checkTerm cX11_checkTerm 1 none 1 := ⟨⟨mw_1263, mw_1, by decide, by decide, by decide +kernel⟩, mw_1262⟩
theorem mV_X1_rangeOf : mV yX1_rangeOf cX1_rangeOf 6 (some .int) 2 := ⟨⟨mw_1853, mw_8, by decide, by decide, by decide +kernel⟩, mw_1851, mw_1852⟩
theorem dX11_range_0 : decode cX11_range 0 = .ok (.iload_n 1, 1) := by decide +kernel
theorem dX11_range_1 : decode cX11_range 1 = .ok (.invokestatic 238, 3) := by decide +kernel
theorem dX11_range_4 : decode cX11_range 4 = .ok (.iload_n 2, 1) := by decide +kernel
theorem dX11_range_5 : decode cX11_range 5 = .ok (.invokestatic 224, 3) := by decide +kernel
theorem dX11_range_8 : decode cX11_range 8 = .ok (.aload_n 0, 1) := by decide +kernel
theorem dX11_range_9 : decode cX11_range 9 = .ok (.iload_n 1, 1) := by decide +kernel
theorem dX11_range_10 : decode cX11_range 10 = .ok (.invokevirtual 279, 3) := by decide +kernel
theorem dX11_range_13 : decode cX11_range 13 = .ok (.iload_n 2, 1) := by decide +kernel
theorem dX11_range_14 : decode cX11_range 14 = .ok (.iload_n 3, 1) := by decide +kernel
theorem dX11_range_15 : decode cX11_range 15 = .ok (.invokevirtual 383, 3) := by decide +kernel
theorem dX11_range_18 : decode cX11_range 18 = .ok (.istore 4, 2) := by decide +kernel
theorem dX11_range_20 : decode cX11_range 20 = .ok (.iload 4, 2) := by decide +kernel
theorem dX11_range_22 : decode cX11_range 22 = .ok (.iconst (-1), 1) := by decide +kernel
theorem dX11_range_23 : decode cX11_range 23 = .ok (.if_icmp .ne 14, 3) := by decide +kernel
theorem dX11_range_26 : decode cX11_range 26 = .ok (.new 47, 3) := by decide +kernel
theorem dX11_range_29 : decode cX11_range 29 = .ok (.dup, 1) := by decide +kernel
theorem dX11_range_30 : decode cX11_range 30 = .ok (.ldc_w 386, 3) := by decide +kernel
theorem dX11_range_33 : decode cX11_range 33 = .ok (.invokespecial 51, 3) := by decide +kernel
theorem dX11_range_36 : decode cX11_range 36 = .ok (.athrow, 1) := by decide +kernel
theorem dX11_range_37 : decode cX11_range 37 = .ok (.iload 4, 2) := by decide +kernel
theorem dX11_range_39 : decode cX11_range 39 = .ok (.ireturn, 1) := by decide +kernel
set_option maxHeartbeats 4000000 in
set_option maxRecDepth 100000 in
theorem k_range (l : Launch) (dC : Nat → ClassId) (dI : Nat → Nat → Nat) (k : Nat → ClassId) (hl0 : l.stackTraces = false) (T : Nat → Int → Int → Int → Int) (A : Nat → Int → Int → Nat) (X : Nat → Int → Int → Int) (tl : va_W) (G : Nat → Int → Nat) (Mc : Nat → Int → Int) (Y : Nat → Int → Nat) (O : Nat → Nat) (L : Int → Nat → Int → Int) (C : Nat → Int → Int) (K : Nat → Int → Int) (cp : Nat) (v : Int) (t : Int) (ix : Int) (hPR : PR dI k T A X G Mc Y O L C K cp tl) (hK : TK T) (hL : ∀ u, 0 ≤ u → u ≤ 1 → LSq T u (L u)) (hF : FINE T) (hrv : -2147483648 ≤ v ∧ v < 2147483648) (hrt : -2147483648 ≤ t ∧ t < 2147483648) (hrix : -2147483648 ≤ ix ∧ ix < 2147483648) : Kx l dC dI k yX11_range (.code yX11_range cX11_range 5 (some .int)) ({ frames := 9, cells := (131072 - cp + 1), slots := (12 * (131072 - cp) + 6), locals := 205 } : Room) [.ref (Y 0 0), .int (iI v), .int (iI t), .int (iI ix)] ([] ++ tl) (fun r w gc gs => (∃ (O2 : Nat → Nat) (L2 : Int → Nat → Int → Int) (C2 : Nat → Int → Int) (X2 : Nat → Int → Int → Int) (cp2 : Nat) (tl2 : va_W), (PR dI k T A X2 G Mc Y O2 L2 C2 K cp2 tl2) ∧ (∀ u, 0 ≤ u → u ≤ 1 → LSq T u (L2 u)) ∧ (cp ≤ cp2 ∧ cp2 ≤ 131072) ∧ ((0 ≤ v ∧ v ≤ 1) ∧ (0 ≤ t ∧ t ≤ 7) ∧ rgZ (fpZ T (moC T v (dgN T v)) (mkZ T (moC T v (dgN T v))) t) ix ((mkZ T (moC T v (dgN T v))) 0 0) ≠ -1) ∧ r = some (.int (iI (rgZ (fpZ T (moC T v (dgN T v)) (mkZ T (moC T v (dgN T v))) t) ix ((mkZ T (moC T v (dgN T v))) 0 0)))) ∧ w = ([] ++ tl2) ∧ gc = (cp2 - cp) ∧ gs = (12 * (cp2 - cp)))) (fun E w gc gs => (∃ (O2 : Nat → Nat) (L2 : Int → Nat → Int → Int) (C2 : Nat → Int → Int) (X2 : Nat → Int → Int → Int) (cp2 : Nat) (tl2 : va_W), (PR dI k T A X2 G Mc Y O2 L2 C2 K cp2 tl2) ∧ (∀ u, 0 ≤ u → u ≤ 1 → LSq T u (L2 u)) ∧ (cp ≤ cp2 ∧ cp2 ≤ 131072) ∧ (¬ ((0 ≤ v ∧ v ≤ 1) ∧ (0 ≤ t ∧ t ≤ 7) ∧ rgZ (fpZ T (moC T v (dgN T v)) (mkZ T (moC T v (dgN T v))) t) ix ((mkZ T (moC T v (dgN T v))) 0 0) ≠ -1)) ∧ E = "java/lang/IndexOutOfBoundsException" ∧ w = ([] ++ tl2) ∧ gc = (cp2 - cp + 1) ∧ gs = (12 * (cp2 - cp) + 6))) := by
  refine kx_of (by decide) (Nat.le_of_ble_eq_true rfl) ?_
  intro p e s m args below meth c H locs B hr hex ls hl
  have hx := B.1.1
  have hb := B.1.2.1
  have hl : lv_has ls 5 [(0, .ref (Y 0 0)), (1, .int (iI v)), (2, .int (iI t)), (3, .int (iI ix))] := hl
  have hT := PR_TI hPR
  have hnb0 := TK_nb hK
  have hcp0 : 512 ≤ cp ∧ cp ≤ 131072 := by have q9 := hPR.2.2.2; unfold cpOk at q9; omega
  have hcap := hF.1
  refine lv_iload_n hx hb dX11_range_0 rfl (lv_at hl 1 rfl) ?_
  have B := bd_to (ws' := [] ++ ([] ++ tl)) rfl B
  refine k_Sx (rest := []) (wc := []) (wr := ([] ++ tl)) (k_checkVariant l dC dI k hl0 v hrv) B mS_X11_checkVariant mw_1287 hl ⟨Nat.le_of_ble_eq_true rfl, Nat.le_of_ble_eq_true rfl⟩ (Nat.le_of_ble_eq_true rfl) rfl dX11_range_1 ⟨by dsimp only; omega, by dsimp only; omega⟩ (fun E ce q9 w gc gs H locs hp B h1 h2 h3 => ?_) (fun r w gc gs H locs hp B => ?_)
  · skip
    obtain ⟨z_1, rfl, hw9, rfl, rfl⟩ := hp
    rw [hw9] at B; clear hw9
    have B := bd_swap (a := []) (b := tl) (d := []) B
    have B := bd_to (ws' := ([] ++ tl)) rfl B
    exact k_out hex (⟨O, L, C, X, cp, tl, hPR, hL, (by omega), (by omega), rfl, rfl, rfl, rfl⟩) B h1 h2 h3 ⟨(by first | omega | (dsimp only; omega)), (by first | omega | (dsimp only; omega))⟩ ⟨(by first | omega | (dsimp only; omega)), (by first | omega | (dsimp only; omega))⟩
  · skip
    obtain ⟨z_2, rfl, hw9, rfl, rfl⟩ := hp
    rw [hw9] at B; clear hw9
    have B := bd_swap (a := []) (b := tl) (d := []) B
    have B := bd_to (ws' := ([] ++ tl)) rfl B
    refine lv_iload_n hx hb dX11_range_4 rfl (lv_at hl 2 rfl) ?_
    have B := bd_to (ws' := [] ++ ([] ++ tl)) rfl B
    refine k_Sx (rest := []) (wc := []) (wr := ([] ++ tl)) (k_checkTerm l dC dI k hl0 t hrt) B mS_X11_checkTerm mw_1261 hl ⟨Nat.le_of_ble_eq_true rfl, Nat.le_of_ble_eq_true rfl⟩ (Nat.le_of_ble_eq_true rfl) rfl dX11_range_5 ⟨by dsimp only; omega, by dsimp only; omega⟩ (fun E ce q9 w gc gs H locs hp B h1 h2 h3 => ?_) (fun r w gc gs H locs hp B => ?_)
    · skip
      obtain ⟨z_3, rfl, hw9, rfl, rfl⟩ := hp
      rw [hw9] at B; clear hw9
      have B := bd_swap (a := []) (b := tl) (d := []) B
      have B := bd_to (ws' := ([] ++ tl)) rfl B
      exact k_out hex (⟨O, L, C, X, cp, tl, hPR, hL, (by omega), (by omega), rfl, rfl, rfl, rfl⟩) B h1 h2 h3 ⟨(by first | omega | (dsimp only; omega)), (by first | omega | (dsimp only; omega))⟩ ⟨(by first | omega | (dsimp only; omega)), (by first | omega | (dsimp only; omega))⟩
    · skip
      obtain ⟨z_4, rfl, hw9, rfl, rfl⟩ := hp
      rw [hw9] at B; clear hw9
      have B := bd_swap (a := []) (b := tl) (d := []) B
      have B := bd_to (ws' := ([] ++ tl)) rfl B
      refine lv_aload_n hx hb dX11_range_8 rfl (lv_at hl 0 rfl) ?_
      refine lv_iload_n hx hb dX11_range_9 rfl (lv_at hl 1 rfl) ?_
      have B := bd_swap (a := []) (b := []) (d := tl) (bd_to rfl B)
      obtain ⟨k_5, hk_5⟩ := pk_at (hs := []) (show (((Y 0 0), .inr (11, [.ref (A 50 0 0), .ref (Y 1 0), .ref (Y 2 0), .int (iI (K 0 0)), .ref (Y 3 0)])) : Nat × va_E) ∈ tl from PR_m hPR 0 0 rfl rfl)
      refine k_Vx (rest := []) (wc := ([] ++ tl)) (wr := []) (k_layoutOf l dC dI k hl0 T A X tl G Mc Y O L C K cp v hPR hK hL hcap hrv) B mV_X11_layoutOf mw_1367 hl (q0 := k_5) (ci := 11) hk_5 rfl rfl ⟨Nat.le_of_ble_eq_true rfl, Nat.le_of_ble_eq_true rfl⟩ (Nat.le_of_ble_eq_true rfl) rfl dX11_range_10 ⟨by dsimp only; omega, by dsimp only; omega⟩ (fun E ce q9 w gc gs H locs hp B h1 h2 h3 => ?_) (fun r w gc gs H locs hp B => ?_)
      · skip
        obtain ⟨z_6, rfl, hw9, rfl, rfl⟩ := hp
        rw [hw9] at B; clear hw9
        have B := bd_to (ws' := ([] ++ tl)) rfl B
        exact k_out hex (⟨O, L, C, X, cp, tl, hPR, hL, (by omega), (by omega), rfl, rfl, rfl, rfl⟩) B h1 h2 h3 ⟨(by first | omega | (dsimp only; omega)), (by first | omega | (dsimp only; omega))⟩ ⟨(by first | omega | (dsimp only; omega)), (by first | omega | (dsimp only; omega))⟩
      · skip
        obtain ⟨O2_7, L2_8, C2_9, X2_10, cp2_11, tl2_12, z_13, z_14, z_15, z_16, z_17, rfl, hw9, rfl, rfl⟩ := hp
        rw [hw9] at B; clear hw9
        have B := bd_to (ws' := ([] ++ tl2_12)) rfl B
        have hPR : PR dI k T A X2_10 G Mc Y O2_7 L2_8 C2_9 K cp2_11 tl2_12 := z_13
        have hLD : LD T v (L2_8 v) := z_14
        have hLo : ∀ u, u ≠ v → L2_8 u = L u := z_15
        have hT : TI dI k T A X2_10 tl2_12 := PR_TI hPR
        have hP9 : PgI (moC T v (dgN T v)) (mkZ T (moC T v (dgN T v))) := hF.2 v (by omega) (by omega)
        refine lv_iload_n hx hb dX11_range_13 rfl (lv_at hl 2 rfl) ?_
        refine lv_iload_n hx hb dX11_range_14 rfl (lv_at hl 3 rfl) ?_
        have B := bd_swap (a := []) (b := []) (d := tl2_12) (bd_to rfl B)
        obtain ⟨k_18, hk_18⟩ := pk_at (hs := []) (show (((Y 4 v), .inr (1, [.ref (A 50 0 0), .int (iI v), .ref (Y 5 0), .ref (Y 60 v), .ref (Y 61 v), .int (iI ((L2_8 v) 0 0)), .int (iI ((L2_8 v) 0 1)), .ref (Y 21 v), .ref (Y 22 v), .ref (Y 23 v), .ref (Y 24 v), .ref (Y 25 v), .ref (Y 26 v), .int (iI ((L2_8 v) 0 2)), .int (iI ((L2_8 v) 0 3)), .int (iI ((L2_8 v) 0 4)), .ref (Y 27 v)])) : Nat × va_E) ∈ tl2_12 from PR_ly hPR (show 0 ≤ v ∧ v ≤ 1 by omega) 0 rfl)
        refine k_V (rest := []) (wc := ([] ++ tl2_12)) (wr := []) (k_rangeOfP l dC dI k T A X2_10 tl2_12 G Mc Y O2_7 L2_8 C2_9 K cp2_11 v t ix z_13 hK z_14 z_2 (by omega) hrix) B mV_X1_rangeOf mw_1850 hl (q0 := k_18) (ci := 1) hk_18 rfl rfl ⟨Nat.le_of_ble_eq_true rfl, Nat.le_of_ble_eq_true rfl⟩ (Nat.le_of_ble_eq_true rfl) rfl dX11_range_15 ⟨by dsimp only; omega, by dsimp only; omega⟩ (fun r w gc gs H locs hp B => ?_)
        obtain ⟨L2_19, tl2_20, z_21, z_22, z_23, rfl, hw9, rfl, rfl⟩ := hp
        rw [hw9] at B; clear hw9
        have B := bd_to (ws' := ([] ++ tl2_20)) rfl B
        have hPR : PR dI k T A X2_10 G Mc Y O2_7 L2_19 C2_9 K cp2_11 tl2_20 := z_21
        have hT : TI dI k T A X2_10 tl2_20 := PR_TI hPR
        refine lv_istore (lv' := [(4, .int (iI (rgZ (fpZ T (moC T v (dgN T v)) (mkZ T (moC T v (dgN T v))) t) ix ((mkZ T (moC T v (dgN T v))) 0 0)))), (0, .ref (Y 0 0)), (1, .int (iI v)), (2, .int (iI t)), (3, .int (iI ix))]) hx hb dX11_range_18 hl (by decide) rfl (fun ls hl => ?_)
        refine lv_iload hx hb dX11_range_20 (lv_at hl 0 rfl) ?_
        refine lv_iconst (v := iI (-1)) hx hb dX11_range_22 (by decide) ?_
        refine lv_icmp_ne (tgt := 37) hx hb dX11_range_23 (by decide) (fun c_24 => ?_) (fun c_24 => ?_)
        · have zc_24 : (rgZ (fpZ T (moC T v (dgN T v)) (mkZ T (moC T v (dgN T v))) t) ix ((mkZ T (moC T v (dgN T v))) 0 0)) ≠ (-1) := jne (a := (rgZ (fpZ T (moC T v (dgN T v)) (mkZ T (moC T v (dgN T v))) t) ix ((mkZ T (moC T v (dgN T v))) 0 0))) (b := (-1)) (by omega) (by omega) c_24
          refine lv_iload hx hb dX11_range_37 (lv_at hl 0 rfl) ?_
          exact vx_ret (k_iret B hr (⟨O2_7, L2_19, C2_9, X2_10, cp2_11, tl2_20, hPR, (fun u a9 b9 => by by_cases e9 : u = v; (rw [e9]; exact Or.inr (LD_cg (fun c h => z_22 v c (Or.inr h)) hLD)); (rw [show L2_19 u = L u from (funext (fun c => z_22 u c (Or.inl e9))).trans (hLo u e9)]; exact hL u a9 b9)), z_16, (by omega), rfl, rfl, rfl, rfl⟩) ⟨(by first | omega | (dsimp only; omega)), (by first | omega | (dsimp only; omega))⟩ ⟨(by first | omega | (dsimp only; omega)), (by first | omega | (dsimp only; omega))⟩ dX11_range_39)
        · have zc_24 : (rgZ (fpZ T (moC T v (dgN T v)) (mkZ T (moC T v (dgN T v))) t) ix ((mkZ T (moC T v (dgN T v))) 0 0)) = (-1) := jeq (a := (rgZ (fpZ T (moC T v (dgN T v)) (mkZ T (moC T v (dgN T v))) t) ix ((mkZ T (moC T v (dgN T v))) 0 0))) (b := (-1)) (by omega) (by omega) c_24
          exact k_thrWG (tx := "no such range") xE_ioobe (⟨O2_7, L2_19, C2_9, X2_10, cp2_11, tl2_20, hPR, (fun u a9 b9 => by by_cases e9 : u = v; (rw [e9]; exact Or.inr (LD_cg (fun c h => z_22 v c (Or.inr h)) hLD)); (rw [show L2_19 u = L u from (funext (fun c => z_22 u c (Or.inl e9))).trans (hLo u e9)]; exact hL u a9 b9)), z_16, (by omega), rfl, rfl, rfl, rfl⟩) ⟨(by first | omega | (dsimp only; omega)), (by first | omega | (dsimp only; omega))⟩ hl0 B hex hl (by decide +kernel) dX11_range_26 dX11_range_29 dX11_range_30 dX11_range_33 dX11_range_36 ⟨(by first | exact Nat.le_of_ble_eq_true rfl | omega | (dsimp only; omega)), (by first | exact Nat.le_of_ble_eq_true rfl | omega | (dsimp only; omega)), (by first | omega | (dsimp only; omega)), (by first | omega | (dsimp only; omega))⟩ ⟨(by first | omega | (dsimp only; omega)), (by first | omega | (dsimp only; omega))⟩

theorem mw_1172 : (Jvm.Cond.fieldLink "Galleyforge" (245 : Nat) "Galleyforge$Block" "kind" "I") ∈ gt := gt_at 1242 (by decide +kernel) (by decide +kernel)
theorem mw_1291 : (Jvm.Cond.methodLink "Galleyforge" (241 : Nat) ({ cls := "Galleyforge$Block", name := "isThere", desc := "(I)Z" } : Jvm.MethodName)) ∈ gt := gt_at 1361 (by decide +kernel) (by decide +kernel)
theorem mw_1295 : (Jvm.Cond.methodLink "Galleyforge" (248 : Nat) ({ cls := "Galleyforge$Text", name := "headingNumber", desc := "(II)I" } : Jvm.MethodName)) ∈ gt := gt_at 1365 (by decide +kernel) (by decide +kernel)
theorem mw_1296 : (Jvm.Cond.instanceMethod ({ cls := "Galleyforge$Text", name := "headingNumber", desc := "(II)I" } : Jvm.MethodName)) ∈ gt := gt_at 1366 (by decide +kernel) (by decide +kernel)
theorem mw_1297 : (Jvm.Cond.selects "Galleyforge$Text" ({ cls := "Galleyforge$Text", name := "headingNumber", desc := "(II)I" } : Jvm.MethodName) ({ cls := "Galleyforge$Text", name := "headingNumber", desc := "(II)I" } : Jvm.MethodName)) ∈ gt := gt_at 1367 (by decide +kernel) (by decide +kernel)
theorem mw_1298 : (Jvm.Cond.code ({ cls := "Galleyforge$Text", name := "headingNumber", desc := "(II)I" } : Jvm.MethodName) prog_11_method_5_code (7 : Nat) (Option.some Jvm.ClassFile.FieldType.int)) ∈ gt := gt_at 1368 (by decide +kernel) (by decide +kernel)
theorem mw_1300 : (Jvm.Cond.methodLink "Galleyforge" (252 : Nat) ({ cls := "Galleyforge$Block", name := "isNumbered", desc := "()Z" } : Jvm.MethodName)) ∈ gt := gt_at 1370 (by decide +kernel) (by decide +kernel)
theorem mw_1304 : (Jvm.Cond.methodLink "Galleyforge" (256 : Nat) ({ cls := "Galleyforge$Text", name := "paragraphNumber", desc := "(II)I" } : Jvm.MethodName)) ∈ gt := gt_at 1374 (by decide +kernel) (by decide +kernel)
theorem mw_1305 : (Jvm.Cond.instanceMethod ({ cls := "Galleyforge$Text", name := "paragraphNumber", desc := "(II)I" } : Jvm.MethodName)) ∈ gt := gt_at 1375 (by decide +kernel) (by decide +kernel)
theorem mw_1306 : (Jvm.Cond.selects "Galleyforge$Text" ({ cls := "Galleyforge$Text", name := "paragraphNumber", desc := "(II)I" } : Jvm.MethodName) ({ cls := "Galleyforge$Text", name := "paragraphNumber", desc := "(II)I" } : Jvm.MethodName)) ∈ gt := gt_at 1376 (by decide +kernel) (by decide +kernel)
theorem mw_1307 : (Jvm.Cond.code ({ cls := "Galleyforge$Text", name := "paragraphNumber", desc := "(II)I" } : Jvm.MethodName) prog_11_method_6_code (7 : Nat) (Option.some Jvm.ClassFile.FieldType.int)) ∈ gt := gt_at 1377 (by decide +kernel) (by decide +kernel)
theorem mV_X9_headingNumber : mV yX9_headingNumber cX9_headingNumber 7 (some .int) 2 := ⟨⟨mw_1298, mw_2, by decide, by decide, by decide +kernel⟩, mw_1296, mw_1297⟩
theorem mV_X9_paragraphNumber : mV yX9_paragraphNumber cX9_paragraphNumber 7 (some .int) 2 := ⟨⟨mw_1307, mw_2, by decide, by decide, by decide +kernel⟩, mw_1305, mw_1306⟩
theorem dX11_number_0 : decode cX11_number 0 = .ok (.iload_n 1, 1) := by decide +kernel
theorem dX11_number_1 : decode cX11_number 1 = .ok (.invokestatic 238, 3) := by decide +kernel
theorem dX11_number_4 : decode cX11_number 4 = .ok (.aload_n 0, 1) := by decide +kernel
theorem dX11_number_5 : decode cX11_number 5 = .ok (.iload_n 2, 1) := by decide +kernel
theorem dX11_number_6 : decode cX11_number 6 = .ok (.invokevirtual 109, 3) := by decide +kernel
theorem dX11_number_9 : decode cX11_number 9 = .ok (.astore_n 3, 1) := by decide +kernel
theorem dX11_number_10 : decode cX11_number 10 = .ok (.aload_n 3, 1) := by decide +kernel
theorem dX11_number_11 : decode cX11_number 11 = .ok (.iload_n 1, 1) := by decide +kernel
theorem dX11_number_12 : decode cX11_number 12 = .ok (.invokevirtual 241, 3) := by decide +kernel
theorem dX11_number_15 : decode cX11_number 15 = .ok (.ifCond .ne 5, 3) := by decide +kernel
theorem dX11_number_18 : decode cX11_number 18 = .ok (.iconst (-1), 1) := by decide +kernel
theorem dX11_number_19 : decode cX11_number 19 = .ok (.ireturn, 1) := by decide +kernel
theorem dX11_number_20 : decode cX11_number 20 = .ok (.aload_n 3, 1) := by decide +kernel
theorem dX11_number_21 : decode cX11_number 21 = .ok (.getfield 245, 3) := by decide +kernel
theorem dX11_number_24 : decode cX11_number 24 = .ok (.iconst 1, 1) := by decide +kernel
theorem dX11_number_25 : decode cX11_number 25 = .ok (.if_icmp .ne 13, 3) := by decide +kernel
theorem dX11_number_28 : decode cX11_number 28 = .ok (.aload_n 0, 1) := by decide +kernel
theorem dX11_number_29 : decode cX11_number 29 = .ok (.getfield 12, 3) := by decide +kernel
theorem dX11_number_32 : decode cX11_number 32 = .ok (.iload_n 1, 1) := by decide +kernel
theorem dX11_number_33 : decode cX11_number 33 = .ok (.iload_n 2, 1) := by decide +kernel
theorem dX11_number_34 : decode cX11_number 34 = .ok (.invokevirtual 248, 3) := by decide +kernel
theorem dX11_number_37 : decode cX11_number 37 = .ok (.ireturn, 1) := by decide +kernel
theorem dX11_number_38 : decode cX11_number 38 = .ok (.aload_n 3, 1) := by decide +kernel
theorem dX11_number_39 : decode cX11_number 39 = .ok (.invokevirtual 252, 3) := by decide +kernel
theorem dX11_number_42 : decode cX11_number 42 = .ok (.ifCond .eq 15, 3) := by decide +kernel
theorem dX11_number_45 : decode cX11_number 45 = .ok (.aload_n 0, 1) := by decide +kernel
theorem dX11_number_46 : decode cX11_number 46 = .ok (.getfield 12, 3) := by decide +kernel
theorem dX11_number_49 : decode cX11_number 49 = .ok (.iload_n 1, 1) := by decide +kernel
theorem dX11_number_50 : decode cX11_number 50 = .ok (.iload_n 2, 1) := by decide +kernel
theorem dX11_number_51 : decode cX11_number 51 = .ok (.invokevirtual 256, 3) := by decide +kernel
theorem dX11_number_54 : decode cX11_number 54 = .ok (.goto 4, 3) := by decide +kernel
theorem dX11_number_57 : decode cX11_number 57 = .ok (.iconst 0, 1) := by decide +kernel
theorem dX11_number_58 : decode cX11_number 58 = .ok (.ireturn, 1) := by decide +kernel
set_option maxHeartbeats 4000000 in
set_option maxRecDepth 100000 in
theorem k_number (l : Launch) (dC : Nat → ClassId) (dI : Nat → Nat → Nat) (k : Nat → ClassId) (hl0 : l.stackTraces = false) (T : Nat → Int → Int → Int → Int) (A : Nat → Int → Int → Nat) (X : Nat → Int → Int → Int) (tl : va_W) (G : Nat → Int → Nat) (Mc : Nat → Int → Int) (Y : Nat → Int → Nat) (O : Nat → Nat) (L : Int → Nat → Int → Int) (C : Nat → Int → Int) (K : Nat → Int → Int) (cp : Nat) (v : Int) (pl : Int) (hPR : PR dI k T A X G Mc Y O L C K cp tl) (hK : TK T) (hL : ∀ u, 0 ≤ u → u ≤ 1 → LSq T u (L u)) (hF : FINE T) (hrv : -2147483648 ≤ v ∧ v < 2147483648) (hrpl : -2147483648 ≤ pl ∧ pl < 2147483648) : Kx l dC dI k yX11_number (.code yX11_number cX11_number 4 (some .int)) ({ frames := 8, cells := (131072 - cp + 1), slots := (12 * (131072 - cp) + 6), locals := 124 } : Room) [.ref (Y 0 0), .int (iI v), .int (iI pl)] ([] ++ tl) (fun r w gc gs => (∃ (O2 : Nat → Nat) (L2 : Int → Nat → Int → Int) (C2 : Nat → Int → Int) (X2 : Nat → Int → Int → Int) (cp2 : Nat) (tl2 : va_W), (PR dI k T A X2 G Mc Y O2 L2 C2 K cp2 tl2) ∧ (∀ u, 0 ≤ u → u ≤ 1 → LSq T u (L2 u)) ∧ (cp ≤ cp2 ∧ cp2 ≤ 131072) ∧ ((0 ≤ v ∧ v ≤ 1) ∧ (0 ≤ pl ∧ pl < T 0 0 0 0)) ∧ r = some (.int (iI (nuZ T v pl))) ∧ w = ([] ++ tl2) ∧ gc = (cp2 - cp) ∧ gs = (12 * (cp2 - cp)))) (fun E w gc gs => (∃ (O2 : Nat → Nat) (L2 : Int → Nat → Int → Int) (C2 : Nat → Int → Int) (X2 : Nat → Int → Int → Int) (cp2 : Nat) (tl2 : va_W), (PR dI k T A X2 G Mc Y O2 L2 C2 K cp2 tl2) ∧ (∀ u, 0 ≤ u → u ≤ 1 → LSq T u (L2 u)) ∧ (cp ≤ cp2 ∧ cp2 ≤ 131072) ∧ (¬ ((0 ≤ v ∧ v ≤ 1) ∧ (0 ≤ pl ∧ pl < T 0 0 0 0))) ∧ E = "java/lang/IndexOutOfBoundsException" ∧ w = ([] ++ tl2) ∧ gc = (cp2 - cp + 1) ∧ gs = (12 * (cp2 - cp) + 6))) := by
  refine kx_of (by decide) (Nat.le_of_ble_eq_true rfl) ?_
  intro p e s m args below meth c H locs B hr hex ls hl
  have hx := B.1.1
  have hb := B.1.2.1
  have hl : lv_has ls 4 [(0, .ref (Y 0 0)), (1, .int (iI v)), (2, .int (iI pl))] := hl
  have hT := PR_TI hPR
  have hnb0 := TK_nb hK
  have hcp0 : 512 ≤ cp ∧ cp ≤ 131072 := by have q9 := hPR.2.2.2; unfold cpOk at q9; omega
  have hcap := hF.1
  refine lv_iload_n hx hb dX11_number_0 rfl (lv_at hl 1 rfl) ?_
  have B := bd_to (ws' := [] ++ ([] ++ tl)) rfl B
  refine k_Sx (rest := []) (wc := []) (wr := ([] ++ tl)) (k_checkVariant l dC dI k hl0 v hrv) B mS_X11_checkVariant mw_1287 hl ⟨Nat.le_of_ble_eq_true rfl, Nat.le_of_ble_eq_true rfl⟩ (Nat.le_of_ble_eq_true rfl) rfl dX11_number_1 ⟨by dsimp only; omega, by dsimp only; omega⟩ (fun E ce q9 w gc gs H locs hp B h1 h2 h3 => ?_) (fun r w gc gs H locs hp B => ?_)
  · skip
    obtain ⟨z_1, rfl, hw9, rfl, rfl⟩ := hp
    rw [hw9] at B; clear hw9
    have B := bd_swap (a := []) (b := tl) (d := []) B
    have B := bd_to (ws' := ([] ++ tl)) rfl B
    exact k_out hex (⟨O, L, C, X, cp, tl, hPR, hL, (by omega), (by omega), rfl, rfl, rfl, rfl⟩) B h1 h2 h3 ⟨(by first | omega | (dsimp only; omega)), (by first | omega | (dsimp only; omega))⟩ ⟨(by first | omega | (dsimp only; omega)), (by first | omega | (dsimp only; omega))⟩
  · skip
    obtain ⟨z_2, rfl, hw9, rfl, rfl⟩ := hp
    rw [hw9] at B; clear hw9
    have B := bd_swap (a := []) (b := tl) (d := []) B
    have B := bd_to (ws' := ([] ++ tl)) rfl B
    refine lv_aload_n hx hb dX11_number_4 rfl (lv_at hl 0 rfl) ?_
    refine lv_iload_n hx hb dX11_number_5 rfl (lv_at hl 2 rfl) ?_
    have B := bd_swap (a := []) (b := []) (d := tl) (bd_to rfl B)
    obtain ⟨k_3, hk_3⟩ := pk_at (hs := []) (show (((Y 0 0), .inr (11, [.ref (A 50 0 0), .ref (Y 1 0), .ref (Y 2 0), .int (iI (K 0 0)), .ref (Y 3 0)])) : Nat × va_E) ∈ tl from PR_m hPR 0 0 rfl rfl)
    refine k_Vx (rest := []) (wc := ([] ++ tl)) (wr := []) (k_blockAt l dC dI k hl0 T A X tl G Mc Y O L C K cp pl hPR hK hrpl) B mV_X11_blockAt mw_784 hl (q0 := k_3) (ci := 11) hk_3 rfl rfl ⟨Nat.le_of_ble_eq_true rfl, Nat.le_of_ble_eq_true rfl⟩ (Nat.le_of_ble_eq_true rfl) rfl dX11_number_6 ⟨by dsimp only; omega, by dsimp only; omega⟩ (fun E ce q9 w gc gs H locs hp B h1 h2 h3 => ?_) (fun r w gc gs H locs hp B => ?_)
    · skip
      obtain ⟨z_4, rfl, hw9, rfl, rfl⟩ := hp
      rw [hw9] at B; clear hw9
      have B := bd_to (ws' := ([] ++ tl)) rfl B
      exact k_out hex (⟨O, L, C, X, cp, tl, hPR, hL, (by omega), (by omega), rfl, rfl, rfl, rfl⟩) B h1 h2 h3 ⟨(by first | omega | (dsimp only; omega)), (by first | omega | (dsimp only; omega))⟩ ⟨(by first | omega | (dsimp only; omega)), (by first | omega | (dsimp only; omega))⟩
    · skip
      obtain ⟨z_5, rfl, hw9, rfl, rfl⟩ := hp
      rw [hw9] at B; clear hw9
      have B := bd_to (ws' := ([] ++ tl)) rfl B
      refine lv_astore_n (lv' := [(3, .ref (A 0 pl 0)), (0, .ref (Y 0 0)), (1, .int (iI v)), (2, .int (iI pl))]) hx hb dX11_number_9 rfl hl (by decide) rfl (fun ls hl => ?_)
      refine lv_aload_n hx hb dX11_number_10 rfl (lv_at hl 0 rfl) ?_
      refine lv_iload_n hx hb dX11_number_11 rfl (lv_at hl 2 rfl) ?_
      have B := bd_swap (a := []) (b := []) (d := tl) (bd_to rfl B)
      obtain ⟨k_6, hk_6⟩ := pk_at (hs := []) (hT.2.2.2.1 pl (by omega) (by omega)).1
      refine k_V (rest := []) (wc := ([] ++ tl)) (wr := []) (k_thB l dC dI k T A X tl pl v hT hK z_5 z_2) B mV_X0_isThere mw_1291 hl (q0 := k_6) (ci := 0) hk_6 rfl rfl ⟨Nat.le_of_ble_eq_true rfl, Nat.le_of_ble_eq_true rfl⟩ (Nat.le_of_ble_eq_true rfl) rfl dX11_number_12 ⟨by dsimp only; omega, by dsimp only; omega⟩ (fun r w gc gs H locs hp B => ?_)
      rcases hp with ⟨z_7, rfl, hw9, rfl, rfl⟩ | ⟨z_8, rfl, hw9, rfl, rfl⟩
      · skip
        rw [hw9] at B; clear hw9
        have B := bd_to (ws' := ([] ++ tl)) rfl B
        refine lv_if_ne (tgt := 20) hx hb dX11_number_15 (by decide) (fun _ => ?_) (fun c9 => absurd c9 (by decide))
        refine lv_aload_n hx hb dX11_number_20 rfl (lv_at hl 0 rfl) ?_
        obtain ⟨k_9, hk_9⟩ := pk_at (hs := []) (hT.2.2.2.1 pl (by omega) (by omega)).1
        refine x_get (ci := 0) (C := RX0) (T := TX0) (N := 4) (v := .int (iI (T 1 pl 0 0))) B k_9 hk_9 rfl in_X0 0 (by decide) mw_1172 (fun _ h9 => h9) rfl dX11_number_21 ?_
        have z_10 : 0 ≤ T 1 pl 0 0 ∧ T 1 pl 0 0 ≤ 6 := TK_kind hK pl
        refine lv_iconst (v := iI 1) hx hb dX11_number_24 (by decide) ?_
        refine lv_icmp_ne (tgt := 38) hx hb dX11_number_25 (by decide) (fun c_11 => ?_) (fun c_11 => ?_)
        · have zc_11 : (T 1 pl 0 0) ≠ 1 := jne (a := (T 1 pl 0 0)) (b := 1) (by omega) (by omega) c_11
          refine lv_aload_n hx hb dX11_number_38 rfl (lv_at hl 0 rfl) ?_
          have B := bd_swap (a := []) (b := []) (d := tl) (bd_to rfl B)
          obtain ⟨k_12, hk_12⟩ := pk_at (hs := []) (hT.2.2.2.1 pl (by omega) (by omega)).1
          refine k_V (rest := []) (wc := ([] ++ tl)) (wr := []) (k_isNumbered l dC dI k T A X tl pl hT hK z_5) B mV_X0_isNumbered mw_1300 hl (q0 := k_12) (ci := 0) hk_12 rfl rfl ⟨Nat.le_of_ble_eq_true rfl, Nat.le_of_ble_eq_true rfl⟩ (Nat.le_of_ble_eq_true rfl) rfl dX11_number_39 ⟨by dsimp only; omega, by dsimp only; omega⟩ (fun r w gc gs H locs hp B => ?_)
          rcases hp with ⟨z_13, rfl, hw9, rfl, rfl⟩ | ⟨z_14, rfl, hw9, rfl, rfl⟩
          · skip
            rw [hw9] at B; clear hw9
            have B := bd_to (ws' := ([] ++ tl)) rfl B
            refine lv_if_eq (tgt := 57) hx hb dX11_number_42 (by decide) (fun c9 => absurd c9 (by decide)) (fun _ => ?_)
            refine lv_aload_n hx hb dX11_number_45 rfl (lv_at hl 1 rfl) ?_
            obtain ⟨k_15, hk_15⟩ := pk_at (hs := []) (show (((Y 0 0), .inr (11, [.ref (A 50 0 0), .ref (Y 1 0), .ref (Y 2 0), .int (iI (K 0 0)), .ref (Y 3 0)])) : Nat × va_E) ∈ tl from PR_m hPR 0 0 rfl rfl)
            refine x_get (ci := 11) (C := RX11) (T := TX11) (N := 5) (v := .ref (A 50 0 0)) B k_15 hk_15 rfl in_X11 0 (by decide) mw_474 (fun _ h9 => h9) rfl dX11_number_46 ?_
            refine lv_iload_n hx hb dX11_number_49 rfl (lv_at hl 2 rfl) ?_
            refine lv_iload_n hx hb dX11_number_50 rfl (lv_at hl 3 rfl) ?_
            have B := bd_swap (a := []) (b := []) (d := tl) (bd_to rfl B)
            obtain ⟨k_16, hk_16⟩ := pk_at (hs := []) hT.1.1
            refine k_V (rest := []) (wc := ([] ++ tl)) (wr := []) (k_paragraphNumber l dC dI k T A X tl v pl hT hK z_2 z_5) B mV_X9_paragraphNumber mw_1304 hl (q0 := k_16) (ci := 9) hk_16 rfl rfl ⟨Nat.le_of_ble_eq_true rfl, Nat.le_of_ble_eq_true rfl⟩ (Nat.le_of_ble_eq_true rfl) rfl dX11_number_51 ⟨by dsimp only; omega, by dsimp only; omega⟩ (fun r w gc gs H locs hp B => ?_)
            obtain ⟨z_17, rfl, hw9, rfl, rfl⟩ := hp
            rw [hw9] at B; clear hw9
            have B := bd_to (ws' := ([] ++ tl)) rfl B
            refine lv_goto (tgt := 58) hx hb dX11_number_54 (by decide) ?_
            have e_18 : (nuZ T v pl) = (prZ T v pl) := (by unfold nuZ; rw [if_neg (fun q9 => q9 z_7)]; first | (rw [if_pos (by omega)]; done) | (rw [if_neg (by omega), if_pos (by omega)]; done) | (rw [if_neg (by omega), if_neg (by omega)]; done))
            skip
            exact vx_ret (k_iret B hr (⟨O, L, C, X, cp, tl, hPR, hL, (by omega), (by omega), (by rw [e_18]), rfl, rfl, rfl⟩) ⟨(by first | omega | (dsimp only; omega)), (by first | omega | (dsimp only; omega))⟩ ⟨(by first | omega | (dsimp only; omega)), (by first | omega | (dsimp only; omega))⟩ dX11_number_58)
          · skip
            rw [hw9] at B; clear hw9
            have B := bd_to (ws' := ([] ++ tl)) rfl B
            refine lv_if_eq (tgt := 57) hx hb dX11_number_42 (by decide) (fun _ => ?_) (fun c9 => absurd (by decide) c9)
            refine lv_iconst (v := iI 0) hx hb dX11_number_57 (by decide) ?_
            have e_19 : (nuZ T v pl) = 0 := (by unfold nuZ; rw [if_neg (fun q9 => q9 z_7)]; first | (rw [if_pos (by omega)]; done) | (rw [if_neg (by omega), if_pos (by omega)]; done) | (rw [if_neg (by omega), if_neg (by omega)]; done))
            skip
            exact vx_ret (k_iret B hr (⟨O, L, C, X, cp, tl, hPR, hL, (by omega), (by omega), (by rw [e_19]), rfl, rfl, rfl⟩) ⟨(by first | omega | (dsimp only; omega)), (by first | omega | (dsimp only; omega))⟩ ⟨(by first | omega | (dsimp only; omega)), (by first | omega | (dsimp only; omega))⟩ dX11_number_58)
        · have zc_11 : (T 1 pl 0 0) = 1 := jeq (a := (T 1 pl 0 0)) (b := 1) (by omega) (by omega) c_11
          refine lv_aload_n hx hb dX11_number_28 rfl (lv_at hl 1 rfl) ?_
          obtain ⟨k_20, hk_20⟩ := pk_at (hs := []) (show (((Y 0 0), .inr (11, [.ref (A 50 0 0), .ref (Y 1 0), .ref (Y 2 0), .int (iI (K 0 0)), .ref (Y 3 0)])) : Nat × va_E) ∈ tl from PR_m hPR 0 0 rfl rfl)
          refine x_get (ci := 11) (C := RX11) (T := TX11) (N := 5) (v := .ref (A 50 0 0)) B k_20 hk_20 rfl in_X11 0 (by decide) mw_474 (fun _ h9 => h9) rfl dX11_number_29 ?_
          refine lv_iload_n hx hb dX11_number_32 rfl (lv_at hl 2 rfl) ?_
          refine lv_iload_n hx hb dX11_number_33 rfl (lv_at hl 3 rfl) ?_
          have B := bd_swap (a := []) (b := []) (d := tl) (bd_to rfl B)
          obtain ⟨k_21, hk_21⟩ := pk_at (hs := []) hT.1.1
          refine k_V (rest := []) (wc := ([] ++ tl)) (wr := []) (k_headingNumber l dC dI k T A X tl v pl hT hK z_2 z_5) B mV_X9_headingNumber mw_1295 hl (q0 := k_21) (ci := 9) hk_21 rfl rfl ⟨Nat.le_of_ble_eq_true rfl, Nat.le_of_ble_eq_true rfl⟩ (Nat.le_of_ble_eq_true rfl) rfl dX11_number_34 ⟨by dsimp only; omega, by dsimp only; omega⟩ (fun r w gc gs H locs hp B => ?_)
          obtain ⟨z_22, rfl, hw9, rfl, rfl⟩ := hp
          rw [hw9] at B; clear hw9
          have B := bd_to (ws' := ([] ++ tl)) rfl B
          have e_23 : (nuZ T v pl) = (hnZ T v pl) := (by unfold nuZ; rw [if_neg (fun q9 => q9 z_7)]; first | (rw [if_pos (by omega)]; done) | (rw [if_neg (by omega), if_pos (by omega)]; done) | (rw [if_neg (by omega), if_neg (by omega)]; done))
          skip
          exact vx_ret (k_iret B hr (⟨O, L, C, X, cp, tl, hPR, hL, (by omega), (by omega), (by rw [e_23]), rfl, rfl, rfl⟩) ⟨(by first | omega | (dsimp only; omega)), (by first | omega | (dsimp only; omega))⟩ ⟨(by first | omega | (dsimp only; omega)), (by first | omega | (dsimp only; omega))⟩ dX11_number_37)
      · skip
        rw [hw9] at B; clear hw9
        have B := bd_to (ws' := ([] ++ tl)) rfl B
        refine lv_if_ne (tgt := 20) hx hb dX11_number_15 (by decide) (fun c9 => absurd c9 (by decide)) (fun _ => ?_)
        refine lv_iconst (v := iI (-1)) hx hb dX11_number_18 (by decide) ?_
        have e_24 : (nuZ T v pl) = (-1) := (by unfold nuZ; rw [if_pos z_8])
        skip
        exact vx_ret (k_iret B hr (⟨O, L, C, X, cp, tl, hPR, hL, (by omega), (by omega), (by rw [e_24]), rfl, rfl, rfl⟩) ⟨(by first | omega | (dsimp only; omega)), (by first | omega | (dsimp only; omega))⟩ ⟨(by first | omega | (dsimp only; omega)), (by first | omega | (dsimp only; omega))⟩ dX11_number_19)

theorem mw_773 : (Jvm.Cond.methodLink "Galleyforge" (316 : Nat) ({ cls := "Galleyforge$Layout", name := "forget", desc := "()V" } : Jvm.MethodName)) ∈ gt := gt_at 843 (by decide +kernel) (by decide +kernel)
theorem mw_774 : (Jvm.Cond.instanceMethod ({ cls := "Galleyforge$Layout", name := "forget", desc := "()V" } : Jvm.MethodName)) ∈ gt := gt_at 844 (by decide +kernel) (by decide +kernel)
theorem mw_775 : (Jvm.Cond.selects "Galleyforge$Layout" ({ cls := "Galleyforge$Layout", name := "forget", desc := "()V" } : Jvm.MethodName) ({ cls := "Galleyforge$Layout", name := "forget", desc := "()V" } : Jvm.MethodName)) ∈ gt := gt_at 845 (by decide +kernel) (by decide +kernel)
theorem mw_776 : (Jvm.Cond.code ({ cls := "Galleyforge$Layout", name := "forget", desc := "()V" } : Jvm.MethodName) prog_3_method_2_code (1 : Nat) (Option.none : Option Jvm.ClassFile.FieldType)) ∈ gt := gt_at 846 (by decide +kernel) (by decide +kernel)
theorem mV_X1_forget : mV yX1_forget cX1_forget 1 none 0 := ⟨⟨mw_776, mw_8, by decide, by decide, by decide +kernel⟩, mw_774, mw_775⟩
theorem dX11_costAnew_0 : decode cX11_costAnew 0 = .ok (.iload_n 1, 1) := by decide +kernel
theorem dX11_costAnew_1 : decode cX11_costAnew 1 = .ok (.invokestatic 238, 3) := by decide +kernel
theorem dX11_costAnew_4 : decode cX11_costAnew 4 = .ok (.aload_n 0, 1) := by decide +kernel
theorem dX11_costAnew_5 : decode cX11_costAnew 5 = .ok (.getfield 27, 3) := by decide +kernel
theorem dX11_costAnew_8 : decode cX11_costAnew 8 = .ok (.iload_n 1, 1) := by decide +kernel
theorem dX11_costAnew_9 : decode cX11_costAnew 9 = .ok (.aaload, 1) := by decide +kernel
theorem dX11_costAnew_10 : decode cX11_costAnew 10 = .ok (.invokevirtual 316, 3) := by decide +kernel
theorem dX11_costAnew_13 : decode cX11_costAnew 13 = .ok (.aload_n 0, 1) := by decide +kernel
theorem dX11_costAnew_14 : decode cX11_costAnew 14 = .ok (.iload_n 1, 1) := by decide +kernel
theorem dX11_costAnew_15 : decode cX11_costAnew 15 = .ok (.invokevirtual 279, 3) := by decide +kernel
theorem dX11_costAnew_18 : decode cX11_costAnew 18 = .ok (.getfield 304, 3) := by decide +kernel
theorem dX11_costAnew_21 : decode cX11_costAnew 21 = .ok (.getfield 313, 3) := by decide +kernel
theorem dX11_costAnew_24 : decode cX11_costAnew 24 = .ok (.ireturn, 1) := by decide +kernel
set_option maxHeartbeats 4000000 in
set_option maxRecDepth 100000 in
theorem k_costAnew (l : Launch) (dC : Nat → ClassId) (dI : Nat → Nat → Nat) (k : Nat → ClassId) (hl0 : l.stackTraces = false) (T : Nat → Int → Int → Int → Int) (A : Nat → Int → Int → Nat) (X : Nat → Int → Int → Int) (tl : va_W) (G : Nat → Int → Nat) (Mc : Nat → Int → Int) (Y : Nat → Int → Nat) (O : Nat → Nat) (L : Int → Nat → Int → Int) (C : Nat → Int → Int) (K : Nat → Int → Int) (cp : Nat) (v : Int) (hPR : PR dI k T A X G Mc Y O L C K cp tl) (hK : TK T) (hL : ∀ u, 0 ≤ u → u ≤ 1 → LSq T u (L u)) (hF : FINE T) (hrv : -2147483648 ≤ v ∧ v < 2147483648) : Kx l dC dI k yX11_costAnew (.code yX11_costAnew cX11_costAnew 2 (some .int)) ({ frames := 9, cells := (131072 - cp + 1), slots := (12 * (131072 - cp) + 6), locals := 205 } : Room) [.ref (Y 0 0), .int (iI v)] ([] ++ tl) (fun r w gc gs => (∃ (O2 : Nat → Nat) (L2 : Int → Nat → Int → Int) (C2 : Nat → Int → Int) (X2 : Nat → Int → Int → Int) (cp2 : Nat) (tl2 : va_W), (PR dI k T A X2 G Mc Y O2 L2 C2 K cp2 tl2) ∧ (∀ u, 0 ≤ u → u ≤ 1 → LSq T u (L2 u)) ∧ (cp ≤ cp2 ∧ cp2 ≤ 131072) ∧ ((0 ≤ v ∧ v ≤ 1)) ∧ r = some (.int (iI ((mkZ T (moC T v (dgN T v))) 0 1))) ∧ w = ([] ++ tl2) ∧ gc = (cp2 - cp) ∧ gs = (12 * (cp2 - cp)))) (fun E w gc gs => (∃ (O2 : Nat → Nat) (L2 : Int → Nat → Int → Int) (C2 : Nat → Int → Int) (X2 : Nat → Int → Int → Int) (cp2 : Nat) (tl2 : va_W), (PR dI k T A X2 G Mc Y O2 L2 C2 K cp2 tl2) ∧ (∀ u, 0 ≤ u → u ≤ 1 → LSq T u (L2 u)) ∧ (cp ≤ cp2 ∧ cp2 ≤ 131072) ∧ (¬ ((0 ≤ v ∧ v ≤ 1))) ∧ E = "java/lang/IndexOutOfBoundsException" ∧ w = ([] ++ tl2) ∧ gc = (cp2 - cp + 1) ∧ gs = (12 * (cp2 - cp) + 6))) := by
  refine kx_of (by decide) (Nat.le_of_ble_eq_true rfl) ?_
  intro p e s m args below meth c H locs B hr hex ls hl
  have hx := B.1.1
  have hb := B.1.2.1
  have hl : lv_has ls 2 [(0, .ref (Y 0 0)), (1, .int (iI v))] := hl
  have hT := PR_TI hPR
  have hnb0 := TK_nb hK
  have hcp0 : 512 ≤ cp ∧ cp ≤ 131072 := by have q9 := hPR.2.2.2; unfold cpOk at q9; omega
  have hcap := hF.1
  refine lv_iload_n hx hb dX11_costAnew_0 rfl (lv_at hl 1 rfl) ?_
  have B := bd_to (ws' := [] ++ ([] ++ tl)) rfl B
  refine k_Sx (rest := []) (wc := []) (wr := ([] ++ tl)) (k_checkVariant l dC dI k hl0 v hrv) B mS_X11_checkVariant mw_1287 hl ⟨Nat.le_of_ble_eq_true rfl, Nat.le_of_ble_eq_true rfl⟩ (Nat.le_of_ble_eq_true rfl) rfl dX11_costAnew_1 ⟨by dsimp only; omega, by dsimp only; omega⟩ (fun E ce q9 w gc gs H locs hp B h1 h2 h3 => ?_) (fun r w gc gs H locs hp B => ?_)
  · skip
    obtain ⟨z_1, rfl, hw9, rfl, rfl⟩ := hp
    rw [hw9] at B; clear hw9
    have B := bd_swap (a := []) (b := tl) (d := []) B
    have B := bd_to (ws' := ([] ++ tl)) rfl B
    exact k_out hex (⟨O, L, C, X, cp, tl, hPR, hL, (by omega), (by omega), rfl, rfl, rfl, rfl⟩) B h1 h2 h3 ⟨(by first | omega | (dsimp only; omega)), (by first | omega | (dsimp only; omega))⟩ ⟨(by first | omega | (dsimp only; omega)), (by first | omega | (dsimp only; omega))⟩
  · skip
    obtain ⟨z_2, rfl, hw9, rfl, rfl⟩ := hp
    rw [hw9] at B; clear hw9
    have B := bd_swap (a := []) (b := tl) (d := []) B
    have B := bd_to (ws' := ([] ++ tl)) rfl B
    refine lv_aload_n hx hb dX11_costAnew_4 rfl (lv_at hl 0 rfl) ?_
    obtain ⟨k_3, hk_3⟩ := pk_at (hs := []) (show (((Y 0 0), .inr (11, [.ref (A 50 0 0), .ref (Y 1 0), .ref (Y 2 0), .int (iI (K 0 0)), .ref (Y 3 0)])) : Nat × va_E) ∈ tl from PR_m hPR 0 0 rfl rfl)
    refine x_get (ci := 11) (C := RX11) (T := TX11) (N := 5) (v := .ref (Y 1 0)) B k_3 hk_3 rfl in_X11 1 (by decide) mw_475 (fun _ h9 => h9) rfl dX11_costAnew_5 ?_
    refine lv_iload_n hx hb dX11_costAnew_8 rfl (lv_at hl 1 rfl) ?_
    obtain ⟨k_4, hk_4⟩ := pk_at (hs := []) (show (((Y 1 0), .inl (k 3, 2, .inr (.inr (.inr (.inr (fun i9 : Nat => (fun j9 : Int => some (Y 4 j9)) i9)))))) : Nat × va_E) ∈ tl from PR_m hPR 0 1 rfl rfl)
    refine x_aldq (v := (Y 4 v)) B k_4 hk_4 (iI_in (by omega)) dX11_costAnew_9 ((aldz (f := (fun j9 : Int => some (Y 4 j9))) (z := v) (by omega)).trans rfl) ?_
    have B := bd_swap (a := []) (b := []) (d := tl) (bd_to rfl B)
    obtain ⟨k_5, hk_5⟩ := pk_at (hs := []) (show (((Y 4 v), .inr (1, [.ref (A 50 0 0), .int (iI v), .ref (Y 5 0), .ref (Y 60 v), .ref (Y 61 v), .int (iI ((L v) 0 0)), .int (iI ((L v) 0 1)), .ref (Y 21 v), .ref (Y 22 v), .ref (Y 23 v), .ref (Y 24 v), .ref (Y 25 v), .ref (Y 26 v), .int (iI ((L v) 0 2)), .int (iI ((L v) 0 3)), .int (iI ((L v) 0 4)), .ref (Y 27 v)])) : Nat × va_E) ∈ tl from PR_ly hPR (show 0 ≤ v ∧ v ≤ 1 by omega) 0 rfl)
    refine k_V (rest := []) (wc := ([] ++ tl)) (wr := []) (k_forgetP l dC dI k T A X tl G Mc Y O L C K cp v hPR hK z_2) B mV_X1_forget mw_773 hl (q0 := k_5) (ci := 1) hk_5 rfl rfl ⟨Nat.le_of_ble_eq_true rfl, Nat.le_of_ble_eq_true rfl⟩ (Nat.le_of_ble_eq_true rfl) rfl dX11_costAnew_10 ⟨by dsimp only; omega, by dsimp only; omega⟩ (fun r w gc gs H locs hp B => ?_)
    obtain ⟨L2_6, tl2_7, z_8, z_9, z_10, rfl, hw9, rfl, rfl⟩ := hp
    rw [hw9] at B; clear hw9
    have B := bd_to (ws' := ([] ++ tl2_7)) rfl B
    have hPR : PR dI k T A X G Mc Y O L2_6 C K cp tl2_7 := z_8
    have hT : TI dI k T A X tl2_7 := PR_TI hPR
    have hL9 : ∀ u, 0 ≤ u → u ≤ 1 → LSq T u (L2_6 u) := fun u a9 b9 => by by_cases e9 : u = v; (rw [e9]; exact Or.inl z_10); (rw [show L2_6 u = L u from funext (fun c => z_9 u c (Or.inl e9))]; exact hL u a9 b9)
    refine lv_aload_n hx hb dX11_costAnew_13 rfl (lv_at hl 0 rfl) ?_
    refine lv_iload_n hx hb dX11_costAnew_14 rfl (lv_at hl 1 rfl) ?_
    have B := bd_swap (a := []) (b := []) (d := tl2_7) (bd_to rfl B)
    obtain ⟨k_11, hk_11⟩ := pk_at (hs := []) (show (((Y 0 0), .inr (11, [.ref (A 50 0 0), .ref (Y 1 0), .ref (Y 2 0), .int (iI (K 0 0)), .ref (Y 3 0)])) : Nat × va_E) ∈ tl2_7 from PR_m hPR 0 0 rfl rfl)
    refine k_Vx (rest := []) (wc := ([] ++ tl2_7)) (wr := []) (k_layoutOf l dC dI k hl0 T A X tl2_7 G Mc Y O L2_6 C K cp v z_8 hK hL9 hcap hrv) B mV_X11_layoutOf mw_1367 hl (q0 := k_11) (ci := 11) hk_11 rfl rfl ⟨Nat.le_of_ble_eq_true rfl, Nat.le_of_ble_eq_true rfl⟩ (Nat.le_of_ble_eq_true rfl) rfl dX11_costAnew_15 ⟨by dsimp only; omega, by dsimp only; omega⟩ (fun E ce q9 w gc gs H locs hp B h1 h2 h3 => ?_) (fun r w gc gs H locs hp B => ?_)
    · skip
      obtain ⟨z_12, rfl, hw9, rfl, rfl⟩ := hp
      rw [hw9] at B; clear hw9
      have B := bd_to (ws' := ([] ++ tl2_7)) rfl B
      exact k_out hex (⟨O, L2_6, C, X, cp, tl2_7, hPR, hL9, (by omega), (by omega), rfl, rfl, rfl, rfl⟩) B h1 h2 h3 ⟨(by first | omega | (dsimp only; omega)), (by first | omega | (dsimp only; omega))⟩ ⟨(by first | omega | (dsimp only; omega)), (by first | omega | (dsimp only; omega))⟩
    · skip
      obtain ⟨O2_13, L2_14, C2_15, X2_16, cp2_17, tl2_18, z_19, z_20, z_21, z_22, z_23, rfl, hw9, rfl, rfl⟩ := hp
      rw [hw9] at B; clear hw9
      have B := bd_to (ws' := ([] ++ tl2_18)) rfl B
      have hPR : PR dI k T A X2_16 G Mc Y O2_13 L2_14 C2_15 K cp2_17 tl2_18 := z_19
      have hLD : LD T v (L2_14 v) := z_20
      have hLo : ∀ u, u ≠ v → L2_14 u = L2_6 u := z_21
      have hT : TI dI k T A X2_16 tl2_18 := PR_TI hPR
      have hP9 : PgI (moC T v (dgN T v)) (mkZ T (moC T v (dgN T v))) := hF.2 v (by omega) (by omega)
      obtain ⟨k_24, hk_24⟩ := pk_at (hs := []) (show (((Y 4 v), .inr (1, [.ref (A 50 0 0), .int (iI v), .ref (Y 5 0), .ref (Y 60 v), .ref (Y 61 v), .int (iI ((L2_14 v) 0 0)), .int (iI ((L2_14 v) 0 1)), .ref (Y 21 v), .ref (Y 22 v), .ref (Y 23 v), .ref (Y 24 v), .ref (Y 25 v), .ref (Y 26 v), .int (iI ((L2_14 v) 0 2)), .int (iI ((L2_14 v) 0 3)), .int (iI ((L2_14 v) 0 4)), .ref (Y 27 v)])) : Nat × va_E) ∈ tl2_18 from PR_ly hPR (show 0 ≤ v ∧ v ≤ 1 by omega) 0 rfl)
      refine x_get (ci := 1) (C := RX1) (T := TX1) (N := 17) (v := .ref (Y 61 v)) B k_24 hk_24 rfl in_X1 4 (by decide) mw_416 (fun _ h9 => h9) rfl dX11_costAnew_18 ?_
      obtain ⟨k_25, hk_25⟩ := pk_at (hs := []) (show (((Y 61 v), .inr (4, [.ref (A 50 0 0), .ref (Y 60 v), .ref (Y 62 v), .ref (Y 13 0), .int (iI ((L2_14 v) 50 0)), .int (iI ((L2_14 v) 50 1)), .ref (Y 63 v), .ref (Y 64 v), .ref (Y 65 v), .ref (Y 66 v), .ref (Y 67 v), .ref (Y 68 v)])) : Nat × va_E) ∈ tl2_18 from PR_pp hPR (show 0 ≤ v ∧ v ≤ 1 by omega) 0 rfl)
      refine x_get (ci := 4) (C := RX4) (T := TX4) (N := 12) (v := .int (iI ((L2_14 v) 50 1))) B k_25 hk_25 rfl in_X4 5 (by decide) mw_373 (fun _ h9 => h9) rfl dX11_costAnew_21 ?_
      refine lv_seti (y := iI (((mkZ T (moC T v (dgN T v))) 0 1))) (congrArg iI (show ((L2_14 v) 50 1) = ((mkZ T (moC T v (dgN T v))) 0 1) from hLD.2.2.2.2.1.2)) ?_
      have z_26 : 0 ≤ (mkZ T (moC T v (dgN T v))) 0 1 ∧ (mkZ T (moC T v (dgN T v))) 0 1 ≤ 61440000 := hP9.2.2.2.2.1
      exact vx_ret (k_iret B hr (⟨O2_13, L2_14, C2_15, X2_16, cp2_17, tl2_18, hPR, (fun u a9 b9 => by by_cases e9 : u = v; (rw [e9]; exact Or.inr hLD); (rw [hLo u e9]; exact hL9 u a9 b9)), z_22, (by omega), rfl, rfl, rfl, rfl⟩) ⟨(by first | omega | (dsimp only; omega)), (by first | omega | (dsimp only; omega))⟩ ⟨(by first | omega | (dsimp only; omega)), (by first | omega | (dsimp only; omega))⟩ dX11_costAnew_24)

end
