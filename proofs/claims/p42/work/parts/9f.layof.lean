section
/-- what is spelled and drafted -/
def KK (T : Nat → Int → Int → Int → Int) (K : Nat → Int → Int) : Prop := (0 ≤ K 0 0 ∧ K 0 0 ≤ 6) ∧ (∀ j, 0 ≤ K 1 j ∧ K 1 j ≤ 3) ∧ (∀ j, -1 ≤ K 2 j ∧ K 2 j ≤ 7) ∧ (-1 ≤ K 2 0 ∧ K 2 0 ≤ 5 ∧ K 2 0 ≠ 0) ∧ K 2 1 < T 12 0 0 0 ∧ K 2 2 ≤ 5 ∧ K 2 4 ≤ 1
theorem KK_0 {T : Nat → Int → Int → Int → Int} {K : Nat → Int → Int} (h : KK T K) : 0 ≤ K 0 0 ∧ K 0 0 ≤ 6 := h.1
/-- a layout after n rounds, or with all made -/
def LQ (T : Nat → Int → Int → Int → Int) (v n : Int) (LN : Nat → Int → Int) : Prop := LD T v LN ∨
  ((LN 0 0 = (rdS T v n.toNat).2.1 ∧ LN 0 1 = (rdS T v n.toNat).2.2.1 ∧ LN 0 2 = (rdS T v n.toNat).2.2.2.2.1 ∧ LN 0 3 = (rdS T v n.toNat).1 ∧ LN 0 4 = (rdS T v n.toNat).2.2.2.1 ∧ 0 ≤ LN 0 4 ∧ LN 0 4 < 4096) ∧
   (∀ j, 0 ≤ j → j < LN 0 2 → j < 730 → LN 7 j = (rdS T v n.toNat).2.2.2.2.2 j ∧ 0 ≤ (rdS T v n.toNat).2.2.2.2.2 j ∧ (rdS T v n.toNat).2.2.2.2.2 j < 4096) ∧ ((rdS T v n.toNat).2.1 = 0 → LR T v (LN 0 4) LN))
section LQ1
variable {T : Nat → Int → Int → Int → Int} {v n : Int} {LN LM : Nat → Int → Int}
theorem rdS_g : ∀ n : Nat, (rdS T v n).2.1 = 0 ∨ (rdS T v n).2.1 = 1
  | 0 => Or.inr rfl
  | n + 1 => by
    by_cases h : (rdS T v n).2.1 = 0
    · rw [rdS_e h 1]; exact Or.inl h
    · rw [rdS_s h]
      dsimp only
      unfold rd1
      split
      · exact Or.inl rfl
      · exact cdZ_c
theorem LQ_g (h : LQ T v n LN) : 0 ≤ LN 0 0 ∧ LN 0 0 ≤ 1 := by
  rcases h with h | ⟨h, -⟩
  · have := h.1.1; omega
  · have := rdS_g (T := T) (v := v) n.toNat
    omega
theorem LQ_0 (h : LSq T v LN) : LQ T v 0 LN := by
  rcases h with ⟨h0, h1, h2, h3, h4⟩ | h
  · exact Or.inr ⟨⟨h0, h1, h2, h3, h4, by omega, by omega⟩, fun j a b => by omega, fun q => absurd q (by show ¬ (1 : Int) = 0; omega)⟩
  · exact Or.inl h
theorem LQ_1 (h : LQ T v n LN) (hn : 0 ≤ n) (hne : LN 0 0 ≠ 0) : (0 ≤ LN 0 4 ∧ LN 0 4 < 4096) ∧ (0 ≤ LN 0 2 ∧ LN 0 2 ≤ 729 ∧ 0 ≤ LN 0 1 ∧ LN 0 1 ≤ 1 ∧ (LN 0 1 = 0 → LN 0 2 ≤ 728)) ∧ (∀ j, 0 ≤ j → j < LN 0 2 → j < 730 → LN 7 j = (rdS T v n.toNat).2.2.2.2.2 j ∧ 0 ≤ (rdS T v n.toNat).2.2.2.2.2 j ∧ (rdS T v n.toNat).2.2.2.2.2 j < 4096) := by
  rcases h with h | ⟨⟨a0, a1, a2, a3, a4, a5, a6⟩, h7, -⟩
  · exact absurd h.1.1 hne
  · have hI := rdS_I (T := T) (v := v) n.toNat (by rw [← a0]; exact hne)
    have hb := RdI_in (by omega) hI
    have h2 := hI.2.1
    have h3 := hI.2.2.1
    refine ⟨⟨a5, a6⟩, ⟨by omega, by omega, by omega, by omega, fun q => ?_⟩, h7⟩
    have := hb.2 (by omega)
    omega
theorem LQ_s (hq : LQ T v n LN) (hn : 0 ≤ n) (hne : LN 0 0 ≠ 0) (hR : LR T v (LN 0 4) LM)
    (h0 : LM 0 0 = (rd1 T v (rdS T v n.toNat).2.2.2.2.2 (LN 0 1) (LN 0 3) (LN 0 4) (LN 0 2)).2.1 ∧ LM 0 1 = (rd1 T v (rdS T v n.toNat).2.2.2.2.2 (LN 0 1) (LN 0 3) (LN 0 4) (LN 0 2)).2.2.1 ∧ LM 0 2 = LN 0 2 + 1 ∧ LM 0 3 = (rd1 T v (rdS T v n.toNat).2.2.2.2.2 (LN 0 1) (LN 0 3) (LN 0 4) (LN 0 2)).1 ∧ LM 0 4 = (rd1 T v (rdS T v n.toNat).2.2.2.2.2 (LN 0 1) (LN 0 3) (LN 0 4) (LN 0 2)).2.2.2 ∧ LM 7 = uz (LN 7) (LN 0 2) (LN 0 4))
    (hd : 0 ≤ (rd1 T v (rdS T v n.toNat).2.2.2.2.2 (LN 0 1) (LN 0 3) (LN 0 4) (LN 0 2)).2.2.2 ∧ (rd1 T v (rdS T v n.toNat).2.2.2.2.2 (LN 0 1) (LN 0 3) (LN 0 4) (LN 0 2)).2.2.2 < 4096) : LQ T v (n + 1) LM := by
  have h1 := LQ_1 hq hn hne
  rcases hq with h | ⟨⟨a0, a1, a2, a3, a4, a5, a6⟩, h7, hl⟩
  · exact absurd h.1.1 hne
  · have hs := rdS_s (T := T) (v := v) (n := n.toNat) (by rw [← a0]; exact hne)
    obtain ⟨b0, b1, b2, b3, b4, b5⟩ := h0
    unfold LQ
    rw [show (n + 1).toNat = n.toNat + 1 by omega, hs]
    dsimp only
    rw [← a1, ← a2, ← a3, ← a4]
    refine Or.inr ⟨⟨b0, b1, b2, b3, b4, by omega, by omega⟩, fun j g1 g2 g3 => ?_, fun q => ?_⟩
    · rw [b5]
      by_cases e : j = LN 0 2
      · rw [e, uz_s, uz_s]; exact ⟨rfl, a5, a6⟩
      · rw [uz_n e, uz_n e]; exact h7 j g1 (by omega) g3
    · rw [b4, rd1_dg q]; exact hR
theorem LQ_D (hq : LQ T v n LN) (hn : 0 ≤ n ∧ n ≤ 731) (h : LN 0 0 = 0) : LD T v LN := by
  rcases hq with q | ⟨⟨a0, a1, a2, a3, a4, -⟩, -, hl⟩
  · exact q
  · have hg : (rdS T v n.toNat).2.1 = 0 := by rw [← a0]; exact h
    have e := rdS_fin hg (by omega)
    have h4 : LN 0 4 = dgN T v := by rw [a4, e]; rfl
    refine ⟨⟨h, by rw [a2, e]; rfl, by rw [a3, e]; rfl, h4⟩, ?_⟩
    rw [← h4]
    exact hl hg
theorem LQ_e (hq : LQ T v n LN) (hn : n = 731) : LD T v LN := by
  refine LQ_D hq (by omega) ?_
  rcases hq with q | ⟨⟨a0, -⟩, -⟩
  · exact q.1.1
  · rw [a0, show n.toNat = 731 by omega]; exact rdS_end
end LQ1

theorem dX11_checkVariant_0 : decode cX11_checkVariant 0 = .ok (.iload_n 0, 1) := by decide +kernel
theorem dX11_checkVariant_1 : decode cX11_checkVariant 1 = .ok (.ifCond .lt 8, 3) := by decide +kernel
theorem dX11_checkVariant_4 : decode cX11_checkVariant 4 = .ok (.iload_n 0, 1) := by decide +kernel
theorem dX11_checkVariant_5 : decode cX11_checkVariant 5 = .ok (.iconst 2, 1) := by decide +kernel
theorem dX11_checkVariant_6 : decode cX11_checkVariant 6 = .ok (.if_icmp .lt 14, 3) := by decide +kernel
theorem dX11_checkVariant_9 : decode cX11_checkVariant 9 = .ok (.new 47, 3) := by decide +kernel
theorem dX11_checkVariant_12 : decode cX11_checkVariant 12 = .ok (.dup, 1) := by decide +kernel
theorem dX11_checkVariant_13 : decode cX11_checkVariant 13 = .ok (.ldc_w 388, 3) := by decide +kernel
theorem dX11_checkVariant_16 : decode cX11_checkVariant 16 = .ok (.invokespecial 51, 3) := by decide +kernel
theorem dX11_checkVariant_19 : decode cX11_checkVariant 19 = .ok (.athrow, 1) := by decide +kernel
theorem dX11_checkVariant_20 : decode cX11_checkVariant 20 = .ok (.return_, 1) := by decide +kernel
set_option maxHeartbeats 4000000 in
set_option maxRecDepth 100000 in
theorem k_checkVariant (l : Launch) (dC : Nat → ClassId) (dI : Nat → Nat → Nat) (k : Nat → ClassId) (hl0 : l.stackTraces = false) (v : Int) (hrv : -2147483648 ≤ v ∧ v < 2147483648) : Kx l dC dI k yX11_checkVariant (.code yX11_checkVariant cX11_checkVariant 1 none) ({ frames := 6, cells := 1, slots := 6, locals := 82 } : Room) [.int (iI v)] [] (fun r w gc gs => ((0 ≤ v ∧ v ≤ 1) ∧ r = none ∧ w = [] ∧ gc = 0 ∧ gs = 0)) (fun E w gc gs => ((¬ (0 ≤ v ∧ v ≤ 1)) ∧ E = "java/lang/IndexOutOfBoundsException" ∧ w = [] ∧ gc = 1 ∧ gs = 6)) := by
  refine kx_of (by decide) (Nat.le_of_ble_eq_true rfl) ?_
  intro p e s m args below meth c H locs B hr hex ls hl
  have hx := B.1.1
  have hb := B.1.2.1
  have hl : lv_has ls 1 [(0, .int (iI v))] := hl
  refine lv_iload_n hx hb dX11_checkVariant_0 rfl (lv_at hl 0 rfl) ?_
  refine lv_if_lt (tgt := 9) hx hb dX11_checkVariant_1 (by decide) (fun c_1 => ?_) (fun c_1 => ?_)
  · have zc_1 : v < 0 := jlt (a := v) (b := 0) (by omega) (by omega) c_1
    exact k_thrW (tx := "no such variant") xE_ioobe (⟨(by omega), rfl, rfl, rfl, rfl⟩) ⟨Nat.le_of_ble_eq_true rfl, Nat.le_of_ble_eq_true rfl⟩ hl0 B hex hl (by decide +kernel) dX11_checkVariant_9 dX11_checkVariant_12 dX11_checkVariant_13 dX11_checkVariant_16 dX11_checkVariant_19 ⟨Nat.le_of_ble_eq_true rfl, Nat.le_of_ble_eq_true rfl, Nat.le_of_ble_eq_true rfl, Nat.le_of_ble_eq_true rfl⟩ ⟨Nat.le_of_ble_eq_true rfl, Nat.le_of_ble_eq_true rfl⟩
  · have zc_1 : 0 ≤ v := jnlt (a := v) (b := 0) (by omega) (by omega) c_1
    refine lv_iload_n hx hb dX11_checkVariant_4 rfl (lv_at hl 0 rfl) ?_
    refine lv_iconst (v := iI 2) hx hb dX11_checkVariant_5 (by decide) ?_
    refine lv_icmp_lt (tgt := 20) hx hb dX11_checkVariant_6 (by decide) (fun c_2 => ?_) (fun c_2 => ?_)
    · have zc_2 : v < 2 := jlt (a := v) (b := 2) (by omega) (by omega) c_2
      exact vx_ret (k_vret B hr (⟨(by omega), rfl, rfl, rfl, rfl⟩) ⟨Nat.le_of_ble_eq_true rfl, Nat.le_of_ble_eq_true rfl⟩ ⟨Nat.le_of_ble_eq_true rfl, Nat.le_of_ble_eq_true rfl⟩ dX11_checkVariant_20)
    · have zc_2 : 2 ≤ v := jnlt (a := v) (b := 2) (by omega) (by omega) c_2
      exact k_thrW (tx := "no such variant") xE_ioobe (⟨(by omega), rfl, rfl, rfl, rfl⟩) ⟨Nat.le_of_ble_eq_true rfl, Nat.le_of_ble_eq_true rfl⟩ hl0 B hex hl (by decide +kernel) dX11_checkVariant_9 dX11_checkVariant_12 dX11_checkVariant_13 dX11_checkVariant_16 dX11_checkVariant_19 ⟨Nat.le_of_ble_eq_true rfl, Nat.le_of_ble_eq_true rfl, Nat.le_of_ble_eq_true rfl, Nat.le_of_ble_eq_true rfl⟩ ⟨Nat.le_of_ble_eq_true rfl, Nat.le_of_ble_eq_true rfl⟩

theorem dX11_checkLabel_0 : decode cX11_checkLabel 0 = .ok (.iload_n 0, 1) := by decide +kernel
theorem dX11_checkLabel_1 : decode cX11_checkLabel 1 = .ok (.ifCond .lt 9, 3) := by decide +kernel
theorem dX11_checkLabel_4 : decode cX11_checkLabel 4 = .ok (.iload_n 0, 1) := by decide +kernel
theorem dX11_checkLabel_5 : decode cX11_checkLabel 5 = .ok (.bipush 6, 2) := by decide +kernel
theorem dX11_checkLabel_7 : decode cX11_checkLabel 7 = .ok (.if_icmp .lt 14, 3) := by decide +kernel
theorem dX11_checkLabel_10 : decode cX11_checkLabel 10 = .ok (.new 47, 3) := by decide +kernel
theorem dX11_checkLabel_13 : decode cX11_checkLabel 13 = .ok (.dup, 1) := by decide +kernel
theorem dX11_checkLabel_14 : decode cX11_checkLabel 14 = .ok (.ldc_w 390, 3) := by decide +kernel
theorem dX11_checkLabel_17 : decode cX11_checkLabel 17 = .ok (.invokespecial 51, 3) := by decide +kernel
theorem dX11_checkLabel_20 : decode cX11_checkLabel 20 = .ok (.athrow, 1) := by decide +kernel
theorem dX11_checkLabel_21 : decode cX11_checkLabel 21 = .ok (.return_, 1) := by decide +kernel
set_option maxHeartbeats 4000000 in
set_option maxRecDepth 100000 in
theorem k_checkLabel (l : Launch) (dC : Nat → ClassId) (dI : Nat → Nat → Nat) (k : Nat → ClassId) (hl0 : l.stackTraces = false) (b_ : Int) (hrb_ : -2147483648 ≤ b_ ∧ b_ < 2147483648) : Kx l dC dI k yX11_checkLabel (.code yX11_checkLabel cX11_checkLabel 1 none) ({ frames := 6, cells := 1, slots := 6, locals := 82 } : Room) [.int (iI b_)] [] (fun r w gc gs => ((0 ≤ b_ ∧ b_ ≤ 5) ∧ r = none ∧ w = [] ∧ gc = 0 ∧ gs = 0)) (fun E w gc gs => ((¬ (0 ≤ b_ ∧ b_ ≤ 5)) ∧ E = "java/lang/IndexOutOfBoundsException" ∧ w = [] ∧ gc = 1 ∧ gs = 6)) := by
  refine kx_of (by decide) (Nat.le_of_ble_eq_true rfl) ?_
  intro p e s m args below meth c H locs B hr hex ls hl
  have hx := B.1.1
  have hb := B.1.2.1
  have hl : lv_has ls 1 [(0, .int (iI b_))] := hl
  refine lv_iload_n hx hb dX11_checkLabel_0 rfl (lv_at hl 0 rfl) ?_
  refine lv_if_lt (tgt := 10) hx hb dX11_checkLabel_1 (by decide) (fun c_1 => ?_) (fun c_1 => ?_)
  · have zc_1 : b_ < 0 := jlt (a := b_) (b := 0) (by omega) (by omega) c_1
    exact k_thrW (tx := "no such label") xE_ioobe (⟨(by omega), rfl, rfl, rfl, rfl⟩) ⟨Nat.le_of_ble_eq_true rfl, Nat.le_of_ble_eq_true rfl⟩ hl0 B hex hl (by decide +kernel) dX11_checkLabel_10 dX11_checkLabel_13 dX11_checkLabel_14 dX11_checkLabel_17 dX11_checkLabel_20 ⟨Nat.le_of_ble_eq_true rfl, Nat.le_of_ble_eq_true rfl, Nat.le_of_ble_eq_true rfl, Nat.le_of_ble_eq_true rfl⟩ ⟨Nat.le_of_ble_eq_true rfl, Nat.le_of_ble_eq_true rfl⟩
  · have zc_1 : 0 ≤ b_ := jnlt (a := b_) (b := 0) (by omega) (by omega) c_1
    refine lv_iload_n hx hb dX11_checkLabel_4 rfl (lv_at hl 0 rfl) ?_
    refine lv_bipush (v := iI 6) hx hb dX11_checkLabel_5 (by decide) ?_
    refine lv_icmp_lt (tgt := 21) hx hb dX11_checkLabel_7 (by decide) (fun c_2 => ?_) (fun c_2 => ?_)
    · have zc_2 : b_ < 6 := jlt (a := b_) (b := 6) (by omega) (by omega) c_2
      exact vx_ret (k_vret B hr (⟨(by omega), rfl, rfl, rfl, rfl⟩) ⟨Nat.le_of_ble_eq_true rfl, Nat.le_of_ble_eq_true rfl⟩ ⟨Nat.le_of_ble_eq_true rfl, Nat.le_of_ble_eq_true rfl⟩ dX11_checkLabel_21)
    · have zc_2 : 6 ≤ b_ := jnlt (a := b_) (b := 6) (by omega) (by omega) c_2
      exact k_thrW (tx := "no such label") xE_ioobe (⟨(by omega), rfl, rfl, rfl, rfl⟩) ⟨Nat.le_of_ble_eq_true rfl, Nat.le_of_ble_eq_true rfl⟩ hl0 B hex hl (by decide +kernel) dX11_checkLabel_10 dX11_checkLabel_13 dX11_checkLabel_14 dX11_checkLabel_17 dX11_checkLabel_20 ⟨Nat.le_of_ble_eq_true rfl, Nat.le_of_ble_eq_true rfl, Nat.le_of_ble_eq_true rfl, Nat.le_of_ble_eq_true rfl⟩ ⟨Nat.le_of_ble_eq_true rfl, Nat.le_of_ble_eq_true rfl⟩

theorem dX11_checkTerm_0 : decode cX11_checkTerm 0 = .ok (.iload_n 0, 1) := by decide +kernel
theorem dX11_checkTerm_1 : decode cX11_checkTerm 1 = .ok (.ifCond .lt 9, 3) := by decide +kernel
theorem dX11_checkTerm_4 : decode cX11_checkTerm 4 = .ok (.iload_n 0, 1) := by decide +kernel
theorem dX11_checkTerm_5 : decode cX11_checkTerm 5 = .ok (.bipush 8, 2) := by decide +kernel
theorem dX11_checkTerm_7 : decode cX11_checkTerm 7 = .ok (.if_icmp .lt 14, 3) := by decide +kernel
theorem dX11_checkTerm_10 : decode cX11_checkTerm 10 = .ok (.new 47, 3) := by decide +kernel
theorem dX11_checkTerm_13 : decode cX11_checkTerm 13 = .ok (.dup, 1) := by decide +kernel
theorem dX11_checkTerm_14 : decode cX11_checkTerm 14 = .ok (.ldc_w 392, 3) := by decide +kernel
theorem dX11_checkTerm_17 : decode cX11_checkTerm 17 = .ok (.invokespecial 51, 3) := by decide +kernel
theorem dX11_checkTerm_20 : decode cX11_checkTerm 20 = .ok (.athrow, 1) := by decide +kernel
theorem dX11_checkTerm_21 : decode cX11_checkTerm 21 = .ok (.return_, 1) := by decide +kernel
set_option maxHeartbeats 4000000 in
set_option maxRecDepth 100000 in
theorem k_checkTerm (l : Launch) (dC : Nat → ClassId) (dI : Nat → Nat → Nat) (k : Nat → ClassId) (hl0 : l.stackTraces = false) (t : Int) (hrt : -2147483648 ≤ t ∧ t < 2147483648) : Kx l dC dI k yX11_checkTerm (.code yX11_checkTerm cX11_checkTerm 1 none) ({ frames := 6, cells := 1, slots := 6, locals := 82 } : Room) [.int (iI t)] [] (fun r w gc gs => ((0 ≤ t ∧ t ≤ 7) ∧ r = none ∧ w = [] ∧ gc = 0 ∧ gs = 0)) (fun E w gc gs => ((¬ (0 ≤ t ∧ t ≤ 7)) ∧ E = "java/lang/IndexOutOfBoundsException" ∧ w = [] ∧ gc = 1 ∧ gs = 6)) := by
  refine kx_of (by decide) (Nat.le_of_ble_eq_true rfl) ?_
  intro p e s m args below meth c H locs B hr hex ls hl
  have hx := B.1.1
  have hb := B.1.2.1
  have hl : lv_has ls 1 [(0, .int (iI t))] := hl
  refine lv_iload_n hx hb dX11_checkTerm_0 rfl (lv_at hl 0 rfl) ?_
  refine lv_if_lt (tgt := 10) hx hb dX11_checkTerm_1 (by decide) (fun c_1 => ?_) (fun c_1 => ?_)
  · have zc_1 : t < 0 := jlt (a := t) (b := 0) (by omega) (by omega) c_1
    exact k_thrW (tx := "no such term") xE_ioobe (⟨(by omega), rfl, rfl, rfl, rfl⟩) ⟨Nat.le_of_ble_eq_true rfl, Nat.le_of_ble_eq_true rfl⟩ hl0 B hex hl (by decide +kernel) dX11_checkTerm_10 dX11_checkTerm_13 dX11_checkTerm_14 dX11_checkTerm_17 dX11_checkTerm_20 ⟨Nat.le_of_ble_eq_true rfl, Nat.le_of_ble_eq_true rfl, Nat.le_of_ble_eq_true rfl, Nat.le_of_ble_eq_true rfl⟩ ⟨Nat.le_of_ble_eq_true rfl, Nat.le_of_ble_eq_true rfl⟩
  · have zc_1 : 0 ≤ t := jnlt (a := t) (b := 0) (by omega) (by omega) c_1
    refine lv_iload_n hx hb dX11_checkTerm_4 rfl (lv_at hl 0 rfl) ?_
    refine lv_bipush (v := iI 8) hx hb dX11_checkTerm_5 (by decide) ?_
    refine lv_icmp_lt (tgt := 21) hx hb dX11_checkTerm_7 (by decide) (fun c_2 => ?_) (fun c_2 => ?_)
    · have zc_2 : t < 8 := jlt (a := t) (b := 8) (by omega) (by omega) c_2
      exact vx_ret (k_vret B hr (⟨(by omega), rfl, rfl, rfl, rfl⟩) ⟨Nat.le_of_ble_eq_true rfl, Nat.le_of_ble_eq_true rfl⟩ ⟨Nat.le_of_ble_eq_true rfl, Nat.le_of_ble_eq_true rfl⟩ dX11_checkTerm_21)
    · have zc_2 : 8 ≤ t := jnlt (a := t) (b := 8) (by omega) (by omega) c_2
      exact k_thrW (tx := "no such term") xE_ioobe (⟨(by omega), rfl, rfl, rfl, rfl⟩) ⟨Nat.le_of_ble_eq_true rfl, Nat.le_of_ble_eq_true rfl⟩ hl0 B hex hl (by decide +kernel) dX11_checkTerm_10 dX11_checkTerm_13 dX11_checkTerm_14 dX11_checkTerm_17 dX11_checkTerm_20 ⟨Nat.le_of_ble_eq_true rfl, Nat.le_of_ble_eq_true rfl, Nat.le_of_ble_eq_true rfl, Nat.le_of_ble_eq_true rfl⟩ ⟨Nat.le_of_ble_eq_true rfl, Nat.le_of_ble_eq_true rfl⟩

theorem mw_1 : (Jvm.Cond.initialized "Galleyforge") ∈ gt := gt_at 71 (by decide +kernel) (by decide +kernel)
theorem mw_418 : (Jvm.Cond.fieldLink "Galleyforge" (407 : Nat) "Galleyforge$Layout" "goesOn" "Z") ∈ gt := gt_at 488 (by decide +kernel) (by decide +kernel)
theorem mw_475 : (Jvm.Cond.fieldLink "Galleyforge" (27 : Nat) "Galleyforge" "layouts" "[LGalleyforge$Layout;") ∈ gt := gt_at 545 (by decide +kernel) (by decide +kernel)
theorem mw_1287 : (Jvm.Cond.methodLink "Galleyforge" (238 : Nat) ({ cls := "Galleyforge", name := "checkVariant", desc := "(I)V" } : Jvm.MethodName)) ∈ gt := gt_at 1357 (by decide +kernel) (by decide +kernel)
theorem mw_1288 : (Jvm.Cond.static ({ cls := "Galleyforge", name := "checkVariant", desc := "(I)V" } : Jvm.MethodName)) ∈ gt := gt_at 1358 (by decide +kernel) (by decide +kernel)
theorem mw_1289 : (Jvm.Cond.code ({ cls := "Galleyforge", name := "checkVariant", desc := "(I)V" } : Jvm.MethodName) prog_1_method_41_code (1 : Nat) (Option.none : Option Jvm.ClassFile.FieldType)) ∈ gt := gt_at 1359 (by decide +kernel) (by decide +kernel)
theorem mw_1371 : (Jvm.Cond.methodLink "Galleyforge" (410 : Nat) ({ cls := "Galleyforge$Layout", name := "makeRound", desc := "()V" } : Jvm.MethodName)) ∈ gt := gt_at 1441 (by decide +kernel) (by decide +kernel)
theorem mw_1372 : (Jvm.Cond.instanceMethod ({ cls := "Galleyforge$Layout", name := "makeRound", desc := "()V" } : Jvm.MethodName)) ∈ gt := gt_at 1442 (by decide +kernel) (by decide +kernel)
theorem mw_1373 : (Jvm.Cond.selects "Galleyforge$Layout" ({ cls := "Galleyforge$Layout", name := "makeRound", desc := "()V" } : Jvm.MethodName) ({ cls := "Galleyforge$Layout", name := "makeRound", desc := "()V" } : Jvm.MethodName)) ∈ gt := gt_at 1443 (by decide +kernel) (by decide +kernel)
theorem mw_1374 : (Jvm.Cond.code ({ cls := "Galleyforge$Layout", name := "makeRound", desc := "()V" } : Jvm.MethodName) prog_3_method_3_code (2 : Nat) (Option.none : Option Jvm.ClassFile.FieldType)) ∈ gt := gt_at 1444 (by decide +kernel) (by decide +kernel)
theorem mS_X11_checkVariant : mS yX11_checkVariant cX11_checkVariant 1 none 1 := ⟨⟨mw_1289, mw_1, by decide, by decide, by decide +kernel⟩, mw_1288⟩
theorem mV_X1_makeRound : mV yX1_makeRound cX1_makeRound 2 none 0 := ⟨⟨mw_1374, mw_8, by decide, by decide, by decide +kernel⟩, mw_1372, mw_1373⟩
theorem in_X11 : ∀ w ∈ u_ws RX11 TX11 5, w ∈ gt := in_of _ [549, 551, 553, 555, 557] (by decide +kernel) (by decide +kernel)
theorem dX11_layoutOf_0 : decode cX11_layoutOf 0 = .ok (.iload_n 1, 1) := by decide +kernel
theorem dX11_layoutOf_1 : decode cX11_layoutOf 1 = .ok (.invokestatic 238, 3) := by decide +kernel
theorem dX11_layoutOf_4 : decode cX11_layoutOf 4 = .ok (.aload_n 0, 1) := by decide +kernel
theorem dX11_layoutOf_5 : decode cX11_layoutOf 5 = .ok (.getfield 27, 3) := by decide +kernel
theorem dX11_layoutOf_8 : decode cX11_layoutOf 8 = .ok (.iload_n 1, 1) := by decide +kernel
theorem dX11_layoutOf_9 : decode cX11_layoutOf 9 = .ok (.aaload, 1) := by decide +kernel
theorem dX11_layoutOf_10 : decode cX11_layoutOf 10 = .ok (.astore_n 2, 1) := by decide +kernel
theorem dX11_layoutOf_11 : decode cX11_layoutOf 11 = .ok (.iconst 0, 1) := by decide +kernel
theorem dX11_layoutOf_12 : decode cX11_layoutOf 12 = .ok (.istore_n 3, 1) := by decide +kernel
theorem dX11_layoutOf_13 : decode cX11_layoutOf 13 = .ok (.iload_n 3, 1) := by decide +kernel
theorem dX11_layoutOf_14 : decode cX11_layoutOf 14 = .ok (.sipush 730, 3) := by decide +kernel
theorem dX11_layoutOf_17 : decode cX11_layoutOf 17 = .ok (.if_icmp .gt 20, 3) := by decide +kernel
theorem dX11_layoutOf_20 : decode cX11_layoutOf 20 = .ok (.aload_n 2, 1) := by decide +kernel
theorem dX11_layoutOf_21 : decode cX11_layoutOf 21 = .ok (.getfield 407, 3) := by decide +kernel
theorem dX11_layoutOf_24 : decode cX11_layoutOf 24 = .ok (.ifCond .eq 13, 3) := by decide +kernel
theorem dX11_layoutOf_27 : decode cX11_layoutOf 27 = .ok (.aload_n 2, 1) := by decide +kernel
theorem dX11_layoutOf_28 : decode cX11_layoutOf 28 = .ok (.invokevirtual 410, 3) := by decide +kernel
theorem dX11_layoutOf_31 : decode cX11_layoutOf 31 = .ok (.iinc 3 1, 3) := by decide +kernel
theorem dX11_layoutOf_34 : decode cX11_layoutOf 34 = .ok (.goto (-21), 3) := by decide +kernel
theorem dX11_layoutOf_37 : decode cX11_layoutOf 37 = .ok (.aload_n 2, 1) := by decide +kernel
theorem dX11_layoutOf_38 : decode cX11_layoutOf 38 = .ok (.areturn, 1) := by decide +kernel
set_option maxHeartbeats 4000000 in
set_option maxRecDepth 100000 in
theorem k_layoutOf (l : Launch) (dC : Nat → ClassId) (dI : Nat → Nat → Nat) (k : Nat → ClassId) (hl0 : l.stackTraces = false) (T : Nat → Int → Int → Int → Int) (A : Nat → Int → Int → Nat) (X : Nat → Int → Int → Int) (tl : va_W) (G : Nat → Int → Nat) (Mc : Nat → Int → Int) (Y : Nat → Int → Nat) (O : Nat → Nat) (L : Int → Nat → Int → Int) (C : Nat → Int → Int) (K : Nat → Int → Int) (cp : Nat) (v : Int) (hPR : PR dI k T A X G Mc Y O L C K cp tl) (hK : TK T) (hL : ∀ u, 0 ≤ u → u ≤ 1 → LSq T u (L u)) (hcap : CAP T) (hrv : -2147483648 ≤ v ∧ v < 2147483648) : Kx l dC dI k yX11_layoutOf (.code yX11_layoutOf cX11_layoutOf 4 (some (.object "Galleyforge$Layout"))) ({ frames := 8, cells := (131072 - cp + 1), slots := (12 * (131072 - cp) + 6), locals := 182 } : Room) [.ref (Y 0 0), .int (iI v)] ([] ++ tl) (fun r w gc gs => (∃ (O2 : Nat → Nat) (L2 : Int → Nat → Int → Int) (C2 : Nat → Int → Int) (X2 : Nat → Int → Int → Int) (cp2 : Nat) (tl2 : va_W), (PR dI k T A X2 G Mc Y O2 L2 C2 K cp2 tl2) ∧ (LD T v (L2 v)) ∧ (∀ u, u ≠ v → L2 u = L u) ∧ (cp ≤ cp2 ∧ cp2 ≤ 131072) ∧ (0 ≤ v ∧ v ≤ 1) ∧ r = some (.ref (Y 4 v)) ∧ w = ([] ++ tl2) ∧ gc = (cp2 - cp) ∧ gs = (12 * (cp2 - cp)))) (fun E w gc gs => ((¬ (0 ≤ v ∧ v ≤ 1)) ∧ E = "java/lang/IndexOutOfBoundsException" ∧ w = ([] ++ tl) ∧ gc = 1 ∧ gs = 6)) := by
  refine kx_of (by decide) (Nat.le_of_ble_eq_true rfl) ?_
  intro p e s m args below meth c H locs B hr hex ls hl
  have hx := B.1.1
  have hb := B.1.2.1
  have hl : lv_has ls 4 [(0, .ref (Y 0 0)), (1, .int (iI v))] := hl
  have hT := PR_TI hPR
  have hcp0 : 512 ≤ cp ∧ cp ≤ 131072 := by have q9 := hPR.2.2.2; unfold cpOk at q9; omega
  refine lv_iload_n hx hb dX11_layoutOf_0 rfl (lv_at hl 1 rfl) ?_
  have B := bd_to (ws' := [] ++ ([] ++ tl)) rfl B
  refine k_Sx (rest := []) (wc := []) (wr := ([] ++ tl)) (k_checkVariant l dC dI k hl0 v hrv) B mS_X11_checkVariant mw_1287 hl ⟨Nat.le_of_ble_eq_true rfl, Nat.le_of_ble_eq_true rfl⟩ (Nat.le_of_ble_eq_true rfl) rfl dX11_layoutOf_1 ⟨by dsimp only; omega, by dsimp only; omega⟩ (fun E ce q9 w gc gs H locs hp B h1 h2 h3 => ?_) (fun r w gc gs H locs hp B => ?_)
  · skip
    obtain ⟨z_1, rfl, hw9, rfl, rfl⟩ := hp
    rw [hw9] at B; clear hw9
    have B := bd_swap (a := []) (b := tl) (d := []) B
    have B := bd_to (ws' := ([] ++ tl)) rfl B
    exact k_out hex (⟨z_1, rfl, rfl, rfl, rfl⟩) B h1 h2 h3 ⟨(by first | omega | (dsimp only; omega)), (by first | omega | (dsimp only; omega))⟩ ⟨(by first | omega | (dsimp only; omega)), (by first | omega | (dsimp only; omega))⟩
  · skip
    obtain ⟨z_2, rfl, hw9, rfl, rfl⟩ := hp
    rw [hw9] at B; clear hw9
    have B := bd_swap (a := []) (b := tl) (d := []) B
    have B := bd_to (ws' := ([] ++ tl)) rfl B
    refine lv_aload_n hx hb dX11_layoutOf_4 rfl (lv_at hl 0 rfl) ?_
    obtain ⟨k_3, hk_3⟩ := pk_at (hs := []) (show (((Y 0 0), .inr (11, [.ref (A 50 0 0), .ref (Y 1 0), .ref (Y 2 0), .int (iI (K 0 0)), .ref (Y 3 0)])) : Nat × va_E) ∈ tl from PR_m hPR 0 0 rfl rfl)
    refine x_get (ci := 11) (C := RX11) (T := TX11) (N := 5) (v := .ref (Y 1 0)) B k_3 hk_3 rfl in_X11 1 (by decide) mw_475 (fun _ h9 => h9) rfl dX11_layoutOf_5 ?_
    refine lv_iload_n hx hb dX11_layoutOf_8 rfl (lv_at hl 1 rfl) ?_
    obtain ⟨k_4, hk_4⟩ := pk_at (hs := []) (show (((Y 1 0), .inl (k 3, 2, .inr (.inr (.inr (.inr (fun i9 : Nat => (fun j9 : Int => some (Y 4 j9)) i9)))))) : Nat × va_E) ∈ tl from PR_m hPR 0 1 rfl rfl)
    refine x_aldq (v := (Y 4 v)) B k_4 hk_4 (iI_in (by omega)) dX11_layoutOf_9 ((aldz (f := (fun j9 : Int => some (Y 4 j9))) (z := v) (by omega)).trans rfl) ?_
    refine lv_astore_n (lv' := [(2, .ref (Y 4 v)), (0, .ref (Y 0 0)), (1, .int (iI v))]) hx hb dX11_layoutOf_10 rfl hl (by decide) rfl (fun ls hl => ?_)
    refine lv_iconst (v := iI 0) hx hb dX11_layoutOf_11 (by decide) ?_
    refine lv_istore_n (lv' := [(3, .int (iI 0)), (2, .ref (Y 4 v)), (0, .ref (Y 0 0)), (1, .int (iI v))]) hx hb dX11_layoutOf_12 rfl hl (by decide) rfl (fun ls hl => ?_)
    refine W.widen (k := (cp - cp)) (n := (12 * (cp - cp))) (by omega) (by omega) ?_
    refine k_loopG (σ := Int × (Nat → Nat) × (Int → Nat → Int → Int) × (Nat → Int → Int) × (Nat → Int → Int → Int) × Nat × va_W) B (fun g9 : Int × (Nat → Nat) × (Int → Nat → Int → Int) × (Nat → Int → Int) × (Nat → Int → Int → Int) × Nat × va_W => (0 ≤ g9.1 ∧ g9.1 ≤ 731) ∧ (PR dI k T A g9.2.2.2.2.1 G Mc Y g9.2.1 g9.2.2.1 g9.2.2.2.1 K g9.2.2.2.2.2.1 g9.2.2.2.2.2.2) ∧ (LQ T v g9.1 (g9.2.2.1 v)) ∧ (∀ u, u ≠ v → g9.2.2.1 u = L u) ∧ (cp ≤ g9.2.2.2.2.2.1 ∧ g9.2.2.2.2.2.1 ≤ 131072)) (fun g9 : Int × (Nat → Nat) × (Int → Nat → Int → Int) × (Nat → Int → Int) × (Nat → Int → Int → Int) × Nat × va_W => (731 - g9.1).toNat) (fun g9 : Int × (Nat → Nat) × (Int → Nat → Int → Int) × (Nat → Int → Int) × (Nat → Int → Int → Int) × Nat × va_W => [(3, .int (iI g9.1)), (2, .ref (Y 4 v)), (0, .ref (Y 0 0)), (1, .int (iI v))]) (fun g9 : Int × (Nat → Nat) × (Int → Nat → Int → Int) × (Nat → Int → Int) × (Nat → Int → Int → Int) × Nat × va_W => ([] ++ g9.2.2.2.2.2.2)) (fun g9 : Int × (Nat → Nat) × (Int → Nat → Int → Int) × (Nat → Int → Int) × (Nat → Int → Int → Int) × Nat × va_W => (g9.2.2.2.2.2.1 - cp)) (fun g9 : Int × (Nat → Nat) × (Int → Nat → Int → Int) × (Nat → Int → Int) × (Nat → Int → Int → Int) × Nat × va_W => (12 * (g9.2.2.2.2.2.1 - cp))) ?_ (0, O, L, C, X, cp, tl) ⟨(show 0 ≤ 0 ∧ 0 ≤ 731 from (by omega)), (show PR dI k T A X G Mc Y O L C K cp tl from hPR), (show LQ T v 0 (L v) from (LQ_0 (hL v (by omega) (by omega)))), (show ∀ u, u ≠ v → L u = L u from (fun _ _ => rfl)), (show cp ≤ cp ∧ cp ≤ 131072 from (by omega))⟩ ls H locs (lv_sub hl [0, 1, 2, 3] rfl) (bd_to rfl B)
    clear hl B
    rintro ⟨kq, O9, L9, C9, X9, cp9, tl9⟩ ⟨hk, hPR, hq, hLo, hc9⟩ ih_5 ls H locs hl B
    have hk : 0 ≤ kq ∧ kq ≤ 731 := hk
    have hPR : PR dI k T A X9 G Mc Y O9 L9 C9 K cp9 tl9 := hPR
    have hq : LQ T v kq (L9 v) := hq
    have hLo : ∀ u, u ≠ v → L9 u = L u := hLo
    have hc9 : cp ≤ cp9 ∧ cp9 ≤ 131072 := hc9
    show W p l e _ s m args below meth c H locs (cp9 - cp) (12 * (cp9 - cp)) _ _
    have hl : lv_has ls 4 [(3, .int (iI kq)), (2, .ref (Y 4 v)), (0, .ref (Y 0 0)), (1, .int (iI v))] := hl
    have B := bd_to (ws' := ([] ++ tl9)) rfl B
    have hT : TI dI k T A X9 tl9 := PR_TI hPR
    have hg : 0 ≤ L9 v 0 0 ∧ L9 v 0 0 ≤ 1 := LQ_g hq
    refine lv_iload_n hx hb dX11_layoutOf_13 rfl (lv_at hl 0 rfl) ?_
    refine lv_sipush (v := iI 730) hx hb dX11_layoutOf_14 (by decide) ?_
    refine lv_icmp_gt (tgt := 37) hx hb dX11_layoutOf_17 (by decide) (fun c_13 => ?_) (fun c_13 => ?_)
    · have zc_13 : 730 < kq := jlt (a := 730) (b := kq) (by omega) (by omega) c_13
      have hLD : LD T v (L9 v) := by first | exact LQ_e hq (by omega) | exact LQ_D hq (by omega) (by omega)
      refine lv_aload_n hx hb dX11_layoutOf_37 rfl (lv_at hl 1 rfl) ?_
      exact vx_ret (k_aret B hr (⟨O9, L9, C9, X9, cp9, tl9, hPR, hLD, hLo, hc9, z_2, rfl, rfl, rfl, rfl⟩) ⟨(by first | omega | (dsimp only; omega)), (by first | omega | (dsimp only; omega))⟩ ⟨(by first | omega | (dsimp only; omega)), (by first | omega | (dsimp only; omega))⟩ dX11_layoutOf_38)
    · have zc_13 : kq ≤ 730 := jnlt (a := 730) (b := kq) (by omega) (by omega) c_13
      refine lv_aload_n hx hb dX11_layoutOf_20 rfl (lv_at hl 1 rfl) ?_
      obtain ⟨k_14, hk_14⟩ := pk_at (hs := []) (show (((Y 4 v), .inr (1, [.ref (A 50 0 0), .int (iI v), .ref (Y 5 0), .ref (Y 60 v), .ref (Y 61 v), .int (iI ((L9 v) 0 0)), .int (iI ((L9 v) 0 1)), .ref (Y 21 v), .ref (Y 22 v), .ref (Y 23 v), .ref (Y 24 v), .ref (Y 25 v), .ref (Y 26 v), .int (iI ((L9 v) 0 2)), .int (iI ((L9 v) 0 3)), .int (iI ((L9 v) 0 4)), .ref (Y 27 v)])) : Nat × va_E) ∈ tl9 from PR_ly hPR (show 0 ≤ v ∧ v ≤ 1 by omega) 0 rfl)
      refine x_get (ci := 1) (C := RX1) (T := TX1) (N := 17) (v := .int (iI ((L9 v) 0 0))) B k_14 hk_14 rfl in_X1 5 (by decide) mw_418 (fun _ h9 => h9) rfl dX11_layoutOf_21 ?_
      refine lv_if_eq (tgt := 37) hx hb dX11_layoutOf_24 (by decide) (fun c_15 => ?_) (fun c_15 => ?_)
      · have zc_15 : ((L9 v) 0 0) = 0 := jeq (a := ((L9 v) 0 0)) (b := 0) (by omega) (by omega) c_15
        have hLD : LD T v (L9 v) := by first | exact LQ_e hq (by omega) | exact LQ_D hq (by omega) (by omega)
        refine lv_aload_n hx hb dX11_layoutOf_37 rfl (lv_at hl 1 rfl) ?_
        exact vx_ret (k_aret B hr (⟨O9, L9, C9, X9, cp9, tl9, hPR, hLD, hLo, hc9, z_2, rfl, rfl, rfl, rfl⟩) ⟨(by first | omega | (dsimp only; omega)), (by first | omega | (dsimp only; omega))⟩ ⟨(by first | omega | (dsimp only; omega)), (by first | omega | (dsimp only; omega))⟩ dX11_layoutOf_38)
      · have zc_15 : ((L9 v) 0 0) ≠ 0 := jne (a := ((L9 v) 0 0)) (b := 0) (by omega) (by omega) c_15
        refine lv_aload_n hx hb dX11_layoutOf_27 rfl (lv_at hl 1 rfl) ?_
        have B := bd_swap (a := []) (b := []) (d := tl9) (bd_to rfl B)
        obtain ⟨k_16, hk_16⟩ := pk_at (hs := []) (show (((Y 4 v), .inr (1, [.ref (A 50 0 0), .int (iI v), .ref (Y 5 0), .ref (Y 60 v), .ref (Y 61 v), .int (iI ((L9 v) 0 0)), .int (iI ((L9 v) 0 1)), .ref (Y 21 v), .ref (Y 22 v), .ref (Y 23 v), .ref (Y 24 v), .ref (Y 25 v), .ref (Y 26 v), .int (iI ((L9 v) 0 2)), .int (iI ((L9 v) 0 3)), .int (iI ((L9 v) 0 4)), .ref (Y 27 v)])) : Nat × va_E) ∈ tl9 from PR_ly hPR (show 0 ≤ v ∧ v ≤ 1 by omega) 0 rfl)
        refine k_V (rest := []) (wc := ([] ++ tl9)) (wr := []) (k_makeRoundP l dC dI k T A X9 tl9 G Mc Y O9 L9 C9 K cp9 v ((rdS T v (Int.toNat kq)).2.2.2.2.2) hPR hK z_2 hcap (LQ_1 hq (by omega) (by omega)).1 (LQ_1 hq (by omega) (by omega)).2.1 (LQ_1 hq (by omega) (by omega)).2.2) B mV_X1_makeRound mw_1371 hl (q0 := k_16) (ci := 1) hk_16 rfl rfl ⟨Nat.le_of_ble_eq_true rfl, Nat.le_of_ble_eq_true rfl⟩ (Nat.le_of_ble_eq_true rfl) rfl dX11_layoutOf_28 ⟨by dsimp only; omega, by dsimp only; omega⟩ (fun r w gc gs H locs hp B => ?_)
        obtain ⟨O2_17, L2_18, C2_19, X2_20, cp2_21, tl2_22, z_23, z_24, z_25, z_26, z_27, z_28, rfl, hw9, rfl, rfl⟩ := hp
        rw [hw9] at B; clear hw9
        have B := bd_to (ws' := ([] ++ tl2_22)) rfl B
        have hPR : PR dI k T A X2_20 G Mc Y O2_17 L2_18 C2_19 K cp2_21 tl2_22 := z_23
        have hT : TI dI k T A X2_20 tl2_22 := PR_TI hPR
        refine lv_iinc (v := iI (kq + 1)) (lv' := [(3, .int (iI (kq + 1))), (2, .ref (Y 4 v)), (0, .ref (Y 0 0)), (1, .int (iI v))]) hx hb dX11_layoutOf_31 hl (k := 0) rfl (iI_add _ _) (by decide) rfl (fun ls hl => ?_)
        refine lv_goto (tgt := 13) hx hb dX11_layoutOf_34 (by decide) ?_
        refine W.widen (k := (cp2_21 - cp)) (n := (12 * (cp2_21 - cp))) (by omega) (by omega) ?_
        exact ih_5 ((kq + 1), O2_17, L2_18, C2_19, X2_20, cp2_21, tl2_22) ⟨(show 0 ≤ (kq + 1) ∧ (kq + 1) ≤ 731 from (by omega)), (show PR dI k T A X2_20 G Mc Y O2_17 L2_18 C2_19 K cp2_21 tl2_22 from hPR), (show LQ T v (kq + 1) (L2_18 v) from (LQ_s hq (by omega) (by omega) z_25 z_26 z_27)), (show ∀ u, u ≠ v → L2_18 u = L u from (fun u hu => (z_24 u hu).trans (hLo u hu))), (show cp ≤ cp2_21 ∧ cp2_21 ≤ 131072 from (by omega))⟩ (by first | omega | (dsimp only; omega)) _ _ _ (lv_sub hl [0, 1, 2, 3] rfl) (bd_to rfl B)

end
