section
section TKP
variable {T : Nat → Int → Int → Int → Int}
/-- a word as the text may have it -/
def WOK (T : Nat → Int → Int → Int → Int) (nl : Nat) (fl : Int → Int) (lb : Int) (fm : Int → Int) : Prop := nl ≤ 6 ∧ (∀ q, 0 ≤ fl q ∧ fl q ≤ 3) ∧ (-1 ≤ lb ∧ lb ≤ 5 ∧ (lb = -1 → 1 ≤ nl) ∧ (lb ≠ -1 → nl = 0)) ∧ (∀ q, -1 ≤ fm q ∧ fm q ≤ 7) ∧ (-1 ≤ fm 0 ∧ fm 0 ≤ 5 ∧ fm 0 ≠ 0) ∧ fm 1 < T 12 0 0 0 ∧ fm 2 ≤ 5
def GOK (nl : Nat) (gs_ : Int) : Prop := (0 ≤ gs_ ∧ gs_ < 64) ∧ ∀ q, 0 ≤ q → bAnd (bShr gs_ q) 1 = 1 → 2 ≤ q ∧ q ≤ 4 ∧ q + 2 ≤ (nl : Int)
theorem TK_puT (hK : TK T) {i a : Int} {nl : Nat} {fl fm : Int → Int} {lb gs_ : Int} (h : T 3 i 0 0 < 12 ∧ T 1 i 0 0 ≤ 2) (hw : WOK T nl fl lb fm) (hg : GOK nl gs_) : TK (puT T i a nl fl lb fm gs_) := ⟨TK_nb (T := T) hK, TK_kind (T := T) hK, TK_sty (T := T) hK, TK_ind (T := T) hK, TK_side (T := T) hK, TK_dep (T := T) hK, (fun j => by by_cases e : j = i; (subst e; rw [puT_3]; have q := TK_nw hK j; dsimp only; omega); (rw [puT_o e]; exact TK_nw hK j)), (fun j q => by by_cases e : j = i; (subst e; simp only [puT_w (c := 4) (show 4 ≤ 4 ∧ 4 ≤ 8 by omega)]; by_cases e2 : q = a; (simp only [if_pos e2]; have q9 := hw.1; simp only [if_true]; omega); (simp only [if_neg e2]; exact TK_len hK j (ish a q))); (simp only [puT_o (c := 4) e]; exact TK_len hK j q)), (fun j q r9 => by by_cases e : j = i; (subst e; simp only [puT_w (c := 5) (show 4 ≤ 5 ∧ 5 ≤ 8 by omega)]; by_cases e2 : q = a; (simp only [if_pos e2]; exact hw.2.1 r9); (simp only [if_neg e2]; exact TK_let hK j (ish a q) r9)); (simp only [puT_o (c := 5) e]; exact TK_let hK j q r9)), (fun j q => by by_cases e : j = i; (subst e; simp only [puT_w (c := 6) (show 4 ≤ 6 ∧ 6 ≤ 8 by omega)]; by_cases e2 : q = a; (simp only [if_pos e2]; exact ⟨hw.2.2.1.1, hw.2.2.1.2.1⟩); (simp only [if_neg e2]; exact TK_lab hK j (ish a q))); (simp only [puT_o (c := 6) e]; exact TK_lab hK j q)), (fun j q r9 => by by_cases e : j = i; (subst e; simp only [puT_w (c := 7) (show 4 ≤ 7 ∧ 7 ≤ 8 by omega)]; by_cases e2 : q = a; (simp only [if_pos e2]; exact hw.2.2.2.1 r9); (simp only [if_neg e2]; exact TK_mrk hK j (ish a q) r9)); (simp only [puT_o (c := 7) e]; exact TK_mrk hK j q r9)), (fun j q => by by_cases e : j = i; (subst e; simp only [puT_w (c := 7) (show 4 ≤ 7 ∧ 7 ≤ 8 by omega)]; by_cases e2 : q = a; (simp only [if_pos e2]; exact hw.2.2.2.2.1); (simp only [if_neg e2]; exact TK_note hK j (ish a q))); (simp only [puT_o (c := 7) e]; exact TK_note hK j q)), (fun j q => by by_cases e : j = i; (subst e; simp only [puT_w (c := 7) (show 4 ≤ 7 ∧ 7 ≤ 8 by omega)]; by_cases e2 : q = a; (simp only [if_pos e2]; exact hw.2.2.2.2.2.1); (simp only [if_neg e2]; exact TK_men hK j (ish a q))); (simp only [puT_o (c := 7) e]; exact TK_men hK j q)), (fun j q => by by_cases e : j = i; (subst e; simp only [puT_w (c := 7) (show 4 ≤ 7 ∧ 7 ≤ 8 by omega)]; by_cases e2 : q = a; (simp only [if_pos e2]; exact hw.2.2.2.2.2.2); (simp only [if_neg e2]; exact TK_mlab hK j (ish a q))); (simp only [puT_o (c := 7) e]; exact TK_mlab hK j q)), (fun j q => by by_cases e : j = i; (subst e; simp only [puT_w (c := 8) (show 4 ≤ 8 ∧ 8 ≤ 8 by omega)]; by_cases e2 : q = a; (simp only [if_pos e2]; exact hg.1); (simp only [if_neg e2]; exact TK_gap hK j (ish a q))); (simp only [puT_o (c := 8) e]; exact TK_gap hK j q)), TK_span (T := T) hK, TK_least (T := T) hK, TK_best (T := T) hK, TK_fc (T := T) hK, TK_fk (T := T) hK, TK_fh (T := T) hK, TK_key (T := T) hK, TK_wid (T := T) hK, TK_hei (T := T) hK, TK_np (T := T) hK, TK_pl (T := T) hK, TK_plt (T := T) hK, TK_pg (T := T) hK, TK_plv (T := T) hK, (fun j q r9 => by by_cases e : j = i; (subst e; simp only [puT_w (c := 8) (show 4 ≤ 8 ∧ 8 ≤ 8 by omega), puT_w (c := 4) (show 4 ≤ 4 ∧ 4 ≤ 8 by omega)]; by_cases e2 : q = a; (simp only [if_pos e2]; exact hg.2 r9); (simp only [if_neg e2]; exact TK_gapb hK j (ish a q) r9)); (simp only [puT_o (c := 8) e, puT_o (c := 4) e]; exact TK_gapb hK j q r9)), (fun j => by by_cases e : j = i; (subst e; rw [puT_n (c := 1) (by omega)]; intro _; exact h.2); (rw [puT_o (c := 3) e, puT_o (c := 1) e]; exact TK_hasw hK j)), TK_spc (T := T) hK, (fun j q => by by_cases e : j = i; (subst e; simp only [puT_w (c := 6) (show 4 ≤ 6 ∧ 6 ≤ 8 by omega), puT_w (c := 4) (show 4 ≤ 4 ∧ 4 ≤ 8 by omega)]; by_cases e2 : q = a; (simp only [if_pos e2]; exact ⟨fun g => by have q9 := hw.2.2.1.2.2.1 g; simp only [if_true]; omega, fun g => by have q9 := hw.2.2.1.2.2.2 g; simp only [if_true]; omega⟩); (simp only [if_neg e2]; exact TK_wl hK j (ish a q))); (simp only [puT_o (c := 6) e, puT_o (c := 4) e]; exact TK_wl hK j q)), TK_lst (T := T) hK⟩
end TKP

section GOK1
theorem bit_hi {g q : Int} (h : 0 ≤ g ∧ g < 32) (hq : 5 ≤ q) : bAnd (bShr g q) 1 = 0 := by
  have e : bShr g q = 0 := by
    unfold bShr
    apply Int.ediv_eq_zero_of_lt h.1
    have h2 : (2 : Nat) ^ 5 ≤ 2 ^ q.toNat := Nat.pow_le_pow_right (by omega) (by omega)
    have h3 : ((2 ^ 5 : Nat) : Int) ≤ ((2 ^ q.toNat : Nat) : Int) := Int.ofNat_le.mpr h2
    have h4 : ((2 ^ 5 : Nat) : Int) = 32 := rfl
    rw [h4] at h3
    exact Int.lt_of_lt_of_le h.2 h3
  rw [e]
  decide
theorem gok_of {nl : Nat} {g : Int} (hg : 0 ≤ g ∧ g < 32) (h : ∀ q : Int, q = 0 ∨ q = 1 ∨ q = 2 ∨ q = 3 ∨ q = 4 → bAnd (bShr g q) 1 = 1 → 2 ≤ q ∧ q ≤ 4 ∧ q + 2 ≤ (nl : Int)) : GOK nl g := by
  refine ⟨by omega, fun q h0 h1 => ?_⟩
  by_cases h5 : 5 ≤ q
  · rw [bit_hi hg h5] at h1
    exact absurd h1 (by decide)
  · exact h q (by omega) h1
theorem gs_ok {T : Nat → Int → Int → Int → Int} {f : Int → Int} {nl : Nat} (h : nl ≤ 6) : GOK nl (gsZ T f (nl : Int)) := by
  unfold gsZ
  obtain ⟨m, hm⟩ : ∃ m : Nat, Int.toNat ((nl : Int) - 3) = m := ⟨_, rfl⟩
  rw [hm]
  have h3 : m = 0 ∨ m = 1 ∨ m = 2 ∨ m = 3 := by omega
  rcases h3 with rfl | rfl | rfl | rfl
  · exact gok_of (by simp only [gsF]; decide) (fun q hq h1 => by simp only [gsF] at h1; rcases hq with rfl | rfl | rfl | rfl | rfl <;> exact absurd h1 (by decide))
  · simp only [gsF]
    split
    · exact gok_of (by decide) (fun q hq h1 => by rcases hq with rfl | rfl | rfl | rfl | rfl <;> first | exact absurd h1 (by decide) | omega)
    · exact gok_of (by decide) (fun q hq h1 => by rcases hq with rfl | rfl | rfl | rfl | rfl <;> first | exact absurd h1 (by decide) | omega)
  · simp only [gsF]
    repeat' split
    all_goals exact gok_of (by decide) (fun q hq h1 => by rcases hq with rfl | rfl | rfl | rfl | rfl <;> first | exact absurd h1 (by decide) | omega)
  · simp only [gsF]
    repeat' split
    all_goals exact gok_of (by decide) (fun q hq h1 => by rcases hq with rfl | rfl | rfl | rfl | rfl <;> first | exact absurd h1 (by decide) | omega)
end GOK1

theorem mw_471 : (Jvm.Cond.methodLink "Galleyforge" (38 : Nat) ({ cls := "java/util/Arrays", name := "fill", desc := "([II)V" } : Jvm.MethodName)) ∈ gt := gt_at 541 (by decide +kernel) (by decide +kernel)
theorem mw_757 : (Jvm.Cond.instanceMethod ({ cls := "Galleyforge$Text", name := "gapsOf", desc := "([I)I" } : Jvm.MethodName)) ∈ gt := gt_at 827 (by decide +kernel) (by decide +kernel)
theorem mw_758 : (Jvm.Cond.selects "Galleyforge$Text" ({ cls := "Galleyforge$Text", name := "gapsOf", desc := "([I)I" } : Jvm.MethodName) ({ cls := "Galleyforge$Text", name := "gapsOf", desc := "([I)I" } : Jvm.MethodName)) ∈ gt := gt_at 828 (by decide +kernel) (by decide +kernel)
theorem mw_759 : (Jvm.Cond.code ({ cls := "Galleyforge$Text", name := "gapsOf", desc := "([I)I" } : Jvm.MethodName) prog_11_method_3_code (4 : Nat) (Option.some Jvm.ClassFile.FieldType.int)) ∈ gt := gt_at 829 (by decide +kernel) (by decide +kernel)
theorem mw_823 : (Jvm.Cond.fieldLink "Galleyforge" (415 : Nat) "Galleyforge$Word" "letters" "[I") ∈ gt := gt_at 893 (by decide +kernel) (by decide +kernel)
theorem mw_845 : (Jvm.Cond.methodLink "Galleyforge" (418 : Nat) ({ cls := "Galleyforge$Text", name := "gapsOf", desc := "([I)I" } : Jvm.MethodName)) ∈ gt := gt_at 915 (by decide +kernel) (by decide +kernel)
theorem mw_846 : (Jvm.Cond.methodLink "Galleyforge" (164 : Nat) ({ cls := "java/util/ArrayList", name := "add", desc := "(ILjava/lang/Object;)V" } : Jvm.MethodName)) ∈ gt := gt_at 916 (by decide +kernel) (by decide +kernel)
theorem mw_847 : (Jvm.Cond.instanceMethod ({ cls := "java/util/ArrayList", name := "add", desc := "(ILjava/lang/Object;)V" } : Jvm.MethodName)) ∈ gt := gt_at 917 (by decide +kernel) (by decide +kernel)
theorem mw_848 : (Jvm.Cond.selects "java/util/ArrayList" ({ cls := "java/util/ArrayList", name := "add", desc := "(ILjava/lang/Object;)V" } : Jvm.MethodName) ({ cls := "java/util/ArrayList", name := "add", desc := "(ILjava/lang/Object;)V" } : Jvm.MethodName)) ∈ gt := gt_at 918 (by decide +kernel) (by decide +kernel)
theorem mw_849 : (Jvm.Cond.code ({ cls := "java/util/ArrayList", name := "add", desc := "(ILjava/lang/Object;)V" } : Jvm.MethodName) prog_40_method_26_code (5 : Nat) (Option.none : Option Jvm.ClassFile.FieldType)) ∈ gt := gt_at 919 (by decide +kernel) (by decide +kernel)
theorem mV_Jx4a65c_add_7a177 : mV yJx4a65c_add_7a177 cJx4a65c_add_7a177 5 none 2 := ⟨⟨mw_849, mw_5, by decide, by decide, by decide +kernel⟩, mw_847, mw_848⟩
theorem mV_X9_gapsOf : mV yX9_gapsOf cX9_gapsOf 4 (some .int) 1 := ⟨⟨mw_759, mw_2, by decide, by decide, by decide +kernel⟩, mw_757, mw_758⟩
theorem dX11_putIn_0 : decode cX11_putIn 0 = .ok (.aload_n 3, 1) := by decide +kernel
theorem dX11_putIn_1 : decode cX11_putIn 1 = .ok (.aload_n 0, 1) := by decide +kernel
theorem dX11_putIn_2 : decode cX11_putIn 2 = .ok (.getfield 12, 3) := by decide +kernel
theorem dX11_putIn_5 : decode cX11_putIn 5 = .ok (.aload_n 3, 1) := by decide +kernel
theorem dX11_putIn_6 : decode cX11_putIn 6 = .ok (.getfield 415, 3) := by decide +kernel
theorem dX11_putIn_9 : decode cX11_putIn 9 = .ok (.invokevirtual 418, 3) := by decide +kernel
theorem dX11_putIn_12 : decode cX11_putIn 12 = .ok (.putfield 235, 3) := by decide +kernel
theorem dX11_putIn_15 : decode cX11_putIn 15 = .ok (.aload_n 1, 1) := by decide +kernel
theorem dX11_putIn_16 : decode cX11_putIn 16 = .ok (.getfield 144, 3) := by decide +kernel
theorem dX11_putIn_19 : decode cX11_putIn 19 = .ok (.iload_n 2, 1) := by decide +kernel
theorem dX11_putIn_20 : decode cX11_putIn 20 = .ok (.aload_n 3, 1) := by decide +kernel
theorem dX11_putIn_21 : decode cX11_putIn 21 = .ok (.invokevirtual 164, 3) := by decide +kernel
theorem dX11_putIn_24 : decode cX11_putIn 24 = .ok (.aload_n 0, 1) := by decide +kernel
theorem dX11_putIn_25 : decode cX11_putIn 25 = .ok (.getfield 35, 3) := by decide +kernel
theorem dX11_putIn_28 : decode cX11_putIn 28 = .ok (.iconst (-1), 1) := by decide +kernel
theorem dX11_putIn_29 : decode cX11_putIn 29 = .ok (.invokestatic 38, 3) := by decide +kernel
theorem dX11_putIn_32 : decode cX11_putIn 32 = .ok (.aload_n 0, 1) := by decide +kernel
theorem dX11_putIn_33 : decode cX11_putIn 33 = .ok (.invokevirtual 106, 3) := by decide +kernel
theorem dX11_putIn_36 : decode cX11_putIn 36 = .ok (.aload_n 1, 1) := by decide +kernel
theorem dX11_putIn_37 : decode cX11_putIn 37 = .ok (.getfield 144, 3) := by decide +kernel
theorem dX11_putIn_40 : decode cX11_putIn 40 = .ok (.invokevirtual 85, 3) := by decide +kernel
theorem dX11_putIn_43 : decode cX11_putIn 43 = .ok (.ireturn, 1) := by decide +kernel
set_option maxHeartbeats 4000000 in
set_option maxRecDepth 100000 in
theorem k_putIn (l : Launch) (dC : Nat → ClassId) (dI : Nat → Nat → Nat) (k : Nat → ClassId) (T : Nat → Int → Int → Int → Int) (A : Nat → Int → Int → Nat) (X : Nat → Int → Int → Int) (tl : va_W) (G : Nat → Int → Nat) (Mc : Nat → Int → Int) (Y : Nat → Int → Nat) (O : Nat → Nat) (L : Int → Nat → Int → Int) (C : Nat → Int → Int) (K : Nat → Int → Int) (cp : Nat) (i : Int) (at_ : Int) (lb : Int) (gs_ : Int) (v9 : Nat) (la_ : Nat) (ma : Nat) (nl : Nat) (fl : Int → Int) (fm : Int → Int) (hPR : PR dI k T A X G Mc Y O L C K cp tl) (hK : TK T) (hKK : KK T K) (hi : 0 ≤ i ∧ i < T 0 0 0 0) (h1 : 0 ≤ at_ ∧ at_ ≤ T 3 i 0 0 ∧ T 3 i 0 0 < 12 ∧ T 1 i 0 0 ≤ 2) (hwk : WOK T nl fl lb fm) : Kn l dC dI k yX11_putIn (.code yX11_putIn cX11_putIn 4 (some .int)) ({ frames := 13, cells := 1, slots := 40, locals := 424 } : Room) [.ref (Y 0 0), .ref (A 0 i 0), .int (iI at_), .ref v9] ([(v9, .inr (10, [.ref la_, .int (iI lb), .ref ma, .int (iI gs_)])), (la_, .inl (k 0, nl, .inl (fun i9 : Nat => iI (fl i9)))), (ma, .inl (k 0, 5, .inl (fun i9 : Nat => iI (fm i9))))] ++ tl) (fun r w gc gs => (∃ (L2 : Int → Nat → Int → Int) (e2 : Nat) (c2 : Nat) (tl2 : va_W), (PR dI k (puT T i at_ nl fl lb fm (gsZ T fl (nl : Int))) (puA A i at_ v9 la_ ma e2) X (upG G 1 i c2) (upM Mc 1 i (Mc 1 i + 1)) Y O L2 C (KKn (K 0 0) (K 1) (fun _ : Int => (-1))) cp tl2) ∧ (∀ u, 0 ≤ u → u ≤ 1 → LF (L2 u)) ∧ r = some (.int (iI (T 3 i 0 0 + 1))) ∧ w = ([] ++ tl2) ∧ gc = 1 ∧ gs = 40)) := by
  refine kn_of (by decide) (Nat.le_of_ble_eq_true rfl) ?_
  intro p e s m args below meth c H locs B hr hnm ls hl
  have hx := B.1.1
  have hb := B.1.2.1
  have hl : lv_has ls 4 [(0, .ref (Y 0 0)), (1, .ref (A 0 i 0)), (2, .int (iI at_)), (3, .ref v9)] := hl
  have hT := PR_TI hPR
  have hnb0 := TK_nb hK
  have hcp0 : 512 ≤ cp ∧ cp ≤ 131072 := by have q9 := hPR.2.2.2; unfold cpOk at q9; omega
  have hnl : nl ≤ 6 := hwk.1
  have hfl : Bd 0 3 fl := hwk.2.1
  refine lv_aload_n hx hb dX11_putIn_0 rfl (lv_at hl 3 rfl) ?_
  refine lv_aload_n hx hb dX11_putIn_1 rfl (lv_at hl 0 rfl) ?_
  obtain ⟨k_1, hk_1⟩ := pk_at (hs := [(v9, .inr (10, [.ref la_, .int (iI lb), .ref ma, .int (iI gs_)])), (la_, .inl (k 0, nl, .inl (fun i9 : Nat => iI (fl i9)))), (ma, .inl (k 0, 5, .inl (fun i9 : Nat => iI (fm i9))))]) (show (((Y 0 0), .inr (11, [.ref (A 50 0 0), .ref (Y 1 0), .ref (Y 2 0), .int (iI (K 0 0)), .ref (Y 3 0)])) : Nat × va_E) ∈ tl from PR_m hPR 0 0 rfl rfl)
  refine x_get (ci := 11) (C := RX11) (T := TX11) (N := 5) (v := .ref (A 50 0 0)) B k_1 hk_1 rfl in_X11 0 (by decide) mw_474 (fun _ h9 => h9) rfl dX11_putIn_2 ?_
  refine lv_aload_n hx hb dX11_putIn_5 rfl (lv_at hl 3 rfl) ?_
  refine x_get (ci := 10) (C := RX10) (T := TX10) (N := 4) (v := .ref la_) B 0 rfl rfl in_X10 0 (by decide) mw_823 (fun _ h9 => h9) rfl dX11_putIn_6 ?_
  have B := bd_pick (hs := [(v9, .inr (10, [.ref la_, .int (iI lb), .ref ma, .int (iI gs_)])), (la_, .inl (k 0, nl, .inl (fun i9 : Nat => iI (fl i9)))), (ma, .inl (k 0, 5, .inl (fun i9 : Nat => iI (fm i9))))]) (ws' := [(v9, .inr (10, [.ref la_, .int (iI lb), .ref ma, .int (iI gs_)])), (ma, .inl (k 0, 5, .inl (fun i9 : Nat => iI (fm i9)))), (la_, .inl (k 0, nl, .inl (fun i9 : Nat => iI (fl i9))))]) (tl := tl) [0, 2, 1] (by decide) rfl B
  have B := bd_to (ws' := ([(v9, .inr (10, [.ref la_, .int (iI lb), .ref ma, .int (iI gs_)])), (ma, .inl (k 0, 5, .inl (fun i9 : Nat => iI (fm i9))))] ++ ([((la_, .inl (k 0, nl, .inl (fun i9 : Nat => iI (fl i9)))) : Nat × va_E)] ++ tl))) rfl B
  have hT := TI_mono (tl' := ([((la_, .inl (k 0, nl, .inl (fun i9 : Nat => iI (fl i9)))) : Nat × va_E)] ++ tl)) hT (fun e he => List.mem_append_right _ he)
  have B := bd_swap (a := []) (b := [(v9, .inr (10, [.ref la_, .int (iI lb), .ref ma, .int (iI gs_)])), (ma, .inl (k 0, 5, .inl (fun i9 : Nat => iI (fm i9))))]) (d := ([((la_, .inl (k 0, nl, .inl (fun i9 : Nat => iI (fl i9)))) : Nat × va_E)] ++ tl)) (bd_to rfl B)
  obtain ⟨k_2, hk_2⟩ := pk_at (hs := []) hT.1.1
  refine k_V (rest := [.ref v9]) (wc := ([] ++ ([((la_, .inl (k 0, nl, .inl (fun i9 : Nat => iI (fl i9)))) : Nat × va_E)] ++ tl))) (wr := [(v9, .inr (10, [.ref la_, .int (iI lb), .ref ma, .int (iI gs_)])), (ma, .inl (k 0, 5, .inl (fun i9 : Nat => iI (fm i9))))]) (k_gapsOf l dC dI k T A X ([((la_, .inl (k 0, nl, .inl (fun i9 : Nat => iI (fl i9)))) : Nat × va_E)] ++ tl) la_ nl fl hT hK (List.mem_append_left _ List.mem_cons_self) hfl hnl) B mV_X9_gapsOf mw_845 hl (q0 := k_2) (ci := 9) hk_2 rfl rfl ⟨Nat.le_of_ble_eq_true rfl, Nat.le_of_ble_eq_true rfl⟩ (Nat.le_of_ble_eq_true rfl) rfl dX11_putIn_9 ⟨Nat.le_of_ble_eq_true rfl, Nat.le_of_ble_eq_true rfl⟩ (fun r w gc gs H locs hp B => ?_)
  obtain ⟨z_3, rfl, hw9, rfl, rfl⟩ := hp
  rw [hw9] at B; clear hw9
  have B := bd_to (ws' := ([(v9, .inr (10, [.ref la_, .int (iI lb), .ref ma, .int (iI gs_)])), (ma, .inl (k 0, 5, .inl (fun i9 : Nat => iI (fm i9))))] ++ ([((la_, .inl (k 0, nl, .inl (fun i9 : Nat => iI (fl i9)))) : Nat × va_E)] ++ tl))) rfl B
  have B := bd_to (ws' := ([(v9, .inr (10, [.ref la_, .int (iI lb), .ref ma, .int (iI gs_)])), (ma, .inl (k 0, 5, .inl (fun i9 : Nat => iI (fm i9)))), (la_, .inl (k 0, nl, .inl (fun i9 : Nat => iI (fl i9))))] ++ tl)) rfl B
  have hT := PR_TI hPR
  refine x_put (ci := 10) (C := RX10) (T := TX10) (N := 4) (ty := .int) (v := .int (iI (gsZ T fl (nl : Int)))) B tyX10_ok nmX10 0 rfl rfl in_X10 3 (by decide) mw_831 (fun _ h9 => h9) rfl (by decide +kernel) rfl rfl (Nat.le_of_ble_eq_true rfl) dX11_putIn_12 (fun H locs B => ?_)
  have B := bd_to (ws' := ([(v9, .inr (10, [.ref la_, .int (iI lb), .ref ma, .int (iI (gsZ T fl (nl : Int)))])), (ma, .inl (k 0, 5, .inl (fun i9 : Nat => iI (fm i9)))), (la_, .inl (k 0, nl, .inl (fun i9 : Nat => iI (fl i9))))] ++ tl)) rfl B
  refine lv_aload_n hx hb dX11_putIn_15 rfl (lv_at hl 1 rfl) ?_
  obtain ⟨k_4, hk_4⟩ := pk_at (hs := [(v9, .inr (10, [.ref la_, .int (iI lb), .ref ma, .int (iI (gsZ T fl (nl : Int)))])), (ma, .inl (k 0, 5, .inl (fun i9 : Nat => iI (fm i9)))), (la_, .inl (k 0, nl, .inl (fun i9 : Nat => iI (fl i9))))]) (hT.2.2.2.1 i (by omega) (by omega)).1
  refine x_get (ci := 0) (C := RX0) (T := TX0) (N := 4) (v := .ref (A 2 i 0)) B k_4 hk_4 rfl in_X0 2 (by decide) mw_1183 (fun _ h9 => h9) rfl dX11_putIn_16 ?_
  refine lv_iload_n hx hb dX11_putIn_19 rfl (lv_at hl 2 rfl) ?_
  refine lv_aload_n hx hb dX11_putIn_20 rfl (lv_at hl 3 rfl) ?_
  have B := bd_pick (hs := [(v9, .inr (10, [.ref la_, .int (iI lb), .ref ma, .int (iI (gsZ T fl (nl : Int)))])), (ma, .inl (k 0, 5, .inl (fun i9 : Nat => iI (fm i9)))), (la_, .inl (k 0, nl, .inl (fun i9 : Nat => iI (fl i9))))]) (ws' := [(v9, .inr (10, [.ref la_, .int (iI lb), .ref ma, .int (iI (gsZ T fl (nl : Int)))])), (la_, .inl (k 0, nl, .inl (fun i9 : Nat => iI (fl i9)))), (ma, .inl (k 0, 5, .inl (fun i9 : Nat => iI (fm i9))))]) (tl := tl) [0, 2, 1] (by decide) rfl B
  have B := bd_swap (a := [(v9, .inr (10, [.ref la_, .int (iI lb), .ref ma, .int (iI (gsZ T fl (nl : Int)))])), (la_, .inl (k 0, nl, .inl (fun i9 : Nat => iI (fl i9)))), (ma, .inl (k 0, 5, .inl (fun i9 : Nat => iI (fm i9))))]) (b := []) (d := tl) (bd_to rfl B)
  obtain ⟨k_5, fk_5, hk_5⟩ := LI_at (hs := [(v9, .inr (10, [.ref la_, .int (iI lb), .ref ma, .int (iI (gsZ T fl (nl : Int)))])), (la_, .inl (k 0, nl, .inl (fun i9 : Nat => iI (fl i9)))), (ma, .inl (k 0, 5, .inl (fun i9 : Nat => iI (fm i9))))]) (hT.2.2.2.1 i (by omega) (by omega)).2.2
  refine k_V (rest := []) (wc := ([(v9, .inr (10, [.ref la_, .int (iI lb), .ref ma, .int (iI (gsZ T fl (nl : Int)))])), (la_, .inl (k 0, nl, .inl (fun i9 : Nat => iI (fl i9)))), (ma, .inl (k 0, 5, .inl (fun i9 : Nat => iI (fm i9))))] ++ tl)) (wr := []) (k_putP l dC dI k T A X tl G Mc Y O L C K cp i at_ lb (gsZ T fl (nl : Int)) v9 la_ ma nl fl fm hPR hK hi (by omega)) B mV_Jx4a65c_add_7a177 mw_846 hl (q0 := k_5) (ci := 12) hk_5 rfl rfl ⟨Nat.le_of_ble_eq_true rfl, Nat.le_of_ble_eq_true rfl⟩ (Nat.le_of_ble_eq_true rfl) rfl dX11_putIn_21 ⟨Nat.le_of_ble_eq_true rfl, Nat.le_of_ble_eq_true rfl⟩ (fun r w gc gs H locs hp B => ?_)
  obtain ⟨e2_6, c2_7, tl2_8, z_9, rfl, hw9, rfl, rfl⟩ := hp
  rw [hw9] at B; clear hw9
  have B := bd_to (ws' := ([] ++ tl2_8)) rfl B
  have hPR : PR dI k (puT T i at_ nl fl lb fm (gsZ T fl (nl : Int))) (puA A i at_ v9 la_ ma e2_6) X (upG G 1 i c2_7) (upM Mc 1 i (Mc 1 i + 1)) Y O L C K cp tl2_8 := z_9
  have hT : TI dI k (puT T i at_ nl fl lb fm (gsZ T fl (nl : Int))) (puA A i at_ v9 la_ ma e2_6) X tl2_8 := PR_TI hPR
  obtain ⟨tr_10, htr_10, btr_10⟩ := PR_gout hPR
  have B := bd_perm (List.Perm.append_left [] htr_10) B
  have B := bd_to (ws' := ([((Y 0 0), .inr (11, [.ref (A 50 0 0), .ref (Y 1 0), .ref (Y 2 0), .int (iI (K 0 0)), .ref (Y 3 0)])), ((Y 1 0), .inl (k 3, 2, .inr (.inr (.inr (.inr (fun i9 : Nat => (fun j9 : Int => some (Y 4 j9)) i9)))))), ((Y 2 0), .inl (k 0, 6, .inl (fun i9 : Nat => iI ((K 1) i9)))), ((Y 3 0), .inl (k 0, 5, .inl (fun i9 : Nat => iI ((K 2) i9))))] ++ tr_10)) rfl B
  refine lv_aload_n hx hb dX11_putIn_24 rfl (lv_at hl 0 rfl) ?_
  refine x_get (ci := 11) (C := RX11) (T := TX11) (N := 5) (v := .ref (Y 3 0)) B 0 rfl rfl in_X11 4 (by decide) mw_478 (fun _ h9 => h9) rfl dX11_putIn_25 ?_
  refine lv_iconst (v := iI (-1)) hx hb dX11_putIn_28 (by decide) ?_
  have B := bd_pick (hs := [((Y 0 0), .inr (11, [.ref (A 50 0 0), .ref (Y 1 0), .ref (Y 2 0), .int (iI (K 0 0)), .ref (Y 3 0)])), ((Y 1 0), .inl (k 3, 2, .inr (.inr (.inr (.inr (fun i9 : Nat => (fun j9 : Int => some (Y 4 j9)) i9)))))), ((Y 2 0), .inl (k 0, 6, .inl (fun i9 : Nat => iI ((K 1) i9)))), ((Y 3 0), .inl (k 0, 5, .inl (fun i9 : Nat => iI ((K 2) i9))))]) (ws' := [((Y 3 0), .inl (k 0, 5, .inl (fun i9 : Nat => iI ((K 2) i9)))), ((Y 0 0), .inr (11, [.ref (A 50 0 0), .ref (Y 1 0), .ref (Y 2 0), .int (iI (K 0 0)), .ref (Y 3 0)])), ((Y 1 0), .inl (k 3, 2, .inr (.inr (.inr (.inr (fun i9 : Nat => (fun j9 : Int => some (Y 4 j9)) i9)))))), ((Y 2 0), .inl (k 0, 6, .inl (fun i9 : Nat => iI ((K 1) i9))))]) (tl := tr_10) [3, 0, 1, 2] (by decide) rfl B
  have B := bd_to (ws' := [((Y 3 0), .inl (k 0, 5, .inl (fun i9 : Nat => iI ((K 2) i9))))] ++ ([((Y 0 0), .inr (11, [.ref (A 50 0 0), .ref (Y 1 0), .ref (Y 2 0), .int (iI (K 0 0)), .ref (Y 3 0)])), ((Y 1 0), .inl (k 3, 2, .inr (.inr (.inr (.inr (fun i9 : Nat => (fun j9 : Int => some (Y 4 j9)) i9)))))), ((Y 2 0), .inl (k 0, 6, .inl (fun i9 : Nat => iI ((K 1) i9))))] ++ tr_10)) rfl B
  refine k_S (rest := []) (wc := [((Y 3 0), .inl (k 0, 5, .inl (fun i9 : Nat => iI ((K 2) i9))))]) (wr := ([((Y 0 0), .inr (11, [.ref (A 50 0 0), .ref (Y 1 0), .ref (Y 2 0), .int (iI (K 0 0)), .ref (Y 3 0)])), ((Y 1 0), .inl (k 3, 2, .inr (.inr (.inr (.inr (fun i9 : Nat => (fun j9 : Int => some (Y 4 j9)) i9)))))), ((Y 2 0), .inl (k 0, 6, .inl (fun i9 : Nat => iI ((K 1) i9))))] ++ tr_10)) (k_fill l dC dI k (Y 3 0) 5 (K 2) (-1) (by omega)) B mS_J7_fill_53178 mw_471 hl ⟨Nat.le_of_ble_eq_true rfl, Nat.le_of_ble_eq_true rfl⟩ (Nat.le_of_ble_eq_true rfl) rfl dX11_putIn_29 ⟨Nat.le_of_ble_eq_true rfl, Nat.le_of_ble_eq_true rfl⟩ (fun r w gc gs H locs hp B => ?_)
  obtain ⟨rfl, hw9, rfl, rfl⟩ := hp
  rw [hw9] at B; clear hw9
  have B := bd_swap (a := [((Y 0 0), .inr (11, [.ref (A 50 0 0), .ref (Y 1 0), .ref (Y 2 0), .int (iI (K 0 0)), .ref (Y 3 0)])), ((Y 1 0), .inl (k 3, 2, .inr (.inr (.inr (.inr (fun i9 : Nat => (fun j9 : Int => some (Y 4 j9)) i9)))))), ((Y 2 0), .inl (k 0, 6, .inl (fun i9 : Nat => iI ((K 1) i9))))]) (b := tr_10) (d := [((Y 3 0), .inl (k 0, 5, .inl (fun i9 : Nat => iI ((fun _ : Int => (-1)) i9))))]) B
  have B := bd_to (ws' := ([((Y 0 0), .inr (11, [.ref (A 50 0 0), .ref (Y 1 0), .ref (Y 2 0), .int (iI (K 0 0)), .ref (Y 3 0)])), ((Y 1 0), .inl (k 3, 2, .inr (.inr (.inr (.inr (fun i9 : Nat => (fun j9 : Int => some (Y 4 j9)) i9)))))), ((Y 2 0), .inl (k 0, 6, .inl (fun i9 : Nat => iI ((K 1) i9)))), ((Y 3 0), .inl (k 0, 5, .inl (fun i9 : Nat => iI ((fun _ : Int => (-1)) i9))))] ++ tr_10)) rfl B
  refine lv_aload_n hx hb dX11_putIn_32 rfl (lv_at hl 0 rfl) ?_
  have B := bd_to (ws' := ([] ++ (gCl k (puA A i at_ v9 la_ ma e2_6) Y (KKn (K 0 0) (K 1) (fun _ : Int => (-1))) ++ tr_10))) rfl B
  have hPR : PR dI k (puT T i at_ nl fl lb fm (gsZ T fl (nl : Int))) (puA A i at_ v9 la_ ma e2_6) X (upG G 1 i c2_7) (upM Mc 1 i (Mc 1 i + 1)) Y O L C (KKn (K 0 0) (K 1) (fun _ : Int => (-1))) cp (gCl k (puA A i at_ v9 la_ ma e2_6) Y (KKn (K 0 0) (K 1) (fun _ : Int => (-1))) ++ tr_10) := btr_10 (KKn (K 0 0) (K 1) (fun _ : Int => (-1)))
  have hT := PR_TI hPR
  have B := bd_swap (a := []) (b := []) (d := (gCl k (puA A i at_ v9 la_ ma e2_6) Y (KKn (K 0 0) (K 1) (fun _ : Int => (-1))) ++ tr_10)) (bd_to rfl B)
  obtain ⟨k_11, hk_11⟩ := pk_at (hs := []) (show (((Y 0 0), .inr (11, [.ref (A 50 0 0), .ref (Y 1 0), .ref (Y 2 0), .int (iI ((KKn (K 0 0) (K 1) (fun _ : Int => (-1))) 0 0)), .ref (Y 3 0)])) : Nat × va_E) ∈ (gCl k (puA A i at_ v9 la_ ma e2_6) Y (KKn (K 0 0) (K 1) (fun _ : Int => (-1))) ++ tr_10) from (PR_m hPR 0 0 rfl rfl))
  refine k_V (rest := []) (wc := ([] ++ (gCl k (puA A i at_ v9 la_ ma e2_6) Y (KKn (K 0 0) (K 1) (fun _ : Int => (-1))) ++ tr_10))) (wr := []) (k_forgetAll l dC dI k (puT T i at_ nl fl lb fm (gsZ T fl (nl : Int))) (puA A i at_ v9 la_ ma e2_6) X (gCl k (puA A i at_ v9 la_ ma e2_6) Y (KKn (K 0 0) (K 1) (fun _ : Int => (-1))) ++ tr_10) (upG G 1 i c2_7) (upM Mc 1 i (Mc 1 i + 1)) Y O L C (KKn (K 0 0) (K 1) (fun _ : Int => (-1))) cp hPR (TK_puT hK (by omega) hwk (gs_ok hwk.1))) B mV_X11_forgetLayouts mw_769 hl (q0 := k_11) (ci := 11) hk_11 rfl rfl ⟨Nat.le_of_ble_eq_true rfl, Nat.le_of_ble_eq_true rfl⟩ (Nat.le_of_ble_eq_true rfl) rfl dX11_putIn_33 ⟨Nat.le_of_ble_eq_true rfl, Nat.le_of_ble_eq_true rfl⟩ (fun r w gc gs H locs hp B => ?_)
  obtain ⟨L2_12, tl2_13, z_14, z_15, rfl, hw9, rfl, rfl⟩ := hp
  rw [hw9] at B; clear hw9
  have B := bd_to (ws' := ([] ++ tl2_13)) rfl B
  have hPR : PR dI k (puT T i at_ nl fl lb fm (gsZ T fl (nl : Int))) (puA A i at_ v9 la_ ma e2_6) X (upG G 1 i c2_7) (upM Mc 1 i (Mc 1 i + 1)) Y O L2_12 C (KKn (K 0 0) (K 1) (fun _ : Int => (-1))) cp tl2_13 := z_14
  have hT : TI dI k (puT T i at_ nl fl lb fm (gsZ T fl (nl : Int))) (puA A i at_ v9 la_ ma e2_6) X tl2_13 := PR_TI hPR
  refine lv_aload_n hx hb dX11_putIn_36 rfl (lv_at hl 1 rfl) ?_
  obtain ⟨k_16, hk_16⟩ := pk_at (hs := []) (show (((A 0 i 0), .inr (0, [.int (iI ((puT T i at_ nl fl lb fm (gsZ T fl (nl : Int))) 1 i 0 0)), .ref ((puA A i at_ v9 la_ ma e2_6) 1 i 0), .ref ((puA A i at_ v9 la_ ma e2_6) 2 i 0), va_rf (if (puT T i at_ nl fl lb fm (gsZ T fl (nl : Int))) 1 i 0 0 = 3 then some ((puA A i at_ v9 la_ ma e2_6) 7 i 0) else none)])) : Nat × va_E) ∈ tl2_13 from (hT.2.2.2.1 i (show 0 ≤ i by omega) (show i < T 0 0 0 0 by omega)).1)
  refine x_get (ci := 0) (C := RX0) (T := TX0) (N := 4) (v := .ref ((puA A i at_ v9 la_ ma e2_6) 2 i 0)) B k_16 hk_16 rfl in_X0 2 (by decide) mw_1183 (fun _ h9 => h9) rfl dX11_putIn_37 ?_
  have B := bd_swap (a := []) (b := []) (d := tl2_13) (bd_to rfl B)
  obtain ⟨k_17, fk_17, hk_17⟩ := LI_at (hs := []) (hT.2.2.2.1 i (show 0 ≤ i by omega) (show i < T 0 0 0 0 by omega)).2.2
  refine k_V (rest := []) (wc := ([] ++ tl2_13)) (wr := []) (k_sizeW l dC dI k (puT T i at_ nl fl lb fm (gsZ T fl (nl : Int))) (puA A i at_ v9 la_ ma e2_6) X tl2_13 i hT (TK_puT hK (by omega) hwk (gs_ok hwk.1)) (show 0 ≤ i ∧ i < T 0 0 0 0 from hi)) B mV_Jx4a65c_size_8abf5 mw_637 hl (q0 := k_17) (ci := 12) hk_17 rfl rfl ⟨Nat.le_of_ble_eq_true rfl, Nat.le_of_ble_eq_true rfl⟩ (Nat.le_of_ble_eq_true rfl) rfl dX11_putIn_40 ⟨Nat.le_of_ble_eq_true rfl, Nat.le_of_ble_eq_true rfl⟩ (fun r w gc gs H locs hp B => ?_)
  obtain ⟨z_18, rfl, hw9, rfl, rfl⟩ := hp
  rw [hw9] at B; clear hw9
  have B := bd_to (ws' := ([] ++ tl2_13)) rfl B
  have e_19 : (T 3 i 0 0 + 1) = ((puT T i at_ nl fl lb fm (gsZ T fl (nl : Int))) 3 i 0 0) := (by rw [puT_3])
  skip
  exact k_iret B hr (⟨L2_12, e2_6, c2_7, tl2_13, hPR, z_15, (by rw [e_19]), rfl, rfl, rfl⟩) ⟨Nat.le_of_ble_eq_true rfl, Nat.le_of_ble_eq_true rfl⟩ ⟨Nat.le_of_ble_eq_true rfl, Nat.le_of_ble_eq_true rfl⟩ dX11_putIn_43

end
