section
section TKG
variable {T : Nat → Int → Int → Int → Int}
theorem TK_gpT (hK : TK T) {a b : Int} : TK (gpT T a b) := ⟨TK_nb (T := T) hK, TK_kind (T := T) hK, TK_sty (T := T) hK, TK_ind (T := T) hK, TK_side (T := T) hK, TK_dep (T := T) hK, TK_nw (T := T) hK, TK_len (T := T) hK, TK_let (T := T) hK, TK_lab (T := T) hK, TK_mrk (T := T) hK, TK_note (T := T) hK, TK_men (T := T) hK, TK_mlab (T := T) hK, (fun j q => by have q9 := (gs_ok (T := T) (f := fun x => T 5 j q x) (nl := Int.toNat (T 4 j q 0)) (by have := TK_len hK j q; omega)).1; have q8 := TK_gap hK j q; show 0 ≤ (if 0 ≤ j ∧ j < T 0 0 0 0 ∧ 0 ≤ q ∧ q < T 3 j 0 0 ∧ (j < a ∨ (j = a ∧ q < b)) then gsZ T (fun x => T 5 j q x) ((Int.toNat (T 4 j q 0) : Nat) : Int) else T 8 j q 0) ∧ (if 0 ≤ j ∧ j < T 0 0 0 0 ∧ 0 ≤ q ∧ q < T 3 j 0 0 ∧ (j < a ∨ (j = a ∧ q < b)) then gsZ T (fun x => T 5 j q x) ((Int.toNat (T 4 j q 0) : Nat) : Int) else T 8 j q 0) < 64; split; (exact q9); exact q8), TK_span (T := T) hK, TK_least (T := T) hK, TK_best (T := T) hK, TK_fc (T := T) hK, TK_fk (T := T) hK, TK_fh (T := T) hK, TK_key (T := T) hK, TK_wid (T := T) hK, TK_hei (T := T) hK, TK_np (T := T) hK, TK_pl (T := T) hK, TK_plt (T := T) hK, TK_pg (T := T) hK, TK_plv (T := T) hK, (fun j q r h0 => by have q9 := (gs_ok (T := T) (f := fun x => T 5 j q x) (nl := Int.toNat (T 4 j q 0)) (by have := TK_len hK j q; omega)).2 r h0; have q8 := TK_gapb hK j q r h0; have q7 := TK_len hK j q; show bAnd (bShr (if 0 ≤ j ∧ j < T 0 0 0 0 ∧ 0 ≤ q ∧ q < T 3 j 0 0 ∧ (j < a ∨ (j = a ∧ q < b)) then gsZ T (fun x => T 5 j q x) ((Int.toNat (T 4 j q 0) : Nat) : Int) else T 8 j q 0) r) 1 = 1 → 2 ≤ r ∧ r ≤ 4 ∧ r + 2 ≤ T 4 j q 0; split; (intro g; have := q9 g; omega); exact q8), TK_hasw (T := T) hK, TK_spc (T := T) hK, TK_wl (T := T) hK, TK_lst (T := T) hK⟩
theorem gpT_r {a b m : Int} : gpT T a b 0 m = T 0 m ∧ gpT T a b 3 m = T 3 m ∧ gpT T a b 4 m = T 4 m := ⟨rfl, rfl, rfl⟩
end TKG

theorem mw_680 : (Jvm.Cond.methodLink "Galleyforge$Text" (38 : Nat) ({ cls := "java/util/ArrayList", name := "add", desc := "(Ljava/lang/Object;)Z" } : Jvm.MethodName)) ∈ gt := gt_at 750 (by decide +kernel) (by decide +kernel)
theorem mw_681 : (Jvm.Cond.instanceMethod ({ cls := "java/util/ArrayList", name := "add", desc := "(Ljava/lang/Object;)Z" } : Jvm.MethodName)) ∈ gt := gt_at 751 (by decide +kernel) (by decide +kernel)
theorem mw_682 : (Jvm.Cond.selects "java/util/ArrayList" ({ cls := "java/util/ArrayList", name := "add", desc := "(Ljava/lang/Object;)Z" } : Jvm.MethodName) ({ cls := "java/util/ArrayList", name := "add", desc := "(Ljava/lang/Object;)Z" } : Jvm.MethodName)) ∈ gt := gt_at 752 (by decide +kernel) (by decide +kernel)
theorem mw_683 : (Jvm.Cond.code ({ cls := "java/util/ArrayList", name := "add", desc := "(Ljava/lang/Object;)Z" } : Jvm.MethodName) prog_40_method_25_code (2 : Nat) (Option.some Jvm.ClassFile.FieldType.boolean)) ∈ gt := gt_at 753 (by decide +kernel) (by decide +kernel)
theorem mw_755 : (Jvm.Cond.classLink "Galleyforge$Text" (55 : Nat) "Galleyforge$Word") ∈ gt := gt_at 825 (by decide +kernel) (by decide +kernel)
theorem mw_756 : (Jvm.Cond.methodLink "Galleyforge$Text" (60 : Nat) ({ cls := "Galleyforge$Text", name := "gapsOf", desc := "([I)I" } : Jvm.MethodName)) ∈ gt := gt_at 826 (by decide +kernel) (by decide +kernel)
theorem mw_821 : (Jvm.Cond.fieldLink "Galleyforge$Text" (57 : Nat) "Galleyforge$Word" "letters" "[I") ∈ gt := gt_at 891 (by decide +kernel) (by decide +kernel)
theorem mw_829 : (Jvm.Cond.fieldLink "Galleyforge$Text" (64 : Nat) "Galleyforge$Word" "gapSet" "I") ∈ gt := gt_at 899 (by decide +kernel) (by decide +kernel)
theorem mw_1180 : (Jvm.Cond.fieldLink "Galleyforge$Text" (52 : Nat) "Galleyforge$Block" "words" "Ljava/util/ArrayList;") ∈ gt := gt_at 1250 (by decide +kernel) (by decide +kernel)
theorem mV_Jx4a65c_add_9ea2d : mV yJx4a65c_add_9ea2d cJx4a65c_add_9ea2d 2 (some .boolean) 1 := ⟨⟨mw_683, mw_5, by decide, by decide, by decide +kernel⟩, mw_681, mw_682⟩
theorem dX9_addPattern_0 : decode cX9_addPattern 0 = .ok (.aload_n 0, 1) := by decide +kernel
theorem dX9_addPattern_1 : decode cX9_addPattern 1 = .ok (.getfield 18, 3) := by decide +kernel
theorem dX9_addPattern_4 : decode cX9_addPattern 4 = .ok (.aload_n 1, 1) := by decide +kernel
theorem dX9_addPattern_5 : decode cX9_addPattern 5 = .ok (.invokevirtual 38, 3) := by decide +kernel
theorem dX9_addPattern_8 : decode cX9_addPattern 8 = .ok (.pop, 1) := by decide +kernel
theorem dX9_addPattern_9 : decode cX9_addPattern 9 = .ok (.iconst 0, 1) := by decide +kernel
theorem dX9_addPattern_10 : decode cX9_addPattern 10 = .ok (.istore_n 2, 1) := by decide +kernel
theorem dX9_addPattern_11 : decode cX9_addPattern 11 = .ok (.iload_n 2, 1) := by decide +kernel
theorem dX9_addPattern_12 : decode cX9_addPattern 12 = .ok (.aload_n 0, 1) := by decide +kernel
theorem dX9_addPattern_13 : decode cX9_addPattern 13 = .ok (.getfield 12, 3) := by decide +kernel
theorem dX9_addPattern_16 : decode cX9_addPattern 16 = .ok (.invokevirtual 42, 3) := by decide +kernel
theorem dX9_addPattern_19 : decode cX9_addPattern 19 = .ok (.if_icmp .ge 67, 3) := by decide +kernel
theorem dX9_addPattern_22 : decode cX9_addPattern 22 = .ok (.aload_n 0, 1) := by decide +kernel
theorem dX9_addPattern_23 : decode cX9_addPattern 23 = .ok (.getfield 12, 3) := by decide +kernel
theorem dX9_addPattern_26 : decode cX9_addPattern 26 = .ok (.iload_n 2, 1) := by decide +kernel
theorem dX9_addPattern_27 : decode cX9_addPattern 27 = .ok (.invokevirtual 46, 3) := by decide +kernel
theorem dX9_addPattern_30 : decode cX9_addPattern 30 = .ok (.checkcast 50, 3) := by decide +kernel
theorem dX9_addPattern_33 : decode cX9_addPattern 33 = .ok (.getfield 52, 3) := by decide +kernel
theorem dX9_addPattern_36 : decode cX9_addPattern 36 = .ok (.astore_n 3, 1) := by decide +kernel
theorem dX9_addPattern_37 : decode cX9_addPattern 37 = .ok (.iconst 0, 1) := by decide +kernel
theorem dX9_addPattern_38 : decode cX9_addPattern 38 = .ok (.istore 4, 2) := by decide +kernel
theorem dX9_addPattern_40 : decode cX9_addPattern 40 = .ok (.iload 4, 2) := by decide +kernel
theorem dX9_addPattern_42 : decode cX9_addPattern 42 = .ok (.aload_n 3, 1) := by decide +kernel
theorem dX9_addPattern_43 : decode cX9_addPattern 43 = .ok (.invokevirtual 42, 3) := by decide +kernel
theorem dX9_addPattern_46 : decode cX9_addPattern 46 = .ok (.if_icmp .ge 34, 3) := by decide +kernel
theorem dX9_addPattern_49 : decode cX9_addPattern 49 = .ok (.aload_n 3, 1) := by decide +kernel
theorem dX9_addPattern_50 : decode cX9_addPattern 50 = .ok (.iload 4, 2) := by decide +kernel
theorem dX9_addPattern_52 : decode cX9_addPattern 52 = .ok (.invokevirtual 46, 3) := by decide +kernel
theorem dX9_addPattern_55 : decode cX9_addPattern 55 = .ok (.checkcast 55, 3) := by decide +kernel
theorem dX9_addPattern_58 : decode cX9_addPattern 58 = .ok (.astore 5, 2) := by decide +kernel
theorem dX9_addPattern_60 : decode cX9_addPattern 60 = .ok (.aload 5, 2) := by decide +kernel
theorem dX9_addPattern_62 : decode cX9_addPattern 62 = .ok (.aload_n 0, 1) := by decide +kernel
theorem dX9_addPattern_63 : decode cX9_addPattern 63 = .ok (.aload 5, 2) := by decide +kernel
theorem dX9_addPattern_65 : decode cX9_addPattern 65 = .ok (.getfield 57, 3) := by decide +kernel
theorem dX9_addPattern_68 : decode cX9_addPattern 68 = .ok (.invokevirtual 60, 3) := by decide +kernel
theorem dX9_addPattern_71 : decode cX9_addPattern 71 = .ok (.putfield 64, 3) := by decide +kernel
theorem dX9_addPattern_74 : decode cX9_addPattern 74 = .ok (.iinc 4 1, 3) := by decide +kernel
theorem dX9_addPattern_77 : decode cX9_addPattern 77 = .ok (.goto (-37), 3) := by decide +kernel
theorem dX9_addPattern_80 : decode cX9_addPattern 80 = .ok (.iinc 2 1, 3) := by decide +kernel
theorem dX9_addPattern_83 : decode cX9_addPattern 83 = .ok (.goto (-72), 3) := by decide +kernel
theorem dX9_addPattern_86 : decode cX9_addPattern 86 = .ok (.return_, 1) := by decide +kernel
set_option maxHeartbeats 4000000 in
set_option maxRecDepth 100000 in
theorem k_addPattern (l : Launch) (dC : Nat → ClassId) (dI : Nat → Nat → Nat) (k : Nat → ClassId) (T : Nat → Int → Int → Int → Int) (A : Nat → Int → Int → Nat) (X : Nat → Int → Int → Int) (tl : va_W) (G : Nat → Int → Nat) (Mc : Nat → Int → Int) (Y : Nat → Int → Nat) (O : Nat → Nat) (L : Int → Nat → Int → Int) (C : Nat → Int → Int) (K : Nat → Int → Int) (cp : Nat) (gp : Int) (lv_ : Int) (p9 : Nat) (le_ : Nat) (nl : Nat) (fl : Int → Int) (hPR : PR dI k T A X G Mc Y O L C K cp tl) (hK : TK T) (h1 : T 18 0 0 0 < 8) (hpk : nl ≤ 3 ∧ (∀ q, 0 ≤ fl q ∧ fl q ≤ 3) ∧ (0 ≤ gp ∧ gp ≤ 3) ∧ 0 ≤ lv_ ∧ lv_ ≤ 5) : Kn l dC dI k yX9_addPattern (.code yX9_addPattern cX9_addPattern 6 none) ({ frames := 13, cells := 1, slots := 40, locals := 421 } : Room) [.ref (A 50 0 0), .ref p9] ([(p9, .inr (5, [.ref le_, .int (iI gp), .int (iI lv_)])), (le_, .inl (k 0, nl, .inl (fun i9 : Nat => iI (fl i9))))] ++ tl) (fun r w gc gs => (∃ (e2 : Nat) (c2 : Nat) (tl2 : va_W), (PR dI k (gpT (apT T nl fl gp lv_) (T 0 0 0 0) 0) (apA A (T 18 0 0 0) p9 le_ e2) X (upG G 2 0 c2) (upM Mc 2 0 (Mc 2 0 + 1)) Y O L C K cp tl2) ∧ r = none ∧ w = ([] ++ tl2) ∧ gc = 1 ∧ gs = 40)) := by
  refine kn_of (by decide) (Nat.le_of_ble_eq_true rfl) ?_
  intro p e s m args below meth c H locs B hr hnm ls hl
  have hx := B.1.1
  have hb := B.1.2.1
  have hl : lv_has ls 6 [(0, .ref (A 50 0 0)), (1, .ref p9)] := hl
  have hT := PR_TI hPR
  have hnb0 := TK_nb hK
  have hcp0 : 512 ≤ cp ∧ cp ≤ 131072 := by have q9 := hPR.2.2.2; unfold cpOk at q9; omega
  refine lv_aload_n hx hb dX9_addPattern_0 rfl (lv_at hl 0 rfl) ?_
  obtain ⟨k_1, hk_1⟩ := pk_at (hs := [(p9, .inr (5, [.ref le_, .int (iI gp), .int (iI lv_)])), (le_, .inl (k 0, nl, .inl (fun i9 : Nat => iI (fl i9))))]) hT.1.1
  refine x_get (ci := 9) (C := RX9) (T := TX9) (N := 8) (v := .ref (A 52 0 0)) B k_1 hk_1 rfl in_X9 1 (by decide) mw_80 (fun _ h9 => h9) rfl dX9_addPattern_1 ?_
  refine lv_aload_n hx hb dX9_addPattern_4 rfl (lv_at hl 1 rfl) ?_
  have B := bd_swap (a := [(p9, .inr (5, [.ref le_, .int (iI gp), .int (iI lv_)])), (le_, .inl (k 0, nl, .inl (fun i9 : Nat => iI (fl i9))))]) (b := []) (d := tl) (bd_to rfl B)
  obtain ⟨k_2, fk_2, hk_2⟩ := LI_at (hs := [(p9, .inr (5, [.ref le_, .int (iI gp), .int (iI lv_)])), (le_, .inl (k 0, nl, .inl (fun i9 : Nat => iI (fl i9))))]) hT.2.2.1
  refine k_V (rest := []) (wc := ([(p9, .inr (5, [.ref le_, .int (iI gp), .int (iI lv_)])), (le_, .inl (k 0, nl, .inl (fun i9 : Nat => iI (fl i9))))] ++ tl)) (wr := []) (k_addPP l dC dI k T A X tl G Mc Y O L C K cp gp lv_ p9 le_ nl fl hPR hK h1) B mV_Jx4a65c_add_9ea2d mw_680 hl (q0 := k_2) (ci := 12) hk_2 rfl rfl ⟨Nat.le_of_ble_eq_true rfl, Nat.le_of_ble_eq_true rfl⟩ (Nat.le_of_ble_eq_true rfl) rfl dX9_addPattern_5 ⟨Nat.le_of_ble_eq_true rfl, Nat.le_of_ble_eq_true rfl⟩ (fun r w gc gs H locs hp B => ?_)
  obtain ⟨e2_3, c2_4, tl2_5, z_6, rfl, hw9, rfl, rfl⟩ := hp
  rw [hw9] at B; clear hw9
  have B := bd_to (ws' := ([] ++ tl2_5)) rfl B
  have hPR : PR dI k (apT T nl fl gp lv_) (apA A (T 18 0 0 0) p9 le_ e2_3) X (upG G 2 0 c2_4) (upM Mc 2 0 (Mc 2 0 + 1)) Y O L C K cp tl2_5 := z_6
  have hT : TI dI k (apT T nl fl gp lv_) (apA A (T 18 0 0 0) p9 le_ e2_3) X tl2_5 := PR_TI hPR
  have hK1 := TK_apT hK hpk h1
  obtain ⟨T1, hT1⟩ : ∃ q9 : Nat → Int → Int → Int → Int, q9 = (apT T nl fl gp lv_) := ⟨_, rfl⟩
  rw [← hT1] at hPR hK1
  have z_7 : T1 0 0 0 0 = T 0 0 0 0 := by rw [hT1]; rfl
  have z_8 : 0 ≤ T1 0 0 0 0 ∧ T1 0 0 0 0 ≤ 16 := TK_nb hK1
  have hPR : PR dI k (gpT T1 0 0) (apA A (T 18 0 0 0) p9 le_ e2_3) X (upG G 2 0 c2_4) (upM Mc 2 0 (Mc 2 0 + 1)) Y O L C K cp tl2_5 := by rw [gpT_0]; exact hPR
  refine lv_pop hx hb dX9_addPattern_8 rfl ?_
  refine lv_iconst (v := iI 0) hx hb dX9_addPattern_9 (by decide) ?_
  refine lv_istore_n (lv' := [(2, .int (iI 0)), (0, .ref (A 50 0 0)), (1, .ref p9)]) hx hb dX9_addPattern_10 rfl hl (by decide) rfl (fun ls hl => ?_)
  refine k_loop (σ := Int × va_W) B (fun g9 : Int × va_W => (0 ≤ g9.1 ∧ g9.1 ≤ T1 0 0 0 0) ∧ (PR dI k (gpT T1 g9.1 0) (apA A (T 18 0 0 0) p9 le_ e2_3) X (upG G 2 0 c2_4) (upM Mc 2 0 (Mc 2 0 + 1)) Y O L C K cp g9.2)) (fun g9 : Int × va_W => (T1 0 0 0 0 - g9.1).toNat) (fun g9 : Int × va_W => [(2, .int (iI g9.1)), (0, .ref (A 50 0 0)), (1, .ref p9)]) (fun g9 : Int × va_W => ([] ++ g9.2)) ?_ (0, tl2_5) ⟨(show 0 ≤ 0 ∧ 0 ≤ T1 0 0 0 0 from (by omega)), (show PR dI k (gpT T1 0 0) (apA A (T 18 0 0 0) p9 le_ e2_3) X (upG G 2 0 c2_4) (upM Mc 2 0 (Mc 2 0 + 1)) Y O L C K cp tl2_5 from hPR)⟩ ls H locs (lv_sub hl [0, 1, 2] rfl) (bd_to rfl B)
  clear hl B
  rintro ⟨pq, tl9⟩ ⟨hk, hPR⟩ ih_9 ls H locs hl B
  have hk : 0 ≤ pq ∧ pq ≤ T1 0 0 0 0 := hk
  have hPR : PR dI k (gpT T1 pq 0) (apA A (T 18 0 0 0) p9 le_ e2_3) X (upG G 2 0 c2_4) (upM Mc 2 0 (Mc 2 0 + 1)) Y O L C K cp tl9 := hPR
  have hl : lv_has ls 6 [(2, .int (iI pq)), (0, .ref (A 50 0 0)), (1, .ref p9)] := hl
  have B := bd_to (ws' := ([] ++ tl9)) rfl B
  have hT : TI dI k (gpT T1 pq 0) (apA A (T 18 0 0 0) p9 le_ e2_3) X tl9 := PR_TI hPR
  have hK : TK (gpT T1 pq 0) := TK_gpT hK1
  have hq0 : (gpT T1 pq 0) 0 0 0 0 = T1 0 0 0 0 := rfl
  have hq3 : (gpT T1 pq 0) 3 pq 0 0 = T1 3 pq 0 0 := rfl
  have hq4 : 0 ≤ T1 3 pq 0 0 ∧ T1 3 pq 0 0 ≤ 12 := TK_nw hK1 pq
  refine lv_iload_n hx hb dX9_addPattern_11 rfl (lv_at hl 0 rfl) ?_
  refine lv_aload_n hx hb dX9_addPattern_12 rfl (lv_at hl 1 rfl) ?_
  obtain ⟨k_10, hk_10⟩ := pk_at (hs := []) (show (((A 50 0 0), .inr (9, [.ref ((apA A (T 18 0 0 0) p9 le_ e2_3) 51 0 0), .ref ((apA A (T 18 0 0 0) p9 le_ e2_3) 52 0 0), .ref ((apA A (T 18 0 0 0) p9 le_ e2_3) 53 0 0), .ref ((apA A (T 18 0 0 0) p9 le_ e2_3) 54 0 0), .int (iI ((gpT T1 pq 0) 12 0 0 0)), .ref ((apA A (T 18 0 0 0) p9 le_ e2_3) 55 0 0), .int (iI ((gpT T1 pq 0) 16 0 0 0)), .int (iI ((gpT T1 pq 0) 17 0 0 0))])) : Nat × va_E) ∈ tl9 from hT.1.1)
  refine x_get (ci := 9) (C := RX9) (T := TX9) (N := 8) (v := .ref ((apA A (T 18 0 0 0) p9 le_ e2_3) 51 0 0)) B k_10 hk_10 rfl in_X9 0 (by decide) mw_75 (fun _ h9 => h9) rfl dX9_addPattern_13 ?_
  have B := bd_swap (a := []) (b := []) (d := tl9) (bd_to rfl B)
  obtain ⟨k_11, fk_11, hk_11⟩ := LI_at (hs := []) hT.2.1
  refine k_V (rest := [.int (iI pq)]) (wc := ([] ++ tl9)) (wr := []) (k_sizeB l dC dI k (gpT T1 pq 0) (apA A (T 18 0 0 0) p9 le_ e2_3) X tl9 hT hK) B mV_Jx4a65c_size_8abf5 mw_739 hl (q0 := k_11) (ci := 12) hk_11 rfl rfl ⟨Nat.le_of_ble_eq_true rfl, Nat.le_of_ble_eq_true rfl⟩ (Nat.le_of_ble_eq_true rfl) rfl dX9_addPattern_16 ⟨Nat.le_of_ble_eq_true rfl, Nat.le_of_ble_eq_true rfl⟩ (fun r w gc gs H locs hp B => ?_)
  obtain ⟨z_12, rfl, hw9, rfl, rfl⟩ := hp
  rw [hw9] at B; clear hw9
  have B := bd_to (ws' := ([] ++ tl9)) rfl B
  refine lv_icmp_ge (tgt := 86) hx hb dX9_addPattern_19 (by decide) (fun c_13 => ?_) (fun c_13 => ?_)
  · have zc_13 : ((gpT T1 pq 0) 0 0 0 0) ≤ pq := jle (a := ((gpT T1 pq 0) 0 0 0 0)) (b := pq) (by omega) (by omega) c_13
    exact k_vret B hr (⟨e2_3, c2_4, tl9, (by rw [show T 0 0 0 0 = pq by omega, ← hT1]; exact hPR), rfl, rfl, rfl, rfl⟩) ⟨Nat.le_of_ble_eq_true rfl, Nat.le_of_ble_eq_true rfl⟩ ⟨Nat.le_of_ble_eq_true rfl, Nat.le_of_ble_eq_true rfl⟩ dX9_addPattern_86
  · have zc_13 : pq < ((gpT T1 pq 0) 0 0 0 0) := jnle (a := ((gpT T1 pq 0) 0 0 0 0)) (b := pq) (by omega) (by omega) c_13
    refine lv_aload_n hx hb dX9_addPattern_22 rfl (lv_at hl 1 rfl) ?_
    obtain ⟨k_14, hk_14⟩ := pk_at (hs := []) (show (((A 50 0 0), .inr (9, [.ref ((apA A (T 18 0 0 0) p9 le_ e2_3) 51 0 0), .ref ((apA A (T 18 0 0 0) p9 le_ e2_3) 52 0 0), .ref ((apA A (T 18 0 0 0) p9 le_ e2_3) 53 0 0), .ref ((apA A (T 18 0 0 0) p9 le_ e2_3) 54 0 0), .int (iI ((gpT T1 pq 0) 12 0 0 0)), .ref ((apA A (T 18 0 0 0) p9 le_ e2_3) 55 0 0), .int (iI ((gpT T1 pq 0) 16 0 0 0)), .int (iI ((gpT T1 pq 0) 17 0 0 0))])) : Nat × va_E) ∈ tl9 from hT.1.1)
    refine x_get (ci := 9) (C := RX9) (T := TX9) (N := 8) (v := .ref ((apA A (T 18 0 0 0) p9 le_ e2_3) 51 0 0)) B k_14 hk_14 rfl in_X9 0 (by decide) mw_75 (fun _ h9 => h9) rfl dX9_addPattern_23 ?_
    refine lv_iload_n hx hb dX9_addPattern_26 rfl (lv_at hl 0 rfl) ?_
    have B := bd_swap (a := []) (b := []) (d := tl9) (bd_to rfl B)
    obtain ⟨k_15, fk_15, hk_15⟩ := LI_at (hs := []) hT.2.1
    refine k_V (rest := []) (wc := ([] ++ tl9)) (wr := []) (k_getB l dC dI k (gpT T1 pq 0) (apA A (T 18 0 0 0) p9 le_ e2_3) X tl9 pq hT hK (by omega)) B mV_Jx4a65c_get_915e3 mw_740 hl (q0 := k_15) (ci := 12) hk_15 rfl rfl ⟨Nat.le_of_ble_eq_true rfl, Nat.le_of_ble_eq_true rfl⟩ (Nat.le_of_ble_eq_true rfl) rfl dX9_addPattern_27 ⟨Nat.le_of_ble_eq_true rfl, Nat.le_of_ble_eq_true rfl⟩ (fun r w gc gs H locs hp B => ?_)
    obtain ⟨rfl, hw9, rfl, rfl⟩ := hp
    rw [hw9] at B; clear hw9
    have B := bd_to (ws' := ([] ++ tl9)) rfl B
    obtain ⟨k_16, hk_16⟩ := pk_at (hs := []) (show ((((apA A (T 18 0 0 0) p9 le_ e2_3) 0 pq 0), .inr (0, [.int (iI ((gpT T1 pq 0) 1 pq 0 0)), .ref ((apA A (T 18 0 0 0) p9 le_ e2_3) 1 pq 0), .ref ((apA A (T 18 0 0 0) p9 le_ e2_3) 2 pq 0), va_rf (if (gpT T1 pq 0) 1 pq 0 0 = 3 then some ((apA A (T 18 0 0 0) p9 le_ e2_3) 7 pq 0) else none)])) : Nat × va_E) ∈ tl9 from (hT.2.2.2.1 pq (by omega) (by omega)).1)
    refine x_cast (ci := 0) (C := RX0) (T := TX0) (N := 4) B k_16 hk_16 rfl mw_754 dX9_addPattern_30 ?_
    obtain ⟨k_17, hk_17⟩ := pk_at (hs := []) (show ((((apA A (T 18 0 0 0) p9 le_ e2_3) 0 pq 0), .inr (0, [.int (iI ((gpT T1 pq 0) 1 pq 0 0)), .ref ((apA A (T 18 0 0 0) p9 le_ e2_3) 1 pq 0), .ref ((apA A (T 18 0 0 0) p9 le_ e2_3) 2 pq 0), va_rf (if (gpT T1 pq 0) 1 pq 0 0 = 3 then some ((apA A (T 18 0 0 0) p9 le_ e2_3) 7 pq 0) else none)])) : Nat × va_E) ∈ tl9 from (hT.2.2.2.1 pq (by omega) (by omega)).1)
    refine x_get (ci := 0) (C := RX0) (T := TX0) (N := 4) (v := .ref ((apA A (T 18 0 0 0) p9 le_ e2_3) 2 pq 0)) B k_17 hk_17 rfl in_X0 2 (by decide) mw_1180 (fun _ h9 => h9) rfl dX9_addPattern_33 ?_
    refine lv_astore_n (lv' := [(3, .ref ((apA A (T 18 0 0 0) p9 le_ e2_3) 2 pq 0)), (2, .int (iI pq)), (0, .ref (A 50 0 0)), (1, .ref p9)]) hx hb dX9_addPattern_36 rfl hl (by decide) rfl (fun ls hl => ?_)
    refine lv_iconst (v := iI 0) hx hb dX9_addPattern_37 (by decide) ?_
    refine lv_istore (lv' := [(4, .int (iI 0)), (3, .ref ((apA A (T 18 0 0 0) p9 le_ e2_3) 2 pq 0)), (2, .int (iI pq)), (0, .ref (A 50 0 0)), (1, .ref p9)]) hx hb dX9_addPattern_38 hl (by decide) rfl (fun ls hl => ?_)
    refine k_loop (σ := Int × va_W) B (fun g9 : Int × va_W => (0 ≤ g9.1 ∧ g9.1 ≤ T1 3 pq 0 0) ∧ (PR dI k (gpT T1 pq g9.1) (apA A (T 18 0 0 0) p9 le_ e2_3) X (upG G 2 0 c2_4) (upM Mc 2 0 (Mc 2 0 + 1)) Y O L C K cp g9.2)) (fun g9 : Int × va_W => (T1 3 pq 0 0 - g9.1).toNat) (fun g9 : Int × va_W => [(4, .int (iI g9.1)), (3, .ref ((apA A (T 18 0 0 0) p9 le_ e2_3) 2 pq 0)), (2, .int (iI pq)), (0, .ref (A 50 0 0)), (1, .ref p9)]) (fun g9 : Int × va_W => ([] ++ g9.2)) ?_ (0, tl9) ⟨(show 0 ≤ 0 ∧ 0 ≤ T1 3 pq 0 0 from (by omega)), (show PR dI k (gpT T1 pq 0) (apA A (T 18 0 0 0) p9 le_ e2_3) X (upG G 2 0 c2_4) (upM Mc 2 0 (Mc 2 0 + 1)) Y O L C K cp tl9 from hPR)⟩ ls H locs (lv_sub hl [0, 1, 2, 3, 4] rfl) (bd_to rfl B)
    clear hl B
    rintro ⟨at_, tl8⟩ ⟨hk2, hPR⟩ ih_18 ls H locs hl B
    have hk2 : 0 ≤ at_ ∧ at_ ≤ T1 3 pq 0 0 := hk2
    have hPR : PR dI k (gpT T1 pq at_) (apA A (T 18 0 0 0) p9 le_ e2_3) X (upG G 2 0 c2_4) (upM Mc 2 0 (Mc 2 0 + 1)) Y O L C K cp tl8 := hPR
    have hl : lv_has ls 6 [(4, .int (iI at_)), (3, .ref ((apA A (T 18 0 0 0) p9 le_ e2_3) 2 pq 0)), (2, .int (iI pq)), (0, .ref (A 50 0 0)), (1, .ref p9)] := hl
    have B := bd_to (ws' := ([] ++ tl8)) rfl B
    have hT : TI dI k (gpT T1 pq at_) (apA A (T 18 0 0 0) p9 le_ e2_3) X tl8 := PR_TI hPR
    have hK : TK (gpT T1 pq at_) := TK_gpT hK1
    have hq0 : (gpT T1 pq at_) 0 0 0 0 = T1 0 0 0 0 := rfl
    have hq3 : (gpT T1 pq at_) 3 pq 0 0 = T1 3 pq 0 0 := rfl
    have hq4 : 0 ≤ T1 3 pq 0 0 ∧ T1 3 pq 0 0 ≤ 12 := TK_nw hK1 pq
    refine lv_iload hx hb dX9_addPattern_40 (lv_at hl 0 rfl) ?_
    refine lv_aload_n hx hb dX9_addPattern_42 rfl (lv_at hl 1 rfl) ?_
    have B := bd_swap (a := []) (b := []) (d := tl8) (bd_to rfl B)
    obtain ⟨k_19, fk_19, hk_19⟩ := LI_at (hs := []) (hT.2.2.2.1 pq (by omega) (by omega)).2.2
    refine k_V (rest := [.int (iI at_)]) (wc := ([] ++ tl8)) (wr := []) (k_sizeW l dC dI k (gpT T1 pq at_) (apA A (T 18 0 0 0) p9 le_ e2_3) X tl8 pq hT hK (by omega)) B mV_Jx4a65c_size_8abf5 mw_739 hl (q0 := k_19) (ci := 12) hk_19 rfl rfl ⟨Nat.le_of_ble_eq_true rfl, Nat.le_of_ble_eq_true rfl⟩ (Nat.le_of_ble_eq_true rfl) rfl dX9_addPattern_43 ⟨Nat.le_of_ble_eq_true rfl, Nat.le_of_ble_eq_true rfl⟩ (fun r w gc gs H locs hp B => ?_)
    obtain ⟨z_20, rfl, hw9, rfl, rfl⟩ := hp
    rw [hw9] at B; clear hw9
    have B := bd_to (ws' := ([] ++ tl8)) rfl B
    refine lv_icmp_ge (tgt := 80) hx hb dX9_addPattern_46 (by decide) (fun c_21 => ?_) (fun c_21 => ?_)
    · have zc_21 : ((gpT T1 pq at_) 3 pq 0 0) ≤ at_ := jle (a := ((gpT T1 pq at_) 3 pq 0 0)) (b := at_) (by omega) (by omega) c_21
      have hPR : PR dI k (gpT T1 (pq + 1) 0) (apA A (T 18 0 0 0) p9 le_ e2_3) X (upG G 2 0 c2_4) (upM Mc 2 0 (Mc 2 0 + 1)) Y O L C K cp tl8 := by rw [← gpT_next (T := T1) (a := pq) (b := at_) (by omega)]; exact hPR
      refine lv_iinc (v := iI (pq + 1)) (lv' := [(2, .int (iI (pq + 1))), (4, .int (iI at_)), (3, .ref ((apA A (T 18 0 0 0) p9 le_ e2_3) 2 pq 0)), (0, .ref (A 50 0 0)), (1, .ref p9)]) hx hb dX9_addPattern_80 hl (k := 2) rfl (iI_add _ _) (by decide) rfl (fun ls hl => ?_)
      refine lv_goto (tgt := 11) hx hb dX9_addPattern_83 (by decide) ?_
      exact ih_9 ((pq + 1), tl8) ⟨(show 0 ≤ (pq + 1) ∧ (pq + 1) ≤ T1 0 0 0 0 from (by omega)), (show PR dI k (gpT T1 (pq + 1) 0) (apA A (T 18 0 0 0) p9 le_ e2_3) X (upG G 2 0 c2_4) (upM Mc 2 0 (Mc 2 0 + 1)) Y O L C K cp tl8 from hPR)⟩ (by first | omega | (dsimp only; omega)) _ _ _ (lv_sub hl [0, 3, 4] rfl) (bd_to rfl B)
    · have zc_21 : at_ < ((gpT T1 pq at_) 3 pq 0 0) := jnle (a := ((gpT T1 pq at_) 3 pq 0 0)) (b := at_) (by omega) (by omega) c_21
      refine lv_aload_n hx hb dX9_addPattern_49 rfl (lv_at hl 1 rfl) ?_
      refine lv_iload hx hb dX9_addPattern_50 (lv_at hl 0 rfl) ?_
      have B := bd_swap (a := []) (b := []) (d := tl8) (bd_to rfl B)
      obtain ⟨k_22, fk_22, hk_22⟩ := LI_at (hs := []) (hT.2.2.2.1 pq (by omega) (by omega)).2.2
      refine k_V (rest := []) (wc := ([] ++ tl8)) (wr := []) (k_getW l dC dI k (gpT T1 pq at_) (apA A (T 18 0 0 0) p9 le_ e2_3) X tl8 pq at_ hT hK (by omega) (by omega)) B mV_Jx4a65c_get_915e3 mw_740 hl (q0 := k_22) (ci := 12) hk_22 rfl rfl ⟨Nat.le_of_ble_eq_true rfl, Nat.le_of_ble_eq_true rfl⟩ (Nat.le_of_ble_eq_true rfl) rfl dX9_addPattern_52 ⟨Nat.le_of_ble_eq_true rfl, Nat.le_of_ble_eq_true rfl⟩ (fun r w gc gs H locs hp B => ?_)
      obtain ⟨rfl, hw9, rfl, rfl⟩ := hp
      rw [hw9] at B; clear hw9
      have B := bd_to (ws' := ([] ++ tl8)) rfl B
      obtain ⟨k_23, hk_23⟩ := pk_at (hs := []) (show ((((apA A (T 18 0 0 0) p9 le_ e2_3) 4 pq at_), .inr (10, [.ref ((apA A (T 18 0 0 0) p9 le_ e2_3) 5 pq at_), .int (iI ((gpT T1 pq at_) 6 pq at_ 0)), .ref ((apA A (T 18 0 0 0) p9 le_ e2_3) 6 pq at_), .int (iI ((gpT T1 pq at_) 8 pq at_ 0))])) : Nat × va_E) ∈ tl8 from (hT.2.2.2.2.1 pq at_ (by omega) (by omega) (by omega) (by omega)).1)
      refine x_cast (ci := 10) (C := RX10) (T := TX10) (N := 4) B k_23 hk_23 rfl mw_755 dX9_addPattern_55 ?_
      refine lv_astore (lv' := [(5, .ref ((apA A (T 18 0 0 0) p9 le_ e2_3) 4 pq at_)), (4, .int (iI at_)), (3, .ref ((apA A (T 18 0 0 0) p9 le_ e2_3) 2 pq 0)), (2, .int (iI pq)), (0, .ref (A 50 0 0)), (1, .ref p9)]) hx hb dX9_addPattern_58 hl (by decide) rfl (fun ls hl => ?_)
      refine lv_aload hx hb dX9_addPattern_60 (lv_at hl 0 rfl) ?_
      refine lv_aload_n hx hb dX9_addPattern_62 rfl (lv_at hl 4 rfl) ?_
      refine lv_aload hx hb dX9_addPattern_63 (lv_at hl 0 rfl) ?_
      obtain ⟨k_24, hk_24⟩ := pk_at (hs := []) (show ((((apA A (T 18 0 0 0) p9 le_ e2_3) 4 pq at_), .inr (10, [.ref ((apA A (T 18 0 0 0) p9 le_ e2_3) 5 pq at_), .int (iI ((gpT T1 pq at_) 6 pq at_ 0)), .ref ((apA A (T 18 0 0 0) p9 le_ e2_3) 6 pq at_), .int (iI ((gpT T1 pq at_) 8 pq at_ 0))])) : Nat × va_E) ∈ tl8 from (hT.2.2.2.2.1 pq at_ (by omega) (by omega) (by omega) (by omega)).1)
      refine x_get (ci := 10) (C := RX10) (T := TX10) (N := 4) (v := .ref ((apA A (T 18 0 0 0) p9 le_ e2_3) 5 pq at_)) B k_24 hk_24 rfl in_X10 0 (by decide) mw_821 (fun _ h9 => h9) rfl dX9_addPattern_65 ?_
      have B := bd_swap (a := []) (b := []) (d := tl8) (bd_to rfl B)
      obtain ⟨k_25, hk_25⟩ := pk_at (hs := []) (show (((A 50 0 0), .inr (9, [.ref ((apA A (T 18 0 0 0) p9 le_ e2_3) 51 0 0), .ref ((apA A (T 18 0 0 0) p9 le_ e2_3) 52 0 0), .ref ((apA A (T 18 0 0 0) p9 le_ e2_3) 53 0 0), .ref ((apA A (T 18 0 0 0) p9 le_ e2_3) 54 0 0), .int (iI ((gpT T1 pq at_) 12 0 0 0)), .ref ((apA A (T 18 0 0 0) p9 le_ e2_3) 55 0 0), .int (iI ((gpT T1 pq at_) 16 0 0 0)), .int (iI ((gpT T1 pq at_) 17 0 0 0))])) : Nat × va_E) ∈ tl8 from hT.1.1)
      refine k_V (rest := [.ref ((apA A (T 18 0 0 0) p9 le_ e2_3) 4 pq at_)]) (wc := ([] ++ tl8)) (wr := []) (k_gapsOf l dC dI k (gpT T1 pq at_) (apA A (T 18 0 0 0) p9 le_ e2_3) X tl8 ((apA A (T 18 0 0 0) p9 le_ e2_3) 5 pq at_) (Int.toNat ((gpT T1 pq at_) 4 pq at_ 0)) (fun j9 : Int => (gpT T1 pq at_) 5 pq at_ j9) hT hK ((hT.2.2.2.2.1 pq at_ (by omega) (by omega) (by omega) (by omega)).2.1) (fun q => TK_let hK pq at_ q) (by have q9 := TK_len hK pq at_; omega)) B mV_X9_gapsOf mw_756 hl (q0 := k_25) (ci := 9) hk_25 rfl rfl ⟨Nat.le_of_ble_eq_true rfl, Nat.le_of_ble_eq_true rfl⟩ (Nat.le_of_ble_eq_true rfl) rfl dX9_addPattern_68 ⟨Nat.le_of_ble_eq_true rfl, Nat.le_of_ble_eq_true rfl⟩ (fun r w gc gs H locs hp B => ?_)
      obtain ⟨z_26, rfl, hw9, rfl, rfl⟩ := hp
      rw [hw9] at B; clear hw9
      have B := bd_to (ws' := ([] ++ tl8)) rfl B
      obtain ⟨tr_27, htr_27, btr_27⟩ := PR_wo hPR (i := pq) (j := at_) (by omega) (by omega)
      have B := bd_perm (List.Perm.append_left [] htr_27) B
      have B := bd_to (ws' := ([(((apA A (T 18 0 0 0) p9 le_ e2_3) 4 pq at_), .inr (10, [.ref ((apA A (T 18 0 0 0) p9 le_ e2_3) 5 pq at_), .int (iI ((gpT T1 pq at_) 6 pq at_ 0)), .ref ((apA A (T 18 0 0 0) p9 le_ e2_3) 6 pq at_), .int (iI ((gpT T1 pq at_) 8 pq at_ 0))]))] ++ tr_27)) rfl B
      refine x_put (ci := 10) (C := RX10) (T := TX10) (N := 4) (ty := .int) (v := .int (iI (gsZ (gpT T1 pq at_) (fun j9 : Int => (gpT T1 pq at_) 5 pq at_ j9) ((Int.toNat ((gpT T1 pq at_) 4 pq at_ 0)) : Int)))) B tyX10_ok nmX10 0 rfl rfl in_X10 3 (by decide) mw_829 (fun _ h9 => h9) rfl (by decide +kernel) rfl rfl (Nat.le_of_ble_eq_true rfl) dX9_addPattern_71 (fun H locs B => ?_)
      have B := bd_to (ws' := ([(((apA A (T 18 0 0 0) p9 le_ e2_3) 4 pq at_), .inr (10, [.ref ((apA A (T 18 0 0 0) p9 le_ e2_3) 5 pq at_), .int (iI ((gpT T1 pq at_) 6 pq at_ 0)), .ref ((apA A (T 18 0 0 0) p9 le_ e2_3) 6 pq at_), .int (iI (gsZ (gpT T1 pq at_) (fun j9 : Int => (gpT T1 pq at_) 5 pq at_ j9) ((Int.toNat ((gpT T1 pq at_) 4 pq at_ 0)) : Int)))]))] ++ tr_27)) rfl B
      have B := bd_to (ws' := ([] ++ ([((((apA A (T 18 0 0 0) p9 le_ e2_3) 4 pq at_), .inr (10, [.ref ((apA A (T 18 0 0 0) p9 le_ e2_3) 5 pq at_), .int (iI ((gpT T1 pq at_) 6 pq at_ 0)), .ref ((apA A (T 18 0 0 0) p9 le_ e2_3) 6 pq at_), .int (iI (gsZ (gpT T1 pq at_) (fun j9 : Int => (gpT T1 pq at_) 5 pq at_ j9) ((Int.toNat ((gpT T1 pq at_) 4 pq at_ 0)) : Int)))])) : Nat × va_E)] ++ tr_27))) rfl B
      have hPR : PR dI k (up8 (gpT T1 pq at_) pq at_ (gsZ (gpT T1 pq at_) (fun j9 : Int => (gpT T1 pq at_) 5 pq at_ j9) ((Int.toNat ((gpT T1 pq at_) 4 pq at_ 0)) : Int))) (apA A (T 18 0 0 0) p9 le_ e2_3) X (upG G 2 0 c2_4) (upM Mc 2 0 (Mc 2 0 + 1)) Y O L C K cp ([((((apA A (T 18 0 0 0) p9 le_ e2_3) 4 pq at_), .inr (10, [.ref ((apA A (T 18 0 0 0) p9 le_ e2_3) 5 pq at_), .int (iI ((gpT T1 pq at_) 6 pq at_ 0)), .ref ((apA A (T 18 0 0 0) p9 le_ e2_3) 6 pq at_), .int (iI (gsZ (gpT T1 pq at_) (fun j9 : Int => (gpT T1 pq at_) 5 pq at_ j9) ((Int.toNat ((gpT T1 pq at_) 4 pq at_ 0)) : Int)))])) : Nat × va_E)] ++ tr_27) := btr_27 (gsZ (gpT T1 pq at_) (fun j9 : Int => (gpT T1 pq at_) 5 pq at_ j9) ((Int.toNat ((gpT T1 pq at_) 4 pq at_ 0)) : Int))
      have e9 : (up8 (gpT T1 pq at_) pq at_ (gsZ (gpT T1 pq at_) (fun j9 : Int => (gpT T1 pq at_) 5 pq at_ j9) ((Int.toNat ((gpT T1 pq at_) 4 pq at_ 0)) : Int))) = gpT T1 pq (at_ + 1) := by rw [gsZ_cg (T := T1) (fun c hc => gpT_n (by omega))]; exact gpT_step (by omega) (by omega)
      rw [e9] at hPR
      refine lv_iinc (v := iI (at_ + 1)) (lv' := [(4, .int (iI (at_ + 1))), (5, .ref ((apA A (T 18 0 0 0) p9 le_ e2_3) 4 pq at_)), (3, .ref ((apA A (T 18 0 0 0) p9 le_ e2_3) 2 pq 0)), (2, .int (iI pq)), (0, .ref (A 50 0 0)), (1, .ref p9)]) hx hb dX9_addPattern_74 hl (k := 1) rfl (iI_add _ _) (by decide) rfl (fun ls hl => ?_)
      refine lv_goto (tgt := 40) hx hb dX9_addPattern_77 (by decide) ?_
      exact ih_18 ((at_ + 1), ([((((apA A (T 18 0 0 0) p9 le_ e2_3) 4 pq at_), .inr (10, [.ref ((apA A (T 18 0 0 0) p9 le_ e2_3) 5 pq at_), .int (iI ((gpT T1 pq at_) 6 pq at_ 0)), .ref ((apA A (T 18 0 0 0) p9 le_ e2_3) 6 pq at_), .int (iI (gsZ (gpT T1 pq at_) (fun j9 : Int => (gpT T1 pq at_) 5 pq at_ j9) ((Int.toNat ((gpT T1 pq at_) 4 pq at_ 0)) : Int)))])) : Nat × va_E)] ++ tr_27)) ⟨(show 0 ≤ (at_ + 1) ∧ (at_ + 1) ≤ T1 3 pq 0 0 from (by omega)), (show PR dI k (gpT T1 pq (at_ + 1)) (apA A (T 18 0 0 0) p9 le_ e2_3) X (upG G 2 0 c2_4) (upM Mc 2 0 (Mc 2 0 + 1)) Y O L C K cp ([((((apA A (T 18 0 0 0) p9 le_ e2_3) 4 pq at_), .inr (10, [.ref ((apA A (T 18 0 0 0) p9 le_ e2_3) 5 pq at_), .int (iI ((gpT T1 pq at_) 6 pq at_ 0)), .ref ((apA A (T 18 0 0 0) p9 le_ e2_3) 6 pq at_), .int (iI (gsZ (gpT T1 pq at_) (fun j9 : Int => (gpT T1 pq at_) 5 pq at_ j9) ((Int.toNat ((gpT T1 pq at_) 4 pq at_ 0)) : Int)))])) : Nat × va_E)] ++ tr_27) from hPR)⟩ (by first | omega | (dsimp only; omega)) _ _ _ (lv_sub hl [0, 2, 3, 4, 5] rfl) (bd_to rfl B)

end
