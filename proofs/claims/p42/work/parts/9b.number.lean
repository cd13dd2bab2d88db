section
/-- headings ahead, of both levels; a heading's number; a paragraph's -/
def hnF (T : Nat → Int → Int → Int → Int) (v : Int) : Nat → Int × Int
  | 0 => (0, 0)
  | n + 1 => if hdP T v (n : Int) then (if T 2 (n : Int) 3 0 = 1 then ((hnF T v n).1 + 1, 0) else ((hnF T v n).1, (hnF T v n).2 + 1)) else hnF T v n
def hnZ (T : Nat → Int → Int → Int → Int) (v pl : Int) : Int := 100 * (hnF T v (Int.toNat (pl + 1))).1 + (hnF T v (Int.toNat (pl + 1))).2
def prF (T : Nat → Int → Int → Int → Int) (v d : Int) : Nat → Int → Int
  | 0, n => n
  | k + 1, n => if ¬ thB T (k : Int) v then prF T v d k n else if ¬ (T 1 (k : Int) 0 0 = 0 ∧ T 2 (k : Int) 1 0 = 1) ∨ T 2 (k : Int) 0 0 < d then n else prF T v d k (if T 2 (k : Int) 0 0 = d then n + 1 else n)
def prZ (T : Nat → Int → Int → Int → Int) (v pl : Int) : Int := prF T v (T 2 pl 0 0) (Int.toNat pl) 1
section NU1
variable {T : Nat → Int → Int → Int → Int} {v d q fi se n : Int}
theorem hnF_s (h : 0 ≤ q) (e : (fi, se) = hnF T v (Int.toNat q)) : hnF T v (Int.toNat (q + 1)) = if hdP T v q then (if T 2 q 3 0 = 1 then (fi + 1, 0) else (fi, se + 1)) else (fi, se) := by
  rw [show Int.toNat (q + 1) = Int.toNat q + 1 by omega]
  simp only [hnF]
  rw [← e, show ((Int.toNat q : Nat) : Int) = q by omega]
theorem prF_s (h : 0 ≤ q) : prF T v d (Int.toNat (q + 1)) n = if ¬ thB T q v then prF T v d (Int.toNat q) n else if ¬ (T 1 q 0 0 = 0 ∧ T 2 q 1 0 = 1) ∨ T 2 q 0 0 < d then n else prF T v d (Int.toNat q) (if T 2 q 0 0 = d then n + 1 else n) := by
  rw [show Int.toNat (q + 1) = Int.toNat q + 1 by omega]
  simp only [prF]
  rw [show ((Int.toNat q : Nat) : Int) = q by omega]
end NU1

theorem mw_75 : (Jvm.Cond.fieldLink "Galleyforge$Text" (12 : Nat) "Galleyforge$Text" "blocks" "Ljava/util/ArrayList;") ∈ gt := gt_at 145 (by decide +kernel) (by decide +kernel)
theorem mw_739 : (Jvm.Cond.methodLink "Galleyforge$Text" (42 : Nat) ({ cls := "java/util/ArrayList", name := "size", desc := "()I" } : Jvm.MethodName)) ∈ gt := gt_at 809 (by decide +kernel) (by decide +kernel)
theorem mw_740 : (Jvm.Cond.methodLink "Galleyforge$Text" (46 : Nat) ({ cls := "java/util/ArrayList", name := "get", desc := "(I)Ljava/lang/Object;" } : Jvm.MethodName)) ∈ gt := gt_at 810 (by decide +kernel) (by decide +kernel)
theorem mw_754 : (Jvm.Cond.classLink "Galleyforge$Text" (50 : Nat) "Galleyforge$Block") ∈ gt := gt_at 824 (by decide +kernel) (by decide +kernel)
theorem mw_1169 : (Jvm.Cond.fieldLink "Galleyforge$Text" (83 : Nat) "Galleyforge$Block" "kind" "I") ∈ gt := gt_at 1239 (by decide +kernel) (by decide +kernel)
theorem mw_1175 : (Jvm.Cond.fieldLink "Galleyforge$Text" (90 : Nat) "Galleyforge$Block" "styles" "[I") ∈ gt := gt_at 1245 (by decide +kernel) (by decide +kernel)
theorem mw_1299 : (Jvm.Cond.methodLink "Galleyforge$Text" (86 : Nat) ({ cls := "Galleyforge$Block", name := "isThere", desc := "(I)Z" } : Jvm.MethodName)) ∈ gt := gt_at 1369 (by decide +kernel) (by decide +kernel)
theorem dX9_headingNumber_0 : decode cX9_headingNumber 0 = .ok (.iconst 0, 1) := by decide +kernel
theorem dX9_headingNumber_1 : decode cX9_headingNumber 1 = .ok (.istore_n 3, 1) := by decide +kernel
theorem dX9_headingNumber_2 : decode cX9_headingNumber 2 = .ok (.iconst 0, 1) := by decide +kernel
theorem dX9_headingNumber_3 : decode cX9_headingNumber 3 = .ok (.istore 4, 2) := by decide +kernel
theorem dX9_headingNumber_5 : decode cX9_headingNumber 5 = .ok (.iconst 0, 1) := by decide +kernel
theorem dX9_headingNumber_6 : decode cX9_headingNumber 6 = .ok (.istore 5, 2) := by decide +kernel
theorem dX9_headingNumber_8 : decode cX9_headingNumber 8 = .ok (.iload 5, 2) := by decide +kernel
theorem dX9_headingNumber_10 : decode cX9_headingNumber 10 = .ok (.iload_n 2, 1) := by decide +kernel
theorem dX9_headingNumber_11 : decode cX9_headingNumber 11 = .ok (.if_icmp .gt 79, 3) := by decide +kernel
theorem dX9_headingNumber_14 : decode cX9_headingNumber 14 = .ok (.iload 5, 2) := by decide +kernel
theorem dX9_headingNumber_16 : decode cX9_headingNumber 16 = .ok (.aload_n 0, 1) := by decide +kernel
theorem dX9_headingNumber_17 : decode cX9_headingNumber 17 = .ok (.getfield 12, 3) := by decide +kernel
theorem dX9_headingNumber_20 : decode cX9_headingNumber 20 = .ok (.invokevirtual 42, 3) := by decide +kernel
theorem dX9_headingNumber_23 : decode cX9_headingNumber 23 = .ok (.if_icmp .ge 67, 3) := by decide +kernel
theorem dX9_headingNumber_26 : decode cX9_headingNumber 26 = .ok (.aload_n 0, 1) := by decide +kernel
theorem dX9_headingNumber_27 : decode cX9_headingNumber 27 = .ok (.getfield 12, 3) := by decide +kernel
theorem dX9_headingNumber_30 : decode cX9_headingNumber 30 = .ok (.iload 5, 2) := by decide +kernel
theorem dX9_headingNumber_32 : decode cX9_headingNumber 32 = .ok (.invokevirtual 46, 3) := by decide +kernel
theorem dX9_headingNumber_35 : decode cX9_headingNumber 35 = .ok (.checkcast 50, 3) := by decide +kernel
theorem dX9_headingNumber_38 : decode cX9_headingNumber 38 = .ok (.astore 6, 2) := by decide +kernel
theorem dX9_headingNumber_40 : decode cX9_headingNumber 40 = .ok (.aload 6, 2) := by decide +kernel
theorem dX9_headingNumber_42 : decode cX9_headingNumber 42 = .ok (.getfield 83, 3) := by decide +kernel
theorem dX9_headingNumber_45 : decode cX9_headingNumber 45 = .ok (.iconst 1, 1) := by decide +kernel
theorem dX9_headingNumber_46 : decode cX9_headingNumber 46 = .ok (.if_icmp .ne 38, 3) := by decide +kernel
theorem dX9_headingNumber_49 : decode cX9_headingNumber 49 = .ok (.aload 6, 2) := by decide +kernel
theorem dX9_headingNumber_51 : decode cX9_headingNumber 51 = .ok (.iload_n 1, 1) := by decide +kernel
theorem dX9_headingNumber_52 : decode cX9_headingNumber 52 = .ok (.invokevirtual 86, 3) := by decide +kernel
theorem dX9_headingNumber_55 : decode cX9_headingNumber 55 = .ok (.ifCond .ne 6, 3) := by decide +kernel
theorem dX9_headingNumber_58 : decode cX9_headingNumber 58 = .ok (.goto 26, 3) := by decide +kernel
theorem dX9_headingNumber_61 : decode cX9_headingNumber 61 = .ok (.aload 6, 2) := by decide +kernel
theorem dX9_headingNumber_63 : decode cX9_headingNumber 63 = .ok (.getfield 90, 3) := by decide +kernel
theorem dX9_headingNumber_66 : decode cX9_headingNumber 66 = .ok (.iconst 3, 1) := by decide +kernel
theorem dX9_headingNumber_67 : decode cX9_headingNumber 67 = .ok (.iaload, 1) := by decide +kernel
theorem dX9_headingNumber_68 : decode cX9_headingNumber 68 = .ok (.iconst 1, 1) := by decide +kernel
theorem dX9_headingNumber_69 : decode cX9_headingNumber 69 = .ok (.if_icmp .ne 12, 3) := by decide +kernel
theorem dX9_headingNumber_72 : decode cX9_headingNumber 72 = .ok (.iinc 3 1, 3) := by decide +kernel
theorem dX9_headingNumber_75 : decode cX9_headingNumber 75 = .ok (.iconst 0, 1) := by decide +kernel
theorem dX9_headingNumber_76 : decode cX9_headingNumber 76 = .ok (.istore 4, 2) := by decide +kernel
theorem dX9_headingNumber_78 : decode cX9_headingNumber 78 = .ok (.goto 6, 3) := by decide +kernel
theorem dX9_headingNumber_81 : decode cX9_headingNumber 81 = .ok (.iinc 4 1, 3) := by decide +kernel
theorem dX9_headingNumber_84 : decode cX9_headingNumber 84 = .ok (.iinc 5 1, 3) := by decide +kernel
theorem dX9_headingNumber_87 : decode cX9_headingNumber 87 = .ok (.goto (-79), 3) := by decide +kernel
theorem dX9_headingNumber_90 : decode cX9_headingNumber 90 = .ok (.bipush 100, 2) := by decide +kernel
theorem dX9_headingNumber_92 : decode cX9_headingNumber 92 = .ok (.iload_n 3, 1) := by decide +kernel
theorem dX9_headingNumber_93 : decode cX9_headingNumber 93 = .ok (.imul, 1) := by decide +kernel
theorem dX9_headingNumber_94 : decode cX9_headingNumber 94 = .ok (.iload 4, 2) := by decide +kernel
theorem dX9_headingNumber_96 : decode cX9_headingNumber 96 = .ok (.iadd, 1) := by decide +kernel
theorem dX9_headingNumber_97 : decode cX9_headingNumber 97 = .ok (.ireturn, 1) := by decide +kernel
set_option maxHeartbeats 4000000 in
set_option maxRecDepth 100000 in
theorem k_headingNumber (l : Launch) (dC : Nat → ClassId) (dI : Nat → Nat → Nat) (k : Nat → ClassId) (T : Nat → Int → Int → Int → Int) (A : Nat → Int → Int → Nat) (X : Nat → Int → Int → Int) (tl : va_W) (v : Int) (pl : Int) (hT : TI dI k T A X tl) (hK : TK T) (hv : 0 ≤ v ∧ v ≤ 1) (h1 : 0 ≤ pl ∧ pl < T 0 0 0 0) : Kn l dC dI k yX9_headingNumber (.code yX9_headingNumber cX9_headingNumber 7 (some .int)) ({ frames := 3, cells := 0, slots := 0, locals := 64 } : Room) [.ref (A 50 0 0), .int (iI v), .int (iI pl)] ([] ++ tl) (fun r w gc gs => ((-100000 ≤ hnZ T v pl ∧ hnZ T v pl ≤ 100000) ∧ r = some (.int (iI (hnZ T v pl))) ∧ w = ([] ++ tl) ∧ gc = 0 ∧ gs = 0)) := by
  refine kn_of (by decide) (Nat.le_of_ble_eq_true rfl) ?_
  intro p e s m args below meth c H locs B hr hnm ls hl
  have hx := B.1.1
  have hb := B.1.2.1
  have hl : lv_has ls 7 [(0, .ref (A 50 0 0)), (1, .int (iI v)), (2, .int (iI pl))] := hl
  have hnb := TK_nb hK
  refine lv_iconst (v := iI 0) hx hb dX9_headingNumber_0 (by decide) ?_
  refine lv_istore_n (lv' := [(3, .int (iI 0)), (0, .ref (A 50 0 0)), (1, .int (iI v)), (2, .int (iI pl))]) hx hb dX9_headingNumber_1 rfl hl (by decide) rfl (fun ls hl => ?_)
  refine lv_iconst (v := iI 0) hx hb dX9_headingNumber_2 (by decide) ?_
  refine lv_istore (lv' := [(4, .int (iI 0)), (3, .int (iI 0)), (0, .ref (A 50 0 0)), (1, .int (iI v)), (2, .int (iI pl))]) hx hb dX9_headingNumber_3 hl (by decide) rfl (fun ls hl => ?_)
  refine lv_iconst (v := iI 0) hx hb dX9_headingNumber_5 (by decide) ?_
  refine lv_istore (lv' := [(5, .int (iI 0)), (4, .int (iI 0)), (3, .int (iI 0)), (0, .ref (A 50 0 0)), (1, .int (iI v)), (2, .int (iI pl))]) hx hb dX9_headingNumber_6 hl (by decide) rfl (fun ls hl => ?_)
  refine k_loop (σ := Int × Int × Int) B (fun g9 : Int × Int × Int => (0 ≤ g9.1 ∧ g9.1 ≤ pl + 1 ∧ 0 ≤ g9.2.1 ∧ g9.2.1 ≤ g9.1 ∧ 0 ≤ g9.2.2 ∧ g9.2.2 ≤ g9.1) ∧ ((g9.2.1, g9.2.2) = hnF T v (Int.toNat g9.1))) (fun g9 : Int × Int × Int => (pl + 1 - g9.1).toNat) (fun g9 : Int × Int × Int => [(5, .int (iI g9.1)), (4, .int (iI g9.2.2)), (3, .int (iI g9.2.1)), (0, .ref (A 50 0 0)), (1, .int (iI v)), (2, .int (iI pl))]) (fun g9 : Int × Int × Int => ([] ++ tl)) ?_ (0, 0, 0) ⟨(show 0 ≤ 0 ∧ 0 ≤ pl + 1 ∧ 0 ≤ 0 ∧ 0 ≤ 0 ∧ 0 ≤ 0 ∧ 0 ≤ 0 from (by omega)), (show (0, 0) = hnF T v (Int.toNat 0) from rfl)⟩ ls H locs (lv_sub hl [0, 1, 2, 3, 4, 5] rfl) (bd_to rfl B)
  clear hl B
  rintro ⟨pq, fi, se⟩ ⟨hk, hq⟩ ih_1 ls H locs hl B
  have hk : 0 ≤ pq ∧ pq ≤ pl + 1 ∧ 0 ≤ fi ∧ fi ≤ pq ∧ 0 ≤ se ∧ se ≤ pq := hk
  have hq : (fi, se) = hnF T v (Int.toNat pq) := hq
  have hl : lv_has ls 7 [(5, .int (iI pq)), (4, .int (iI se)), (3, .int (iI fi)), (0, .ref (A 50 0 0)), (1, .int (iI v)), (2, .int (iI pl))] := hl
  have B := bd_to (ws' := ([] ++ tl)) rfl B
  refine lv_iload hx hb dX9_headingNumber_8 (lv_at hl 0 rfl) ?_
  refine lv_iload_n hx hb dX9_headingNumber_10 rfl (lv_at hl 5 rfl) ?_
  refine lv_icmp_gt (tgt := 90) hx hb dX9_headingNumber_11 (by decide) (fun c_2 => ?_) (fun c_2 => ?_)
  · have zc_2 : pl < pq := jlt (a := pl) (b := pq) (by omega) (by omega) c_2
    refine lv_bipush (v := iI 100) hx hb dX9_headingNumber_90 (by decide) ?_
    refine lv_iload_n hx hb dX9_headingNumber_92 rfl (lv_at hl 2 rfl) ?_
    refine y_mul hx hb dX9_headingNumber_93 ?_
    refine lv_iload hx hb dX9_headingNumber_94 (lv_at hl 1 rfl) ?_
    refine y_add hx hb dX9_headingNumber_96 ?_
    have e_3 : (hnZ T v pl) = ((100 * fi) + se) := (by unfold hnZ; rw [show pl + 1 = pq by omega, ← hq])
    skip
    exact k_iret B hr (⟨(by have e9 : hnZ T v pl = 100 * fi + se := (by unfold hnZ; rw [show pl + 1 = pq by omega, ← hq]); omega), (by rw [e_3]), rfl, rfl, rfl⟩) ⟨Nat.le_of_ble_eq_true rfl, Nat.le_of_ble_eq_true rfl⟩ ⟨Nat.le_of_ble_eq_true rfl, Nat.le_of_ble_eq_true rfl⟩ dX9_headingNumber_97
  · have zc_2 : pq ≤ pl := jnlt (a := pl) (b := pq) (by omega) (by omega) c_2
    refine lv_iload hx hb dX9_headingNumber_14 (lv_at hl 0 rfl) ?_
    refine lv_aload_n hx hb dX9_headingNumber_16 rfl (lv_at hl 3 rfl) ?_
    obtain ⟨k_4, hk_4⟩ := pk_at (hs := []) hT.1.1
    refine x_get (ci := 9) (C := RX9) (T := TX9) (N := 8) (v := .ref (A 51 0 0)) B k_4 hk_4 rfl in_X9 0 (by decide) mw_75 (fun _ h9 => h9) rfl dX9_headingNumber_17 ?_
    have B := bd_swap (a := []) (b := []) (d := tl) (bd_to rfl B)
    obtain ⟨k_5, fk_5, hk_5⟩ := LI_at (hs := []) hT.2.1
    refine k_V (rest := [.int (iI pq)]) (wc := ([] ++ tl)) (wr := []) (k_sizeB l dC dI k T A X tl hT hK) B mV_Jx4a65c_size_8abf5 mw_739 hl (q0 := k_5) (ci := 12) hk_5 rfl rfl ⟨Nat.le_of_ble_eq_true rfl, Nat.le_of_ble_eq_true rfl⟩ (Nat.le_of_ble_eq_true rfl) rfl dX9_headingNumber_20 ⟨Nat.le_of_ble_eq_true rfl, Nat.le_of_ble_eq_true rfl⟩ (fun r w gc gs H locs hp B => ?_)
    obtain ⟨z_6, rfl, hw9, rfl, rfl⟩ := hp
    rw [hw9] at B; clear hw9
    have B := bd_to (ws' := ([] ++ tl)) rfl B
    refine lv_icmp_ge (tgt := 90) hx hb dX9_headingNumber_23 (by decide) (fun c_7 => ?_) (fun c_7 => ?_)
    · have zc_7 : (T 0 0 0 0) ≤ pq := jle (a := (T 0 0 0 0)) (b := pq) (by omega) (by omega) c_7
      refine lv_bipush (v := iI 100) hx hb dX9_headingNumber_90 (by decide) ?_
      refine lv_iload_n hx hb dX9_headingNumber_92 rfl (lv_at hl 2 rfl) ?_
      refine y_mul hx hb dX9_headingNumber_93 ?_
      refine lv_iload hx hb dX9_headingNumber_94 (lv_at hl 1 rfl) ?_
      refine y_add hx hb dX9_headingNumber_96 ?_
      have e_8 : (hnZ T v pl) = ((100 * fi) + se) := (by unfold hnZ; rw [show pl + 1 = pq by omega, ← hq])
      skip
      exact k_iret B hr (⟨(by have e9 : hnZ T v pl = 100 * fi + se := (by unfold hnZ; rw [show pl + 1 = pq by omega, ← hq]); omega), (by rw [e_8]), rfl, rfl, rfl⟩) ⟨Nat.le_of_ble_eq_true rfl, Nat.le_of_ble_eq_true rfl⟩ ⟨Nat.le_of_ble_eq_true rfl, Nat.le_of_ble_eq_true rfl⟩ dX9_headingNumber_97
    · have zc_7 : pq < (T 0 0 0 0) := jnle (a := (T 0 0 0 0)) (b := pq) (by omega) (by omega) c_7
      refine lv_aload_n hx hb dX9_headingNumber_26 rfl (lv_at hl 3 rfl) ?_
      obtain ⟨k_9, hk_9⟩ := pk_at (hs := []) hT.1.1
      refine x_get (ci := 9) (C := RX9) (T := TX9) (N := 8) (v := .ref (A 51 0 0)) B k_9 hk_9 rfl in_X9 0 (by decide) mw_75 (fun _ h9 => h9) rfl dX9_headingNumber_27 ?_
      refine lv_iload hx hb dX9_headingNumber_30 (lv_at hl 0 rfl) ?_
      have B := bd_swap (a := []) (b := []) (d := tl) (bd_to rfl B)
      obtain ⟨k_10, fk_10, hk_10⟩ := LI_at (hs := []) hT.2.1
      refine k_V (rest := []) (wc := ([] ++ tl)) (wr := []) (k_getB l dC dI k T A X tl pq hT hK (by omega)) B mV_Jx4a65c_get_915e3 mw_740 hl (q0 := k_10) (ci := 12) hk_10 rfl rfl ⟨Nat.le_of_ble_eq_true rfl, Nat.le_of_ble_eq_true rfl⟩ (Nat.le_of_ble_eq_true rfl) rfl dX9_headingNumber_32 ⟨Nat.le_of_ble_eq_true rfl, Nat.le_of_ble_eq_true rfl⟩ (fun r w gc gs H locs hp B => ?_)
      obtain ⟨rfl, hw9, rfl, rfl⟩ := hp
      rw [hw9] at B; clear hw9
      have B := bd_to (ws' := ([] ++ tl)) rfl B
      obtain ⟨k_11, hk_11⟩ := pk_at (hs := []) (hT.2.2.2.1 pq (by omega) (by omega)).1
      refine x_cast (ci := 0) (C := RX0) (T := TX0) (N := 4) B k_11 hk_11 rfl mw_754 dX9_headingNumber_35 ?_
      refine lv_astore (lv' := [(6, .ref (A 0 pq 0)), (5, .int (iI pq)), (4, .int (iI se)), (3, .int (iI fi)), (0, .ref (A 50 0 0)), (1, .int (iI v)), (2, .int (iI pl))]) hx hb dX9_headingNumber_38 hl (by decide) rfl (fun ls hl => ?_)
      refine lv_aload hx hb dX9_headingNumber_40 (lv_at hl 0 rfl) ?_
      obtain ⟨k_12, hk_12⟩ := pk_at (hs := []) (hT.2.2.2.1 pq (by omega) (by omega)).1
      refine x_get (ci := 0) (C := RX0) (T := TX0) (N := 4) (v := .int (iI (T 1 pq 0 0))) B k_12 hk_12 rfl in_X0 0 (by decide) mw_1169 (fun _ h9 => h9) rfl dX9_headingNumber_42 ?_
      have z_13 : 0 ≤ T 1 pq 0 0 ∧ T 1 pq 0 0 ≤ 6 := TK_kind hK pq
      refine lv_iconst (v := iI 1) hx hb dX9_headingNumber_45 (by decide) ?_
      refine lv_icmp_ne (tgt := 84) hx hb dX9_headingNumber_46 (by decide) (fun c_14 => ?_) (fun c_14 => ?_)
      · have zc_14 : (T 1 pq 0 0) ≠ 1 := jne (a := (T 1 pq 0 0)) (b := 1) (by omega) (by omega) c_14
        refine lv_iinc (v := iI (pq + 1)) (lv' := [(5, .int (iI (pq + 1))), (6, .ref (A 0 pq 0)), (4, .int (iI se)), (3, .int (iI fi)), (0, .ref (A 50 0 0)), (1, .int (iI v)), (2, .int (iI pl))]) hx hb dX9_headingNumber_84 hl (k := 1) rfl (iI_add _ _) (by decide) rfl (fun ls hl => ?_)
        refine lv_goto (tgt := 8) hx hb dX9_headingNumber_87 (by decide) ?_
        exact ih_1 ((pq + 1), fi, se) ⟨(show 0 ≤ (pq + 1) ∧ (pq + 1) ≤ pl + 1 ∧ 0 ≤ fi ∧ fi ≤ (pq + 1) ∧ 0 ≤ se ∧ se ≤ (pq + 1) from (by omega)), (show (fi, se) = hnF T v (Int.toNat (pq + 1)) from (by rw [hnF_s (by omega) hq, if_neg (fun q9 => absurd q9.1 (by omega))]))⟩ (by first | omega | (dsimp only; omega)) _ _ _ (lv_sub hl [0, 2, 3, 4, 5, 6] rfl) (bd_to rfl B)
      · have zc_14 : (T 1 pq 0 0) = 1 := jeq (a := (T 1 pq 0 0)) (b := 1) (by omega) (by omega) c_14
        refine lv_aload hx hb dX9_headingNumber_49 (lv_at hl 0 rfl) ?_
        refine lv_iload_n hx hb dX9_headingNumber_51 rfl (lv_at hl 5 rfl) ?_
        have B := bd_swap (a := []) (b := []) (d := tl) (bd_to rfl B)
        obtain ⟨k_15, hk_15⟩ := pk_at (hs := []) (hT.2.2.2.1 pq (by omega) (by omega)).1
        refine k_V (rest := []) (wc := ([] ++ tl)) (wr := []) (k_thB l dC dI k T A X tl pq v hT hK (by omega) hv) B mV_X0_isThere mw_1299 hl (q0 := k_15) (ci := 0) hk_15 rfl rfl ⟨Nat.le_of_ble_eq_true rfl, Nat.le_of_ble_eq_true rfl⟩ (Nat.le_of_ble_eq_true rfl) rfl dX9_headingNumber_52 ⟨Nat.le_of_ble_eq_true rfl, Nat.le_of_ble_eq_true rfl⟩ (fun r w gc gs H locs hp B => ?_)
        rcases hp with ⟨z_16, rfl, hw9, rfl, rfl⟩ | ⟨z_17, rfl, hw9, rfl, rfl⟩
        · skip
          rw [hw9] at B; clear hw9
          have B := bd_to (ws' := ([] ++ tl)) rfl B
          refine lv_if_ne (tgt := 61) hx hb dX9_headingNumber_55 (by decide) (fun _ => ?_) (fun c9 => absurd c9 (by decide))
          refine lv_aload hx hb dX9_headingNumber_61 (lv_at hl 0 rfl) ?_
          obtain ⟨k_18, hk_18⟩ := pk_at (hs := []) (hT.2.2.2.1 pq (by omega) (by omega)).1
          refine x_get (ci := 0) (C := RX0) (T := TX0) (N := 4) (v := .ref (A 1 pq 0)) B k_18 hk_18 rfl in_X0 1 (by decide) mw_1175 (fun _ h9 => h9) rfl dX9_headingNumber_63 ?_
          refine lv_iconst (v := iI 3) hx hb dX9_headingNumber_66 (by decide) ?_
          obtain ⟨k_19, hk_19⟩ := pk_at (hs := []) (hT.2.2.2.1 pq (by omega) (by omega)).2.1
          refine x_iald' (f := (fun j9 : Int => T 2 pq j9 0)) (z := 3) B k_19 hk_19 (by omega) dX9_headingNumber_67 ?_
          have z_20 : (-1) ≤ (T 2 pq 3 0) ∧ (T 2 pq 3 0) ≤ 30 := (fun j => TK_sty hK pq j) 3
          refine lv_iconst (v := iI 1) hx hb dX9_headingNumber_68 (by decide) ?_
          refine lv_icmp_ne (tgt := 81) hx hb dX9_headingNumber_69 (by decide) (fun c_21 => ?_) (fun c_21 => ?_)
          · have zc_21 : (T 2 pq 3 0) ≠ 1 := jne (a := (T 2 pq 3 0)) (b := 1) (by omega) (by omega) c_21
            refine lv_iinc (v := iI (se + 1)) (lv' := [(4, .int (iI (se + 1))), (6, .ref (A 0 pq 0)), (5, .int (iI pq)), (3, .int (iI fi)), (0, .ref (A 50 0 0)), (1, .int (iI v)), (2, .int (iI pl))]) hx hb dX9_headingNumber_81 hl (k := 2) rfl (iI_add _ _) (by decide) rfl (fun ls hl => ?_)
            refine lv_iinc (v := iI (pq + 1)) (lv' := [(5, .int (iI (pq + 1))), (4, .int (iI (se + 1))), (6, .ref (A 0 pq 0)), (3, .int (iI fi)), (0, .ref (A 50 0 0)), (1, .int (iI v)), (2, .int (iI pl))]) hx hb dX9_headingNumber_84 hl (k := 2) rfl (iI_add _ _) (by decide) rfl (fun ls hl => ?_)
            refine lv_goto (tgt := 8) hx hb dX9_headingNumber_87 (by decide) ?_
            exact ih_1 ((pq + 1), fi, (se + 1)) ⟨(show 0 ≤ (pq + 1) ∧ (pq + 1) ≤ pl + 1 ∧ 0 ≤ fi ∧ fi ≤ (pq + 1) ∧ 0 ≤ (se + 1) ∧ (se + 1) ≤ (pq + 1) from (by omega)), (show (fi, (se + 1)) = hnF T v (Int.toNat (pq + 1)) from (by rw [hnF_s (by omega) hq, if_pos ⟨zc_14, z_16⟩]; first | rw [if_pos (by omega)] | rw [if_neg (by omega)]))⟩ (by first | omega | (dsimp only; omega)) _ _ _ (lv_sub hl [0, 1, 3, 4, 5, 6] rfl) (bd_to rfl B)
          · have zc_21 : (T 2 pq 3 0) = 1 := jeq (a := (T 2 pq 3 0)) (b := 1) (by omega) (by omega) c_21
            refine lv_iinc (v := iI (fi + 1)) (lv' := [(3, .int (iI (fi + 1))), (6, .ref (A 0 pq 0)), (5, .int (iI pq)), (4, .int (iI se)), (0, .ref (A 50 0 0)), (1, .int (iI v)), (2, .int (iI pl))]) hx hb dX9_headingNumber_72 hl (k := 3) rfl (iI_add _ _) (by decide) rfl (fun ls hl => ?_)
            refine lv_iconst (v := iI 0) hx hb dX9_headingNumber_75 (by decide) ?_
            refine lv_istore (lv' := [(4, .int (iI 0)), (3, .int (iI (fi + 1))), (6, .ref (A 0 pq 0)), (5, .int (iI pq)), (0, .ref (A 50 0 0)), (1, .int (iI v)), (2, .int (iI pl))]) hx hb dX9_headingNumber_76 hl (by decide) rfl (fun ls hl => ?_)
            refine lv_goto (tgt := 84) hx hb dX9_headingNumber_78 (by decide) ?_
            refine lv_iinc (v := iI (pq + 1)) (lv' := [(5, .int (iI (pq + 1))), (4, .int (iI 0)), (3, .int (iI (fi + 1))), (6, .ref (A 0 pq 0)), (0, .ref (A 50 0 0)), (1, .int (iI v)), (2, .int (iI pl))]) hx hb dX9_headingNumber_84 hl (k := 3) rfl (iI_add _ _) (by decide) rfl (fun ls hl => ?_)
            refine lv_goto (tgt := 8) hx hb dX9_headingNumber_87 (by decide) ?_
            exact ih_1 ((pq + 1), (fi + 1), 0) ⟨(show 0 ≤ (pq + 1) ∧ (pq + 1) ≤ pl + 1 ∧ 0 ≤ (fi + 1) ∧ (fi + 1) ≤ (pq + 1) ∧ 0 ≤ 0 ∧ 0 ≤ (pq + 1) from (by omega)), (show ((fi + 1), 0) = hnF T v (Int.toNat (pq + 1)) from (by rw [hnF_s (by omega) hq, if_pos ⟨zc_14, z_16⟩]; first | rw [if_pos (by omega)] | rw [if_neg (by omega)]))⟩ (by first | omega | (dsimp only; omega)) _ _ _ (lv_sub hl [0, 1, 2, 4, 5, 6] rfl) (bd_to rfl B)
        · skip
          rw [hw9] at B; clear hw9
          have B := bd_to (ws' := ([] ++ tl)) rfl B
          refine lv_if_ne (tgt := 61) hx hb dX9_headingNumber_55 (by decide) (fun c9 => absurd c9 (by decide)) (fun _ => ?_)
          refine lv_goto (tgt := 84) hx hb dX9_headingNumber_58 (by decide) ?_
          refine lv_iinc (v := iI (pq + 1)) (lv' := [(5, .int (iI (pq + 1))), (6, .ref (A 0 pq 0)), (4, .int (iI se)), (3, .int (iI fi)), (0, .ref (A 50 0 0)), (1, .int (iI v)), (2, .int (iI pl))]) hx hb dX9_headingNumber_84 hl (k := 1) rfl (iI_add _ _) (by decide) rfl (fun ls hl => ?_)
          refine lv_goto (tgt := 8) hx hb dX9_headingNumber_87 (by decide) ?_
          exact ih_1 ((pq + 1), fi, se) ⟨(show 0 ≤ (pq + 1) ∧ (pq + 1) ≤ pl + 1 ∧ 0 ≤ fi ∧ fi ≤ (pq + 1) ∧ 0 ≤ se ∧ se ≤ (pq + 1) from (by omega)), (show (fi, se) = hnF T v (Int.toNat (pq + 1)) from (by rw [hnF_s (by omega) hq, if_neg (fun q9 => absurd q9.2 z_17)]))⟩ (by first | omega | (dsimp only; omega)) _ _ _ (lv_sub hl [0, 2, 3, 4, 5, 6] rfl) (bd_to rfl B)

theorem mw_1301 : (Jvm.Cond.instanceMethod ({ cls := "Galleyforge$Block", name := "isNumbered", desc := "()Z" } : Jvm.MethodName)) ∈ gt := gt_at 1371 (by decide +kernel) (by decide +kernel)
theorem mw_1302 : (Jvm.Cond.selects "Galleyforge$Block" ({ cls := "Galleyforge$Block", name := "isNumbered", desc := "()Z" } : Jvm.MethodName) ({ cls := "Galleyforge$Block", name := "isNumbered", desc := "()Z" } : Jvm.MethodName)) ∈ gt := gt_at 1372 (by decide +kernel) (by decide +kernel)
theorem mw_1303 : (Jvm.Cond.code ({ cls := "Galleyforge$Block", name := "isNumbered", desc := "()Z" } : Jvm.MethodName) prog_2_method_5_code (1 : Nat) (Option.some Jvm.ClassFile.FieldType.boolean)) ∈ gt := gt_at 1373 (by decide +kernel) (by decide +kernel)
theorem mw_1308 : (Jvm.Cond.methodLink "Galleyforge$Text" (93 : Nat) ({ cls := "Galleyforge$Block", name := "isNumbered", desc := "()Z" } : Jvm.MethodName)) ∈ gt := gt_at 1378 (by decide +kernel) (by decide +kernel)
theorem mV_X0_isNumbered : mV yX0_isNumbered cX0_isNumbered 1 (some .boolean) 0 := ⟨⟨mw_1303, mw_19, by decide, by decide, by decide +kernel⟩, mw_1301, mw_1302⟩
theorem dX9_paragraphNumber_0 : decode cX9_paragraphNumber 0 = .ok (.aload_n 0, 1) := by decide +kernel
theorem dX9_paragraphNumber_1 : decode cX9_paragraphNumber 1 = .ok (.getfield 12, 3) := by decide +kernel
theorem dX9_paragraphNumber_4 : decode cX9_paragraphNumber 4 = .ok (.iload_n 2, 1) := by decide +kernel
theorem dX9_paragraphNumber_5 : decode cX9_paragraphNumber 5 = .ok (.invokevirtual 46, 3) := by decide +kernel
theorem dX9_paragraphNumber_8 : decode cX9_paragraphNumber 8 = .ok (.checkcast 50, 3) := by decide +kernel
theorem dX9_paragraphNumber_11 : decode cX9_paragraphNumber 11 = .ok (.getfield 90, 3) := by decide +kernel
theorem dX9_paragraphNumber_14 : decode cX9_paragraphNumber 14 = .ok (.iconst 0, 1) := by decide +kernel
theorem dX9_paragraphNumber_15 : decode cX9_paragraphNumber 15 = .ok (.iaload, 1) := by decide +kernel
theorem dX9_paragraphNumber_16 : decode cX9_paragraphNumber 16 = .ok (.istore_n 3, 1) := by decide +kernel
theorem dX9_paragraphNumber_17 : decode cX9_paragraphNumber 17 = .ok (.iconst 1, 1) := by decide +kernel
theorem dX9_paragraphNumber_18 : decode cX9_paragraphNumber 18 = .ok (.istore 4, 2) := by decide +kernel
theorem dX9_paragraphNumber_20 : decode cX9_paragraphNumber 20 = .ok (.iload_n 2, 1) := by decide +kernel
theorem dX9_paragraphNumber_21 : decode cX9_paragraphNumber 21 = .ok (.iconst 1, 1) := by decide +kernel
theorem dX9_paragraphNumber_22 : decode cX9_paragraphNumber 22 = .ok (.isub, 1) := by decide +kernel
theorem dX9_paragraphNumber_23 : decode cX9_paragraphNumber 23 = .ok (.istore 5, 2) := by decide +kernel
theorem dX9_paragraphNumber_25 : decode cX9_paragraphNumber 25 = .ok (.iload 5, 2) := by decide +kernel
theorem dX9_paragraphNumber_27 : decode cX9_paragraphNumber 27 = .ok (.ifCond .lt 71, 3) := by decide +kernel
theorem dX9_paragraphNumber_30 : decode cX9_paragraphNumber 30 = .ok (.aload_n 0, 1) := by decide +kernel
theorem dX9_paragraphNumber_31 : decode cX9_paragraphNumber 31 = .ok (.getfield 12, 3) := by decide +kernel
theorem dX9_paragraphNumber_34 : decode cX9_paragraphNumber 34 = .ok (.iload 5, 2) := by decide +kernel
theorem dX9_paragraphNumber_36 : decode cX9_paragraphNumber 36 = .ok (.invokevirtual 46, 3) := by decide +kernel
theorem dX9_paragraphNumber_39 : decode cX9_paragraphNumber 39 = .ok (.checkcast 50, 3) := by decide +kernel
theorem dX9_paragraphNumber_42 : decode cX9_paragraphNumber 42 = .ok (.astore 6, 2) := by decide +kernel
theorem dX9_paragraphNumber_44 : decode cX9_paragraphNumber 44 = .ok (.aload 6, 2) := by decide +kernel
theorem dX9_paragraphNumber_46 : decode cX9_paragraphNumber 46 = .ok (.iload_n 1, 1) := by decide +kernel
theorem dX9_paragraphNumber_47 : decode cX9_paragraphNumber 47 = .ok (.invokevirtual 86, 3) := by decide +kernel
theorem dX9_paragraphNumber_50 : decode cX9_paragraphNumber 50 = .ok (.ifCond .ne 6, 3) := by decide +kernel
theorem dX9_paragraphNumber_53 : decode cX9_paragraphNumber 53 = .ok (.goto 39, 3) := by decide +kernel
theorem dX9_paragraphNumber_56 : decode cX9_paragraphNumber 56 = .ok (.aload 6, 2) := by decide +kernel
theorem dX9_paragraphNumber_58 : decode cX9_paragraphNumber 58 = .ok (.invokevirtual 93, 3) := by decide +kernel
theorem dX9_paragraphNumber_61 : decode cX9_paragraphNumber 61 = .ok (.ifCond .eq 14, 3) := by decide +kernel
theorem dX9_paragraphNumber_64 : decode cX9_paragraphNumber 64 = .ok (.aload 6, 2) := by decide +kernel
theorem dX9_paragraphNumber_66 : decode cX9_paragraphNumber 66 = .ok (.getfield 90, 3) := by decide +kernel
theorem dX9_paragraphNumber_69 : decode cX9_paragraphNumber 69 = .ok (.iconst 0, 1) := by decide +kernel
theorem dX9_paragraphNumber_70 : decode cX9_paragraphNumber 70 = .ok (.iaload, 1) := by decide +kernel
theorem dX9_paragraphNumber_71 : decode cX9_paragraphNumber 71 = .ok (.iload_n 3, 1) := by decide +kernel
theorem dX9_paragraphNumber_72 : decode cX9_paragraphNumber 72 = .ok (.if_icmp .ge 6, 3) := by decide +kernel
theorem dX9_paragraphNumber_75 : decode cX9_paragraphNumber 75 = .ok (.iload 4, 2) := by decide +kernel
theorem dX9_paragraphNumber_77 : decode cX9_paragraphNumber 77 = .ok (.ireturn, 1) := by decide +kernel
theorem dX9_paragraphNumber_78 : decode cX9_paragraphNumber 78 = .ok (.aload 6, 2) := by decide +kernel
theorem dX9_paragraphNumber_80 : decode cX9_paragraphNumber 80 = .ok (.getfield 90, 3) := by decide +kernel
theorem dX9_paragraphNumber_83 : decode cX9_paragraphNumber 83 = .ok (.iconst 0, 1) := by decide +kernel
theorem dX9_paragraphNumber_84 : decode cX9_paragraphNumber 84 = .ok (.iaload, 1) := by decide +kernel
theorem dX9_paragraphNumber_85 : decode cX9_paragraphNumber 85 = .ok (.iload_n 3, 1) := by decide +kernel
theorem dX9_paragraphNumber_86 : decode cX9_paragraphNumber 86 = .ok (.if_icmp .ne 6, 3) := by decide +kernel
theorem dX9_paragraphNumber_89 : decode cX9_paragraphNumber 89 = .ok (.iinc 4 1, 3) := by decide +kernel
theorem dX9_paragraphNumber_92 : decode cX9_paragraphNumber 92 = .ok (.iinc 5 (-1), 3) := by decide +kernel
theorem dX9_paragraphNumber_95 : decode cX9_paragraphNumber 95 = .ok (.goto (-70), 3) := by decide +kernel
theorem dX9_paragraphNumber_98 : decode cX9_paragraphNumber 98 = .ok (.iload 4, 2) := by decide +kernel
theorem dX9_paragraphNumber_100 : decode cX9_paragraphNumber 100 = .ok (.ireturn, 1) := by decide +kernel
set_option maxHeartbeats 4000000 in
set_option maxRecDepth 100000 in
theorem k_paragraphNumber (l : Launch) (dC : Nat → ClassId) (dI : Nat → Nat → Nat) (k : Nat → ClassId) (T : Nat → Int → Int → Int → Int) (A : Nat → Int → Int → Nat) (X : Nat → Int → Int → Int) (tl : va_W) (v : Int) (pl : Int) (hT : TI dI k T A X tl) (hK : TK T) (hv : 0 ≤ v ∧ v ≤ 1) (h1 : 0 ≤ pl ∧ pl < T 0 0 0 0) : Kn l dC dI k yX9_paragraphNumber (.code yX9_paragraphNumber cX9_paragraphNumber 7 (some .int)) ({ frames := 3, cells := 0, slots := 0, locals := 64 } : Room) [.ref (A 50 0 0), .int (iI v), .int (iI pl)] ([] ++ tl) (fun r w gc gs => ((1 ≤ prZ T v pl ∧ prZ T v pl ≤ 100) ∧ r = some (.int (iI (prZ T v pl))) ∧ w = ([] ++ tl) ∧ gc = 0 ∧ gs = 0)) := by
  refine kn_of (by decide) (Nat.le_of_ble_eq_true rfl) ?_
  intro p e s m args below meth c H locs B hr hnm ls hl
  have hx := B.1.1
  have hb := B.1.2.1
  have hl : lv_has ls 7 [(0, .ref (A 50 0 0)), (1, .int (iI v)), (2, .int (iI pl))] := hl
  have hnb := TK_nb hK
  refine lv_aload_n hx hb dX9_paragraphNumber_0 rfl (lv_at hl 0 rfl) ?_
  obtain ⟨k_1, hk_1⟩ := pk_at (hs := []) hT.1.1
  refine x_get (ci := 9) (C := RX9) (T := TX9) (N := 8) (v := .ref (A 51 0 0)) B k_1 hk_1 rfl in_X9 0 (by decide) mw_75 (fun _ h9 => h9) rfl dX9_paragraphNumber_1 ?_
  refine lv_iload_n hx hb dX9_paragraphNumber_4 rfl (lv_at hl 2 rfl) ?_
  have B := bd_swap (a := []) (b := []) (d := tl) (bd_to rfl B)
  obtain ⟨k_2, fk_2, hk_2⟩ := LI_at (hs := []) hT.2.1
  refine k_V (rest := []) (wc := ([] ++ tl)) (wr := []) (k_getB l dC dI k T A X tl pl hT hK h1) B mV_Jx4a65c_get_915e3 mw_740 hl (q0 := k_2) (ci := 12) hk_2 rfl rfl ⟨Nat.le_of_ble_eq_true rfl, Nat.le_of_ble_eq_true rfl⟩ (Nat.le_of_ble_eq_true rfl) rfl dX9_paragraphNumber_5 ⟨Nat.le_of_ble_eq_true rfl, Nat.le_of_ble_eq_true rfl⟩ (fun r w gc gs H locs hp B => ?_)
  obtain ⟨rfl, hw9, rfl, rfl⟩ := hp
  rw [hw9] at B; clear hw9
  have B := bd_to (ws' := ([] ++ tl)) rfl B
  obtain ⟨k_3, hk_3⟩ := pk_at (hs := []) (hT.2.2.2.1 pl (by omega) (by omega)).1
  refine x_cast (ci := 0) (C := RX0) (T := TX0) (N := 4) B k_3 hk_3 rfl mw_754 dX9_paragraphNumber_8 ?_
  obtain ⟨k_4, hk_4⟩ := pk_at (hs := []) (hT.2.2.2.1 pl (by omega) (by omega)).1
  refine x_get (ci := 0) (C := RX0) (T := TX0) (N := 4) (v := .ref (A 1 pl 0)) B k_4 hk_4 rfl in_X0 1 (by decide) mw_1175 (fun _ h9 => h9) rfl dX9_paragraphNumber_11 ?_
  refine lv_iconst (v := iI 0) hx hb dX9_paragraphNumber_14 (by decide) ?_
  obtain ⟨k_5, hk_5⟩ := pk_at (hs := []) (hT.2.2.2.1 pl (by omega) (by omega)).2.1
  refine x_iald' (f := (fun j9 : Int => T 2 pl j9 0)) (z := 0) B k_5 hk_5 (by omega) dX9_paragraphNumber_15 ?_
  have z_6 : (-1) ≤ (T 2 pl 0 0) ∧ (T 2 pl 0 0) ≤ 30 := (fun j => TK_sty hK pl j) 0
  have z_7 : 0 ≤ T 2 pl 0 0 ∧ T 2 pl 0 0 ≤ 2 := TK_ind hK pl
  refine lv_istore_n (lv' := [(3, .int (iI (T 2 pl 0 0))), (0, .ref (A 50 0 0)), (1, .int (iI v)), (2, .int (iI pl))]) hx hb dX9_paragraphNumber_16 rfl hl (by decide) rfl (fun ls hl => ?_)
  refine lv_iconst (v := iI 1) hx hb dX9_paragraphNumber_17 (by decide) ?_
  refine lv_istore (lv' := [(4, .int (iI 1)), (3, .int (iI (T 2 pl 0 0))), (0, .ref (A 50 0 0)), (1, .int (iI v)), (2, .int (iI pl))]) hx hb dX9_paragraphNumber_18 hl (by decide) rfl (fun ls hl => ?_)
  refine lv_iload_n hx hb dX9_paragraphNumber_20 rfl (lv_at hl 4 rfl) ?_
  refine lv_iconst (v := iI 1) hx hb dX9_paragraphNumber_21 (by decide) ?_
  refine y_sub hx hb dX9_paragraphNumber_22 ?_
  refine lv_istore (lv' := [(5, .int (iI (pl - 1))), (4, .int (iI 1)), (3, .int (iI (T 2 pl 0 0))), (0, .ref (A 50 0 0)), (1, .int (iI v)), (2, .int (iI pl))]) hx hb dX9_paragraphNumber_23 hl (by decide) rfl (fun ls hl => ?_)
  refine k_loop (σ := Int × Int) B (fun g9 : Int × Int => (-1 ≤ g9.1 ∧ g9.1 < pl ∧ 1 ≤ g9.2 ∧ g9.2 ≤ pl - g9.1) ∧ (prF T v (T 2 pl 0 0) (Int.toNat (g9.1 + 1)) g9.2 = prF T v (T 2 pl 0 0) (Int.toNat pl) 1)) (fun g9 : Int × Int => (g9.1 + 1).toNat) (fun g9 : Int × Int => [(5, .int (iI g9.1)), (4, .int (iI g9.2)), (3, .int (iI (T 2 pl 0 0))), (0, .ref (A 50 0 0)), (1, .int (iI v)), (2, .int (iI pl))]) (fun g9 : Int × Int => ([] ++ tl)) ?_ ((pl - 1), 1) ⟨(show -1 ≤ (pl - 1) ∧ (pl - 1) < pl ∧ 1 ≤ 1 ∧ 1 ≤ pl - (pl - 1) from (by omega)), (show prF T v (T 2 pl 0 0) (Int.toNat ((pl - 1) + 1)) 1 = prF T v (T 2 pl 0 0) (Int.toNat pl) 1 from (by rw [show pl - 1 + 1 = pl by omega]))⟩ ls H locs (lv_sub hl [0, 1, 2, 3, 4, 5] rfl) (bd_to rfl B)
  clear hl B
  rintro ⟨pq, nu⟩ ⟨hk, hq⟩ ih_8 ls H locs hl B
  have hk : -1 ≤ pq ∧ pq < pl ∧ 1 ≤ nu ∧ nu ≤ pl - pq := hk
  have hq : prF T v (T 2 pl 0 0) (Int.toNat (pq + 1)) nu = prF T v (T 2 pl 0 0) (Int.toNat pl) 1 := hq
  have hl : lv_has ls 7 [(5, .int (iI pq)), (4, .int (iI nu)), (3, .int (iI (T 2 pl 0 0))), (0, .ref (A 50 0 0)), (1, .int (iI v)), (2, .int (iI pl))] := hl
  have B := bd_to (ws' := ([] ++ tl)) rfl B
  refine lv_iload hx hb dX9_paragraphNumber_25 (lv_at hl 0 rfl) ?_
  refine lv_if_lt (tgt := 98) hx hb dX9_paragraphNumber_27 (by decide) (fun c_9 => ?_) (fun c_9 => ?_)
  · have zc_9 : pq < 0 := jlt (a := pq) (b := 0) (by omega) (by omega) c_9
    refine lv_iload hx hb dX9_paragraphNumber_98 (lv_at hl 1 rfl) ?_
    have e_10 : (prZ T v pl) = nu := (by unfold prZ; rw [← hq, show Int.toNat (pq + 1) = 0 by omega]; rfl)
    skip
    exact k_iret B hr (⟨(by have e9 : prZ T v pl = nu := (by unfold prZ; rw [← hq, show Int.toNat (pq + 1) = 0 by omega]; rfl); omega), (by rw [e_10]), rfl, rfl, rfl⟩) ⟨Nat.le_of_ble_eq_true rfl, Nat.le_of_ble_eq_true rfl⟩ ⟨Nat.le_of_ble_eq_true rfl, Nat.le_of_ble_eq_true rfl⟩ dX9_paragraphNumber_100
  · have zc_9 : 0 ≤ pq := jnlt (a := pq) (b := 0) (by omega) (by omega) c_9
    refine lv_aload_n hx hb dX9_paragraphNumber_30 rfl (lv_at hl 3 rfl) ?_
    obtain ⟨k_11, hk_11⟩ := pk_at (hs := []) hT.1.1
    refine x_get (ci := 9) (C := RX9) (T := TX9) (N := 8) (v := .ref (A 51 0 0)) B k_11 hk_11 rfl in_X9 0 (by decide) mw_75 (fun _ h9 => h9) rfl dX9_paragraphNumber_31 ?_
    refine lv_iload hx hb dX9_paragraphNumber_34 (lv_at hl 0 rfl) ?_
    have B := bd_swap (a := []) (b := []) (d := tl) (bd_to rfl B)
    obtain ⟨k_12, fk_12, hk_12⟩ := LI_at (hs := []) hT.2.1
    refine k_V (rest := []) (wc := ([] ++ tl)) (wr := []) (k_getB l dC dI k T A X tl pq hT hK (by omega)) B mV_Jx4a65c_get_915e3 mw_740 hl (q0 := k_12) (ci := 12) hk_12 rfl rfl ⟨Nat.le_of_ble_eq_true rfl, Nat.le_of_ble_eq_true rfl⟩ (Nat.le_of_ble_eq_true rfl) rfl dX9_paragraphNumber_36 ⟨Nat.le_of_ble_eq_true rfl, Nat.le_of_ble_eq_true rfl⟩ (fun r w gc gs H locs hp B => ?_)
    obtain ⟨rfl, hw9, rfl, rfl⟩ := hp
    rw [hw9] at B; clear hw9
    have B := bd_to (ws' := ([] ++ tl)) rfl B
    obtain ⟨k_13, hk_13⟩ := pk_at (hs := []) (hT.2.2.2.1 pq (by omega) (by omega)).1
    refine x_cast (ci := 0) (C := RX0) (T := TX0) (N := 4) B k_13 hk_13 rfl mw_754 dX9_paragraphNumber_39 ?_
    refine lv_astore (lv' := [(6, .ref (A 0 pq 0)), (5, .int (iI pq)), (4, .int (iI nu)), (3, .int (iI (T 2 pl 0 0))), (0, .ref (A 50 0 0)), (1, .int (iI v)), (2, .int (iI pl))]) hx hb dX9_paragraphNumber_42 hl (by decide) rfl (fun ls hl => ?_)
    refine lv_aload hx hb dX9_paragraphNumber_44 (lv_at hl 0 rfl) ?_
    refine lv_iload_n hx hb dX9_paragraphNumber_46 rfl (lv_at hl 5 rfl) ?_
    have B := bd_swap (a := []) (b := []) (d := tl) (bd_to rfl B)
    obtain ⟨k_14, hk_14⟩ := pk_at (hs := []) (hT.2.2.2.1 pq (by omega) (by omega)).1
    refine k_V (rest := []) (wc := ([] ++ tl)) (wr := []) (k_thB l dC dI k T A X tl pq v hT hK (by omega) hv) B mV_X0_isThere mw_1299 hl (q0 := k_14) (ci := 0) hk_14 rfl rfl ⟨Nat.le_of_ble_eq_true rfl, Nat.le_of_ble_eq_true rfl⟩ (Nat.le_of_ble_eq_true rfl) rfl dX9_paragraphNumber_47 ⟨Nat.le_of_ble_eq_true rfl, Nat.le_of_ble_eq_true rfl⟩ (fun r w gc gs H locs hp B => ?_)
    rcases hp with ⟨z_15, rfl, hw9, rfl, rfl⟩ | ⟨z_16, rfl, hw9, rfl, rfl⟩
    · skip
      rw [hw9] at B; clear hw9
      have B := bd_to (ws' := ([] ++ tl)) rfl B
      refine lv_if_ne (tgt := 56) hx hb dX9_paragraphNumber_50 (by decide) (fun _ => ?_) (fun c9 => absurd c9 (by decide))
      refine lv_aload hx hb dX9_paragraphNumber_56 (lv_at hl 0 rfl) ?_
      have B := bd_swap (a := []) (b := []) (d := tl) (bd_to rfl B)
      obtain ⟨k_17, hk_17⟩ := pk_at (hs := []) (hT.2.2.2.1 pq (by omega) (by omega)).1
      refine k_V (rest := []) (wc := ([] ++ tl)) (wr := []) (k_isNumbered l dC dI k T A X tl pq hT hK (by omega)) B mV_X0_isNumbered mw_1308 hl (q0 := k_17) (ci := 0) hk_17 rfl rfl ⟨Nat.le_of_ble_eq_true rfl, Nat.le_of_ble_eq_true rfl⟩ (Nat.le_of_ble_eq_true rfl) rfl dX9_paragraphNumber_58 ⟨Nat.le_of_ble_eq_true rfl, Nat.le_of_ble_eq_true rfl⟩ (fun r w gc gs H locs hp B => ?_)
      rcases hp with ⟨z_18, rfl, hw9, rfl, rfl⟩ | ⟨z_19, rfl, hw9, rfl, rfl⟩
      · skip
        rw [hw9] at B; clear hw9
        have B := bd_to (ws' := ([] ++ tl)) rfl B
        refine lv_if_eq (tgt := 75) hx hb dX9_paragraphNumber_61 (by decide) (fun c9 => absurd c9 (by decide)) (fun _ => ?_)
        refine lv_aload hx hb dX9_paragraphNumber_64 (lv_at hl 0 rfl) ?_
        obtain ⟨k_20, hk_20⟩ := pk_at (hs := []) (hT.2.2.2.1 pq (by omega) (by omega)).1
        refine x_get (ci := 0) (C := RX0) (T := TX0) (N := 4) (v := .ref (A 1 pq 0)) B k_20 hk_20 rfl in_X0 1 (by decide) mw_1175 (fun _ h9 => h9) rfl dX9_paragraphNumber_66 ?_
        refine lv_iconst (v := iI 0) hx hb dX9_paragraphNumber_69 (by decide) ?_
        obtain ⟨k_21, hk_21⟩ := pk_at (hs := []) (hT.2.2.2.1 pq (by omega) (by omega)).2.1
        refine x_iald' (f := (fun j9 : Int => T 2 pq j9 0)) (z := 0) B k_21 hk_21 (by omega) dX9_paragraphNumber_70 ?_
        have z_22 : (-1) ≤ (T 2 pq 0 0) ∧ (T 2 pq 0 0) ≤ 30 := (fun j => TK_sty hK pq j) 0
        have z_23 : 0 ≤ T 2 pq 0 0 ∧ T 2 pq 0 0 ≤ 2 := TK_ind hK pq
        refine lv_iload_n hx hb dX9_paragraphNumber_71 rfl (lv_at hl 3 rfl) ?_
        refine lv_icmp_ge (tgt := 78) hx hb dX9_paragraphNumber_72 (by decide) (fun c_24 => ?_) (fun c_24 => ?_)
        · have zc_24 : (T 2 pl 0 0) ≤ (T 2 pq 0 0) := jle (a := (T 2 pl 0 0)) (b := (T 2 pq 0 0)) (by omega) (by omega) c_24
          refine lv_aload hx hb dX9_paragraphNumber_78 (lv_at hl 0 rfl) ?_
          obtain ⟨k_25, hk_25⟩ := pk_at (hs := []) (hT.2.2.2.1 pq (by omega) (by omega)).1
          refine x_get (ci := 0) (C := RX0) (T := TX0) (N := 4) (v := .ref (A 1 pq 0)) B k_25 hk_25 rfl in_X0 1 (by decide) mw_1175 (fun _ h9 => h9) rfl dX9_paragraphNumber_80 ?_
          refine lv_iconst (v := iI 0) hx hb dX9_paragraphNumber_83 (by decide) ?_
          obtain ⟨k_26, hk_26⟩ := pk_at (hs := []) (hT.2.2.2.1 pq (by omega) (by omega)).2.1
          refine x_iald' (f := (fun j9 : Int => T 2 pq j9 0)) (z := 0) B k_26 hk_26 (by omega) dX9_paragraphNumber_84 ?_
          have z_27 : (-1) ≤ (T 2 pq 0 0) ∧ (T 2 pq 0 0) ≤ 30 := (fun j => TK_sty hK pq j) 0
          have z_28 : 0 ≤ T 2 pq 0 0 ∧ T 2 pq 0 0 ≤ 2 := TK_ind hK pq
          refine lv_iload_n hx hb dX9_paragraphNumber_85 rfl (lv_at hl 3 rfl) ?_
          refine lv_icmp_ne (tgt := 92) hx hb dX9_paragraphNumber_86 (by decide) (fun c_29 => ?_) (fun c_29 => ?_)
          · have zc_29 : (T 2 pq 0 0) ≠ (T 2 pl 0 0) := jne (a := (T 2 pq 0 0)) (b := (T 2 pl 0 0)) (by omega) (by omega) c_29
            refine lv_iinc (v := iI (pq + (-1))) (lv' := [(5, .int (iI (pq + (-1)))), (6, .ref (A 0 pq 0)), (4, .int (iI nu)), (3, .int (iI (T 2 pl 0 0))), (0, .ref (A 50 0 0)), (1, .int (iI v)), (2, .int (iI pl))]) hx hb dX9_paragraphNumber_92 hl (k := 1) rfl (iI_add _ _) (by decide) rfl (fun ls hl => ?_)
            refine lv_goto (tgt := 25) hx hb dX9_paragraphNumber_95 (by decide) ?_
            exact ih_8 ((pq + (-1)), nu) ⟨(show -1 ≤ (pq + (-1)) ∧ (pq + (-1)) < pl ∧ 1 ≤ nu ∧ nu ≤ pl - (pq + (-1)) from (by omega)), (show prF T v (T 2 pl 0 0) (Int.toNat ((pq + (-1)) + 1)) nu = prF T v (T 2 pl 0 0) (Int.toNat pl) 1 from (by rw [← hq, prF_s (q := pq) (by omega), if_neg (fun q9 => q9 z_15), if_neg (by omega), show pq + (-1) + 1 = pq by omega]; congr 1; first | (rw [if_pos (by omega)]; done) | (rw [if_neg (by omega)]; done)))⟩ (by first | omega | (dsimp only; omega)) _ _ _ (lv_sub hl [0, 2, 3, 4, 5, 6] rfl) (bd_to rfl B)
          · have zc_29 : (T 2 pq 0 0) = (T 2 pl 0 0) := jeq (a := (T 2 pq 0 0)) (b := (T 2 pl 0 0)) (by omega) (by omega) c_29
            refine lv_iinc (v := iI (nu + 1)) (lv' := [(4, .int (iI (nu + 1))), (6, .ref (A 0 pq 0)), (5, .int (iI pq)), (3, .int (iI (T 2 pl 0 0))), (0, .ref (A 50 0 0)), (1, .int (iI v)), (2, .int (iI pl))]) hx hb dX9_paragraphNumber_89 hl (k := 2) rfl (iI_add _ _) (by decide) rfl (fun ls hl => ?_)
            refine lv_iinc (v := iI (pq + (-1))) (lv' := [(5, .int (iI (pq + (-1)))), (4, .int (iI (nu + 1))), (6, .ref (A 0 pq 0)), (3, .int (iI (T 2 pl 0 0))), (0, .ref (A 50 0 0)), (1, .int (iI v)), (2, .int (iI pl))]) hx hb dX9_paragraphNumber_92 hl (k := 2) rfl (iI_add _ _) (by decide) rfl (fun ls hl => ?_)
            refine lv_goto (tgt := 25) hx hb dX9_paragraphNumber_95 (by decide) ?_
            exact ih_8 ((pq + (-1)), (nu + 1)) ⟨(show -1 ≤ (pq + (-1)) ∧ (pq + (-1)) < pl ∧ 1 ≤ (nu + 1) ∧ (nu + 1) ≤ pl - (pq + (-1)) from (by omega)), (show prF T v (T 2 pl 0 0) (Int.toNat ((pq + (-1)) + 1)) (nu + 1) = prF T v (T 2 pl 0 0) (Int.toNat pl) 1 from (by rw [← hq, prF_s (q := pq) (by omega), if_neg (fun q9 => q9 z_15), if_neg (by omega), show pq + (-1) + 1 = pq by omega]; congr 1; first | (rw [if_pos (by omega)]; done) | (rw [if_neg (by omega)]; done)))⟩ (by first | omega | (dsimp only; omega)) _ _ _ (lv_sub hl [0, 1, 3, 4, 5, 6] rfl) (bd_to rfl B)
        · have zc_24 : (T 2 pq 0 0) < (T 2 pl 0 0) := jnle (a := (T 2 pl 0 0)) (b := (T 2 pq 0 0)) (by omega) (by omega) c_24
          refine lv_iload hx hb dX9_paragraphNumber_75 (lv_at hl 2 rfl) ?_
          have e_30 : (prZ T v pl) = nu := (by unfold prZ; rw [← hq, prF_s (q := pq) (by omega), if_neg (fun q9 => q9 z_15), if_pos (by omega)])
          skip
          exact k_iret B hr (⟨(by have e9 : prZ T v pl = nu := (by unfold prZ; rw [← hq, prF_s (q := pq) (by omega), if_neg (fun q9 => q9 z_15), if_pos (by omega)]); omega), (by rw [e_30]), rfl, rfl, rfl⟩) ⟨Nat.le_of_ble_eq_true rfl, Nat.le_of_ble_eq_true rfl⟩ ⟨Nat.le_of_ble_eq_true rfl, Nat.le_of_ble_eq_true rfl⟩ dX9_paragraphNumber_77
      · skip
        rw [hw9] at B; clear hw9
        have B := bd_to (ws' := ([] ++ tl)) rfl B
        refine lv_if_eq (tgt := 75) hx hb dX9_paragraphNumber_61 (by decide) (fun _ => ?_) (fun c9 => absurd (by decide) c9)
        refine lv_iload hx hb dX9_paragraphNumber_75 (lv_at hl 2 rfl) ?_
        have e_31 : (prZ T v pl) = nu := (by unfold prZ; rw [← hq, prF_s (q := pq) (by omega), if_neg (fun q9 => q9 z_15), if_pos (by omega)])
        skip
        exact k_iret B hr (⟨(by have e9 : prZ T v pl = nu := (by unfold prZ; rw [← hq, prF_s (q := pq) (by omega), if_neg (fun q9 => q9 z_15), if_pos (by omega)]); omega), (by rw [e_31]), rfl, rfl, rfl⟩) ⟨Nat.le_of_ble_eq_true rfl, Nat.le_of_ble_eq_true rfl⟩ ⟨Nat.le_of_ble_eq_true rfl, Nat.le_of_ble_eq_true rfl⟩ dX9_paragraphNumber_77
    · skip
      rw [hw9] at B; clear hw9
      have B := bd_to (ws' := ([] ++ tl)) rfl B
      refine lv_if_ne (tgt := 56) hx hb dX9_paragraphNumber_50 (by decide) (fun c9 => absurd c9 (by decide)) (fun _ => ?_)
      refine lv_goto (tgt := 92) hx hb dX9_paragraphNumber_53 (by decide) ?_
      refine lv_iinc (v := iI (pq + (-1))) (lv' := [(5, .int (iI (pq + (-1)))), (6, .ref (A 0 pq 0)), (4, .int (iI nu)), (3, .int (iI (T 2 pl 0 0))), (0, .ref (A 50 0 0)), (1, .int (iI v)), (2, .int (iI pl))]) hx hb dX9_paragraphNumber_92 hl (k := 1) rfl (iI_add _ _) (by decide) rfl (fun ls hl => ?_)
      refine lv_goto (tgt := 25) hx hb dX9_paragraphNumber_95 (by decide) ?_
      exact ih_8 ((pq + (-1)), nu) ⟨(show -1 ≤ (pq + (-1)) ∧ (pq + (-1)) < pl ∧ 1 ≤ nu ∧ nu ≤ pl - (pq + (-1)) from (by omega)), (show prF T v (T 2 pl 0 0) (Int.toNat ((pq + (-1)) + 1)) nu = prF T v (T 2 pl 0 0) (Int.toNat pl) 1 from (by rw [← hq, prF_s (q := pq) (by omega), if_pos z_16, show pq + (-1) + 1 = pq by omega]))⟩ (by first | omega | (dsimp only; omega)) _ _ _ (lv_sub hl [0, 2, 3, 4, 5, 6] rfl) (bd_to rfl B)

/-- a pattern stands at a place of these letters; the level at a gap, of the first k patterns; the gaps of the first k -/
def stP (T : Nat → Int → Int → Int → Int) (i : Int) (f : Int → Int) (nl fr : Int) : Prop := 0 ≤ fr ∧ fr ≤ nl - T 19 i 0 0 ∧ ∀ j, 0 ≤ j → j < T 19 i 0 0 → f (fr + j) = T 20 i j 0
noncomputable def lvF (T : Nat → Int → Int → Int → Int) (f : Int → Int) (nl gp : Int) : Nat → Int
  | 0 => 0
  | k + 1 => @ite _ (lvF T f nl gp k < T 22 (k : Int) 0 0 ∧ stP T (k : Int) f nl (gp - T 21 (k : Int) 0 0)) (Classical.propDecidable _) (T 22 (k : Int) 0 0) (lvF T f nl gp k)
noncomputable abbrev lvZ (T : Nat → Int → Int → Int → Int) (f : Int → Int) (nl gp : Int) : Int := lvF T f nl gp (Int.toNat (T 18 0 0 0))
noncomputable def gsF (T : Nat → Int → Int → Int → Int) (f : Int → Int) (nl : Int) : Nat → Int
  | 0 => 0
  | k + 1 => if lvZ T f nl (2 + (k : Int)) % 2 = 1 then bOr (gsF T f nl k) (bShl 1 (2 + (k : Int))) else gsF T f nl k
noncomputable def gsZ (T : Nat → Int → Int → Int → Int) (f : Int → Int) (nl : Int) : Int := gsF T f nl (Int.toNat (nl - 3))
section GS1
variable {T : Nat → Int → Int → Int → Int} {f : Int → Int} {nl gp q : Int}
theorem lvF_y (h : 0 ≤ q) (h1 : lvF T f nl gp (Int.toNat q) < T 22 q 0 0) (h2 : stP T q f nl (gp - T 21 q 0 0)) : lvF T f nl gp (Int.toNat (q + 1)) = T 22 q 0 0 := by
  rw [show Int.toNat (q + 1) = Int.toNat q + 1 by omega]
  simp only [lvF]
  rw [show ((Int.toNat q : Nat) : Int) = q by omega]
  exact if_pos ⟨h1, h2⟩
theorem lvF_n (h : 0 ≤ q) (h1 : ¬ (lvF T f nl gp (Int.toNat q) < T 22 q 0 0 ∧ stP T q f nl (gp - T 21 q 0 0))) : lvF T f nl gp (Int.toNat (q + 1)) = lvF T f nl gp (Int.toNat q) := by
  rw [show Int.toNat (q + 1) = Int.toNat q + 1 by omega]
  simp only [lvF]
  rw [show ((Int.toNat q : Nat) : Int) = q by omega]
  exact if_neg h1
theorem gsF_s (h : 2 ≤ q) : gsF T f nl (Int.toNat ((q + 1) - 2)) = if lvZ T f nl q % 2 = 1 then bOr (gsF T f nl (Int.toNat (q - 2))) (bShl 1 q) else gsF T f nl (Int.toNat (q - 2)) := by
  rw [show Int.toNat ((q + 1) - 2) = Int.toNat (q - 2) + 1 by omega]
  simp only [gsF]
  rw [show 2 + ((Int.toNat (q - 2) : Nat) : Int) = q by omega]
end GS1

theorem mw_664 : (Jvm.Cond.fieldLink "Galleyforge$Pattern" (7 : Nat) "Galleyforge$Pattern" "letters" "[I") ∈ gt := gt_at 734 (by decide +kernel) (by decide +kernel)
theorem in_X5 : ∀ w ∈ u_ws RX5 TX5 3, w ∈ gt := in_of _ [739, 741, 743] (by decide +kernel) (by decide +kernel)
theorem dX5_standsAt_0 : decode cX5_standsAt 0 = .ok (.iload_n 2, 1) := by decide +kernel
theorem dX5_standsAt_1 : decode cX5_standsAt 1 = .ok (.ifCond .lt 15, 3) := by decide +kernel
theorem dX5_standsAt_4 : decode cX5_standsAt 4 = .ok (.iload_n 2, 1) := by decide +kernel
theorem dX5_standsAt_5 : decode cX5_standsAt 5 = .ok (.aload_n 1, 1) := by decide +kernel
theorem dX5_standsAt_6 : decode cX5_standsAt 6 = .ok (.arraylength, 1) := by decide +kernel
theorem dX5_standsAt_7 : decode cX5_standsAt 7 = .ok (.aload_n 0, 1) := by decide +kernel
theorem dX5_standsAt_8 : decode cX5_standsAt 8 = .ok (.getfield 7, 3) := by decide +kernel
theorem dX5_standsAt_11 : decode cX5_standsAt 11 = .ok (.arraylength, 1) := by decide +kernel
theorem dX5_standsAt_12 : decode cX5_standsAt 12 = .ok (.isub, 1) := by decide +kernel
theorem dX5_standsAt_13 : decode cX5_standsAt 13 = .ok (.if_icmp .le 5, 3) := by decide +kernel
theorem dX5_standsAt_16 : decode cX5_standsAt 16 = .ok (.iconst 0, 1) := by decide +kernel
theorem dX5_standsAt_17 : decode cX5_standsAt 17 = .ok (.ireturn, 1) := by decide +kernel
theorem dX5_standsAt_18 : decode cX5_standsAt 18 = .ok (.iconst 0, 1) := by decide +kernel
theorem dX5_standsAt_19 : decode cX5_standsAt 19 = .ok (.istore_n 3, 1) := by decide +kernel
theorem dX5_standsAt_20 : decode cX5_standsAt 20 = .ok (.iload_n 3, 1) := by decide +kernel
theorem dX5_standsAt_21 : decode cX5_standsAt 21 = .ok (.aload_n 0, 1) := by decide +kernel
theorem dX5_standsAt_22 : decode cX5_standsAt 22 = .ok (.getfield 7, 3) := by decide +kernel
theorem dX5_standsAt_25 : decode cX5_standsAt 25 = .ok (.arraylength, 1) := by decide +kernel
theorem dX5_standsAt_26 : decode cX5_standsAt 26 = .ok (.if_icmp .ge 25, 3) := by decide +kernel
theorem dX5_standsAt_29 : decode cX5_standsAt 29 = .ok (.aload_n 1, 1) := by decide +kernel
theorem dX5_standsAt_30 : decode cX5_standsAt 30 = .ok (.iload_n 2, 1) := by decide +kernel
theorem dX5_standsAt_31 : decode cX5_standsAt 31 = .ok (.iload_n 3, 1) := by decide +kernel
theorem dX5_standsAt_32 : decode cX5_standsAt 32 = .ok (.iadd, 1) := by decide +kernel
theorem dX5_standsAt_33 : decode cX5_standsAt 33 = .ok (.iaload, 1) := by decide +kernel
theorem dX5_standsAt_34 : decode cX5_standsAt 34 = .ok (.aload_n 0, 1) := by decide +kernel
theorem dX5_standsAt_35 : decode cX5_standsAt 35 = .ok (.getfield 7, 3) := by decide +kernel
theorem dX5_standsAt_38 : decode cX5_standsAt 38 = .ok (.iload_n 3, 1) := by decide +kernel
theorem dX5_standsAt_39 : decode cX5_standsAt 39 = .ok (.iaload, 1) := by decide +kernel
theorem dX5_standsAt_40 : decode cX5_standsAt 40 = .ok (.if_icmp .eq 5, 3) := by decide +kernel
theorem dX5_standsAt_43 : decode cX5_standsAt 43 = .ok (.iconst 0, 1) := by decide +kernel
theorem dX5_standsAt_44 : decode cX5_standsAt 44 = .ok (.ireturn, 1) := by decide +kernel
theorem dX5_standsAt_45 : decode cX5_standsAt 45 = .ok (.iinc 3 1, 3) := by decide +kernel
theorem dX5_standsAt_48 : decode cX5_standsAt 48 = .ok (.goto (-28), 3) := by decide +kernel
theorem dX5_standsAt_51 : decode cX5_standsAt 51 = .ok (.iconst 1, 1) := by decide +kernel
theorem dX5_standsAt_52 : decode cX5_standsAt 52 = .ok (.ireturn, 1) := by decide +kernel
set_option maxHeartbeats 4000000 in
set_option maxRecDepth 100000 in
theorem k_standsAt (l : Launch) (dC : Nat → ClassId) (dI : Nat → Nat → Nat) (k : Nat → ClassId) (T : Nat → Int → Int → Int → Int) (A : Nat → Int → Int → Nat) (X : Nat → Int → Int → Int) (tl : va_W) (la_ : Nat) (nl : Nat) (fl : Int → Int) (i : Int) (fr : Int) (hT : TI dI k T A X tl) (hK : TK T) (hla : ((la_, .inl (k 0, nl, .inl (fun i9 : Nat => iI (fl i9)))) : Nat × va_E) ∈ tl) (hfl : Bd 0 3 fl) (hnl : nl ≤ 6) (hi : 0 ≤ i ∧ i < T 18 0 0 0) (h1 : -10 ≤ fr ∧ fr ≤ 10) : Kn l dC dI k yX5_standsAt (.code yX5_standsAt cX5_standsAt 4 (some .boolean)) ({ frames := 0, cells := 0, slots := 0, locals := 0 } : Room) [.ref (A 15 i 0), .ref la_, .int (iI fr)] ([] ++ tl) (fun r w gc gs => ((stP T i fl (nl : Int) fr) ∧ r = some (.int (iI 1)) ∧ w = ([] ++ tl) ∧ gc = 0 ∧ gs = 0) ∨ ((¬ stP T i fl (nl : Int) fr) ∧ r = some (.int (iI 0)) ∧ w = ([] ++ tl) ∧ gc = 0 ∧ gs = 0)) := by
  refine kn_of (by decide) (Nat.le_of_ble_eq_true rfl) ?_
  intro p e s m args below meth c H locs B hr hnm ls hl
  have hx := B.1.1
  have hb := B.1.2.1
  have hl : lv_has ls 4 [(0, .ref (A 15 i 0)), (1, .ref la_), (2, .int (iI fr))] := hl
  have hpl := TK_pl hK i
  refine lv_iload_n hx hb dX5_standsAt_0 rfl (lv_at hl 2 rfl) ?_
  refine lv_if_lt (tgt := 16) hx hb dX5_standsAt_1 (by decide) (fun c_1 => ?_) (fun c_1 => ?_)
  · have zc_1 : fr < 0 := jlt (a := fr) (b := 0) (by omega) (by omega) c_1
    refine lv_iconst (v := iI 0) hx hb dX5_standsAt_16 (by decide) ?_
    exact k_zret B hr (by omega) (Or.inr (⟨(fun q9 => by have q8 := q9.1; have q7 := q9.2.1; omega), rfl, rfl, rfl, rfl⟩)) ⟨Nat.le_of_ble_eq_true rfl, Nat.le_of_ble_eq_true rfl⟩ ⟨Nat.le_of_ble_eq_true rfl, Nat.le_of_ble_eq_true rfl⟩ dX5_standsAt_17
  · have zc_1 : 0 ≤ fr := jnlt (a := fr) (b := 0) (by omega) (by omega) c_1
    refine lv_iload_n hx hb dX5_standsAt_4 rfl (lv_at hl 2 rfl) ?_
    refine lv_aload_n hx hb dX5_standsAt_5 rfl (lv_at hl 1 rfl) ?_
    obtain ⟨k_2, hk_2⟩ := pk_at (hs := []) hla
    refine x_alen' B k_2 0 hk_2 rfl dX5_standsAt_6 ?_
    refine lv_aload_n hx hb dX5_standsAt_7 rfl (lv_at hl 0 rfl) ?_
    obtain ⟨k_3, hk_3⟩ := pk_at (hs := []) (hT.2.2.2.2.2.2 i (by omega) (by omega)).1
    refine x_get (ci := 5) (C := RX5) (T := TX5) (N := 3) (v := .ref (A 16 i 0)) B k_3 hk_3 rfl in_X5 0 (by decide) mw_664 (fun _ h9 => h9) rfl dX5_standsAt_8 ?_
    obtain ⟨k_4, hk_4⟩ := pk_at (hs := []) (hT.2.2.2.2.2.2 i (by omega) (by omega)).2
    refine x_alen' B k_4 0 hk_4 rfl dX5_standsAt_11 ?_
    refine y_sub hx hb dX5_standsAt_12 ?_
    refine lv_icmp_le (tgt := 18) hx hb dX5_standsAt_13 (by decide) (fun c_5 => ?_) (fun c_5 => ?_)
    · have zc_5 : fr ≤ ((nl : Int) - ((Int.toNat (T 19 i 0 0)) : Int)) := jle (a := fr) (b := ((nl : Int) - ((Int.toNat (T 19 i 0 0)) : Int))) (by omega) (by omega) c_5
      refine lv_iconst (v := iI 0) hx hb dX5_standsAt_18 (by decide) ?_
      refine lv_istore_n (lv' := [(3, .int (iI 0)), (0, .ref (A 15 i 0)), (1, .ref la_), (2, .int (iI fr))]) hx hb dX5_standsAt_19 rfl hl (by decide) rfl (fun ls hl => ?_)
      refine k_loop (σ := Int) B (fun g9 : Int => (0 ≤ g9 ∧ g9 ≤ T 19 i 0 0 ∧ 0 ≤ fr ∧ fr ≤ (nl : Int) - T 19 i 0 0) ∧ (∀ j, 0 ≤ j → j < g9 → fl (fr + j) = T 20 i j 0)) (fun g9 : Int => (T 19 i 0 0 - g9).toNat) (fun g9 : Int => [(3, .int (iI g9)), (0, .ref (A 15 i 0)), (1, .ref la_), (2, .int (iI fr))]) (fun g9 : Int => ([] ++ tl)) ?_ 0 ⟨(show 0 ≤ 0 ∧ 0 ≤ T 19 i 0 0 ∧ 0 ≤ fr ∧ fr ≤ (nl : Int) - T 19 i 0 0 from (by omega)), (show ∀ j, 0 ≤ j → j < 0 → fl (fr + j) = T 20 i j 0 from (fun j a9 b9 => by omega))⟩ ls H locs (lv_sub hl [0, 1, 2, 3] rfl) (bd_to rfl B)
      clear hl B
      rintro kq ⟨hk, hm⟩ ih_6 ls H locs hl B
      have hl : lv_has ls 4 [(3, .int (iI kq)), (0, .ref (A 15 i 0)), (1, .ref la_), (2, .int (iI fr))] := hl
      have B := bd_to (ws' := ([] ++ tl)) rfl B
      refine lv_iload_n hx hb dX5_standsAt_20 rfl (lv_at hl 0 rfl) ?_
      refine lv_aload_n hx hb dX5_standsAt_21 rfl (lv_at hl 1 rfl) ?_
      obtain ⟨k_7, hk_7⟩ := pk_at (hs := []) (hT.2.2.2.2.2.2 i (by omega) (by omega)).1
      refine x_get (ci := 5) (C := RX5) (T := TX5) (N := 3) (v := .ref (A 16 i 0)) B k_7 hk_7 rfl in_X5 0 (by decide) mw_664 (fun _ h9 => h9) rfl dX5_standsAt_22 ?_
      obtain ⟨k_8, hk_8⟩ := pk_at (hs := []) (hT.2.2.2.2.2.2 i (by omega) (by omega)).2
      refine x_alen' B k_8 0 hk_8 rfl dX5_standsAt_25 ?_
      refine lv_icmp_ge (tgt := 51) hx hb dX5_standsAt_26 (by decide) (fun c_9 => ?_) (fun c_9 => ?_)
      · have zc_9 : ((Int.toNat (T 19 i 0 0)) : Int) ≤ kq := jle (a := ((Int.toNat (T 19 i 0 0)) : Int)) (b := kq) (by omega) (by omega) c_9
        refine lv_iconst (v := iI 1) hx hb dX5_standsAt_51 (by decide) ?_
        exact k_zret B hr (by omega) (Or.inl (⟨⟨by omega, by omega, fun j a9 b9 => hm j a9 (by omega)⟩, rfl, rfl, rfl, rfl⟩)) ⟨Nat.le_of_ble_eq_true rfl, Nat.le_of_ble_eq_true rfl⟩ ⟨Nat.le_of_ble_eq_true rfl, Nat.le_of_ble_eq_true rfl⟩ dX5_standsAt_52
      · have zc_9 : kq < ((Int.toNat (T 19 i 0 0)) : Int) := jnle (a := ((Int.toNat (T 19 i 0 0)) : Int)) (b := kq) (by omega) (by omega) c_9
        refine lv_aload_n hx hb dX5_standsAt_29 rfl (lv_at hl 2 rfl) ?_
        refine lv_iload_n hx hb dX5_standsAt_30 rfl (lv_at hl 3 rfl) ?_
        refine lv_iload_n hx hb dX5_standsAt_31 rfl (lv_at hl 0 rfl) ?_
        refine y_add hx hb dX5_standsAt_32 ?_
        obtain ⟨k_10, hk_10⟩ := pk_at (hs := []) hla
        refine x_iald' (f := fl) (z := (fr + kq)) B k_10 hk_10 (by omega) dX5_standsAt_33 ?_
        have z_11 : 0 ≤ (fl (fr + kq)) ∧ (fl (fr + kq)) ≤ 3 := hfl (fr + kq)
        refine lv_aload_n hx hb dX5_standsAt_34 rfl (lv_at hl 1 rfl) ?_
        obtain ⟨k_12, hk_12⟩ := pk_at (hs := []) (hT.2.2.2.2.2.2 i (by omega) (by omega)).1
        refine x_get (ci := 5) (C := RX5) (T := TX5) (N := 3) (v := .ref (A 16 i 0)) B k_12 hk_12 rfl in_X5 0 (by decide) mw_664 (fun _ h9 => h9) rfl dX5_standsAt_35 ?_
        refine lv_iload_n hx hb dX5_standsAt_38 rfl (lv_at hl 0 rfl) ?_
        obtain ⟨k_13, hk_13⟩ := pk_at (hs := []) (hT.2.2.2.2.2.2 i (by omega) (by omega)).2
        refine x_iald' (f := (fun j9 : Int => T 20 i j9 0)) (z := kq) B k_13 hk_13 (by omega) dX5_standsAt_39 ?_
        have z_14 : 0 ≤ (T 20 i kq 0) ∧ (T 20 i kq 0) ≤ 3 := (fun q => TK_plt hK i q) kq
        refine lv_icmp_eq (tgt := 45) hx hb dX5_standsAt_40 (by decide) (fun c_15 => ?_) (fun c_15 => ?_)
        · have zc_15 : (fl (fr + kq)) = (T 20 i kq 0) := jeq (a := (fl (fr + kq))) (b := (T 20 i kq 0)) (by omega) (by omega) c_15
          refine lv_iinc (v := iI (kq + 1)) (lv' := [(3, .int (iI (kq + 1))), (0, .ref (A 15 i 0)), (1, .ref la_), (2, .int (iI fr))]) hx hb dX5_standsAt_45 hl (k := 0) rfl (iI_add _ _) (by decide) rfl (fun ls hl => ?_)
          refine lv_goto (tgt := 20) hx hb dX5_standsAt_48 (by decide) ?_
          exact ih_6 (kq + 1) ⟨(show 0 ≤ (kq + 1) ∧ (kq + 1) ≤ T 19 i 0 0 ∧ 0 ≤ fr ∧ fr ≤ (nl : Int) - T 19 i 0 0 from (by omega)), (show ∀ j, 0 ≤ j → j < (kq + 1) → fl (fr + j) = T 20 i j 0 from (fun j a9 b9 => by by_cases e9 : j = kq; (rw [e9]; omega); exact hm j a9 (by omega)))⟩ (by first | omega | (dsimp only; omega)) _ _ _ (lv_sub hl [0, 1, 2, 3] rfl) (bd_to rfl B)
        · have zc_15 : (fl (fr + kq)) ≠ (T 20 i kq 0) := jne (a := (fl (fr + kq))) (b := (T 20 i kq 0)) (by omega) (by omega) c_15
          refine lv_iconst (v := iI 0) hx hb dX5_standsAt_43 (by decide) ?_
          exact k_zret B hr (by omega) (Or.inr (⟨(fun q9 => by have q8 := q9.2.2 kq (by omega) (by omega); omega), rfl, rfl, rfl, rfl⟩)) ⟨Nat.le_of_ble_eq_true rfl, Nat.le_of_ble_eq_true rfl⟩ ⟨Nat.le_of_ble_eq_true rfl, Nat.le_of_ble_eq_true rfl⟩ dX5_standsAt_44
    · have zc_5 : ((nl : Int) - ((Int.toNat (T 19 i 0 0)) : Int)) < fr := jnle (a := fr) (b := ((nl : Int) - ((Int.toNat (T 19 i 0 0)) : Int))) (by omega) (by omega) c_5
      refine lv_iconst (v := iI 0) hx hb dX5_standsAt_16 (by decide) ?_
      exact k_zret B hr (by omega) (Or.inr (⟨(fun q9 => by have q8 := q9.1; have q7 := q9.2.1; omega), rfl, rfl, rfl, rfl⟩)) ⟨Nat.le_of_ble_eq_true rfl, Nat.le_of_ble_eq_true rfl⟩ ⟨Nat.le_of_ble_eq_true rfl, Nat.le_of_ble_eq_true rfl⟩ dX5_standsAt_17

theorem mw_34 : (Jvm.Cond.initialized "Galleyforge$Pattern") ∈ gt := gt_at 104 (by decide +kernel) (by decide +kernel)
theorem mw_80 : (Jvm.Cond.fieldLink "Galleyforge$Text" (18 : Nat) "Galleyforge$Text" "patterns" "Ljava/util/ArrayList;") ∈ gt := gt_at 150 (by decide +kernel) (by decide +kernel)
theorem mw_666 : (Jvm.Cond.fieldLink "Galleyforge$Text" (76 : Nat) "Galleyforge$Pattern" "gap" "I") ∈ gt := gt_at 736 (by decide +kernel) (by decide +kernel)
theorem mw_668 : (Jvm.Cond.fieldLink "Galleyforge$Text" (73 : Nat) "Galleyforge$Pattern" "level" "I") ∈ gt := gt_at 738 (by decide +kernel) (by decide +kernel)
theorem mw_764 : (Jvm.Cond.classLink "Galleyforge$Text" (71 : Nat) "Galleyforge$Pattern") ∈ gt := gt_at 834 (by decide +kernel) (by decide +kernel)
theorem mw_765 : (Jvm.Cond.methodLink "Galleyforge$Text" (79 : Nat) ({ cls := "Galleyforge$Pattern", name := "standsAt", desc := "([II)Z" } : Jvm.MethodName)) ∈ gt := gt_at 835 (by decide +kernel) (by decide +kernel)
theorem mw_766 : (Jvm.Cond.instanceMethod ({ cls := "Galleyforge$Pattern", name := "standsAt", desc := "([II)Z" } : Jvm.MethodName)) ∈ gt := gt_at 836 (by decide +kernel) (by decide +kernel)
theorem mw_767 : (Jvm.Cond.selects "Galleyforge$Pattern" ({ cls := "Galleyforge$Pattern", name := "standsAt", desc := "([II)Z" } : Jvm.MethodName) ({ cls := "Galleyforge$Pattern", name := "standsAt", desc := "([II)Z" } : Jvm.MethodName)) ∈ gt := gt_at 837 (by decide +kernel) (by decide +kernel)
theorem mw_768 : (Jvm.Cond.code ({ cls := "Galleyforge$Pattern", name := "standsAt", desc := "([II)Z" } : Jvm.MethodName) prog_7_method_2_code (4 : Nat) (Option.some Jvm.ClassFile.FieldType.boolean)) ∈ gt := gt_at 838 (by decide +kernel) (by decide +kernel)
theorem mV_X5_standsAt : mV yX5_standsAt cX5_standsAt 4 (some .boolean) 2 := ⟨⟨mw_768, mw_34, by decide, by decide, by decide +kernel⟩, mw_766, mw_767⟩
theorem dX9_levelAt_0 : decode cX9_levelAt 0 = .ok (.iconst 0, 1) := by decide +kernel
theorem dX9_levelAt_1 : decode cX9_levelAt 1 = .ok (.istore_n 3, 1) := by decide +kernel
theorem dX9_levelAt_2 : decode cX9_levelAt 2 = .ok (.iconst 0, 1) := by decide +kernel
theorem dX9_levelAt_3 : decode cX9_levelAt 3 = .ok (.istore 4, 2) := by decide +kernel
theorem dX9_levelAt_5 : decode cX9_levelAt 5 = .ok (.iload 4, 2) := by decide +kernel
theorem dX9_levelAt_7 : decode cX9_levelAt 7 = .ok (.aload_n 0, 1) := by decide +kernel
theorem dX9_levelAt_8 : decode cX9_levelAt 8 = .ok (.getfield 18, 3) := by decide +kernel
theorem dX9_levelAt_11 : decode cX9_levelAt 11 = .ok (.invokevirtual 42, 3) := by decide +kernel
theorem dX9_levelAt_14 : decode cX9_levelAt 14 = .ok (.if_icmp .ge 54, 3) := by decide +kernel
theorem dX9_levelAt_17 : decode cX9_levelAt 17 = .ok (.aload_n 0, 1) := by decide +kernel
theorem dX9_levelAt_18 : decode cX9_levelAt 18 = .ok (.getfield 18, 3) := by decide +kernel
theorem dX9_levelAt_21 : decode cX9_levelAt 21 = .ok (.iload 4, 2) := by decide +kernel
theorem dX9_levelAt_23 : decode cX9_levelAt 23 = .ok (.invokevirtual 46, 3) := by decide +kernel
theorem dX9_levelAt_26 : decode cX9_levelAt 26 = .ok (.checkcast 71, 3) := by decide +kernel
theorem dX9_levelAt_29 : decode cX9_levelAt 29 = .ok (.astore 5, 2) := by decide +kernel
theorem dX9_levelAt_31 : decode cX9_levelAt 31 = .ok (.aload 5, 2) := by decide +kernel
theorem dX9_levelAt_33 : decode cX9_levelAt 33 = .ok (.getfield 73, 3) := by decide +kernel
theorem dX9_levelAt_36 : decode cX9_levelAt 36 = .ok (.iload_n 3, 1) := by decide +kernel
theorem dX9_levelAt_37 : decode cX9_levelAt 37 = .ok (.if_icmp .le 25, 3) := by decide +kernel
theorem dX9_levelAt_40 : decode cX9_levelAt 40 = .ok (.aload 5, 2) := by decide +kernel
theorem dX9_levelAt_42 : decode cX9_levelAt 42 = .ok (.aload_n 1, 1) := by decide +kernel
theorem dX9_levelAt_43 : decode cX9_levelAt 43 = .ok (.iload_n 2, 1) := by decide +kernel
theorem dX9_levelAt_44 : decode cX9_levelAt 44 = .ok (.aload 5, 2) := by decide +kernel
theorem dX9_levelAt_46 : decode cX9_levelAt 46 = .ok (.getfield 76, 3) := by decide +kernel
theorem dX9_levelAt_49 : decode cX9_levelAt 49 = .ok (.isub, 1) := by decide +kernel
theorem dX9_levelAt_50 : decode cX9_levelAt 50 = .ok (.invokevirtual 79, 3) := by decide +kernel
theorem dX9_levelAt_53 : decode cX9_levelAt 53 = .ok (.ifCond .eq 9, 3) := by decide +kernel
theorem dX9_levelAt_56 : decode cX9_levelAt 56 = .ok (.aload 5, 2) := by decide +kernel
theorem dX9_levelAt_58 : decode cX9_levelAt 58 = .ok (.getfield 73, 3) := by decide +kernel
theorem dX9_levelAt_61 : decode cX9_levelAt 61 = .ok (.istore_n 3, 1) := by decide +kernel
theorem dX9_levelAt_62 : decode cX9_levelAt 62 = .ok (.iinc 4 1, 3) := by decide +kernel
theorem dX9_levelAt_65 : decode cX9_levelAt 65 = .ok (.goto (-60), 3) := by decide +kernel
theorem dX9_levelAt_68 : decode cX9_levelAt 68 = .ok (.iload_n 3, 1) := by decide +kernel
theorem dX9_levelAt_69 : decode cX9_levelAt 69 = .ok (.ireturn, 1) := by decide +kernel
set_option maxHeartbeats 4000000 in
set_option maxRecDepth 100000 in
theorem k_levelAt (l : Launch) (dC : Nat → ClassId) (dI : Nat → Nat → Nat) (k : Nat → ClassId) (T : Nat → Int → Int → Int → Int) (A : Nat → Int → Int → Nat) (X : Nat → Int → Int → Int) (tl : va_W) (la_ : Nat) (nl : Nat) (fl : Int → Int) (gp : Int) (hT : TI dI k T A X tl) (hK : TK T) (hla : ((la_, .inl (k 0, nl, .inl (fun i9 : Nat => iI (fl i9)))) : Nat × va_E) ∈ tl) (hfl : Bd 0 3 fl) (hnl : nl ≤ 6) (h1 : 0 ≤ gp ∧ gp ≤ 6) : Kn l dC dI k yX9_levelAt (.code yX9_levelAt cX9_levelAt 6 (some .int)) ({ frames := 3, cells := 0, slots := 0, locals := 64 } : Room) [.ref (A 50 0 0), .ref la_, .int (iI gp)] ([] ++ tl) (fun r w gc gs => ((0 ≤ lvZ T fl (nl : Int) gp ∧ lvZ T fl (nl : Int) gp ≤ 5) ∧ r = some (.int (iI (lvZ T fl (nl : Int) gp))) ∧ w = ([] ++ tl) ∧ gc = 0 ∧ gs = 0)) := by
  refine kn_of (by decide) (Nat.le_of_ble_eq_true rfl) ?_
  intro p e s m args below meth c H locs B hr hnm ls hl
  have hx := B.1.1
  have hb := B.1.2.1
  have hl : lv_has ls 6 [(0, .ref (A 50 0 0)), (1, .ref la_), (2, .int (iI gp))] := hl
  have hnp := TK_np hK
  refine lv_iconst (v := iI 0) hx hb dX9_levelAt_0 (by decide) ?_
  refine lv_istore_n (lv' := [(3, .int (iI 0)), (0, .ref (A 50 0 0)), (1, .ref la_), (2, .int (iI gp))]) hx hb dX9_levelAt_1 rfl hl (by decide) rfl (fun ls hl => ?_)
  refine lv_iconst (v := iI 0) hx hb dX9_levelAt_2 (by decide) ?_
  refine lv_istore (lv' := [(4, .int (iI 0)), (3, .int (iI 0)), (0, .ref (A 50 0 0)), (1, .ref la_), (2, .int (iI gp))]) hx hb dX9_levelAt_3 hl (by decide) rfl (fun ls hl => ?_)
  refine k_loop (σ := Int × Int) B (fun g9 : Int × Int => (0 ≤ g9.1 ∧ g9.1 ≤ T 18 0 0 0 ∧ 0 ≤ g9.2 ∧ g9.2 ≤ 5) ∧ (g9.2 = lvF T fl (nl : Int) gp (Int.toNat g9.1))) (fun g9 : Int × Int => (T 18 0 0 0 - g9.1).toNat) (fun g9 : Int × Int => [(4, .int (iI g9.1)), (3, .int (iI g9.2)), (0, .ref (A 50 0 0)), (1, .ref la_), (2, .int (iI gp))]) (fun g9 : Int × Int => ([] ++ tl)) ?_ (0, 0) ⟨(show 0 ≤ 0 ∧ 0 ≤ T 18 0 0 0 ∧ 0 ≤ 0 ∧ 0 ≤ 5 from (by omega)), (show 0 = lvF T fl (nl : Int) gp (Int.toNat 0) from rfl)⟩ ls H locs (lv_sub hl [0, 1, 2, 3, 4] rfl) (bd_to rfl B)
  clear hl B
  rintro ⟨pq, lv⟩ ⟨hk, hlv⟩ ih_1 ls H locs hl B
  have hk : 0 ≤ pq ∧ pq ≤ T 18 0 0 0 ∧ 0 ≤ lv ∧ lv ≤ 5 := hk
  have hlv : lv = lvF T fl (nl : Int) gp (Int.toNat pq) := hlv
  have hl : lv_has ls 6 [(4, .int (iI pq)), (3, .int (iI lv)), (0, .ref (A 50 0 0)), (1, .ref la_), (2, .int (iI gp))] := hl
  have B := bd_to (ws' := ([] ++ tl)) rfl B
  refine lv_iload hx hb dX9_levelAt_5 (lv_at hl 0 rfl) ?_
  refine lv_aload_n hx hb dX9_levelAt_7 rfl (lv_at hl 2 rfl) ?_
  obtain ⟨k_2, hk_2⟩ := pk_at (hs := []) hT.1.1
  refine x_get (ci := 9) (C := RX9) (T := TX9) (N := 8) (v := .ref (A 52 0 0)) B k_2 hk_2 rfl in_X9 1 (by decide) mw_80 (fun _ h9 => h9) rfl dX9_levelAt_8 ?_
  have B := bd_swap (a := []) (b := []) (d := tl) (bd_to rfl B)
  obtain ⟨k_3, fk_3, hk_3⟩ := LI_at (hs := []) hT.2.2.1
  refine k_V (rest := [.int (iI pq)]) (wc := ([] ++ tl)) (wr := []) (k_sizeP l dC dI k T A X tl hT hK) B mV_Jx4a65c_size_8abf5 mw_739 hl (q0 := k_3) (ci := 12) hk_3 rfl rfl ⟨Nat.le_of_ble_eq_true rfl, Nat.le_of_ble_eq_true rfl⟩ (Nat.le_of_ble_eq_true rfl) rfl dX9_levelAt_11 ⟨Nat.le_of_ble_eq_true rfl, Nat.le_of_ble_eq_true rfl⟩ (fun r w gc gs H locs hp B => ?_)
  obtain ⟨z_4, rfl, hw9, rfl, rfl⟩ := hp
  rw [hw9] at B; clear hw9
  have B := bd_to (ws' := ([] ++ tl)) rfl B
  refine lv_icmp_ge (tgt := 68) hx hb dX9_levelAt_14 (by decide) (fun c_5 => ?_) (fun c_5 => ?_)
  · have zc_5 : (T 18 0 0 0) ≤ pq := jle (a := (T 18 0 0 0)) (b := pq) (by omega) (by omega) c_5
    refine lv_iload_n hx hb dX9_levelAt_68 rfl (lv_at hl 1 rfl) ?_
    have e_6 : (lvZ T fl (nl : Int) gp) = lv := (by show lvF T fl (nl : Int) gp (Int.toNat (T 18 0 0 0)) = lv; rw [show T 18 0 0 0 = pq by omega]; exact hlv.symm)
    skip
    exact k_iret B hr (⟨(by show 0 ≤ lvF T fl (nl : Int) gp (Int.toNat (T 18 0 0 0)) ∧ lvF T fl (nl : Int) gp (Int.toNat (T 18 0 0 0)) ≤ 5; rw [show T 18 0 0 0 = pq by omega, ← hlv]; omega), (by rw [e_6]), rfl, rfl, rfl⟩) ⟨Nat.le_of_ble_eq_true rfl, Nat.le_of_ble_eq_true rfl⟩ ⟨Nat.le_of_ble_eq_true rfl, Nat.le_of_ble_eq_true rfl⟩ dX9_levelAt_69
  · have zc_5 : pq < (T 18 0 0 0) := jnle (a := (T 18 0 0 0)) (b := pq) (by omega) (by omega) c_5
    refine lv_aload_n hx hb dX9_levelAt_17 rfl (lv_at hl 2 rfl) ?_
    obtain ⟨k_7, hk_7⟩ := pk_at (hs := []) hT.1.1
    refine x_get (ci := 9) (C := RX9) (T := TX9) (N := 8) (v := .ref (A 52 0 0)) B k_7 hk_7 rfl in_X9 1 (by decide) mw_80 (fun _ h9 => h9) rfl dX9_levelAt_18 ?_
    refine lv_iload hx hb dX9_levelAt_21 (lv_at hl 0 rfl) ?_
    have B := bd_swap (a := []) (b := []) (d := tl) (bd_to rfl B)
    obtain ⟨k_8, fk_8, hk_8⟩ := LI_at (hs := []) hT.2.2.1
    refine k_V (rest := []) (wc := ([] ++ tl)) (wr := []) (k_getP l dC dI k T A X tl pq hT hK (by omega)) B mV_Jx4a65c_get_915e3 mw_740 hl (q0 := k_8) (ci := 12) hk_8 rfl rfl ⟨Nat.le_of_ble_eq_true rfl, Nat.le_of_ble_eq_true rfl⟩ (Nat.le_of_ble_eq_true rfl) rfl dX9_levelAt_23 ⟨Nat.le_of_ble_eq_true rfl, Nat.le_of_ble_eq_true rfl⟩ (fun r w gc gs H locs hp B => ?_)
    obtain ⟨rfl, hw9, rfl, rfl⟩ := hp
    rw [hw9] at B; clear hw9
    have B := bd_to (ws' := ([] ++ tl)) rfl B
    obtain ⟨k_9, hk_9⟩ := pk_at (hs := []) (hT.2.2.2.2.2.2 pq (by omega) (by omega)).1
    refine x_cast (ci := 5) (C := RX5) (T := TX5) (N := 3) B k_9 hk_9 rfl mw_764 dX9_levelAt_26 ?_
    refine lv_astore (lv' := [(5, .ref (A 15 pq 0)), (4, .int (iI pq)), (3, .int (iI lv)), (0, .ref (A 50 0 0)), (1, .ref la_), (2, .int (iI gp))]) hx hb dX9_levelAt_29 hl (by decide) rfl (fun ls hl => ?_)
    refine lv_aload hx hb dX9_levelAt_31 (lv_at hl 0 rfl) ?_
    obtain ⟨k_10, hk_10⟩ := pk_at (hs := []) (hT.2.2.2.2.2.2 pq (by omega) (by omega)).1
    refine x_get (ci := 5) (C := RX5) (T := TX5) (N := 3) (v := .int (iI (T 22 pq 0 0))) B k_10 hk_10 rfl in_X5 2 (by decide) mw_668 (fun _ h9 => h9) rfl dX9_levelAt_33 ?_
    have z_11 : 0 ≤ T 22 pq 0 0 ∧ T 22 pq 0 0 ≤ 5 := TK_plv hK pq
    refine lv_iload_n hx hb dX9_levelAt_36 rfl (lv_at hl 2 rfl) ?_
    refine lv_icmp_le (tgt := 62) hx hb dX9_levelAt_37 (by decide) (fun c_12 => ?_) (fun c_12 => ?_)
    · have zc_12 : (T 22 pq 0 0) ≤ lv := jle (a := (T 22 pq 0 0)) (b := lv) (by omega) (by omega) c_12
      refine lv_iinc (v := iI (pq + 1)) (lv' := [(4, .int (iI (pq + 1))), (5, .ref (A 15 pq 0)), (3, .int (iI lv)), (0, .ref (A 50 0 0)), (1, .ref la_), (2, .int (iI gp))]) hx hb dX9_levelAt_62 hl (k := 1) rfl (iI_add _ _) (by decide) rfl (fun ls hl => ?_)
      refine lv_goto (tgt := 5) hx hb dX9_levelAt_65 (by decide) ?_
      exact ih_1 ((pq + 1), lv) ⟨(show 0 ≤ (pq + 1) ∧ (pq + 1) ≤ T 18 0 0 0 ∧ 0 ≤ lv ∧ lv ≤ 5 from (by omega)), (show lv = lvF T fl (nl : Int) gp (Int.toNat (pq + 1)) from (by rw [lvF_n (by omega) (fun q9 => by have q8 := q9.1; rw [← hlv] at q8; omega)]; exact hlv))⟩ (by first | omega | (dsimp only; omega)) _ _ _ (lv_sub hl [0, 2, 3, 4, 5] rfl) (bd_to rfl B)
    · have zc_12 : lv < (T 22 pq 0 0) := jnle (a := (T 22 pq 0 0)) (b := lv) (by omega) (by omega) c_12
      refine lv_aload hx hb dX9_levelAt_40 (lv_at hl 0 rfl) ?_
      refine lv_aload_n hx hb dX9_levelAt_42 rfl (lv_at hl 4 rfl) ?_
      refine lv_iload_n hx hb dX9_levelAt_43 rfl (lv_at hl 5 rfl) ?_
      refine lv_aload hx hb dX9_levelAt_44 (lv_at hl 0 rfl) ?_
      obtain ⟨k_13, hk_13⟩ := pk_at (hs := []) (hT.2.2.2.2.2.2 pq (by omega) (by omega)).1
      refine x_get (ci := 5) (C := RX5) (T := TX5) (N := 3) (v := .int (iI (T 21 pq 0 0))) B k_13 hk_13 rfl in_X5 1 (by decide) mw_666 (fun _ h9 => h9) rfl dX9_levelAt_46 ?_
      have z_14 : 0 ≤ T 21 pq 0 0 ∧ T 21 pq 0 0 ≤ 3 := TK_pg hK pq
      refine y_sub hx hb dX9_levelAt_49 ?_
      have B := bd_swap (a := []) (b := []) (d := tl) (bd_to rfl B)
      obtain ⟨k_15, hk_15⟩ := pk_at (hs := []) (hT.2.2.2.2.2.2 pq (by omega) (by omega)).1
      refine k_V (rest := []) (wc := ([] ++ tl)) (wr := []) (k_standsAt l dC dI k T A X tl la_ nl fl pq (gp - (T 21 pq 0 0)) hT hK hla hfl hnl (by omega) (by omega)) B mV_X5_standsAt mw_765 hl (q0 := k_15) (ci := 5) hk_15 rfl rfl ⟨Nat.le_of_ble_eq_true rfl, Nat.le_of_ble_eq_true rfl⟩ (Nat.le_of_ble_eq_true rfl) rfl dX9_levelAt_50 ⟨Nat.le_of_ble_eq_true rfl, Nat.le_of_ble_eq_true rfl⟩ (fun r w gc gs H locs hp B => ?_)
      rcases hp with ⟨z_16, rfl, hw9, rfl, rfl⟩ | ⟨z_17, rfl, hw9, rfl, rfl⟩
      · skip
        rw [hw9] at B; clear hw9
        have B := bd_to (ws' := ([] ++ tl)) rfl B
        refine lv_if_eq (tgt := 62) hx hb dX9_levelAt_53 (by decide) (fun c9 => absurd c9 (by decide)) (fun _ => ?_)
        refine lv_aload hx hb dX9_levelAt_56 (lv_at hl 0 rfl) ?_
        obtain ⟨k_18, hk_18⟩ := pk_at (hs := []) (hT.2.2.2.2.2.2 pq (by omega) (by omega)).1
        refine x_get (ci := 5) (C := RX5) (T := TX5) (N := 3) (v := .int (iI (T 22 pq 0 0))) B k_18 hk_18 rfl in_X5 2 (by decide) mw_668 (fun _ h9 => h9) rfl dX9_levelAt_58 ?_
        have z_19 : 0 ≤ T 22 pq 0 0 ∧ T 22 pq 0 0 ≤ 5 := TK_plv hK pq
        refine lv_istore_n (lv' := [(3, .int (iI (T 22 pq 0 0))), (5, .ref (A 15 pq 0)), (4, .int (iI pq)), (0, .ref (A 50 0 0)), (1, .ref la_), (2, .int (iI gp))]) hx hb dX9_levelAt_61 rfl hl (by decide) rfl (fun ls hl => ?_)
        refine lv_iinc (v := iI (pq + 1)) (lv' := [(4, .int (iI (pq + 1))), (3, .int (iI (T 22 pq 0 0))), (5, .ref (A 15 pq 0)), (0, .ref (A 50 0 0)), (1, .ref la_), (2, .int (iI gp))]) hx hb dX9_levelAt_62 hl (k := 2) rfl (iI_add _ _) (by decide) rfl (fun ls hl => ?_)
        refine lv_goto (tgt := 5) hx hb dX9_levelAt_65 (by decide) ?_
        exact ih_1 ((pq + 1), (T 22 pq 0 0)) ⟨(show 0 ≤ (pq + 1) ∧ (pq + 1) ≤ T 18 0 0 0 ∧ 0 ≤ (T 22 pq 0 0) ∧ (T 22 pq 0 0) ≤ 5 from (by omega)), (show (T 22 pq 0 0) = lvF T fl (nl : Int) gp (Int.toNat (pq + 1)) from (by rw [lvF_y (by omega) (by rw [← hlv]; omega) z_16]))⟩ (by first | omega | (dsimp only; omega)) _ _ _ (lv_sub hl [0, 1, 3, 4, 5] rfl) (bd_to rfl B)
      · skip
        rw [hw9] at B; clear hw9
        have B := bd_to (ws' := ([] ++ tl)) rfl B
        refine lv_if_eq (tgt := 62) hx hb dX9_levelAt_53 (by decide) (fun _ => ?_) (fun c9 => absurd (by decide) c9)
        refine lv_iinc (v := iI (pq + 1)) (lv' := [(4, .int (iI (pq + 1))), (5, .ref (A 15 pq 0)), (3, .int (iI lv)), (0, .ref (A 50 0 0)), (1, .ref la_), (2, .int (iI gp))]) hx hb dX9_levelAt_62 hl (k := 1) rfl (iI_add _ _) (by decide) rfl (fun ls hl => ?_)
        refine lv_goto (tgt := 5) hx hb dX9_levelAt_65 (by decide) ?_
        exact ih_1 ((pq + 1), lv) ⟨(show 0 ≤ (pq + 1) ∧ (pq + 1) ≤ T 18 0 0 0 ∧ 0 ≤ lv ∧ lv ≤ 5 from (by omega)), (show lv = lvF T fl (nl : Int) gp (Int.toNat (pq + 1)) from (by rw [lvF_n (by omega) (fun q9 => absurd q9.2 z_17)]; exact hlv))⟩ (by first | omega | (dsimp only; omega)) _ _ _ (lv_sub hl [0, 2, 3, 4, 5] rfl) (bd_to rfl B)

theorem bShl_g {q : Int} (h : 2 ≤ q ∧ q ≤ 4) : 0 < bShl 1 q ∧ bShl 1 q < 32 := bShl_k5 (by omega)

theorem mw_2 : (Jvm.Cond.initialized "Galleyforge$Text") ∈ gt := gt_at 72 (by decide +kernel) (by decide +kernel)
theorem mw_760 : (Jvm.Cond.methodLink "Galleyforge$Text" (67 : Nat) ({ cls := "Galleyforge$Text", name := "levelAt", desc := "([II)I" } : Jvm.MethodName)) ∈ gt := gt_at 830 (by decide +kernel) (by decide +kernel)
theorem mw_762 : (Jvm.Cond.instanceMethod ({ cls := "Galleyforge$Text", name := "levelAt", desc := "([II)I" } : Jvm.MethodName)) ∈ gt := gt_at 832 (by decide +kernel) (by decide +kernel)
theorem mw_763 : (Jvm.Cond.code ({ cls := "Galleyforge$Text", name := "levelAt", desc := "([II)I" } : Jvm.MethodName) prog_11_method_4_code (6 : Nat) (Option.some Jvm.ClassFile.FieldType.int)) ∈ gt := gt_at 833 (by decide +kernel) (by decide +kernel)
theorem ms_5 : Cond.selects "Galleyforge$Text" (⟨"Galleyforge$Text", "levelAt", "([II)I"⟩ : MethodName) (⟨"Galleyforge$Text", "levelAt", "([II)I"⟩ : MethodName) ∈ gt := gt_at 5 (by decide +kernel) (by decide +kernel)
theorem mV_X9_levelAt : mV yX9_levelAt cX9_levelAt 6 (some .int) 2 := ⟨⟨mw_763, mw_2, by decide, by decide, by decide +kernel⟩, mw_762, ms_5⟩
theorem dX9_gapsOf_0 : decode cX9_gapsOf 0 = .ok (.iconst 0, 1) := by decide +kernel
theorem dX9_gapsOf_1 : decode cX9_gapsOf 1 = .ok (.istore_n 2, 1) := by decide +kernel
theorem dX9_gapsOf_2 : decode cX9_gapsOf 2 = .ok (.iconst 2, 1) := by decide +kernel
theorem dX9_gapsOf_3 : decode cX9_gapsOf 3 = .ok (.istore_n 3, 1) := by decide +kernel
theorem dX9_gapsOf_4 : decode cX9_gapsOf 4 = .ok (.iload_n 3, 1) := by decide +kernel
theorem dX9_gapsOf_5 : decode cX9_gapsOf 5 = .ok (.aload_n 1, 1) := by decide +kernel
theorem dX9_gapsOf_6 : decode cX9_gapsOf 6 = .ok (.arraylength, 1) := by decide +kernel
theorem dX9_gapsOf_7 : decode cX9_gapsOf 7 = .ok (.iconst 2, 1) := by decide +kernel
theorem dX9_gapsOf_8 : decode cX9_gapsOf 8 = .ok (.isub, 1) := by decide +kernel
theorem dX9_gapsOf_9 : decode cX9_gapsOf 9 = .ok (.if_icmp .gt 27, 3) := by decide +kernel
theorem dX9_gapsOf_12 : decode cX9_gapsOf 12 = .ok (.aload_n 0, 1) := by decide +kernel
theorem dX9_gapsOf_13 : decode cX9_gapsOf 13 = .ok (.aload_n 1, 1) := by decide +kernel
theorem dX9_gapsOf_14 : decode cX9_gapsOf 14 = .ok (.iload_n 3, 1) := by decide +kernel
theorem dX9_gapsOf_15 : decode cX9_gapsOf 15 = .ok (.invokevirtual 67, 3) := by decide +kernel
theorem dX9_gapsOf_18 : decode cX9_gapsOf 18 = .ok (.iconst 2, 1) := by decide +kernel
theorem dX9_gapsOf_19 : decode cX9_gapsOf 19 = .ok (.irem, 1) := by decide +kernel
theorem dX9_gapsOf_20 : decode cX9_gapsOf 20 = .ok (.iconst 1, 1) := by decide +kernel
theorem dX9_gapsOf_21 : decode cX9_gapsOf 21 = .ok (.if_icmp .ne 9, 3) := by decide +kernel
theorem dX9_gapsOf_24 : decode cX9_gapsOf 24 = .ok (.iload_n 2, 1) := by decide +kernel
theorem dX9_gapsOf_25 : decode cX9_gapsOf 25 = .ok (.iconst 1, 1) := by decide +kernel
theorem dX9_gapsOf_26 : decode cX9_gapsOf 26 = .ok (.iload_n 3, 1) := by decide +kernel
theorem dX9_gapsOf_27 : decode cX9_gapsOf 27 = .ok (.ishl, 1) := by decide +kernel
theorem dX9_gapsOf_28 : decode cX9_gapsOf 28 = .ok (.ior, 1) := by decide +kernel
theorem dX9_gapsOf_29 : decode cX9_gapsOf 29 = .ok (.istore_n 2, 1) := by decide +kernel
theorem dX9_gapsOf_30 : decode cX9_gapsOf 30 = .ok (.iinc 3 1, 3) := by decide +kernel
theorem dX9_gapsOf_33 : decode cX9_gapsOf 33 = .ok (.goto (-29), 3) := by decide +kernel
theorem dX9_gapsOf_36 : decode cX9_gapsOf 36 = .ok (.iload_n 2, 1) := by decide +kernel
theorem dX9_gapsOf_37 : decode cX9_gapsOf 37 = .ok (.ireturn, 1) := by decide +kernel
set_option maxHeartbeats 4000000 in
set_option maxRecDepth 100000 in
theorem k_gapsOf (l : Launch) (dC : Nat → ClassId) (dI : Nat → Nat → Nat) (k : Nat → ClassId) (T : Nat → Int → Int → Int → Int) (A : Nat → Int → Int → Nat) (X : Nat → Int → Int → Int) (tl : va_W) (la_ : Nat) (nl : Nat) (fl : Int → Int) (hT : TI dI k T A X tl) (hK : TK T) (hla : ((la_, .inl (k 0, nl, .inl (fun i9 : Nat => iI (fl i9)))) : Nat × va_E) ∈ tl) (hfl : Bd 0 3 fl) (hnl : nl ≤ 6) : Kn l dC dI k yX9_gapsOf (.code yX9_gapsOf cX9_gapsOf 4 (some .int)) ({ frames := 4, cells := 0, slots := 0, locals := 89 } : Room) [.ref (A 50 0 0), .ref la_] ([] ++ tl) (fun r w gc gs => ((0 ≤ gsZ T fl (nl : Int) ∧ gsZ T fl (nl : Int) < 32) ∧ r = some (.int (iI (gsZ T fl (nl : Int)))) ∧ w = ([] ++ tl) ∧ gc = 0 ∧ gs = 0)) := by
  refine kn_of (by decide) (Nat.le_of_ble_eq_true rfl) ?_
  intro p e s m args below meth c H locs B hr hnm ls hl
  have hx := B.1.1
  have hb := B.1.2.1
  have hl : lv_has ls 4 [(0, .ref (A 50 0 0)), (1, .ref la_)] := hl
  refine lv_iconst (v := iI 0) hx hb dX9_gapsOf_0 (by decide) ?_
  refine lv_istore_n (lv' := [(2, .int (iI 0)), (0, .ref (A 50 0 0)), (1, .ref la_)]) hx hb dX9_gapsOf_1 rfl hl (by decide) rfl (fun ls hl => ?_)
  refine lv_iconst (v := iI 2) hx hb dX9_gapsOf_2 (by decide) ?_
  refine lv_istore_n (lv' := [(3, .int (iI 2)), (2, .int (iI 0)), (0, .ref (A 50 0 0)), (1, .ref la_)]) hx hb dX9_gapsOf_3 rfl hl (by decide) rfl (fun ls hl => ?_)
  refine k_loop (σ := Int × Int) B (fun g9 : Int × Int => (2 ≤ g9.1 ∧ (g9.1 = 2 ∨ g9.1 ≤ (nl : Int) - 1) ∧ 0 ≤ g9.2 ∧ g9.2 < 32) ∧ (g9.2 = gsF T fl (nl : Int) (Int.toNat (g9.1 - 2)))) (fun g9 : Int × Int => (7 - g9.1).toNat) (fun g9 : Int × Int => [(3, .int (iI g9.1)), (2, .int (iI g9.2)), (0, .ref (A 50 0 0)), (1, .ref la_)]) (fun g9 : Int × Int => ([] ++ tl)) ?_ (2, 0) ⟨(show 2 ≤ 2 ∧ (2 = 2 ∨ 2 ≤ (nl : Int) - 1) ∧ 0 ≤ 0 ∧ 0 < 32 from (by omega)), (show 0 = gsF T fl (nl : Int) (Int.toNat (2 - 2)) from rfl)⟩ ls H locs (lv_sub hl [0, 1, 2, 3] rfl) (bd_to rfl B)
  clear hl B
  rintro ⟨pq, gs⟩ ⟨hk, hgs⟩ ih_1 ls H locs hl B
  have hk : 2 ≤ pq ∧ (pq = 2 ∨ pq ≤ (nl : Int) - 1) ∧ 0 ≤ gs ∧ gs < 32 := hk
  have hgs : gs = gsF T fl (nl : Int) (Int.toNat (pq - 2)) := hgs
  have hl : lv_has ls 4 [(3, .int (iI pq)), (2, .int (iI gs)), (0, .ref (A 50 0 0)), (1, .ref la_)] := hl
  have B := bd_to (ws' := ([] ++ tl)) rfl B
  refine lv_iload_n hx hb dX9_gapsOf_4 rfl (lv_at hl 0 rfl) ?_
  refine lv_aload_n hx hb dX9_gapsOf_5 rfl (lv_at hl 3 rfl) ?_
  obtain ⟨k_2, hk_2⟩ := pk_at (hs := []) hla
  refine x_alen' B k_2 0 hk_2 rfl dX9_gapsOf_6 ?_
  refine lv_iconst (v := iI 2) hx hb dX9_gapsOf_7 (by decide) ?_
  refine y_sub hx hb dX9_gapsOf_8 ?_
  refine lv_icmp_gt (tgt := 36) hx hb dX9_gapsOf_9 (by decide) (fun c_3 => ?_) (fun c_3 => ?_)
  · have zc_3 : ((nl : Int) - 2) < pq := jlt (a := ((nl : Int) - 2)) (b := pq) (by omega) (by omega) c_3
    refine lv_iload_n hx hb dX9_gapsOf_36 rfl (lv_at hl 1 rfl) ?_
    have e_4 : (gsZ T fl (nl : Int)) = gs := (by unfold gsZ; rcases (show (nl : Int) - 3 = pq - 2 ∨ (Int.toNat ((nl : Int) - 3) = 0 ∧ pq = 2) by omega) with e9 | ⟨e9, e8⟩; (rw [e9]; exact hgs.symm); (rw [e9, hgs, e8]; rfl))
    skip
    exact k_iret B hr (⟨(by have e9 : gsZ T fl (nl : Int) = gs := (by unfold gsZ; rcases (show (nl : Int) - 3 = pq - 2 ∨ (Int.toNat ((nl : Int) - 3) = 0 ∧ pq = 2) by omega) with e9 | ⟨e9, e8⟩; (rw [e9]; exact hgs.symm); (rw [e9, hgs, e8]; rfl)); omega), (by rw [e_4]), rfl, rfl, rfl⟩) ⟨Nat.le_of_ble_eq_true rfl, Nat.le_of_ble_eq_true rfl⟩ ⟨Nat.le_of_ble_eq_true rfl, Nat.le_of_ble_eq_true rfl⟩ dX9_gapsOf_37
  · have zc_3 : pq ≤ ((nl : Int) - 2) := jnlt (a := ((nl : Int) - 2)) (b := pq) (by omega) (by omega) c_3
    refine lv_aload_n hx hb dX9_gapsOf_12 rfl (lv_at hl 2 rfl) ?_
    refine lv_aload_n hx hb dX9_gapsOf_13 rfl (lv_at hl 3 rfl) ?_
    refine lv_iload_n hx hb dX9_gapsOf_14 rfl (lv_at hl 0 rfl) ?_
    have B := bd_swap (a := []) (b := []) (d := tl) (bd_to rfl B)
    obtain ⟨k_5, hk_5⟩ := pk_at (hs := []) hT.1.1
    refine k_V (rest := []) (wc := ([] ++ tl)) (wr := []) (k_levelAt l dC dI k T A X tl la_ nl fl pq hT hK hla hfl hnl (by omega)) B mV_X9_levelAt mw_760 hl (q0 := k_5) (ci := 9) hk_5 rfl rfl ⟨Nat.le_of_ble_eq_true rfl, Nat.le_of_ble_eq_true rfl⟩ (Nat.le_of_ble_eq_true rfl) rfl dX9_gapsOf_15 ⟨Nat.le_of_ble_eq_true rfl, Nat.le_of_ble_eq_true rfl⟩ (fun r w gc gs H locs hp B => ?_)
    obtain ⟨z_6, rfl, hw9, rfl, rfl⟩ := hp
    rw [hw9] at B; clear hw9
    have B := bd_to (ws' := ([] ++ tl)) rfl B
    refine lv_iconst (v := iI 2) hx hb dX9_gapsOf_18 (by decide) ?_
    refine y_rem hx hb (a := (lvZ T fl (nl : Int) pq)) (b := 2) (by omega) (by omega) dX9_gapsOf_19 ?_
    refine lv_iconst (v := iI 1) hx hb dX9_gapsOf_20 (by decide) ?_
    refine lv_icmp_ne (tgt := 30) hx hb dX9_gapsOf_21 (by decide) (fun c_7 => ?_) (fun c_7 => ?_)
    · have zc_7 : ((lvZ T fl (nl : Int) pq) % 2) ≠ 1 := jne (a := ((lvZ T fl (nl : Int) pq) % 2)) (b := 1) (by omega) (by omega) c_7
      refine lv_iinc (v := iI (pq + 1)) (lv' := [(3, .int (iI (pq + 1))), (2, .int (iI gs)), (0, .ref (A 50 0 0)), (1, .ref la_)]) hx hb dX9_gapsOf_30 hl (k := 0) rfl (iI_add _ _) (by decide) rfl (fun ls hl => ?_)
      refine lv_goto (tgt := 4) hx hb dX9_gapsOf_33 (by decide) ?_
      exact ih_1 ((pq + 1), gs) ⟨(show 2 ≤ (pq + 1) ∧ ((pq + 1) = 2 ∨ (pq + 1) ≤ (nl : Int) - 1) ∧ 0 ≤ gs ∧ gs < 32 from (by omega)), (show gs = gsF T fl (nl : Int) (Int.toNat ((pq + 1) - 2)) from (by rw [gsF_s (by omega), ← hgs]; first | (rw [if_pos (by omega)]; done) | (rw [if_neg (by omega)]; done)))⟩ (by first | omega | (dsimp only; omega)) _ _ _ (lv_sub hl [0, 1, 2, 3] rfl) (bd_to rfl B)
    · have zc_7 : ((lvZ T fl (nl : Int) pq) % 2) = 1 := jeq (a := ((lvZ T fl (nl : Int) pq) % 2)) (b := 1) (by omega) (by omega) c_7
      refine lv_iload_n hx hb dX9_gapsOf_24 rfl (lv_at hl 1 rfl) ?_
      refine lv_iconst (v := iI 1) hx hb dX9_gapsOf_25 (by decide) ?_
      refine lv_iload_n hx hb dX9_gapsOf_26 rfl (lv_at hl 0 rfl) ?_
      have z_8 : 0 < (bShl 1 pq) ∧ (bShl 1 pq) < 32 := bShl_g (by omega)
      refine y_shl hx hb (a := 1) (b := pq) (by omega) (by omega) (by omega) dX9_gapsOf_27 ?_
      refine y_or hx hb (a := gs) (b := (bShl 1 pq)) (by omega) (by omega) dX9_gapsOf_28 ?_
      have z_9 : 0 ≤ (bOr gs (bShl 1 pq)) ∧ (bOr gs (bShl 1 pq)) < 32 := bOr_lt 5 (by omega) (by omega)
      refine lv_istore_n (lv' := [(2, .int (iI (bOr gs (bShl 1 pq)))), (3, .int (iI pq)), (0, .ref (A 50 0 0)), (1, .ref la_)]) hx hb dX9_gapsOf_29 rfl hl (by decide) rfl (fun ls hl => ?_)
      refine lv_iinc (v := iI (pq + 1)) (lv' := [(3, .int (iI (pq + 1))), (2, .int (iI (bOr gs (bShl 1 pq)))), (0, .ref (A 50 0 0)), (1, .ref la_)]) hx hb dX9_gapsOf_30 hl (k := 1) rfl (iI_add _ _) (by decide) rfl (fun ls hl => ?_)
      refine lv_goto (tgt := 4) hx hb dX9_gapsOf_33 (by decide) ?_
      exact ih_1 ((pq + 1), (bOr gs (bShl 1 pq))) ⟨(show 2 ≤ (pq + 1) ∧ ((pq + 1) = 2 ∨ (pq + 1) ≤ (nl : Int) - 1) ∧ 0 ≤ (bOr gs (bShl 1 pq)) ∧ (bOr gs (bShl 1 pq)) < 32 from (by omega)), (show (bOr gs (bShl 1 pq)) = gsF T fl (nl : Int) (Int.toNat ((pq + 1) - 2)) from (by rw [gsF_s (by omega), ← hgs]; first | (rw [if_pos (by omega)]; done) | (rw [if_neg (by omega)]; done)))⟩ (by first | omega | (dsimp only; omega)) _ _ _ (lv_sub hl [0, 1, 2, 3] rfl) (bd_to rfl B)

end
