section
section LO1
variable {T : Nat → Int → Int → Int → Int} {M P S D : Nat → Int → Int} {v dg : Int}
/-- pages of rows are pages -/
def P5i (P : Nat → Int → Int) : Prop := (0 ≤ P 0 0 ∧ P 0 0 ≤ 965) ∧ ∀ x, 0 ≤ P 5 x ∧ P 5 x ≤ 965
theorem P5_pu {fr n no us : Int} (h : P5i P) : P5i (puP P fr n no us) := ⟨puP_in h.1, by rw [puP_5]; exact h.2⟩
theorem P5_pf {st : Int} (h : P5i P) : P5i (pfZ T M P st) := by
  refine ⟨(pfZ_in h.1).1, ?_⟩
  unfold pfZ
  split
  · exact h.2
  · exact h.2
theorem P5_pp {ro n no us ts bs : Int} (h : P5i P) : P5i (ppZ T M P ro n no us ts bs) := by
  have hp := puP_in (fr := ro) (n := n) (no := no) (us := us) h.1
  refine ⟨by rw [ppZ_0]; exact hp, fun x => ?_⟩
  show 0 ≤ fil (P 5) ro n (puP P ro n no us 0 0) x ∧ fil (P 5) ro n (puP P ro n no us 0 0) x ≤ 965
  simp only [fil]
  split
  · exact hp
  · exact h.2 x
theorem P5_ly {ro wt lf n : Int} (h : P5i P) : P5i (lyP T M P ro wt lf n) := P5_pp ⟨h.1, h.2⟩
theorem P5_pa {st : Int} (h : P5i P) : ∀ k : Nat, P5i (paS T M st P k)
  | 0 => h
  | k + 1 => by
    simp only [paS]
    split
    · exact P5_pf (P5_pa h k)
    · exact P5_pa h k
theorem P5_bh : ∀ (f : Nat) (w : Int) (P : Nat → Int → Int), P5i P → P5i (bhF T M f w P)
  | 0, _, _, h => h
  | f + 1, w, P, h => by
    simp only [bhF]
    split
    · exact h
    · exact P5_bh f _ _ (P5_pf h)
theorem P5_bn : ∀ (f : Nat) (w : Int) (P : Nat → Int → Int), P5i P → P5i (bnF T M f w P)
  | 0, _, _, h => h
  | f + 1, w, P, h => by
    simp only [bnF]
    split
    · exact h
    · exact P5_bn f _ _ (P5_pu h)
theorem P5_lyF : ∀ (f : Nat) (ro wt lf : Int) (P : Nat → Int → Int), P5i P → P5i (lyF T M S f ro wt lf P).1
  | 0, _, _, _, _, h => h
  | f + 1, ro, wt, lf, P, h => by
    simp only [lyF]
    split
    · exact h
    · split
      · exact P5_lyF f _ _ _ _ (P5_pa (P5_ly h) _)
      · exact P5_lyF f _ _ _ _ (P5_ly h)
theorem mk_P5 : P5i (mkZ T M) := by
  have h0 : P5i cP := ⟨by decide, fun x => by show 0 ≤ (0 : Int) ∧ (0 : Int) ≤ 965; omega⟩
  unfold mkZ
  split
  · exact h0
  · exact P5_bn _ _ _ (P5_bh _ _ _ (P5_lyF _ _ _ _ _ h0))
/-- the page of a label; its digits; the digits of all labels -/
def lbZ (M P : Nat → Int → Int) (b : Int) : Int := if M 10 b = -1 then -1 else P 5 (M 10 b)
def ddZ (p : Int) : Int := if p < 10 then 1 else if p < 100 then 2 else 3
def dgF (M P : Nat → Int → Int) : Nat → Int
  | 0 => 0
  | k + 1 => bOr (dgF M P k) (bShl (ddZ (lbZ M P (k : Int))) (2 * (k : Int)))
theorem dgF_s {q : Int} (h : 0 ≤ q) : dgF M P (Int.toNat (q + 1)) = bOr (dgF M P (Int.toNat q)) (bShl (ddZ (lbZ M P q)) (2 * q)) := by
  rw [show Int.toNat (q + 1) = Int.toNat q + 1 by omega]
  simp only [dgF]
  rw [show ((Int.toNat q : Nat) : Int) = q by omega]
theorem bShl_dd {a q : Int} (ha : 1 ≤ a ∧ a ≤ 3) (h : 0 ≤ q ∧ q < 6) : 0 < bShl a (2 * q) ∧ bShl a (2 * q) < 4096 := by
  have e : q = 0 ∨ q = 1 ∨ q = 2 ∨ q = 3 ∨ q = 4 ∨ q = 5 := by omega
  have e2 : a = 1 ∨ a = 2 ∨ a = 3 := by omega
  rcases e with rfl | rfl | rfl | rfl | rfl | rfl <;> rcases e2 with rfl | rfl | rfl <;> decide
/-- the first round, from k on, with these digits; the most digits of all rounds from k on -/
def rwF (D : Int → Int) (gv : Int) : Nat → Int → Int
  | 0, _ => -1
  | f + 1, k => if D k = gv then k else rwF D gv f (k + 1)
def rwZ (D : Int → Int) (gv nr : Int) : Int := rwF D gv (Int.toNat (min nr 730)) 0
theorem rwF_s {D : Int → Int} {gv q m : Int} (h : q < m) : rwF D gv (Int.toNat (m - q)) q = if D q = gv then q else rwF D gv (Int.toNat (m - (q + 1))) (q + 1) := by
  rw [show Int.toNat (m - q) = Int.toNat (m - (q + 1)) + 1 by omega]
  rfl
def mdI (x : Int) (m : Int) : Nat → Int
  | 0 => m
  | b + 1 => if bAnd (mdI x m b) (bShl 3 (2 * (b : Int))) < bAnd x (bShl 3 (2 * (b : Int))) then bOr (bDif (mdI x m b) (bShl 3 (2 * (b : Int)))) (bAnd x (bShl 3 (2 * (b : Int)))) else mdI x m b
def mdF (D : Int → Int) (r0 : Int) : Nat → Int
  | 0 => 1365
  | k + 1 => mdI (D (r0 + (k : Int))) (mdF D r0 k) 6
theorem mdI_s {x m q : Int} (h : 0 ≤ q) : mdI x m (Int.toNat (q + 1)) = if bAnd (mdI x m (Int.toNat q)) (bShl 3 (2 * q)) < bAnd x (bShl 3 (2 * q)) then bOr (bDif (mdI x m (Int.toNat q)) (bShl 3 (2 * q))) (bAnd x (bShl 3 (2 * q))) else mdI x m (Int.toNat q) := by
  rw [show Int.toNat (q + 1) = Int.toNat q + 1 by omega]
  simp only [mdI]
  rw [show ((Int.toNat q : Nat) : Int) = q by omega]
theorem mdF_s {D : Int → Int} {r0 q : Int} (h : 0 ≤ q) : mdF D r0 (Int.toNat (q + 1)) = mdI (D (r0 + q)) (mdF D r0 (Int.toNat q)) 6 := by
  rw [show Int.toNat (q + 1) = Int.toNat q + 1 by omega]
  simp only [mdF]
  rw [show ((Int.toNat q : Nat) : Int) = q by omega]
end LO1

theorem dX4_pageOf_0 : decode cX4_pageOf 0 = .ok (.aload_n 0, 1) := by decide +kernel
theorem dX4_pageOf_1 : decode cX4_pageOf 1 = .ok (.getfield 24, 3) := by decide +kernel
theorem dX4_pageOf_4 : decode cX4_pageOf 4 = .ok (.iload_n 1, 1) := by decide +kernel
theorem dX4_pageOf_5 : decode cX4_pageOf 5 = .ok (.iaload, 1) := by decide +kernel
theorem dX4_pageOf_6 : decode cX4_pageOf 6 = .ok (.ireturn, 1) := by decide +kernel
set_option maxHeartbeats 4000000 in
set_option maxRecDepth 100000 in
theorem k_pageOf (l : Launch) (dC : Nat → ClassId) (dI : Nat → Nat → Nat) (k : Nat → ClassId) (pp : Nat) (pg : Nat) (so : Nat) (p1 : Nat) (p2 : Nat) (p3 : Nat) (p4 : Nat) (p5 : Nat) (p6 : Nat) (T : Nat → Int → Int → Int → Int) (A : Nat → Int → Int → Nat) (X : Nat → Int → Int → Int) (tl : va_W) (M : Nat → Int → Int) (V : Nat → Int → Int) (Aw : Nat → Nat) (f1 : Int → Int) (f2 : Int → Int) (f3 : Int → Int) (f4 : Int → Int) (f5 : Int → Int) (f6 : Int → Int) (P : Nat → Int → Int) (rr : Int) (z : Int) (hPA : PA P rr f1 f2 f3 f4 f5 f6) (hP5 : P5i P) (h1 : 0 ≤ z ∧ z < rr ∧ rr ≤ 768) : Kn l dC dI k yX4_pageOf (.code yX4_pageOf cX4_pageOf 2 (some .int)) ({ frames := 0, cells := 0, slots := 0, locals := 0 } : Room) [.ref pp, .int (iI z)] [(pp, .inr (4, [.ref (A 50 0 0), .ref (Aw 20), .ref pg, .ref so, .int (iI (P 0 0)), .int (iI (P 0 1)), .ref p1, .ref p2, .ref p3, .ref p4, .ref p5, .ref p6])), (p1, .inl (k 0, 965, .inl (fun i9 : Nat => iI (f1 i9)))), (p2, .inl (k 0, 965, .inl (fun i9 : Nat => iI (f2 i9)))), (p3, .inl (k 0, 965, .inl (fun i9 : Nat => iI (f3 i9)))), (p4, .inl (k 0, 965, .inl (fun i9 : Nat => iI (f4 i9)))), (p5, .inl (k 0, 768, .inl (fun i9 : Nat => iI (f5 i9)))), (p6, .inl (k 0, 5, .inl (fun i9 : Nat => iI (f6 i9))))] (fun r w gc gs => ((0 ≤ P 5 z ∧ P 5 z ≤ 965) ∧ r = some (.int (iI (P 5 z))) ∧ w = [(pp, .inr (4, [.ref (A 50 0 0), .ref (Aw 20), .ref pg, .ref so, .int (iI (P 0 0)), .int (iI (P 0 1)), .ref p1, .ref p2, .ref p3, .ref p4, .ref p5, .ref p6])), (p1, .inl (k 0, 965, .inl (fun i9 : Nat => iI (f1 i9)))), (p2, .inl (k 0, 965, .inl (fun i9 : Nat => iI (f2 i9)))), (p3, .inl (k 0, 965, .inl (fun i9 : Nat => iI (f3 i9)))), (p4, .inl (k 0, 965, .inl (fun i9 : Nat => iI (f4 i9)))), (p5, .inl (k 0, 768, .inl (fun i9 : Nat => iI (f5 i9)))), (p6, .inl (k 0, 5, .inl (fun i9 : Nat => iI (f6 i9))))] ∧ gc = 0 ∧ gs = 0)) := by
  refine kn_of (by decide) (Nat.le_of_ble_eq_true rfl) ?_
  intro p e s m args below meth c H locs B hr hnm ls hl
  have hx := B.1.1
  have hb := B.1.2.1
  have hl : lv_has ls 2 [(0, .ref pp), (1, .int (iI z))] := hl
  refine lv_aload_n hx hb dX4_pageOf_0 rfl (lv_at hl 0 rfl) ?_
  refine x_get (ci := 4) (C := RX4) (T := TX4) (N := 12) (v := .ref p5) B 0 rfl rfl in_X4 10 (by decide) mw_382 (fun _ h9 => h9) rfl dX4_pageOf_1 ?_
  refine lv_iload_n hx hb dX4_pageOf_4 rfl (lv_at hl 1 rfl) ?_
  refine x_iald' (f := f5) (z := z) B 5 rfl (by omega) dX4_pageOf_5 ?_
  refine lv_seti (y := iI (P 5 z)) (congrArg iI (show f5 z = P 5 z from hPA.2.1 _ (by omega) (by omega))) ?_
  have z_1 : 0 ≤ P 5 z ∧ P 5 z ≤ 965 := hP5.2 _
  exact k_iret B hr (⟨(hP5.2 _), rfl, rfl, rfl, rfl⟩) ⟨Nat.le_of_ble_eq_true rfl, Nat.le_of_ble_eq_true rfl⟩ ⟨Nat.le_of_ble_eq_true rfl, Nat.le_of_ble_eq_true rfl⟩ dX4_pageOf_6

theorem mw_249 : (Jvm.Cond.fieldLink "Galleyforge$Layout" (181 : Nat) "Galleyforge$Rows" "labelRows" "[I") ∈ gt := gt_at 319 (by decide +kernel) (by decide +kernel)
theorem mw_413 : (Jvm.Cond.fieldLink "Galleyforge$Layout" (57 : Nat) "Galleyforge$Layout" "rows" "LGalleyforge$Rows;") ∈ gt := gt_at 483 (by decide +kernel) (by decide +kernel)
theorem mw_415 : (Jvm.Cond.fieldLink "Galleyforge$Layout" (66 : Nat) "Galleyforge$Layout" "pages" "LGalleyforge$Pages;") ∈ gt := gt_at 485 (by decide +kernel) (by decide +kernel)
theorem mw_1659 : (Jvm.Cond.methodLink "Galleyforge$Layout" (172 : Nat) ({ cls := "Galleyforge$Pages", name := "pageOf", desc := "(I)I" } : Jvm.MethodName)) ∈ gt := gt_at 1729 (by decide +kernel) (by decide +kernel)
theorem mw_1660 : (Jvm.Cond.instanceMethod ({ cls := "Galleyforge$Pages", name := "pageOf", desc := "(I)I" } : Jvm.MethodName)) ∈ gt := gt_at 1730 (by decide +kernel) (by decide +kernel)
theorem mw_1661 : (Jvm.Cond.selects "Galleyforge$Pages" ({ cls := "Galleyforge$Pages", name := "pageOf", desc := "(I)I" } : Jvm.MethodName) ({ cls := "Galleyforge$Pages", name := "pageOf", desc := "(I)I" } : Jvm.MethodName)) ∈ gt := gt_at 1731 (by decide +kernel) (by decide +kernel)
theorem mw_1662 : (Jvm.Cond.code ({ cls := "Galleyforge$Pages", name := "pageOf", desc := "(I)I" } : Jvm.MethodName) prog_6_method_2_code (2 : Nat) (Option.some Jvm.ClassFile.FieldType.int)) ∈ gt := gt_at 1732 (by decide +kernel) (by decide +kernel)
theorem mV_X4_pageOf : mV yX4_pageOf cX4_pageOf 2 (some .int) 1 := ⟨⟨mw_1662, mw_10, by decide, by decide, by decide +kernel⟩, mw_1660, mw_1661⟩
theorem dX1_pageOfLabel_0 : decode cX1_pageOfLabel 0 = .ok (.aload_n 0, 1) := by decide +kernel
theorem dX1_pageOfLabel_1 : decode cX1_pageOfLabel 1 = .ok (.getfield 57, 3) := by decide +kernel
theorem dX1_pageOfLabel_4 : decode cX1_pageOfLabel 4 = .ok (.getfield 181, 3) := by decide +kernel
theorem dX1_pageOfLabel_7 : decode cX1_pageOfLabel 7 = .ok (.iload_n 1, 1) := by decide +kernel
theorem dX1_pageOfLabel_8 : decode cX1_pageOfLabel 8 = .ok (.iaload, 1) := by decide +kernel
theorem dX1_pageOfLabel_9 : decode cX1_pageOfLabel 9 = .ok (.iconst (-1), 1) := by decide +kernel
theorem dX1_pageOfLabel_10 : decode cX1_pageOfLabel 10 = .ok (.if_icmp .ne 7, 3) := by decide +kernel
theorem dX1_pageOfLabel_13 : decode cX1_pageOfLabel 13 = .ok (.iconst (-1), 1) := by decide +kernel
theorem dX1_pageOfLabel_14 : decode cX1_pageOfLabel 14 = .ok (.goto 19, 3) := by decide +kernel
theorem dX1_pageOfLabel_17 : decode cX1_pageOfLabel 17 = .ok (.aload_n 0, 1) := by decide +kernel
theorem dX1_pageOfLabel_18 : decode cX1_pageOfLabel 18 = .ok (.getfield 66, 3) := by decide +kernel
theorem dX1_pageOfLabel_21 : decode cX1_pageOfLabel 21 = .ok (.aload_n 0, 1) := by decide +kernel
theorem dX1_pageOfLabel_22 : decode cX1_pageOfLabel 22 = .ok (.getfield 57, 3) := by decide +kernel
theorem dX1_pageOfLabel_25 : decode cX1_pageOfLabel 25 = .ok (.getfield 181, 3) := by decide +kernel
theorem dX1_pageOfLabel_28 : decode cX1_pageOfLabel 28 = .ok (.iload_n 1, 1) := by decide +kernel
theorem dX1_pageOfLabel_29 : decode cX1_pageOfLabel 29 = .ok (.iaload, 1) := by decide +kernel
theorem dX1_pageOfLabel_30 : decode cX1_pageOfLabel 30 = .ok (.invokevirtual 172, 3) := by decide +kernel
theorem dX1_pageOfLabel_33 : decode cX1_pageOfLabel 33 = .ok (.ireturn, 1) := by decide +kernel
set_option maxHeartbeats 4000000 in
set_option maxRecDepth 100000 in
theorem k_pageOfLabel (l : Launch) (dC : Nat → ClassId) (dI : Nat → Nat → Nat) (k : Nat → ClassId) (ly : Nat) (ln : Nat) (rw : Nat) (pp : Nat) (l1 : Nat) (l2 : Nat) (l3 : Nat) (l4 : Nat) (l5 : Nat) (l6 : Nat) (l7 : Nat) (v : Int) (gO : Int) (iL : Int) (nR : Int) (sT : Int) (dg : Int) (m1 : Int → Int) (m2 : Int → Int) (m3 : Int → Int) (m4 : Int → Int) (m5 : Int → Int) (m6 : Int → Int) (m7 : Int → Int) (pg : Nat) (so : Nat) (p1 : Nat) (p2 : Nat) (p3 : Nat) (p4 : Nat) (p5 : Nat) (p6 : Nat) (T : Nat → Int → Int → Int → Int) (A : Nat → Int → Int → Nat) (X : Nat → Int → Int → Int) (tl : va_W) (M : Nat → Int → Int) (V : Nat → Int → Int) (Aw : Nat → Nat) (f1 : Int → Int) (f2 : Int → Int) (f3 : Int → Int) (f4 : Int → Int) (f5 : Int → Int) (f6 : Int → Int) (P : Nat → Int → Int) (b_ : Int) (hT : TI dI k T A X tl) (hK : TK T) (hR : RI k (T 0 0 0 0) M V Aw tl) (hM : MK M) (hMT : ∀ j, 0 ≤ j → j < M 0 0 → M 2 j < T 0 0 0 0) (hPA : PA P (M 0 0) f1 f2 f3 f4 f5 f6) (hP5 : P5i P) (hL10 : ∀ j, 0 ≤ j → j < 6 → M 10 j < M 0 0) (h1 : 0 ≤ b_ ∧ b_ < 6) : Kn l dC dI k yX1_pageOfLabel (.code yX1_pageOfLabel cX1_pageOfLabel 2 (some .int)) ({ frames := 1, cells := 0, slots := 0, locals := 21 } : Room) [.ref ly, .int (iI b_)] ([(ly, .inr (1, [.ref (A 50 0 0), .int (iI v), .ref ln, .ref (Aw 20), .ref pp, .int (iI gO), .int (iI iL), .ref l1, .ref l2, .ref l3, .ref l4, .ref l5, .ref l6, .int (iI nR), .int (iI sT), .int (iI dg), .ref l7])), (pp, .inr (4, [.ref (A 50 0 0), .ref (Aw 20), .ref pg, .ref so, .int (iI (P 0 0)), .int (iI (P 0 1)), .ref p1, .ref p2, .ref p3, .ref p4, .ref p5, .ref p6])), (p1, .inl (k 0, 965, .inl (fun i9 : Nat => iI (f1 i9)))), (p2, .inl (k 0, 965, .inl (fun i9 : Nat => iI (f2 i9)))), (p3, .inl (k 0, 965, .inl (fun i9 : Nat => iI (f3 i9)))), (p4, .inl (k 0, 965, .inl (fun i9 : Nat => iI (f4 i9)))), (p5, .inl (k 0, 768, .inl (fun i9 : Nat => iI (f5 i9)))), (p6, .inl (k 0, 5, .inl (fun i9 : Nat => iI (f6 i9))))] ++ tl) (fun r w gc gs => ((-1 ≤ lbZ M P b_ ∧ lbZ M P b_ ≤ 965) ∧ r = some (.int (iI (lbZ M P b_))) ∧ w = ([(ly, .inr (1, [.ref (A 50 0 0), .int (iI v), .ref ln, .ref (Aw 20), .ref pp, .int (iI gO), .int (iI iL), .ref l1, .ref l2, .ref l3, .ref l4, .ref l5, .ref l6, .int (iI nR), .int (iI sT), .int (iI dg), .ref l7])), (pp, .inr (4, [.ref (A 50 0 0), .ref (Aw 20), .ref pg, .ref so, .int (iI (P 0 0)), .int (iI (P 0 1)), .ref p1, .ref p2, .ref p3, .ref p4, .ref p5, .ref p6])), (p1, .inl (k 0, 965, .inl (fun i9 : Nat => iI (f1 i9)))), (p2, .inl (k 0, 965, .inl (fun i9 : Nat => iI (f2 i9)))), (p3, .inl (k 0, 965, .inl (fun i9 : Nat => iI (f3 i9)))), (p4, .inl (k 0, 965, .inl (fun i9 : Nat => iI (f4 i9)))), (p5, .inl (k 0, 768, .inl (fun i9 : Nat => iI (f5 i9)))), (p6, .inl (k 0, 5, .inl (fun i9 : Nat => iI (f6 i9))))] ++ tl) ∧ gc = 0 ∧ gs = 0)) := by
  refine kn_of (by decide) (Nat.le_of_ble_eq_true rfl) ?_
  intro p e s m args below meth c H locs B hr hnm ls hl
  have hx := B.1.1
  have hb := B.1.2.1
  have hl : lv_has ls 2 [(0, .ref ly), (1, .int (iI b_))] := hl
  have hn0 := MK_cnt hM
  have hf0 := MK_17 hM
  have hl9 := hL10 b_ (by omega) (by omega)
  refine lv_aload_n hx hb dX1_pageOfLabel_0 rfl (lv_at hl 0 rfl) ?_
  refine x_get (ci := 1) (C := RX1) (T := TX1) (N := 17) (v := .ref (Aw 20)) B 0 rfl rfl in_X1 3 (by decide) mw_413 (fun _ h9 => h9) rfl dX1_pageOfLabel_1 ?_
  obtain ⟨k_1, hk_1⟩ := pk_at (hs := [(ly, .inr (1, [.ref (A 50 0 0), .int (iI v), .ref ln, .ref (Aw 20), .ref pp, .int (iI gO), .int (iI iL), .ref l1, .ref l2, .ref l3, .ref l4, .ref l5, .ref l6, .int (iI nR), .int (iI sT), .int (iI dg), .ref l7])), (pp, .inr (4, [.ref (A 50 0 0), .ref (Aw 20), .ref pg, .ref so, .int (iI (P 0 0)), .int (iI (P 0 1)), .ref p1, .ref p2, .ref p3, .ref p4, .ref p5, .ref p6])), (p1, .inl (k 0, 965, .inl (fun i9 : Nat => iI (f1 i9)))), (p2, .inl (k 0, 965, .inl (fun i9 : Nat => iI (f2 i9)))), (p3, .inl (k 0, 965, .inl (fun i9 : Nat => iI (f3 i9)))), (p4, .inl (k 0, 965, .inl (fun i9 : Nat => iI (f4 i9)))), (p5, .inl (k 0, 768, .inl (fun i9 : Nat => iI (f5 i9)))), (p6, .inl (k 0, 5, .inl (fun i9 : Nat => iI (f6 i9))))]) (RI_o hR)
  refine x_get (ci := 6) (C := RX6) (T := TX6) (N := 18) (v := .ref (Aw 10)) B k_1 hk_1 rfl in_X6 10 (by decide) mw_249 (fun _ h9 => h9) rfl dX1_pageOfLabel_4 ?_
  refine lv_iload_n hx hb dX1_pageOfLabel_7 rfl (lv_at hl 1 rfl) ?_
  obtain ⟨k_2, hk_2⟩ := pk_at (hs := [(ly, .inr (1, [.ref (A 50 0 0), .int (iI v), .ref ln, .ref (Aw 20), .ref pp, .int (iI gO), .int (iI iL), .ref l1, .ref l2, .ref l3, .ref l4, .ref l5, .ref l6, .int (iI nR), .int (iI sT), .int (iI dg), .ref l7])), (pp, .inr (4, [.ref (A 50 0 0), .ref (Aw 20), .ref pg, .ref so, .int (iI (P 0 0)), .int (iI (P 0 1)), .ref p1, .ref p2, .ref p3, .ref p4, .ref p5, .ref p6])), (p1, .inl (k 0, 965, .inl (fun i9 : Nat => iI (f1 i9)))), (p2, .inl (k 0, 965, .inl (fun i9 : Nat => iI (f2 i9)))), (p3, .inl (k 0, 965, .inl (fun i9 : Nat => iI (f3 i9)))), (p4, .inl (k 0, 965, .inl (fun i9 : Nat => iI (f4 i9)))), (p5, .inl (k 0, 768, .inl (fun i9 : Nat => iI (f5 i9)))), (p6, .inl (k 0, 5, .inl (fun i9 : Nat => iI (f6 i9))))]) (RI_10 hR)
  refine x_iald' (f := (V 10)) (z := b_) B k_2 hk_2 (by omega) dX1_pageOfLabel_8 ?_
  refine lv_seti (y := iI (M 10 b_)) (congrArg iI (show (V 10) b_ = M 10 b_ from RA_10 (RI_a hR) _ (by omega) (by omega))) ?_
  have z_3 : (-1) ≤ M 10 b_ ∧ M 10 b_ ≤ 767 := MK_10 hM _
  refine lv_iconst (v := iI (-1)) hx hb dX1_pageOfLabel_9 (by decide) ?_
  refine lv_icmp_ne (tgt := 17) hx hb dX1_pageOfLabel_10 (by decide) (fun c_4 => ?_) (fun c_4 => ?_)
  · have zc_4 : (M 10 b_) ≠ (-1) := jne (a := (M 10 b_)) (b := (-1)) (by omega) (by omega) c_4
    refine lv_aload_n hx hb dX1_pageOfLabel_17 rfl (lv_at hl 0 rfl) ?_
    refine x_get (ci := 1) (C := RX1) (T := TX1) (N := 17) (v := .ref pp) B 0 rfl rfl in_X1 4 (by decide) mw_415 (fun _ h9 => h9) rfl dX1_pageOfLabel_18 ?_
    refine lv_aload_n hx hb dX1_pageOfLabel_21 rfl (lv_at hl 0 rfl) ?_
    refine x_get (ci := 1) (C := RX1) (T := TX1) (N := 17) (v := .ref (Aw 20)) B 0 rfl rfl in_X1 3 (by decide) mw_413 (fun _ h9 => h9) rfl dX1_pageOfLabel_22 ?_
    obtain ⟨k_5, hk_5⟩ := pk_at (hs := [(ly, .inr (1, [.ref (A 50 0 0), .int (iI v), .ref ln, .ref (Aw 20), .ref pp, .int (iI gO), .int (iI iL), .ref l1, .ref l2, .ref l3, .ref l4, .ref l5, .ref l6, .int (iI nR), .int (iI sT), .int (iI dg), .ref l7])), (pp, .inr (4, [.ref (A 50 0 0), .ref (Aw 20), .ref pg, .ref so, .int (iI (P 0 0)), .int (iI (P 0 1)), .ref p1, .ref p2, .ref p3, .ref p4, .ref p5, .ref p6])), (p1, .inl (k 0, 965, .inl (fun i9 : Nat => iI (f1 i9)))), (p2, .inl (k 0, 965, .inl (fun i9 : Nat => iI (f2 i9)))), (p3, .inl (k 0, 965, .inl (fun i9 : Nat => iI (f3 i9)))), (p4, .inl (k 0, 965, .inl (fun i9 : Nat => iI (f4 i9)))), (p5, .inl (k 0, 768, .inl (fun i9 : Nat => iI (f5 i9)))), (p6, .inl (k 0, 5, .inl (fun i9 : Nat => iI (f6 i9))))]) (RI_o hR)
    refine x_get (ci := 6) (C := RX6) (T := TX6) (N := 18) (v := .ref (Aw 10)) B k_5 hk_5 rfl in_X6 10 (by decide) mw_249 (fun _ h9 => h9) rfl dX1_pageOfLabel_25 ?_
    refine lv_iload_n hx hb dX1_pageOfLabel_28 rfl (lv_at hl 1 rfl) ?_
    obtain ⟨k_6, hk_6⟩ := pk_at (hs := [(ly, .inr (1, [.ref (A 50 0 0), .int (iI v), .ref ln, .ref (Aw 20), .ref pp, .int (iI gO), .int (iI iL), .ref l1, .ref l2, .ref l3, .ref l4, .ref l5, .ref l6, .int (iI nR), .int (iI sT), .int (iI dg), .ref l7])), (pp, .inr (4, [.ref (A 50 0 0), .ref (Aw 20), .ref pg, .ref so, .int (iI (P 0 0)), .int (iI (P 0 1)), .ref p1, .ref p2, .ref p3, .ref p4, .ref p5, .ref p6])), (p1, .inl (k 0, 965, .inl (fun i9 : Nat => iI (f1 i9)))), (p2, .inl (k 0, 965, .inl (fun i9 : Nat => iI (f2 i9)))), (p3, .inl (k 0, 965, .inl (fun i9 : Nat => iI (f3 i9)))), (p4, .inl (k 0, 965, .inl (fun i9 : Nat => iI (f4 i9)))), (p5, .inl (k 0, 768, .inl (fun i9 : Nat => iI (f5 i9)))), (p6, .inl (k 0, 5, .inl (fun i9 : Nat => iI (f6 i9))))]) (RI_10 hR)
    refine x_iald' (f := (V 10)) (z := b_) B k_6 hk_6 (by omega) dX1_pageOfLabel_29 ?_
    refine lv_seti (y := iI (M 10 b_)) (congrArg iI (show (V 10) b_ = M 10 b_ from RA_10 (RI_a hR) _ (by omega) (by omega))) ?_
    have z_7 : (-1) ≤ M 10 b_ ∧ M 10 b_ ≤ 767 := MK_10 hM _
    have B := bd_pick (hs := [(ly, .inr (1, [.ref (A 50 0 0), .int (iI v), .ref ln, .ref (Aw 20), .ref pp, .int (iI gO), .int (iI iL), .ref l1, .ref l2, .ref l3, .ref l4, .ref l5, .ref l6, .int (iI nR), .int (iI sT), .int (iI dg), .ref l7])), (pp, .inr (4, [.ref (A 50 0 0), .ref (Aw 20), .ref pg, .ref so, .int (iI (P 0 0)), .int (iI (P 0 1)), .ref p1, .ref p2, .ref p3, .ref p4, .ref p5, .ref p6])), (p1, .inl (k 0, 965, .inl (fun i9 : Nat => iI (f1 i9)))), (p2, .inl (k 0, 965, .inl (fun i9 : Nat => iI (f2 i9)))), (p3, .inl (k 0, 965, .inl (fun i9 : Nat => iI (f3 i9)))), (p4, .inl (k 0, 965, .inl (fun i9 : Nat => iI (f4 i9)))), (p5, .inl (k 0, 768, .inl (fun i9 : Nat => iI (f5 i9)))), (p6, .inl (k 0, 5, .inl (fun i9 : Nat => iI (f6 i9))))]) (ws' := [(pp, .inr (4, [.ref (A 50 0 0), .ref (Aw 20), .ref pg, .ref so, .int (iI (P 0 0)), .int (iI (P 0 1)), .ref p1, .ref p2, .ref p3, .ref p4, .ref p5, .ref p6])), (p1, .inl (k 0, 965, .inl (fun i9 : Nat => iI (f1 i9)))), (p2, .inl (k 0, 965, .inl (fun i9 : Nat => iI (f2 i9)))), (p3, .inl (k 0, 965, .inl (fun i9 : Nat => iI (f3 i9)))), (p4, .inl (k 0, 965, .inl (fun i9 : Nat => iI (f4 i9)))), (p5, .inl (k 0, 768, .inl (fun i9 : Nat => iI (f5 i9)))), (p6, .inl (k 0, 5, .inl (fun i9 : Nat => iI (f6 i9)))), (ly, .inr (1, [.ref (A 50 0 0), .int (iI v), .ref ln, .ref (Aw 20), .ref pp, .int (iI gO), .int (iI iL), .ref l1, .ref l2, .ref l3, .ref l4, .ref l5, .ref l6, .int (iI nR), .int (iI sT), .int (iI dg), .ref l7]))]) (tl := tl) [1, 2, 3, 4, 5, 6, 7, 0] (by decide) rfl B
    have B := bd_to (ws' := [(pp, .inr (4, [.ref (A 50 0 0), .ref (Aw 20), .ref pg, .ref so, .int (iI (P 0 0)), .int (iI (P 0 1)), .ref p1, .ref p2, .ref p3, .ref p4, .ref p5, .ref p6])), (p1, .inl (k 0, 965, .inl (fun i9 : Nat => iI (f1 i9)))), (p2, .inl (k 0, 965, .inl (fun i9 : Nat => iI (f2 i9)))), (p3, .inl (k 0, 965, .inl (fun i9 : Nat => iI (f3 i9)))), (p4, .inl (k 0, 965, .inl (fun i9 : Nat => iI (f4 i9)))), (p5, .inl (k 0, 768, .inl (fun i9 : Nat => iI (f5 i9)))), (p6, .inl (k 0, 5, .inl (fun i9 : Nat => iI (f6 i9))))] ++ ([(ly, .inr (1, [.ref (A 50 0 0), .int (iI v), .ref ln, .ref (Aw 20), .ref pp, .int (iI gO), .int (iI iL), .ref l1, .ref l2, .ref l3, .ref l4, .ref l5, .ref l6, .int (iI nR), .int (iI sT), .int (iI dg), .ref l7]))] ++ tl)) rfl B
    refine k_V (rest := []) (wc := [(pp, .inr (4, [.ref (A 50 0 0), .ref (Aw 20), .ref pg, .ref so, .int (iI (P 0 0)), .int (iI (P 0 1)), .ref p1, .ref p2, .ref p3, .ref p4, .ref p5, .ref p6])), (p1, .inl (k 0, 965, .inl (fun i9 : Nat => iI (f1 i9)))), (p2, .inl (k 0, 965, .inl (fun i9 : Nat => iI (f2 i9)))), (p3, .inl (k 0, 965, .inl (fun i9 : Nat => iI (f3 i9)))), (p4, .inl (k 0, 965, .inl (fun i9 : Nat => iI (f4 i9)))), (p5, .inl (k 0, 768, .inl (fun i9 : Nat => iI (f5 i9)))), (p6, .inl (k 0, 5, .inl (fun i9 : Nat => iI (f6 i9))))]) (wr := ([(ly, .inr (1, [.ref (A 50 0 0), .int (iI v), .ref ln, .ref (Aw 20), .ref pp, .int (iI gO), .int (iI iL), .ref l1, .ref l2, .ref l3, .ref l4, .ref l5, .ref l6, .int (iI nR), .int (iI sT), .int (iI dg), .ref l7]))] ++ tl)) (k_pageOf l dC dI k pp pg so p1 p2 p3 p4 p5 p6 T A X tl M V Aw f1 f2 f3 f4 f5 f6 P (M 0 0) (M 10 b_) hPA hP5 (by omega)) B mV_X4_pageOf mw_1659 hl (q0 := 0) rfl rfl rfl ⟨Nat.le_of_ble_eq_true rfl, Nat.le_of_ble_eq_true rfl⟩ (Nat.le_of_ble_eq_true rfl) rfl dX1_pageOfLabel_30 ⟨Nat.le_of_ble_eq_true rfl, Nat.le_of_ble_eq_true rfl⟩ (fun r w gc gs H locs hp B => ?_)
    obtain ⟨z_8, rfl, hw9, rfl, rfl⟩ := hp
    rw [hw9] at B; clear hw9
    have B := bd_swap (a := [(ly, .inr (1, [.ref (A 50 0 0), .int (iI v), .ref ln, .ref (Aw 20), .ref pp, .int (iI gO), .int (iI iL), .ref l1, .ref l2, .ref l3, .ref l4, .ref l5, .ref l6, .int (iI nR), .int (iI sT), .int (iI dg), .ref l7]))]) (b := tl) (d := [(pp, .inr (4, [.ref (A 50 0 0), .ref (Aw 20), .ref pg, .ref so, .int (iI (P 0 0)), .int (iI (P 0 1)), .ref p1, .ref p2, .ref p3, .ref p4, .ref p5, .ref p6])), (p1, .inl (k 0, 965, .inl (fun i9 : Nat => iI (f1 i9)))), (p2, .inl (k 0, 965, .inl (fun i9 : Nat => iI (f2 i9)))), (p3, .inl (k 0, 965, .inl (fun i9 : Nat => iI (f3 i9)))), (p4, .inl (k 0, 965, .inl (fun i9 : Nat => iI (f4 i9)))), (p5, .inl (k 0, 768, .inl (fun i9 : Nat => iI (f5 i9)))), (p6, .inl (k 0, 5, .inl (fun i9 : Nat => iI (f6 i9))))]) B
    have B := bd_to (ws' := ([(ly, .inr (1, [.ref (A 50 0 0), .int (iI v), .ref ln, .ref (Aw 20), .ref pp, .int (iI gO), .int (iI iL), .ref l1, .ref l2, .ref l3, .ref l4, .ref l5, .ref l6, .int (iI nR), .int (iI sT), .int (iI dg), .ref l7])), (pp, .inr (4, [.ref (A 50 0 0), .ref (Aw 20), .ref pg, .ref so, .int (iI (P 0 0)), .int (iI (P 0 1)), .ref p1, .ref p2, .ref p3, .ref p4, .ref p5, .ref p6])), (p1, .inl (k 0, 965, .inl (fun i9 : Nat => iI (f1 i9)))), (p2, .inl (k 0, 965, .inl (fun i9 : Nat => iI (f2 i9)))), (p3, .inl (k 0, 965, .inl (fun i9 : Nat => iI (f3 i9)))), (p4, .inl (k 0, 965, .inl (fun i9 : Nat => iI (f4 i9)))), (p5, .inl (k 0, 768, .inl (fun i9 : Nat => iI (f5 i9)))), (p6, .inl (k 0, 5, .inl (fun i9 : Nat => iI (f6 i9))))] ++ tl)) rfl B
    have e_9 : (lbZ M P b_) = (P 5 (M 10 b_)) := (by unfold lbZ; first | rw [if_pos (by omega)] | rw [if_neg (by omega)])
    skip
    exact k_iret B hr (⟨(by unfold lbZ; split; omega; (have q9 := hP5.2 (M 10 b_); omega)), (by rw [e_9]), rfl, rfl, rfl⟩) ⟨Nat.le_of_ble_eq_true rfl, Nat.le_of_ble_eq_true rfl⟩ ⟨Nat.le_of_ble_eq_true rfl, Nat.le_of_ble_eq_true rfl⟩ dX1_pageOfLabel_33
  · have zc_4 : (M 10 b_) = (-1) := jeq (a := (M 10 b_)) (b := (-1)) (by omega) (by omega) c_4
    refine lv_iconst (v := iI (-1)) hx hb dX1_pageOfLabel_13 (by decide) ?_
    refine lv_goto (tgt := 33) hx hb dX1_pageOfLabel_14 (by decide) ?_
    have e_10 : (lbZ M P b_) = (-1) := (by unfold lbZ; first | rw [if_pos (by omega)] | rw [if_neg (by omega)])
    skip
    exact k_iret B hr (⟨(by unfold lbZ; split; omega; (have q9 := hP5.2 (M 10 b_); omega)), (by rw [e_10]), rfl, rfl, rfl⟩) ⟨Nat.le_of_ble_eq_true rfl, Nat.le_of_ble_eq_true rfl⟩ ⟨Nat.le_of_ble_eq_true rfl, Nat.le_of_ble_eq_true rfl⟩ dX1_pageOfLabel_33

theorem mw_1655 : (Jvm.Cond.methodLink "Galleyforge$Layout" (156 : Nat) ({ cls := "Galleyforge$Layout", name := "pageOfLabel", desc := "(I)I" } : Jvm.MethodName)) ∈ gt := gt_at 1725 (by decide +kernel) (by decide +kernel)
theorem mw_1656 : (Jvm.Cond.instanceMethod ({ cls := "Galleyforge$Layout", name := "pageOfLabel", desc := "(I)I" } : Jvm.MethodName)) ∈ gt := gt_at 1726 (by decide +kernel) (by decide +kernel)
theorem mw_1657 : (Jvm.Cond.selects "Galleyforge$Layout" ({ cls := "Galleyforge$Layout", name := "pageOfLabel", desc := "(I)I" } : Jvm.MethodName) ({ cls := "Galleyforge$Layout", name := "pageOfLabel", desc := "(I)I" } : Jvm.MethodName)) ∈ gt := gt_at 1727 (by decide +kernel) (by decide +kernel)
theorem mw_1658 : (Jvm.Cond.code ({ cls := "Galleyforge$Layout", name := "pageOfLabel", desc := "(I)I" } : Jvm.MethodName) prog_3_method_13_code (2 : Nat) (Option.some Jvm.ClassFile.FieldType.int)) ∈ gt := gt_at 1728 (by decide +kernel) (by decide +kernel)
theorem mV_X1_pageOfLabel : mV yX1_pageOfLabel cX1_pageOfLabel 2 (some .int) 1 := ⟨⟨mw_1658, mw_8, by decide, by decide, by decide +kernel⟩, mw_1656, mw_1657⟩
theorem dX1_digitsOfPages_0 : decode cX1_digitsOfPages 0 = .ok (.iconst 0, 1) := by decide +kernel
theorem dX1_digitsOfPages_1 : decode cX1_digitsOfPages 1 = .ok (.istore_n 1, 1) := by decide +kernel
theorem dX1_digitsOfPages_2 : decode cX1_digitsOfPages 2 = .ok (.iconst 0, 1) := by decide +kernel
theorem dX1_digitsOfPages_3 : decode cX1_digitsOfPages 3 = .ok (.istore_n 2, 1) := by decide +kernel
theorem dX1_digitsOfPages_4 : decode cX1_digitsOfPages 4 = .ok (.iload_n 2, 1) := by decide +kernel
theorem dX1_digitsOfPages_5 : decode cX1_digitsOfPages 5 = .ok (.bipush 6, 2) := by decide +kernel
theorem dX1_digitsOfPages_7 : decode cX1_digitsOfPages 7 = .ok (.if_icmp .ge 47, 3) := by decide +kernel
theorem dX1_digitsOfPages_10 : decode cX1_digitsOfPages 10 = .ok (.aload_n 0, 1) := by decide +kernel
theorem dX1_digitsOfPages_11 : decode cX1_digitsOfPages 11 = .ok (.iload_n 2, 1) := by decide +kernel
theorem dX1_digitsOfPages_12 : decode cX1_digitsOfPages 12 = .ok (.invokevirtual 156, 3) := by decide +kernel
theorem dX1_digitsOfPages_15 : decode cX1_digitsOfPages 15 = .ok (.istore_n 3, 1) := by decide +kernel
theorem dX1_digitsOfPages_16 : decode cX1_digitsOfPages 16 = .ok (.iload_n 3, 1) := by decide +kernel
theorem dX1_digitsOfPages_17 : decode cX1_digitsOfPages 17 = .ok (.bipush 10, 2) := by decide +kernel
theorem dX1_digitsOfPages_19 : decode cX1_digitsOfPages 19 = .ok (.if_icmp .ge 7, 3) := by decide +kernel
theorem dX1_digitsOfPages_22 : decode cX1_digitsOfPages 22 = .ok (.iconst 1, 1) := by decide +kernel
theorem dX1_digitsOfPages_23 : decode cX1_digitsOfPages 23 = .ok (.goto 14, 3) := by decide +kernel
theorem dX1_digitsOfPages_26 : decode cX1_digitsOfPages 26 = .ok (.iload_n 3, 1) := by decide +kernel
theorem dX1_digitsOfPages_27 : decode cX1_digitsOfPages 27 = .ok (.bipush 100, 2) := by decide +kernel
theorem dX1_digitsOfPages_29 : decode cX1_digitsOfPages 29 = .ok (.if_icmp .ge 7, 3) := by decide +kernel
theorem dX1_digitsOfPages_32 : decode cX1_digitsOfPages 32 = .ok (.iconst 2, 1) := by decide +kernel
theorem dX1_digitsOfPages_33 : decode cX1_digitsOfPages 33 = .ok (.goto 4, 3) := by decide +kernel
theorem dX1_digitsOfPages_36 : decode cX1_digitsOfPages 36 = .ok (.iconst 3, 1) := by decide +kernel
theorem dX1_digitsOfPages_37 : decode cX1_digitsOfPages 37 = .ok (.istore 4, 2) := by decide +kernel
theorem dX1_digitsOfPages_39 : decode cX1_digitsOfPages 39 = .ok (.iload_n 1, 1) := by decide +kernel
theorem dX1_digitsOfPages_40 : decode cX1_digitsOfPages 40 = .ok (.iload 4, 2) := by decide +kernel
theorem dX1_digitsOfPages_42 : decode cX1_digitsOfPages 42 = .ok (.iconst 2, 1) := by decide +kernel
theorem dX1_digitsOfPages_43 : decode cX1_digitsOfPages 43 = .ok (.iload_n 2, 1) := by decide +kernel
theorem dX1_digitsOfPages_44 : decode cX1_digitsOfPages 44 = .ok (.imul, 1) := by decide +kernel
theorem dX1_digitsOfPages_45 : decode cX1_digitsOfPages 45 = .ok (.ishl, 1) := by decide +kernel
theorem dX1_digitsOfPages_46 : decode cX1_digitsOfPages 46 = .ok (.ior, 1) := by decide +kernel
theorem dX1_digitsOfPages_47 : decode cX1_digitsOfPages 47 = .ok (.istore_n 1, 1) := by decide +kernel
theorem dX1_digitsOfPages_48 : decode cX1_digitsOfPages 48 = .ok (.iinc 2 1, 3) := by decide +kernel
theorem dX1_digitsOfPages_51 : decode cX1_digitsOfPages 51 = .ok (.goto (-47), 3) := by decide +kernel
theorem dX1_digitsOfPages_54 : decode cX1_digitsOfPages 54 = .ok (.iload_n 1, 1) := by decide +kernel
theorem dX1_digitsOfPages_55 : decode cX1_digitsOfPages 55 = .ok (.ireturn, 1) := by decide +kernel
set_option maxHeartbeats 4000000 in
set_option maxRecDepth 100000 in
theorem k_digitsOfPages (l : Launch) (dC : Nat → ClassId) (dI : Nat → Nat → Nat) (k : Nat → ClassId) (ly : Nat) (ln : Nat) (rw : Nat) (pp : Nat) (l1 : Nat) (l2 : Nat) (l3 : Nat) (l4 : Nat) (l5 : Nat) (l6 : Nat) (l7 : Nat) (v : Int) (gO : Int) (iL : Int) (nR : Int) (sT : Int) (dg : Int) (m1 : Int → Int) (m2 : Int → Int) (m3 : Int → Int) (m4 : Int → Int) (m5 : Int → Int) (m6 : Int → Int) (m7 : Int → Int) (pg : Nat) (so : Nat) (p1 : Nat) (p2 : Nat) (p3 : Nat) (p4 : Nat) (p5 : Nat) (p6 : Nat) (T : Nat → Int → Int → Int → Int) (A : Nat → Int → Int → Nat) (X : Nat → Int → Int → Int) (tl : va_W) (M : Nat → Int → Int) (V : Nat → Int → Int) (Aw : Nat → Nat) (f1 : Int → Int) (f2 : Int → Int) (f3 : Int → Int) (f4 : Int → Int) (f5 : Int → Int) (f6 : Int → Int) (P : Nat → Int → Int) (hT : TI dI k T A X tl) (hK : TK T) (hR : RI k (T 0 0 0 0) M V Aw tl) (hM : MK M) (hMT : ∀ j, 0 ≤ j → j < M 0 0 → M 2 j < T 0 0 0 0) (hPA : PA P (M 0 0) f1 f2 f3 f4 f5 f6) (hP5 : P5i P) (hL10 : ∀ j, 0 ≤ j → j < 6 → M 10 j < M 0 0) : Kn l dC dI k yX1_digitsOfPages (.code yX1_digitsOfPages cX1_digitsOfPages 5 (some .int)) ({ frames := 2, cells := 0, slots := 0, locals := 42 } : Room) [.ref ly] ([(ly, .inr (1, [.ref (A 50 0 0), .int (iI v), .ref ln, .ref (Aw 20), .ref pp, .int (iI gO), .int (iI iL), .ref l1, .ref l2, .ref l3, .ref l4, .ref l5, .ref l6, .int (iI nR), .int (iI sT), .int (iI dg), .ref l7])), (pp, .inr (4, [.ref (A 50 0 0), .ref (Aw 20), .ref pg, .ref so, .int (iI (P 0 0)), .int (iI (P 0 1)), .ref p1, .ref p2, .ref p3, .ref p4, .ref p5, .ref p6])), (p1, .inl (k 0, 965, .inl (fun i9 : Nat => iI (f1 i9)))), (p2, .inl (k 0, 965, .inl (fun i9 : Nat => iI (f2 i9)))), (p3, .inl (k 0, 965, .inl (fun i9 : Nat => iI (f3 i9)))), (p4, .inl (k 0, 965, .inl (fun i9 : Nat => iI (f4 i9)))), (p5, .inl (k 0, 768, .inl (fun i9 : Nat => iI (f5 i9)))), (p6, .inl (k 0, 5, .inl (fun i9 : Nat => iI (f6 i9))))] ++ tl) (fun r w gc gs => ((0 ≤ dgF M P 6 ∧ dgF M P 6 < 4096) ∧ r = some (.int (iI (dgF M P 6))) ∧ w = ([(ly, .inr (1, [.ref (A 50 0 0), .int (iI v), .ref ln, .ref (Aw 20), .ref pp, .int (iI gO), .int (iI iL), .ref l1, .ref l2, .ref l3, .ref l4, .ref l5, .ref l6, .int (iI nR), .int (iI sT), .int (iI dg), .ref l7])), (pp, .inr (4, [.ref (A 50 0 0), .ref (Aw 20), .ref pg, .ref so, .int (iI (P 0 0)), .int (iI (P 0 1)), .ref p1, .ref p2, .ref p3, .ref p4, .ref p5, .ref p6])), (p1, .inl (k 0, 965, .inl (fun i9 : Nat => iI (f1 i9)))), (p2, .inl (k 0, 965, .inl (fun i9 : Nat => iI (f2 i9)))), (p3, .inl (k 0, 965, .inl (fun i9 : Nat => iI (f3 i9)))), (p4, .inl (k 0, 965, .inl (fun i9 : Nat => iI (f4 i9)))), (p5, .inl (k 0, 768, .inl (fun i9 : Nat => iI (f5 i9)))), (p6, .inl (k 0, 5, .inl (fun i9 : Nat => iI (f6 i9))))] ++ tl) ∧ gc = 0 ∧ gs = 0)) := by
  refine kn_of (by decide) (Nat.le_of_ble_eq_true rfl) ?_
  intro p e s m args below meth c H locs B hr hnm ls hl
  have hx := B.1.1
  have hb := B.1.2.1
  have hl : lv_has ls 5 [(0, .ref ly)] := hl
  have hn0 := MK_cnt hM
  have hf0 := MK_17 hM
  refine lv_iconst (v := iI 0) hx hb dX1_digitsOfPages_0 (by decide) ?_
  refine lv_istore_n (lv' := [(1, .int (iI 0)), (0, .ref ly)]) hx hb dX1_digitsOfPages_1 rfl hl (by decide) rfl (fun ls hl => ?_)
  refine lv_iconst (v := iI 0) hx hb dX1_digitsOfPages_2 (by decide) ?_
  refine lv_istore_n (lv' := [(2, .int (iI 0)), (1, .int (iI 0)), (0, .ref ly)]) hx hb dX1_digitsOfPages_3 rfl hl (by decide) rfl (fun ls hl => ?_)
  refine k_loop (σ := Int × Int) B (fun g9 : Int × Int => (0 ≤ g9.1 ∧ g9.1 ≤ 6 ∧ 0 ≤ g9.2 ∧ g9.2 < 4096) ∧ (g9.2 = dgF M P (Int.toNat g9.1))) (fun g9 : Int × Int => (6 - g9.1).toNat) (fun g9 : Int × Int => [(2, .int (iI g9.1)), (1, .int (iI g9.2)), (0, .ref ly)]) (fun g9 : Int × Int => ([(ly, .inr (1, [.ref (A 50 0 0), .int (iI v), .ref ln, .ref (Aw 20), .ref pp, .int (iI gO), .int (iI iL), .ref l1, .ref l2, .ref l3, .ref l4, .ref l5, .ref l6, .int (iI nR), .int (iI sT), .int (iI dg), .ref l7])), (pp, .inr (4, [.ref (A 50 0 0), .ref (Aw 20), .ref pg, .ref so, .int (iI (P 0 0)), .int (iI (P 0 1)), .ref p1, .ref p2, .ref p3, .ref p4, .ref p5, .ref p6])), (p1, .inl (k 0, 965, .inl (fun i9 : Nat => iI (f1 i9)))), (p2, .inl (k 0, 965, .inl (fun i9 : Nat => iI (f2 i9)))), (p3, .inl (k 0, 965, .inl (fun i9 : Nat => iI (f3 i9)))), (p4, .inl (k 0, 965, .inl (fun i9 : Nat => iI (f4 i9)))), (p5, .inl (k 0, 768, .inl (fun i9 : Nat => iI (f5 i9)))), (p6, .inl (k 0, 5, .inl (fun i9 : Nat => iI (f6 i9))))] ++ tl)) ?_ (0, 0) ⟨(show 0 ≤ 0 ∧ 0 ≤ 6 ∧ 0 ≤ 0 ∧ 0 < 4096 from (by omega)), (show 0 = dgF M P (Int.toNat 0) from rfl)⟩ ls H locs (lv_sub hl [0, 1, 2] rfl) (bd_to rfl B)
  clear hl B
  rintro ⟨pq, gv⟩ ⟨hk, hgv⟩ ih_1 ls H locs hl B
  have hk : 0 ≤ pq ∧ pq ≤ 6 ∧ 0 ≤ gv ∧ gv < 4096 := hk
  have hgv : gv = dgF M P (Int.toNat pq) := hgv
  have hl : lv_has ls 5 [(2, .int (iI pq)), (1, .int (iI gv)), (0, .ref ly)] := hl
  have B := bd_to (ws' := ([(ly, .inr (1, [.ref (A 50 0 0), .int (iI v), .ref ln, .ref (Aw 20), .ref pp, .int (iI gO), .int (iI iL), .ref l1, .ref l2, .ref l3, .ref l4, .ref l5, .ref l6, .int (iI nR), .int (iI sT), .int (iI dg), .ref l7])), (pp, .inr (4, [.ref (A 50 0 0), .ref (Aw 20), .ref pg, .ref so, .int (iI (P 0 0)), .int (iI (P 0 1)), .ref p1, .ref p2, .ref p3, .ref p4, .ref p5, .ref p6])), (p1, .inl (k 0, 965, .inl (fun i9 : Nat => iI (f1 i9)))), (p2, .inl (k 0, 965, .inl (fun i9 : Nat => iI (f2 i9)))), (p3, .inl (k 0, 965, .inl (fun i9 : Nat => iI (f3 i9)))), (p4, .inl (k 0, 965, .inl (fun i9 : Nat => iI (f4 i9)))), (p5, .inl (k 0, 768, .inl (fun i9 : Nat => iI (f5 i9)))), (p6, .inl (k 0, 5, .inl (fun i9 : Nat => iI (f6 i9))))] ++ tl)) rfl B
  refine lv_iload_n hx hb dX1_digitsOfPages_4 rfl (lv_at hl 0 rfl) ?_
  refine lv_bipush (v := iI 6) hx hb dX1_digitsOfPages_5 (by decide) ?_
  refine lv_icmp_ge (tgt := 54) hx hb dX1_digitsOfPages_7 (by decide) (fun c_2 => ?_) (fun c_2 => ?_)
  · have zc_2 : 6 ≤ pq := jle (a := 6) (b := pq) (by omega) (by omega) c_2
    refine lv_iload_n hx hb dX1_digitsOfPages_54 rfl (lv_at hl 1 rfl) ?_
    have e_3 : (dgF M P 6) = gv := (by rw [hgv, show Int.toNat pq = 6 by omega])
    skip
    exact k_iret B hr (⟨(by have e9 : Int.toNat pq = 6 := (by omega); rw [e9] at hgv; omega), (by rw [e_3]), rfl, rfl, rfl⟩) ⟨Nat.le_of_ble_eq_true rfl, Nat.le_of_ble_eq_true rfl⟩ ⟨Nat.le_of_ble_eq_true rfl, Nat.le_of_ble_eq_true rfl⟩ dX1_digitsOfPages_55
  · have zc_2 : pq < 6 := jnle (a := 6) (b := pq) (by omega) (by omega) c_2
    refine lv_aload_n hx hb dX1_digitsOfPages_10 rfl (lv_at hl 2 rfl) ?_
    refine lv_iload_n hx hb dX1_digitsOfPages_11 rfl (lv_at hl 0 rfl) ?_
    have B := bd_swap (a := [(ly, .inr (1, [.ref (A 50 0 0), .int (iI v), .ref ln, .ref (Aw 20), .ref pp, .int (iI gO), .int (iI iL), .ref l1, .ref l2, .ref l3, .ref l4, .ref l5, .ref l6, .int (iI nR), .int (iI sT), .int (iI dg), .ref l7])), (pp, .inr (4, [.ref (A 50 0 0), .ref (Aw 20), .ref pg, .ref so, .int (iI (P 0 0)), .int (iI (P 0 1)), .ref p1, .ref p2, .ref p3, .ref p4, .ref p5, .ref p6])), (p1, .inl (k 0, 965, .inl (fun i9 : Nat => iI (f1 i9)))), (p2, .inl (k 0, 965, .inl (fun i9 : Nat => iI (f2 i9)))), (p3, .inl (k 0, 965, .inl (fun i9 : Nat => iI (f3 i9)))), (p4, .inl (k 0, 965, .inl (fun i9 : Nat => iI (f4 i9)))), (p5, .inl (k 0, 768, .inl (fun i9 : Nat => iI (f5 i9)))), (p6, .inl (k 0, 5, .inl (fun i9 : Nat => iI (f6 i9))))]) (b := []) (d := tl) (bd_to rfl B)
    refine k_V (rest := []) (wc := ([(ly, .inr (1, [.ref (A 50 0 0), .int (iI v), .ref ln, .ref (Aw 20), .ref pp, .int (iI gO), .int (iI iL), .ref l1, .ref l2, .ref l3, .ref l4, .ref l5, .ref l6, .int (iI nR), .int (iI sT), .int (iI dg), .ref l7])), (pp, .inr (4, [.ref (A 50 0 0), .ref (Aw 20), .ref pg, .ref so, .int (iI (P 0 0)), .int (iI (P 0 1)), .ref p1, .ref p2, .ref p3, .ref p4, .ref p5, .ref p6])), (p1, .inl (k 0, 965, .inl (fun i9 : Nat => iI (f1 i9)))), (p2, .inl (k 0, 965, .inl (fun i9 : Nat => iI (f2 i9)))), (p3, .inl (k 0, 965, .inl (fun i9 : Nat => iI (f3 i9)))), (p4, .inl (k 0, 965, .inl (fun i9 : Nat => iI (f4 i9)))), (p5, .inl (k 0, 768, .inl (fun i9 : Nat => iI (f5 i9)))), (p6, .inl (k 0, 5, .inl (fun i9 : Nat => iI (f6 i9))))] ++ tl)) (wr := []) (k_pageOfLabel l dC dI k ly ln rw pp l1 l2 l3 l4 l5 l6 l7 v gO iL nR sT dg m1 m2 m3 m4 m5 m6 m7 pg so p1 p2 p3 p4 p5 p6 T A X tl M V Aw f1 f2 f3 f4 f5 f6 P pq hT hK hR hM hMT hPA hP5 hL10 (by omega)) B mV_X1_pageOfLabel mw_1655 hl (q0 := 0) rfl rfl rfl ⟨Nat.le_of_ble_eq_true rfl, Nat.le_of_ble_eq_true rfl⟩ (Nat.le_of_ble_eq_true rfl) rfl dX1_digitsOfPages_12 ⟨Nat.le_of_ble_eq_true rfl, Nat.le_of_ble_eq_true rfl⟩ (fun r w gc gs H locs hp B => ?_)
    obtain ⟨z_4, rfl, hw9, rfl, rfl⟩ := hp
    rw [hw9] at B; clear hw9
    have B := bd_to (ws' := ([(ly, .inr (1, [.ref (A 50 0 0), .int (iI v), .ref ln, .ref (Aw 20), .ref pp, .int (iI gO), .int (iI iL), .ref l1, .ref l2, .ref l3, .ref l4, .ref l5, .ref l6, .int (iI nR), .int (iI sT), .int (iI dg), .ref l7])), (pp, .inr (4, [.ref (A 50 0 0), .ref (Aw 20), .ref pg, .ref so, .int (iI (P 0 0)), .int (iI (P 0 1)), .ref p1, .ref p2, .ref p3, .ref p4, .ref p5, .ref p6])), (p1, .inl (k 0, 965, .inl (fun i9 : Nat => iI (f1 i9)))), (p2, .inl (k 0, 965, .inl (fun i9 : Nat => iI (f2 i9)))), (p3, .inl (k 0, 965, .inl (fun i9 : Nat => iI (f3 i9)))), (p4, .inl (k 0, 965, .inl (fun i9 : Nat => iI (f4 i9)))), (p5, .inl (k 0, 768, .inl (fun i9 : Nat => iI (f5 i9)))), (p6, .inl (k 0, 5, .inl (fun i9 : Nat => iI (f6 i9))))] ++ tl)) rfl B
    refine lv_istore_n (lv' := [(3, .int (iI (lbZ M P pq))), (2, .int (iI pq)), (1, .int (iI gv)), (0, .ref ly)]) hx hb dX1_digitsOfPages_15 rfl hl (by decide) rfl (fun ls hl => ?_)
    refine lv_iload_n hx hb dX1_digitsOfPages_16 rfl (lv_at hl 0 rfl) ?_
    refine lv_bipush (v := iI 10) hx hb dX1_digitsOfPages_17 (by decide) ?_
    refine lv_icmp_ge (tgt := 26) hx hb dX1_digitsOfPages_19 (by decide) (fun c_5 => ?_) (fun c_5 => ?_)
    · have zc_5 : 10 ≤ (lbZ M P pq) := jle (a := 10) (b := (lbZ M P pq)) (by omega) (by omega) c_5
      refine lv_iload_n hx hb dX1_digitsOfPages_26 rfl (lv_at hl 0 rfl) ?_
      refine lv_bipush (v := iI 100) hx hb dX1_digitsOfPages_27 (by decide) ?_
      refine lv_icmp_ge (tgt := 36) hx hb dX1_digitsOfPages_29 (by decide) (fun c_6 => ?_) (fun c_6 => ?_)
      · have zc_6 : 100 ≤ (lbZ M P pq) := jle (a := 100) (b := (lbZ M P pq)) (by omega) (by omega) c_6
        refine lv_iconst (v := iI 3) hx hb dX1_digitsOfPages_36 (by decide) ?_
        refine lv_istore (lv' := [(4, .int (iI 3)), (3, .int (iI (lbZ M P pq))), (2, .int (iI pq)), (1, .int (iI gv)), (0, .ref ly)]) hx hb dX1_digitsOfPages_37 hl (by decide) rfl (fun ls hl => ?_)
        refine lv_iload_n hx hb dX1_digitsOfPages_39 rfl (lv_at hl 3 rfl) ?_
        refine lv_iload hx hb dX1_digitsOfPages_40 (lv_at hl 0 rfl) ?_
        refine lv_iconst (v := iI 2) hx hb dX1_digitsOfPages_42 (by decide) ?_
        refine lv_iload_n hx hb dX1_digitsOfPages_43 rfl (lv_at hl 2 rfl) ?_
        refine y_mul hx hb dX1_digitsOfPages_44 ?_
        have z_7 : 0 < (bShl 3 (2 * pq)) ∧ (bShl 3 (2 * pq)) < 4096 := bShl_dd (by omega) (by omega)
        refine y_shl hx hb (a := 3) (b := (2 * pq)) (by omega) (by omega) (by omega) dX1_digitsOfPages_45 ?_
        refine y_or hx hb (a := gv) (b := (bShl 3 (2 * pq))) (by omega) (by omega) dX1_digitsOfPages_46 ?_
        have z_8 : 0 ≤ (bOr gv (bShl 3 (2 * pq))) ∧ (bOr gv (bShl 3 (2 * pq))) < 4096 := bOr_lt 12 (by omega) (by omega)
        refine lv_istore_n (lv' := [(1, .int (iI (bOr gv (bShl 3 (2 * pq))))), (4, .int (iI 3)), (3, .int (iI (lbZ M P pq))), (2, .int (iI pq)), (0, .ref ly)]) hx hb dX1_digitsOfPages_47 rfl hl (by decide) rfl (fun ls hl => ?_)
        refine lv_iinc (v := iI (pq + 1)) (lv' := [(2, .int (iI (pq + 1))), (1, .int (iI (bOr gv (bShl 3 (2 * pq))))), (4, .int (iI 3)), (3, .int (iI (lbZ M P pq))), (0, .ref ly)]) hx hb dX1_digitsOfPages_48 hl (k := 3) rfl (iI_add _ _) (by decide) rfl (fun ls hl => ?_)
        refine lv_goto (tgt := 4) hx hb dX1_digitsOfPages_51 (by decide) ?_
        exact ih_1 ((pq + 1), (bOr gv (bShl 3 (2 * pq)))) ⟨(show 0 ≤ (pq + 1) ∧ (pq + 1) ≤ 6 ∧ 0 ≤ (bOr gv (bShl 3 (2 * pq))) ∧ (bOr gv (bShl 3 (2 * pq))) < 4096 from (by omega)), (show (bOr gv (bShl 3 (2 * pq))) = dgF M P (Int.toNat (pq + 1)) from (by rw [dgF_s (by omega), ← hgv, show ddZ (lbZ M P pq) = 3 from by unfold ddZ; first | (rw [if_pos (by omega)]; done) | (rw [if_neg (by omega), if_pos (by omega)]; done) | (rw [if_neg (by omega), if_neg (by omega)])]))⟩ (by first | omega | (dsimp only; omega)) _ _ _ (lv_sub hl [0, 1, 4] rfl) (bd_to rfl B)
      · have zc_6 : (lbZ M P pq) < 100 := jnle (a := 100) (b := (lbZ M P pq)) (by omega) (by omega) c_6
        refine lv_iconst (v := iI 2) hx hb dX1_digitsOfPages_32 (by decide) ?_
        refine lv_goto (tgt := 37) hx hb dX1_digitsOfPages_33 (by decide) ?_
        refine lv_istore (lv' := [(4, .int (iI 2)), (3, .int (iI (lbZ M P pq))), (2, .int (iI pq)), (1, .int (iI gv)), (0, .ref ly)]) hx hb dX1_digitsOfPages_37 hl (by decide) rfl (fun ls hl => ?_)
        refine lv_iload_n hx hb dX1_digitsOfPages_39 rfl (lv_at hl 3 rfl) ?_
        refine lv_iload hx hb dX1_digitsOfPages_40 (lv_at hl 0 rfl) ?_
        refine lv_iconst (v := iI 2) hx hb dX1_digitsOfPages_42 (by decide) ?_
        refine lv_iload_n hx hb dX1_digitsOfPages_43 rfl (lv_at hl 2 rfl) ?_
        refine y_mul hx hb dX1_digitsOfPages_44 ?_
        have z_9 : 0 < (bShl 2 (2 * pq)) ∧ (bShl 2 (2 * pq)) < 4096 := bShl_dd (by omega) (by omega)
        refine y_shl hx hb (a := 2) (b := (2 * pq)) (by omega) (by omega) (by omega) dX1_digitsOfPages_45 ?_
        refine y_or hx hb (a := gv) (b := (bShl 2 (2 * pq))) (by omega) (by omega) dX1_digitsOfPages_46 ?_
        have z_10 : 0 ≤ (bOr gv (bShl 2 (2 * pq))) ∧ (bOr gv (bShl 2 (2 * pq))) < 4096 := bOr_lt 12 (by omega) (by omega)
        refine lv_istore_n (lv' := [(1, .int (iI (bOr gv (bShl 2 (2 * pq))))), (4, .int (iI 2)), (3, .int (iI (lbZ M P pq))), (2, .int (iI pq)), (0, .ref ly)]) hx hb dX1_digitsOfPages_47 rfl hl (by decide) rfl (fun ls hl => ?_)
        refine lv_iinc (v := iI (pq + 1)) (lv' := [(2, .int (iI (pq + 1))), (1, .int (iI (bOr gv (bShl 2 (2 * pq))))), (4, .int (iI 2)), (3, .int (iI (lbZ M P pq))), (0, .ref ly)]) hx hb dX1_digitsOfPages_48 hl (k := 3) rfl (iI_add _ _) (by decide) rfl (fun ls hl => ?_)
        refine lv_goto (tgt := 4) hx hb dX1_digitsOfPages_51 (by decide) ?_
        exact ih_1 ((pq + 1), (bOr gv (bShl 2 (2 * pq)))) ⟨(show 0 ≤ (pq + 1) ∧ (pq + 1) ≤ 6 ∧ 0 ≤ (bOr gv (bShl 2 (2 * pq))) ∧ (bOr gv (bShl 2 (2 * pq))) < 4096 from (by omega)), (show (bOr gv (bShl 2 (2 * pq))) = dgF M P (Int.toNat (pq + 1)) from (by rw [dgF_s (by omega), ← hgv, show ddZ (lbZ M P pq) = 2 from by unfold ddZ; first | (rw [if_pos (by omega)]; done) | (rw [if_neg (by omega), if_pos (by omega)]; done) | (rw [if_neg (by omega), if_neg (by omega)])]))⟩ (by first | omega | (dsimp only; omega)) _ _ _ (lv_sub hl [0, 1, 4] rfl) (bd_to rfl B)
    · have zc_5 : (lbZ M P pq) < 10 := jnle (a := 10) (b := (lbZ M P pq)) (by omega) (by omega) c_5
      refine lv_iconst (v := iI 1) hx hb dX1_digitsOfPages_22 (by decide) ?_
      refine lv_goto (tgt := 37) hx hb dX1_digitsOfPages_23 (by decide) ?_
      refine lv_istore (lv' := [(4, .int (iI 1)), (3, .int (iI (lbZ M P pq))), (2, .int (iI pq)), (1, .int (iI gv)), (0, .ref ly)]) hx hb dX1_digitsOfPages_37 hl (by decide) rfl (fun ls hl => ?_)
      refine lv_iload_n hx hb dX1_digitsOfPages_39 rfl (lv_at hl 3 rfl) ?_
      refine lv_iload hx hb dX1_digitsOfPages_40 (lv_at hl 0 rfl) ?_
      refine lv_iconst (v := iI 2) hx hb dX1_digitsOfPages_42 (by decide) ?_
      refine lv_iload_n hx hb dX1_digitsOfPages_43 rfl (lv_at hl 2 rfl) ?_
      refine y_mul hx hb dX1_digitsOfPages_44 ?_
      have z_11 : 0 < (bShl 1 (2 * pq)) ∧ (bShl 1 (2 * pq)) < 4096 := bShl_dd (by omega) (by omega)
      refine y_shl hx hb (a := 1) (b := (2 * pq)) (by omega) (by omega) (by omega) dX1_digitsOfPages_45 ?_
      refine y_or hx hb (a := gv) (b := (bShl 1 (2 * pq))) (by omega) (by omega) dX1_digitsOfPages_46 ?_
      have z_12 : 0 ≤ (bOr gv (bShl 1 (2 * pq))) ∧ (bOr gv (bShl 1 (2 * pq))) < 4096 := bOr_lt 12 (by omega) (by omega)
      refine lv_istore_n (lv' := [(1, .int (iI (bOr gv (bShl 1 (2 * pq))))), (4, .int (iI 1)), (3, .int (iI (lbZ M P pq))), (2, .int (iI pq)), (0, .ref ly)]) hx hb dX1_digitsOfPages_47 rfl hl (by decide) rfl (fun ls hl => ?_)
      refine lv_iinc (v := iI (pq + 1)) (lv' := [(2, .int (iI (pq + 1))), (1, .int (iI (bOr gv (bShl 1 (2 * pq))))), (4, .int (iI 1)), (3, .int (iI (lbZ M P pq))), (0, .ref ly)]) hx hb dX1_digitsOfPages_48 hl (k := 3) rfl (iI_add _ _) (by decide) rfl (fun ls hl => ?_)
      refine lv_goto (tgt := 4) hx hb dX1_digitsOfPages_51 (by decide) ?_
      exact ih_1 ((pq + 1), (bOr gv (bShl 1 (2 * pq)))) ⟨(show 0 ≤ (pq + 1) ∧ (pq + 1) ≤ 6 ∧ 0 ≤ (bOr gv (bShl 1 (2 * pq))) ∧ (bOr gv (bShl 1 (2 * pq))) < 4096 from (by omega)), (show (bOr gv (bShl 1 (2 * pq))) = dgF M P (Int.toNat (pq + 1)) from (by rw [dgF_s (by omega), ← hgv, show ddZ (lbZ M P pq) = 1 from by unfold ddZ; first | (rw [if_pos (by omega)]; done) | (rw [if_neg (by omega), if_pos (by omega)]; done) | (rw [if_neg (by omega), if_neg (by omega)])]))⟩ (by first | omega | (dsimp only; omega)) _ _ _ (lv_sub hl [0, 1, 4] rfl) (bd_to rfl B)

theorem mw_430 : (Jvm.Cond.fieldLink "Galleyforge$Layout" (76 : Nat) "Galleyforge$Layout" "rounds" "I") ∈ gt := gt_at 500 (by decide +kernel) (by decide +kernel)
theorem mw_435 : (Jvm.Cond.fieldLink "Galleyforge$Layout" (40 : Nat) "Galleyforge$Layout" "digitsOfRounds" "[I") ∈ gt := gt_at 505 (by decide +kernel) (by decide +kernel)
theorem dX1_roundWith_0 : decode cX1_roundWith 0 = .ok (.iconst 0, 1) := by decide +kernel
theorem dX1_roundWith_1 : decode cX1_roundWith 1 = .ok (.istore_n 2, 1) := by decide +kernel
theorem dX1_roundWith_2 : decode cX1_roundWith 2 = .ok (.iload_n 2, 1) := by decide +kernel
theorem dX1_roundWith_3 : decode cX1_roundWith 3 = .ok (.aload_n 0, 1) := by decide +kernel
theorem dX1_roundWith_4 : decode cX1_roundWith 4 = .ok (.getfield 76, 3) := by decide +kernel
theorem dX1_roundWith_7 : decode cX1_roundWith 7 = .ok (.if_icmp .ge 28, 3) := by decide +kernel
theorem dX1_roundWith_10 : decode cX1_roundWith 10 = .ok (.iload_n 2, 1) := by decide +kernel
theorem dX1_roundWith_11 : decode cX1_roundWith 11 = .ok (.sipush 730, 3) := by decide +kernel
theorem dX1_roundWith_14 : decode cX1_roundWith 14 = .ok (.if_icmp .ge 21, 3) := by decide +kernel
theorem dX1_roundWith_17 : decode cX1_roundWith 17 = .ok (.aload_n 0, 1) := by decide +kernel
theorem dX1_roundWith_18 : decode cX1_roundWith 18 = .ok (.getfield 40, 3) := by decide +kernel
theorem dX1_roundWith_21 : decode cX1_roundWith 21 = .ok (.iload_n 2, 1) := by decide +kernel
theorem dX1_roundWith_22 : decode cX1_roundWith 22 = .ok (.iaload, 1) := by decide +kernel
theorem dX1_roundWith_23 : decode cX1_roundWith 23 = .ok (.iload_n 1, 1) := by decide +kernel
theorem dX1_roundWith_24 : decode cX1_roundWith 24 = .ok (.if_icmp .ne 5, 3) := by decide +kernel
theorem dX1_roundWith_27 : decode cX1_roundWith 27 = .ok (.iload_n 2, 1) := by decide +kernel
theorem dX1_roundWith_28 : decode cX1_roundWith 28 = .ok (.ireturn, 1) := by decide +kernel
theorem dX1_roundWith_29 : decode cX1_roundWith 29 = .ok (.iinc 2 1, 3) := by decide +kernel
theorem dX1_roundWith_32 : decode cX1_roundWith 32 = .ok (.goto (-30), 3) := by decide +kernel
theorem dX1_roundWith_35 : decode cX1_roundWith 35 = .ok (.iconst (-1), 1) := by decide +kernel
theorem dX1_roundWith_36 : decode cX1_roundWith 36 = .ok (.ireturn, 1) := by decide +kernel
set_option maxHeartbeats 4000000 in
set_option maxRecDepth 100000 in
theorem k_roundWith (l : Launch) (dC : Nat → ClassId) (dI : Nat → Nat → Nat) (k : Nat → ClassId) (ly : Nat) (ln : Nat) (rw : Nat) (pp : Nat) (l1 : Nat) (l2 : Nat) (l3 : Nat) (l4 : Nat) (l5 : Nat) (l6 : Nat) (l7 : Nat) (v : Int) (gO : Int) (iL : Int) (nR : Int) (sT : Int) (dg : Int) (m1 : Int → Int) (m2 : Int → Int) (m3 : Int → Int) (m4 : Int → Int) (m5 : Int → Int) (m6 : Int → Int) (m7 : Int → Int) (A : Nat → Int → Int → Nat) (D7 : Int → Int) (gv : Int) (hD : ∀ j, 0 ≤ j → j < nR → j < 730 → m7 j = D7 j ∧ 0 ≤ D7 j ∧ D7 j < 4096) (hnr : 0 ≤ nR ∧ nR ≤ 100000) (h1 : 0 ≤ gv ∧ gv < 4096) : Kn l dC dI k yX1_roundWith (.code yX1_roundWith cX1_roundWith 3 (some .int)) ({ frames := 0, cells := 0, slots := 0, locals := 0 } : Room) [.ref ly, .int (iI gv)] [(ly, .inr (1, [.ref (A 50 0 0), .int (iI v), .ref ln, .ref rw, .ref pp, .int (iI gO), .int (iI iL), .ref l1, .ref l2, .ref l3, .ref l4, .ref l5, .ref l6, .int (iI nR), .int (iI sT), .int (iI dg), .ref l7])), (l7, .inl (k 0, 730, .inl (fun i9 : Nat => iI (m7 i9))))] (fun r w gc gs => ((-1 ≤ rwZ D7 gv nR ∧ rwZ D7 gv nR < nR) ∧ r = some (.int (iI (rwZ D7 gv nR))) ∧ w = [(ly, .inr (1, [.ref (A 50 0 0), .int (iI v), .ref ln, .ref rw, .ref pp, .int (iI gO), .int (iI iL), .ref l1, .ref l2, .ref l3, .ref l4, .ref l5, .ref l6, .int (iI nR), .int (iI sT), .int (iI dg), .ref l7])), (l7, .inl (k 0, 730, .inl (fun i9 : Nat => iI (m7 i9))))] ∧ gc = 0 ∧ gs = 0)) := by
  refine kn_of (by decide) (Nat.le_of_ble_eq_true rfl) ?_
  intro p e s m args below meth c H locs B hr hnm ls hl
  have hx := B.1.1
  have hb := B.1.2.1
  have hl : lv_has ls 3 [(0, .ref ly), (1, .int (iI gv))] := hl
  refine lv_iconst (v := iI 0) hx hb dX1_roundWith_0 (by decide) ?_
  refine lv_istore_n (lv' := [(2, .int (iI 0)), (0, .ref ly), (1, .int (iI gv))]) hx hb dX1_roundWith_1 rfl hl (by decide) rfl (fun ls hl => ?_)
  refine k_loop (σ := Int) B (fun g9 : Int => (0 ≤ g9 ∧ g9 ≤ nR ∧ g9 ≤ 730) ∧ (rwF D7 gv (Int.toNat (min nR 730 - g9)) g9 = rwF D7 gv (Int.toNat (min nR 730)) 0)) (fun g9 : Int => (nR - g9).toNat) (fun g9 : Int => [(2, .int (iI g9)), (0, .ref ly), (1, .int (iI gv))]) (fun g9 : Int => [(ly, .inr (1, [.ref (A 50 0 0), .int (iI v), .ref ln, .ref rw, .ref pp, .int (iI gO), .int (iI iL), .ref l1, .ref l2, .ref l3, .ref l4, .ref l5, .ref l6, .int (iI nR), .int (iI sT), .int (iI dg), .ref l7])), (l7, .inl (k 0, 730, .inl (fun i9 : Nat => iI (m7 i9))))]) ?_ 0 ⟨(show 0 ≤ 0 ∧ 0 ≤ nR ∧ 0 ≤ 730 from (by omega)), (show rwF D7 gv (Int.toNat (min nR 730 - 0)) 0 = rwF D7 gv (Int.toNat (min nR 730)) 0 from (by rw [show min nR 730 - 0 = min nR 730 by omega]))⟩ ls H locs (lv_sub hl [0, 1, 2] rfl) (bd_to rfl B)
  clear hl B
  rintro pq ⟨hk, hq⟩ ih_1 ls H locs hl B
  have hl : lv_has ls 3 [(2, .int (iI pq)), (0, .ref ly), (1, .int (iI gv))] := hl
  have B := bd_to (ws' := [(ly, .inr (1, [.ref (A 50 0 0), .int (iI v), .ref ln, .ref rw, .ref pp, .int (iI gO), .int (iI iL), .ref l1, .ref l2, .ref l3, .ref l4, .ref l5, .ref l6, .int (iI nR), .int (iI sT), .int (iI dg), .ref l7])), (l7, .inl (k 0, 730, .inl (fun i9 : Nat => iI (m7 i9))))]) rfl B
  refine lv_iload_n hx hb dX1_roundWith_2 rfl (lv_at hl 0 rfl) ?_
  refine lv_aload_n hx hb dX1_roundWith_3 rfl (lv_at hl 1 rfl) ?_
  refine x_get (ci := 1) (C := RX1) (T := TX1) (N := 17) (v := .int (iI nR)) B 0 rfl rfl in_X1 13 (by decide) mw_430 (fun _ h9 => h9) rfl dX1_roundWith_4 ?_
  refine lv_icmp_ge (tgt := 35) hx hb dX1_roundWith_7 (by decide) (fun c_2 => ?_) (fun c_2 => ?_)
  · have zc_2 : nR ≤ pq := jle (a := nR) (b := pq) (by omega) (by omega) c_2
    refine lv_iconst (v := iI (-1)) hx hb dX1_roundWith_35 (by decide) ?_
    have e_3 : (rwZ D7 gv nR) = (-1) := (by unfold rwZ; rw [← hq, show Int.toNat (min nR 730 - pq) = 0 by omega]; rfl)
    skip
    exact k_iret B hr (⟨(by have e9 : rwZ D7 gv nR = (-1) := (by unfold rwZ; rw [← hq, show Int.toNat (min nR 730 - pq) = 0 by omega]; rfl); omega), (by rw [e_3]), rfl, rfl, rfl⟩) ⟨Nat.le_of_ble_eq_true rfl, Nat.le_of_ble_eq_true rfl⟩ ⟨Nat.le_of_ble_eq_true rfl, Nat.le_of_ble_eq_true rfl⟩ dX1_roundWith_36
  · have zc_2 : pq < nR := jnle (a := nR) (b := pq) (by omega) (by omega) c_2
    refine lv_iload_n hx hb dX1_roundWith_10 rfl (lv_at hl 0 rfl) ?_
    refine lv_sipush (v := iI 730) hx hb dX1_roundWith_11 (by decide) ?_
    refine lv_icmp_ge (tgt := 35) hx hb dX1_roundWith_14 (by decide) (fun c_4 => ?_) (fun c_4 => ?_)
    · have zc_4 : 730 ≤ pq := jle (a := 730) (b := pq) (by omega) (by omega) c_4
      refine lv_iconst (v := iI (-1)) hx hb dX1_roundWith_35 (by decide) ?_
      have e_5 : (rwZ D7 gv nR) = (-1) := (by unfold rwZ; rw [← hq, show Int.toNat (min nR 730 - pq) = 0 by omega]; rfl)
      skip
      exact k_iret B hr (⟨(by have e9 : rwZ D7 gv nR = (-1) := (by unfold rwZ; rw [← hq, show Int.toNat (min nR 730 - pq) = 0 by omega]; rfl); omega), (by rw [e_5]), rfl, rfl, rfl⟩) ⟨Nat.le_of_ble_eq_true rfl, Nat.le_of_ble_eq_true rfl⟩ ⟨Nat.le_of_ble_eq_true rfl, Nat.le_of_ble_eq_true rfl⟩ dX1_roundWith_36
    · have zc_4 : pq < 730 := jnle (a := 730) (b := pq) (by omega) (by omega) c_4
      refine lv_aload_n hx hb dX1_roundWith_17 rfl (lv_at hl 1 rfl) ?_
      refine x_get (ci := 1) (C := RX1) (T := TX1) (N := 17) (v := .ref l7) B 0 rfl rfl in_X1 16 (by decide) mw_435 (fun _ h9 => h9) rfl dX1_roundWith_18 ?_
      refine lv_iload_n hx hb dX1_roundWith_21 rfl (lv_at hl 0 rfl) ?_
      refine x_iald' (f := m7) (z := pq) B 1 rfl (by omega) dX1_roundWith_22 ?_
      refine lv_seti (y := iI (D7 pq)) (congrArg iI (show m7 pq = D7 pq from (hD _ (by omega) (by omega) (by omega)).1)) ?_
      have z_6 : 0 ≤ D7 pq ∧ D7 pq < 4096 := (hD _ (by omega) (by omega) (by omega)).2
      refine lv_iload_n hx hb dX1_roundWith_23 rfl (lv_at hl 2 rfl) ?_
      refine lv_icmp_ne (tgt := 29) hx hb dX1_roundWith_24 (by decide) (fun c_7 => ?_) (fun c_7 => ?_)
      · have zc_7 : (D7 pq) ≠ gv := jne (a := (D7 pq)) (b := gv) (by omega) (by omega) c_7
        refine lv_iinc (v := iI (pq + 1)) (lv' := [(2, .int (iI (pq + 1))), (0, .ref ly), (1, .int (iI gv))]) hx hb dX1_roundWith_29 hl (k := 0) rfl (iI_add _ _) (by decide) rfl (fun ls hl => ?_)
        refine lv_goto (tgt := 2) hx hb dX1_roundWith_32 (by decide) ?_
        exact ih_1 (pq + 1) ⟨(show 0 ≤ (pq + 1) ∧ (pq + 1) ≤ nR ∧ (pq + 1) ≤ 730 from (by omega)), (show rwF D7 gv (Int.toNat (min nR 730 - (pq + 1))) (pq + 1) = rwF D7 gv (Int.toNat (min nR 730)) 0 from (by rw [← hq, rwF_s (q := pq) (by omega), if_neg (by omega)]))⟩ (by first | omega | (dsimp only; omega)) _ _ _ (lv_sub hl [0, 1, 2] rfl) (bd_to rfl B)
      · have zc_7 : (D7 pq) = gv := jeq (a := (D7 pq)) (b := gv) (by omega) (by omega) c_7
        refine lv_iload_n hx hb dX1_roundWith_27 rfl (lv_at hl 0 rfl) ?_
        have e_8 : (rwZ D7 gv nR) = pq := (by unfold rwZ; rw [← hq, rwF_s (by omega), if_pos (by omega)])
        skip
        exact k_iret B hr (⟨(by have e9 : rwZ D7 gv nR = pq := (by unfold rwZ; rw [← hq, rwF_s (by omega), if_pos (by omega)]); omega), (by rw [e_8]), rfl, rfl, rfl⟩) ⟨Nat.le_of_ble_eq_true rfl, Nat.le_of_ble_eq_true rfl⟩ ⟨Nat.le_of_ble_eq_true rfl, Nat.le_of_ble_eq_true rfl⟩ dX1_roundWith_28

theorem dX1_mostDigitsFrom_0 : decode cX1_mostDigitsFrom 0 = .ok (.sipush 1365, 3) := by decide +kernel
theorem dX1_mostDigitsFrom_3 : decode cX1_mostDigitsFrom 3 = .ok (.istore_n 2, 1) := by decide +kernel
theorem dX1_mostDigitsFrom_4 : decode cX1_mostDigitsFrom 4 = .ok (.iload_n 1, 1) := by decide +kernel
theorem dX1_mostDigitsFrom_5 : decode cX1_mostDigitsFrom 5 = .ok (.istore_n 3, 1) := by decide +kernel
theorem dX1_mostDigitsFrom_6 : decode cX1_mostDigitsFrom 6 = .ok (.iload_n 3, 1) := by decide +kernel
theorem dX1_mostDigitsFrom_7 : decode cX1_mostDigitsFrom 7 = .ok (.aload_n 0, 1) := by decide +kernel
theorem dX1_mostDigitsFrom_8 : decode cX1_mostDigitsFrom 8 = .ok (.getfield 76, 3) := by decide +kernel
theorem dX1_mostDigitsFrom_11 : decode cX1_mostDigitsFrom 11 = .ok (.if_icmp .ge 73, 3) := by decide +kernel
theorem dX1_mostDigitsFrom_14 : decode cX1_mostDigitsFrom 14 = .ok (.iload_n 3, 1) := by decide +kernel
theorem dX1_mostDigitsFrom_15 : decode cX1_mostDigitsFrom 15 = .ok (.sipush 730, 3) := by decide +kernel
theorem dX1_mostDigitsFrom_18 : decode cX1_mostDigitsFrom 18 = .ok (.if_icmp .ge 66, 3) := by decide +kernel
theorem dX1_mostDigitsFrom_21 : decode cX1_mostDigitsFrom 21 = .ok (.iconst 0, 1) := by decide +kernel
theorem dX1_mostDigitsFrom_22 : decode cX1_mostDigitsFrom 22 = .ok (.istore 4, 2) := by decide +kernel
theorem dX1_mostDigitsFrom_24 : decode cX1_mostDigitsFrom 24 = .ok (.iload 4, 2) := by decide +kernel
theorem dX1_mostDigitsFrom_26 : decode cX1_mostDigitsFrom 26 = .ok (.bipush 6, 2) := by decide +kernel
theorem dX1_mostDigitsFrom_28 : decode cX1_mostDigitsFrom 28 = .ok (.if_icmp .ge 50, 3) := by decide +kernel
theorem dX1_mostDigitsFrom_31 : decode cX1_mostDigitsFrom 31 = .ok (.iconst 3, 1) := by decide +kernel
theorem dX1_mostDigitsFrom_32 : decode cX1_mostDigitsFrom 32 = .ok (.iconst 2, 1) := by decide +kernel
theorem dX1_mostDigitsFrom_33 : decode cX1_mostDigitsFrom 33 = .ok (.iload 4, 2) := by decide +kernel
theorem dX1_mostDigitsFrom_35 : decode cX1_mostDigitsFrom 35 = .ok (.imul, 1) := by decide +kernel
theorem dX1_mostDigitsFrom_36 : decode cX1_mostDigitsFrom 36 = .ok (.ishl, 1) := by decide +kernel
theorem dX1_mostDigitsFrom_37 : decode cX1_mostDigitsFrom 37 = .ok (.istore 5, 2) := by decide +kernel
theorem dX1_mostDigitsFrom_39 : decode cX1_mostDigitsFrom 39 = .ok (.aload_n 0, 1) := by decide +kernel
theorem dX1_mostDigitsFrom_40 : decode cX1_mostDigitsFrom 40 = .ok (.getfield 40, 3) := by decide +kernel
theorem dX1_mostDigitsFrom_43 : decode cX1_mostDigitsFrom 43 = .ok (.iload_n 3, 1) := by decide +kernel
theorem dX1_mostDigitsFrom_44 : decode cX1_mostDigitsFrom 44 = .ok (.iaload, 1) := by decide +kernel
theorem dX1_mostDigitsFrom_45 : decode cX1_mostDigitsFrom 45 = .ok (.iload 5, 2) := by decide +kernel
theorem dX1_mostDigitsFrom_47 : decode cX1_mostDigitsFrom 47 = .ok (.iand, 1) := by decide +kernel
theorem dX1_mostDigitsFrom_48 : decode cX1_mostDigitsFrom 48 = .ok (.iload_n 2, 1) := by decide +kernel
theorem dX1_mostDigitsFrom_49 : decode cX1_mostDigitsFrom 49 = .ok (.iload 5, 2) := by decide +kernel
theorem dX1_mostDigitsFrom_51 : decode cX1_mostDigitsFrom 51 = .ok (.iand, 1) := by decide +kernel
theorem dX1_mostDigitsFrom_52 : decode cX1_mostDigitsFrom 52 = .ok (.if_icmp .le 20, 3) := by decide +kernel
theorem dX1_mostDigitsFrom_55 : decode cX1_mostDigitsFrom 55 = .ok (.iload_n 2, 1) := by decide +kernel
theorem dX1_mostDigitsFrom_56 : decode cX1_mostDigitsFrom 56 = .ok (.iload 5, 2) := by decide +kernel
theorem dX1_mostDigitsFrom_58 : decode cX1_mostDigitsFrom 58 = .ok (.iconst (-1), 1) := by decide +kernel
theorem dX1_mostDigitsFrom_59 : decode cX1_mostDigitsFrom 59 = .ok (.ixor, 1) := by decide +kernel
theorem dX1_mostDigitsFrom_60 : decode cX1_mostDigitsFrom 60 = .ok (.iand, 1) := by decide +kernel
theorem dX1_mostDigitsFrom_61 : decode cX1_mostDigitsFrom 61 = .ok (.aload_n 0, 1) := by decide +kernel
theorem dX1_mostDigitsFrom_62 : decode cX1_mostDigitsFrom 62 = .ok (.getfield 40, 3) := by decide +kernel
theorem dX1_mostDigitsFrom_65 : decode cX1_mostDigitsFrom 65 = .ok (.iload_n 3, 1) := by decide +kernel
theorem dX1_mostDigitsFrom_66 : decode cX1_mostDigitsFrom 66 = .ok (.iaload, 1) := by decide +kernel
theorem dX1_mostDigitsFrom_67 : decode cX1_mostDigitsFrom 67 = .ok (.iload 5, 2) := by decide +kernel
theorem dX1_mostDigitsFrom_69 : decode cX1_mostDigitsFrom 69 = .ok (.iand, 1) := by decide +kernel
theorem dX1_mostDigitsFrom_70 : decode cX1_mostDigitsFrom 70 = .ok (.ior, 1) := by decide +kernel
theorem dX1_mostDigitsFrom_71 : decode cX1_mostDigitsFrom 71 = .ok (.istore_n 2, 1) := by decide +kernel
theorem dX1_mostDigitsFrom_72 : decode cX1_mostDigitsFrom 72 = .ok (.iinc 4 1, 3) := by decide +kernel
theorem dX1_mostDigitsFrom_75 : decode cX1_mostDigitsFrom 75 = .ok (.goto (-51), 3) := by decide +kernel
theorem dX1_mostDigitsFrom_78 : decode cX1_mostDigitsFrom 78 = .ok (.iinc 3 1, 3) := by decide +kernel
theorem dX1_mostDigitsFrom_81 : decode cX1_mostDigitsFrom 81 = .ok (.goto (-75), 3) := by decide +kernel
theorem dX1_mostDigitsFrom_84 : decode cX1_mostDigitsFrom 84 = .ok (.iload_n 2, 1) := by decide +kernel
theorem dX1_mostDigitsFrom_85 : decode cX1_mostDigitsFrom 85 = .ok (.ireturn, 1) := by decide +kernel
set_option maxHeartbeats 4000000 in
set_option maxRecDepth 100000 in
theorem k_mostDigits (l : Launch) (dC : Nat → ClassId) (dI : Nat → Nat → Nat) (k : Nat → ClassId) (ly : Nat) (ln : Nat) (rw : Nat) (pp : Nat) (l1 : Nat) (l2 : Nat) (l3 : Nat) (l4 : Nat) (l5 : Nat) (l6 : Nat) (l7 : Nat) (v : Int) (gO : Int) (iL : Int) (nR : Int) (sT : Int) (dg : Int) (m1 : Int → Int) (m2 : Int → Int) (m3 : Int → Int) (m4 : Int → Int) (m5 : Int → Int) (m6 : Int → Int) (m7 : Int → Int) (A : Nat → Int → Int → Nat) (D7 : Int → Int) (r0 : Int) (hD : ∀ j, 0 ≤ j → j < nR → j < 730 → m7 j = D7 j ∧ 0 ≤ D7 j ∧ D7 j < 4096) (hnr : 0 ≤ nR ∧ nR ≤ 100000) (h1 : 0 ≤ r0 ∧ r0 < nR ∧ r0 < 730) : Kn l dC dI k yX1_mostDigitsFrom (.code yX1_mostDigitsFrom cX1_mostDigitsFrom 6 (some .int)) ({ frames := 0, cells := 0, slots := 0, locals := 0 } : Room) [.ref ly, .int (iI r0)] [(ly, .inr (1, [.ref (A 50 0 0), .int (iI v), .ref ln, .ref rw, .ref pp, .int (iI gO), .int (iI iL), .ref l1, .ref l2, .ref l3, .ref l4, .ref l5, .ref l6, .int (iI nR), .int (iI sT), .int (iI dg), .ref l7])), (l7, .inl (k 0, 730, .inl (fun i9 : Nat => iI (m7 i9))))] (fun r w gc gs => ((0 ≤ mdF D7 r0 (Int.toNat (min nR 730 - r0)) ∧ mdF D7 r0 (Int.toNat (min nR 730 - r0)) < 4096) ∧ r = some (.int (iI (mdF D7 r0 (Int.toNat (min nR 730 - r0))))) ∧ w = [(ly, .inr (1, [.ref (A 50 0 0), .int (iI v), .ref ln, .ref rw, .ref pp, .int (iI gO), .int (iI iL), .ref l1, .ref l2, .ref l3, .ref l4, .ref l5, .ref l6, .int (iI nR), .int (iI sT), .int (iI dg), .ref l7])), (l7, .inl (k 0, 730, .inl (fun i9 : Nat => iI (m7 i9))))] ∧ gc = 0 ∧ gs = 0)) := by
  refine kn_of (by decide) (Nat.le_of_ble_eq_true rfl) ?_
  intro p e s m args below meth c H locs B hr hnm ls hl
  have hx := B.1.1
  have hb := B.1.2.1
  have hl : lv_has ls 6 [(0, .ref ly), (1, .int (iI r0))] := hl
  refine lv_sipush (v := iI 1365) hx hb dX1_mostDigitsFrom_0 (by decide) ?_
  refine lv_istore_n (lv' := [(2, .int (iI 1365)), (0, .ref ly), (1, .int (iI r0))]) hx hb dX1_mostDigitsFrom_3 rfl hl (by decide) rfl (fun ls hl => ?_)
  refine lv_iload_n hx hb dX1_mostDigitsFrom_4 rfl (lv_at hl 2 rfl) ?_
  refine lv_istore_n (lv' := [(3, .int (iI r0)), (2, .int (iI 1365)), (0, .ref ly), (1, .int (iI r0))]) hx hb dX1_mostDigitsFrom_5 rfl hl (by decide) rfl (fun ls hl => ?_)
  refine k_loop (σ := Int × Int) B (fun g9 : Int × Int => (r0 ≤ g9.1 ∧ g9.1 ≤ nR ∧ g9.1 ≤ 730 ∧ 0 ≤ g9.2 ∧ g9.2 < 4096) ∧ (g9.2 = mdF D7 r0 (Int.toNat (g9.1 - r0)))) (fun g9 : Int × Int => (nR - g9.1).toNat) (fun g9 : Int × Int => [(3, .int (iI g9.1)), (2, .int (iI g9.2)), (0, .ref ly), (1, .int (iI r0))]) (fun g9 : Int × Int => [(ly, .inr (1, [.ref (A 50 0 0), .int (iI v), .ref ln, .ref rw, .ref pp, .int (iI gO), .int (iI iL), .ref l1, .ref l2, .ref l3, .ref l4, .ref l5, .ref l6, .int (iI nR), .int (iI sT), .int (iI dg), .ref l7])), (l7, .inl (k 0, 730, .inl (fun i9 : Nat => iI (m7 i9))))]) ?_ (r0, 1365) ⟨(show r0 ≤ r0 ∧ r0 ≤ nR ∧ r0 ≤ 730 ∧ 0 ≤ 1365 ∧ 1365 < 4096 from (by omega)), (show 1365 = mdF D7 r0 (Int.toNat (r0 - r0)) from (by rw [show r0 - r0 = 0 by omega]; rfl))⟩ ls H locs (lv_sub hl [0, 1, 2, 3] rfl) (bd_to rfl B)
  clear hl B
  rintro ⟨kr, md⟩ ⟨hk, hmd⟩ ih_1 ls H locs hl B
  have hk : r0 ≤ kr ∧ kr ≤ nR ∧ kr ≤ 730 ∧ 0 ≤ md ∧ md < 4096 := hk
  have hmd : md = mdF D7 r0 (Int.toNat (kr - r0)) := hmd
  have hl : lv_has ls 6 [(3, .int (iI kr)), (2, .int (iI md)), (0, .ref ly), (1, .int (iI r0))] := hl
  have B := bd_to (ws' := [(ly, .inr (1, [.ref (A 50 0 0), .int (iI v), .ref ln, .ref rw, .ref pp, .int (iI gO), .int (iI iL), .ref l1, .ref l2, .ref l3, .ref l4, .ref l5, .ref l6, .int (iI nR), .int (iI sT), .int (iI dg), .ref l7])), (l7, .inl (k 0, 730, .inl (fun i9 : Nat => iI (m7 i9))))]) rfl B
  refine lv_iload_n hx hb dX1_mostDigitsFrom_6 rfl (lv_at hl 0 rfl) ?_
  refine lv_aload_n hx hb dX1_mostDigitsFrom_7 rfl (lv_at hl 2 rfl) ?_
  refine x_get (ci := 1) (C := RX1) (T := TX1) (N := 17) (v := .int (iI nR)) B 0 rfl rfl in_X1 13 (by decide) mw_430 (fun _ h9 => h9) rfl dX1_mostDigitsFrom_8 ?_
  refine lv_icmp_ge (tgt := 84) hx hb dX1_mostDigitsFrom_11 (by decide) (fun c_2 => ?_) (fun c_2 => ?_)
  · have zc_2 : nR ≤ kr := jle (a := nR) (b := kr) (by omega) (by omega) c_2
    refine lv_iload_n hx hb dX1_mostDigitsFrom_84 rfl (lv_at hl 1 rfl) ?_
    have e_3 : (mdF D7 r0 (Int.toNat (min nR 730 - r0))) = md := (by rw [show min nR 730 - r0 = kr - r0 by omega]; exact hmd.symm)
    skip
    exact k_iret B hr (⟨(by rw [show min nR 730 - r0 = kr - r0 by omega]; omega), (by rw [e_3]), rfl, rfl, rfl⟩) ⟨Nat.le_of_ble_eq_true rfl, Nat.le_of_ble_eq_true rfl⟩ ⟨Nat.le_of_ble_eq_true rfl, Nat.le_of_ble_eq_true rfl⟩ dX1_mostDigitsFrom_85
  · have zc_2 : kr < nR := jnle (a := nR) (b := kr) (by omega) (by omega) c_2
    refine lv_iload_n hx hb dX1_mostDigitsFrom_14 rfl (lv_at hl 0 rfl) ?_
    refine lv_sipush (v := iI 730) hx hb dX1_mostDigitsFrom_15 (by decide) ?_
    refine lv_icmp_ge (tgt := 84) hx hb dX1_mostDigitsFrom_18 (by decide) (fun c_4 => ?_) (fun c_4 => ?_)
    · have zc_4 : 730 ≤ kr := jle (a := 730) (b := kr) (by omega) (by omega) c_4
      refine lv_iload_n hx hb dX1_mostDigitsFrom_84 rfl (lv_at hl 1 rfl) ?_
      have e_5 : (mdF D7 r0 (Int.toNat (min nR 730 - r0))) = md := (by rw [show min nR 730 - r0 = kr - r0 by omega]; exact hmd.symm)
      skip
      exact k_iret B hr (⟨(by rw [show min nR 730 - r0 = kr - r0 by omega]; omega), (by rw [e_5]), rfl, rfl, rfl⟩) ⟨Nat.le_of_ble_eq_true rfl, Nat.le_of_ble_eq_true rfl⟩ ⟨Nat.le_of_ble_eq_true rfl, Nat.le_of_ble_eq_true rfl⟩ dX1_mostDigitsFrom_85
    · have zc_4 : kr < 730 := jnle (a := 730) (b := kr) (by omega) (by omega) c_4
      refine lv_iconst (v := iI 0) hx hb dX1_mostDigitsFrom_21 (by decide) ?_
      refine lv_istore (lv' := [(4, .int (iI 0)), (3, .int (iI kr)), (2, .int (iI md)), (0, .ref ly), (1, .int (iI r0))]) hx hb dX1_mostDigitsFrom_22 hl (by decide) rfl (fun ls hl => ?_)
      refine k_loop (σ := Int × Int) B (fun g9 : Int × Int => (0 ≤ g9.1 ∧ g9.1 ≤ 6 ∧ 0 ≤ g9.2 ∧ g9.2 < 4096) ∧ (g9.2 = mdI (D7 kr) md (Int.toNat g9.1))) (fun g9 : Int × Int => (6 - g9.1).toNat) (fun g9 : Int × Int => [(4, .int (iI g9.1)), (3, .int (iI kr)), (2, .int (iI g9.2)), (0, .ref ly), (1, .int (iI r0))]) (fun g9 : Int × Int => [(ly, .inr (1, [.ref (A 50 0 0), .int (iI v), .ref ln, .ref rw, .ref pp, .int (iI gO), .int (iI iL), .ref l1, .ref l2, .ref l3, .ref l4, .ref l5, .ref l6, .int (iI nR), .int (iI sT), .int (iI dg), .ref l7])), (l7, .inl (k 0, 730, .inl (fun i9 : Nat => iI (m7 i9))))]) ?_ (0, md) ⟨(show 0 ≤ 0 ∧ 0 ≤ 6 ∧ 0 ≤ md ∧ md < 4096 from (by omega)), (show md = mdI (D7 kr) md (Int.toNat 0) from rfl)⟩ ls H locs (lv_sub hl [0, 1, 2, 3, 4] rfl) (bd_to rfl B)
      clear hl B
      rintro ⟨pq, m2⟩ ⟨hp, hm2⟩ ih_6 ls H locs hl B
      have hp : 0 ≤ pq ∧ pq ≤ 6 ∧ 0 ≤ m2 ∧ m2 < 4096 := hp
      have hm2 : m2 = mdI (D7 kr) md (Int.toNat pq) := hm2
      have hl : lv_has ls 6 [(4, .int (iI pq)), (3, .int (iI kr)), (2, .int (iI m2)), (0, .ref ly), (1, .int (iI r0))] := hl
      have B := bd_to (ws' := [(ly, .inr (1, [.ref (A 50 0 0), .int (iI v), .ref ln, .ref rw, .ref pp, .int (iI gO), .int (iI iL), .ref l1, .ref l2, .ref l3, .ref l4, .ref l5, .ref l6, .int (iI nR), .int (iI sT), .int (iI dg), .ref l7])), (l7, .inl (k 0, 730, .inl (fun i9 : Nat => iI (m7 i9))))]) rfl B
      refine lv_iload hx hb dX1_mostDigitsFrom_24 (lv_at hl 0 rfl) ?_
      refine lv_bipush (v := iI 6) hx hb dX1_mostDigitsFrom_26 (by decide) ?_
      refine lv_icmp_ge (tgt := 78) hx hb dX1_mostDigitsFrom_28 (by decide) (fun c_7 => ?_) (fun c_7 => ?_)
      · have zc_7 : 6 ≤ pq := jle (a := 6) (b := pq) (by omega) (by omega) c_7
        refine lv_iinc (v := iI (kr + 1)) (lv' := [(3, .int (iI (kr + 1))), (4, .int (iI pq)), (2, .int (iI m2)), (0, .ref ly), (1, .int (iI r0))]) hx hb dX1_mostDigitsFrom_78 hl (k := 1) rfl (iI_add _ _) (by decide) rfl (fun ls hl => ?_)
        refine lv_goto (tgt := 6) hx hb dX1_mostDigitsFrom_81 (by decide) ?_
        exact ih_1 ((kr + 1), m2) ⟨(show r0 ≤ (kr + 1) ∧ (kr + 1) ≤ nR ∧ (kr + 1) ≤ 730 ∧ 0 ≤ m2 ∧ m2 < 4096 from (by omega)), (show m2 = mdF D7 r0 (Int.toNat ((kr + 1) - r0)) from (by rw [show kr + 1 - r0 = (kr - r0) + 1 by omega, mdF_s (by omega), ← hmd, show r0 + (kr - r0) = kr by omega, hm2, show Int.toNat pq = 6 by omega]))⟩ (by first | omega | (dsimp only; omega)) _ _ _ (lv_sub hl [0, 2, 3, 4] rfl) (bd_to rfl B)
      · have zc_7 : pq < 6 := jnle (a := 6) (b := pq) (by omega) (by omega) c_7
        refine lv_iconst (v := iI 3) hx hb dX1_mostDigitsFrom_31 (by decide) ?_
        refine lv_iconst (v := iI 2) hx hb dX1_mostDigitsFrom_32 (by decide) ?_
        refine lv_iload hx hb dX1_mostDigitsFrom_33 (lv_at hl 0 rfl) ?_
        refine y_mul hx hb dX1_mostDigitsFrom_35 ?_
        have z_8 : 0 < (bShl 3 (2 * pq)) ∧ (bShl 3 (2 * pq)) < 4096 := bShl_dd (by omega) (by omega)
        refine y_shl hx hb (a := 3) (b := (2 * pq)) (by omega) (by omega) (by omega) dX1_mostDigitsFrom_36 ?_
        refine lv_istore (lv' := [(5, .int (iI (bShl 3 (2 * pq)))), (4, .int (iI pq)), (3, .int (iI kr)), (2, .int (iI m2)), (0, .ref ly), (1, .int (iI r0))]) hx hb dX1_mostDigitsFrom_37 hl (by decide) rfl (fun ls hl => ?_)
        refine lv_aload_n hx hb dX1_mostDigitsFrom_39 rfl (lv_at hl 4 rfl) ?_
        refine x_get (ci := 1) (C := RX1) (T := TX1) (N := 17) (v := .ref l7) B 0 rfl rfl in_X1 16 (by decide) mw_435 (fun _ h9 => h9) rfl dX1_mostDigitsFrom_40 ?_
        refine lv_iload_n hx hb dX1_mostDigitsFrom_43 rfl (lv_at hl 2 rfl) ?_
        refine x_iald' (f := m7) (z := kr) B 1 rfl (by omega) dX1_mostDigitsFrom_44 ?_
        refine lv_seti (y := iI (D7 kr)) (congrArg iI (show m7 kr = D7 kr from (hD _ (by omega) (by omega) (by omega)).1)) ?_
        have z_9 : 0 ≤ D7 kr ∧ D7 kr < 4096 := (hD _ (by omega) (by omega) (by omega)).2
        refine lv_iload hx hb dX1_mostDigitsFrom_45 (lv_at hl 0 rfl) ?_
        refine y_and hx hb (a := (D7 kr)) (b := (bShl 3 (2 * pq))) (by omega) (by omega) dX1_mostDigitsFrom_47 ?_
        have z_10 : 0 ≤ (bAnd (D7 kr) (bShl 3 (2 * pq))) ∧ (bAnd (D7 kr) (bShl 3 (2 * pq))) ≤ (D7 kr) := bAnd_le (by omega)
        have z_11 : 0 ≤ (bAnd (D7 kr) (bShl 3 (2 * pq))) ∧ (bAnd (D7 kr) (bShl 3 (2 * pq))) ≤ (bShl 3 (2 * pq)) := bAnd_le' (by omega)
        refine lv_iload_n hx hb dX1_mostDigitsFrom_48 rfl (lv_at hl 3 rfl) ?_
        refine lv_iload hx hb dX1_mostDigitsFrom_49 (lv_at hl 0 rfl) ?_
        refine y_and hx hb (a := m2) (b := (bShl 3 (2 * pq))) (by omega) (by omega) dX1_mostDigitsFrom_51 ?_
        have z_12 : 0 ≤ (bAnd m2 (bShl 3 (2 * pq))) ∧ (bAnd m2 (bShl 3 (2 * pq))) ≤ m2 := bAnd_le (by omega)
        have z_13 : 0 ≤ (bAnd m2 (bShl 3 (2 * pq))) ∧ (bAnd m2 (bShl 3 (2 * pq))) ≤ (bShl 3 (2 * pq)) := bAnd_le' (by omega)
        refine lv_icmp_le (tgt := 72) hx hb dX1_mostDigitsFrom_52 (by decide) (fun c_14 => ?_) (fun c_14 => ?_)
        · have zc_14 : (bAnd (D7 kr) (bShl 3 (2 * pq))) ≤ (bAnd m2 (bShl 3 (2 * pq))) := jle (a := (bAnd (D7 kr) (bShl 3 (2 * pq)))) (b := (bAnd m2 (bShl 3 (2 * pq)))) (by omega) (by omega) c_14
          refine lv_iinc (v := iI (pq + 1)) (lv' := [(4, .int (iI (pq + 1))), (5, .int (iI (bShl 3 (2 * pq)))), (3, .int (iI kr)), (2, .int (iI m2)), (0, .ref ly), (1, .int (iI r0))]) hx hb dX1_mostDigitsFrom_72 hl (k := 1) rfl (iI_add _ _) (by decide) rfl (fun ls hl => ?_)
          refine lv_goto (tgt := 24) hx hb dX1_mostDigitsFrom_75 (by decide) ?_
          exact ih_6 ((pq + 1), m2) ⟨(show 0 ≤ (pq + 1) ∧ (pq + 1) ≤ 6 ∧ 0 ≤ m2 ∧ m2 < 4096 from (by omega)), (show m2 = mdI (D7 kr) md (Int.toNat (pq + 1)) from (by rw [mdI_s (by omega), ← hm2]; first | (rw [if_pos (by omega)]; done) | (rw [if_neg (by omega)]; done)))⟩ (by first | omega | (dsimp only; omega)) _ _ _ (lv_sub hl [0, 2, 3, 4, 5] rfl) (bd_to rfl B)
        · have zc_14 : (bAnd m2 (bShl 3 (2 * pq))) < (bAnd (D7 kr) (bShl 3 (2 * pq))) := jnle (a := (bAnd (D7 kr) (bShl 3 (2 * pq)))) (b := (bAnd m2 (bShl 3 (2 * pq)))) (by omega) (by omega) c_14
          refine lv_iload_n hx hb dX1_mostDigitsFrom_55 rfl (lv_at hl 3 rfl) ?_
          refine lv_iload hx hb dX1_mostDigitsFrom_56 (lv_at hl 0 rfl) ?_
          refine lv_iconst (v := iI (-1)) hx hb dX1_mostDigitsFrom_58 (by decide) ?_
          refine y_not hx hb dX1_mostDigitsFrom_59 ?_
          refine y_dif hx hb (a := m2) (b := (bShl 3 (2 * pq))) (by omega) (by omega) dX1_mostDigitsFrom_60 ?_
          have z_15 : 0 ≤ (bDif m2 (bShl 3 (2 * pq))) ∧ (bDif m2 (bShl 3 (2 * pq))) ≤ m2 := bDif_le (by omega)
          refine lv_aload_n hx hb dX1_mostDigitsFrom_61 rfl (lv_at hl 4 rfl) ?_
          refine x_get (ci := 1) (C := RX1) (T := TX1) (N := 17) (v := .ref l7) B 0 rfl rfl in_X1 16 (by decide) mw_435 (fun _ h9 => h9) rfl dX1_mostDigitsFrom_62 ?_
          refine lv_iload_n hx hb dX1_mostDigitsFrom_65 rfl (lv_at hl 2 rfl) ?_
          refine x_iald' (f := m7) (z := kr) B 1 rfl (by omega) dX1_mostDigitsFrom_66 ?_
          refine lv_seti (y := iI (D7 kr)) (congrArg iI (show m7 kr = D7 kr from (hD _ (by omega) (by omega) (by omega)).1)) ?_
          have z_16 : 0 ≤ D7 kr ∧ D7 kr < 4096 := (hD _ (by omega) (by omega) (by omega)).2
          refine lv_iload hx hb dX1_mostDigitsFrom_67 (lv_at hl 0 rfl) ?_
          refine y_and hx hb (a := (D7 kr)) (b := (bShl 3 (2 * pq))) (by omega) (by omega) dX1_mostDigitsFrom_69 ?_
          have z_17 : 0 ≤ (bAnd (D7 kr) (bShl 3 (2 * pq))) ∧ (bAnd (D7 kr) (bShl 3 (2 * pq))) ≤ (D7 kr) := bAnd_le (by omega)
          have z_18 : 0 ≤ (bAnd (D7 kr) (bShl 3 (2 * pq))) ∧ (bAnd (D7 kr) (bShl 3 (2 * pq))) ≤ (bShl 3 (2 * pq)) := bAnd_le' (by omega)
          refine y_or hx hb (a := (bDif m2 (bShl 3 (2 * pq)))) (b := (bAnd (D7 kr) (bShl 3 (2 * pq)))) (by omega) (by omega) dX1_mostDigitsFrom_70 ?_
          have z_19 : 0 ≤ (bOr (bDif m2 (bShl 3 (2 * pq))) (bAnd (D7 kr) (bShl 3 (2 * pq)))) ∧ (bOr (bDif m2 (bShl 3 (2 * pq))) (bAnd (D7 kr) (bShl 3 (2 * pq)))) < 4096 := bOr_lt 12 (by omega) (by omega)
          refine lv_istore_n (lv' := [(2, .int (iI (bOr (bDif m2 (bShl 3 (2 * pq))) (bAnd (D7 kr) (bShl 3 (2 * pq)))))), (5, .int (iI (bShl 3 (2 * pq)))), (4, .int (iI pq)), (3, .int (iI kr)), (0, .ref ly), (1, .int (iI r0))]) hx hb dX1_mostDigitsFrom_71 rfl hl (by decide) rfl (fun ls hl => ?_)
          refine lv_iinc (v := iI (pq + 1)) (lv' := [(4, .int (iI (pq + 1))), (2, .int (iI (bOr (bDif m2 (bShl 3 (2 * pq))) (bAnd (D7 kr) (bShl 3 (2 * pq)))))), (5, .int (iI (bShl 3 (2 * pq)))), (3, .int (iI kr)), (0, .ref ly), (1, .int (iI r0))]) hx hb dX1_mostDigitsFrom_72 hl (k := 2) rfl (iI_add _ _) (by decide) rfl (fun ls hl => ?_)
          refine lv_goto (tgt := 24) hx hb dX1_mostDigitsFrom_75 (by decide) ?_
          exact ih_6 ((pq + 1), (bOr (bDif m2 (bShl 3 (2 * pq))) (bAnd (D7 kr) (bShl 3 (2 * pq))))) ⟨(show 0 ≤ (pq + 1) ∧ (pq + 1) ≤ 6 ∧ 0 ≤ (bOr (bDif m2 (bShl 3 (2 * pq))) (bAnd (D7 kr) (bShl 3 (2 * pq)))) ∧ (bOr (bDif m2 (bShl 3 (2 * pq))) (bAnd (D7 kr) (bShl 3 (2 * pq)))) < 4096 from (by omega)), (show (bOr (bDif m2 (bShl 3 (2 * pq))) (bAnd (D7 kr) (bShl 3 (2 * pq)))) = mdI (D7 kr) md (Int.toNat (pq + 1)) from (by rw [mdI_s (by omega), ← hm2]; first | (rw [if_pos (by omega)]; done) | (rw [if_neg (by omega)]; done)))⟩ (by first | omega | (dsimp only; omega)) _ _ _ (lv_sub hl [0, 3, 1, 4, 5] rfl) (bd_to rfl B)

theorem mw_417 : (Jvm.Cond.fieldLink "Galleyforge$Layout" (9 : Nat) "Galleyforge$Layout" "goesOn" "Z") ∈ gt := gt_at 487 (by decide +kernel) (by decide +kernel)
theorem mw_419 : (Jvm.Cond.fieldLink "Galleyforge$Layout" (70 : Nat) "Galleyforge$Layout" "isLastRound" "Z") ∈ gt := gt_at 489 (by decide +kernel) (by decide +kernel)
theorem mw_432 : (Jvm.Cond.fieldLink "Galleyforge$Layout" (73 : Nat) "Galleyforge$Layout" "settled" "Z") ∈ gt := gt_at 502 (by decide +kernel) (by decide +kernel)
theorem dX1_forget_0 : decode cX1_forget 0 = .ok (.aload_n 0, 1) := by decide +kernel
theorem dX1_forget_1 : decode cX1_forget 1 = .ok (.iconst 1, 1) := by decide +kernel
theorem dX1_forget_2 : decode cX1_forget 2 = .ok (.putfield 9, 3) := by decide +kernel
theorem dX1_forget_5 : decode cX1_forget 5 = .ok (.aload_n 0, 1) := by decide +kernel
theorem dX1_forget_6 : decode cX1_forget 6 = .ok (.iconst 0, 1) := by decide +kernel
theorem dX1_forget_7 : decode cX1_forget 7 = .ok (.putfield 70, 3) := by decide +kernel
theorem dX1_forget_10 : decode cX1_forget 10 = .ok (.aload_n 0, 1) := by decide +kernel
theorem dX1_forget_11 : decode cX1_forget 11 = .ok (.iconst 0, 1) := by decide +kernel
theorem dX1_forget_12 : decode cX1_forget 12 = .ok (.putfield 73, 3) := by decide +kernel
theorem dX1_forget_15 : decode cX1_forget 15 = .ok (.aload_n 0, 1) := by decide +kernel
theorem dX1_forget_16 : decode cX1_forget 16 = .ok (.iconst 0, 1) := by decide +kernel
theorem dX1_forget_17 : decode cX1_forget 17 = .ok (.putfield 76, 3) := by decide +kernel
theorem dX1_forget_20 : decode cX1_forget 20 = .ok (.aload_n 0, 1) := by decide +kernel
theorem dX1_forget_21 : decode cX1_forget 21 = .ok (.sipush 1365, 3) := by decide +kernel
theorem dX1_forget_24 : decode cX1_forget 24 = .ok (.putfield 36, 3) := by decide +kernel
theorem dX1_forget_27 : decode cX1_forget 27 = .ok (.return_, 1) := by decide +kernel
set_option maxHeartbeats 4000000 in
set_option maxRecDepth 100000 in
theorem k_forget (l : Launch) (dC : Nat → ClassId) (dI : Nat → Nat → Nat) (k : Nat → ClassId) (ly : Nat) (ln : Nat) (rw : Nat) (pp : Nat) (l1 : Nat) (l2 : Nat) (l3 : Nat) (l4 : Nat) (l5 : Nat) (l6 : Nat) (l7 : Nat) (v : Int) (gO : Int) (iL : Int) (nR : Int) (sT : Int) (dg : Int) (m1 : Int → Int) (m2 : Int → Int) (m3 : Int → Int) (m4 : Int → Int) (m5 : Int → Int) (m6 : Int → Int) (m7 : Int → Int) (A : Nat → Int → Int → Nat) : Kn l dC dI k yX1_forget (.code yX1_forget cX1_forget 1 none) ({ frames := 0, cells := 0, slots := 0, locals := 0 } : Room) [.ref ly] [(ly, .inr (1, [.ref (A 50 0 0), .int (iI v), .ref ln, .ref rw, .ref pp, .int (iI gO), .int (iI iL), .ref l1, .ref l2, .ref l3, .ref l4, .ref l5, .ref l6, .int (iI nR), .int (iI sT), .int (iI dg), .ref l7]))] (fun r w gc gs => (r = none ∧ w = [(ly, .inr (1, [.ref (A 50 0 0), .int (iI v), .ref ln, .ref rw, .ref pp, .int (iI 1), .int (iI 0), .ref l1, .ref l2, .ref l3, .ref l4, .ref l5, .ref l6, .int (iI 0), .int (iI 0), .int (iI 1365), .ref l7]))] ∧ gc = 0 ∧ gs = 0)) := by
  refine kn_of (by decide) (Nat.le_of_ble_eq_true rfl) ?_
  intro p e s m args below meth c H locs B hr hnm ls hl
  have hx := B.1.1
  have hb := B.1.2.1
  have hl : lv_has ls 1 [(0, .ref ly)] := hl
  refine lv_aload_n hx hb dX1_forget_0 rfl (lv_at hl 0 rfl) ?_
  refine lv_iconst (v := iI 1) hx hb dX1_forget_1 (by decide) ?_
  refine x_put (ci := 1) (C := RX1) (T := TX1) (N := 17) (ty := .boolean) (v := .int (iI 1)) B tyX1_ok nmX1 0 rfl rfl in_X1 5 (by decide) mw_417 (fun _ h9 => h9) rfl (by decide +kernel) (nar_b (by omega)) (fit_b (by omega)) (Nat.le_of_ble_eq_true rfl) dX1_forget_2 (fun H locs B => ?_)
  have B := bd_to (ws' := [(ly, .inr (1, [.ref (A 50 0 0), .int (iI v), .ref ln, .ref rw, .ref pp, .int (iI 1), .int (iI iL), .ref l1, .ref l2, .ref l3, .ref l4, .ref l5, .ref l6, .int (iI nR), .int (iI sT), .int (iI dg), .ref l7]))]) rfl B
  refine lv_aload_n hx hb dX1_forget_5 rfl (lv_at hl 0 rfl) ?_
  refine lv_iconst (v := iI 0) hx hb dX1_forget_6 (by decide) ?_
  refine x_put (ci := 1) (C := RX1) (T := TX1) (N := 17) (ty := .boolean) (v := .int (iI 0)) B tyX1_ok nmX1 0 rfl rfl in_X1 6 (by decide) mw_419 (fun _ h9 => h9) rfl (by decide +kernel) (nar_b (by omega)) (fit_b (by omega)) (Nat.le_of_ble_eq_true rfl) dX1_forget_7 (fun H locs B => ?_)
  have B := bd_to (ws' := [(ly, .inr (1, [.ref (A 50 0 0), .int (iI v), .ref ln, .ref rw, .ref pp, .int (iI 1), .int (iI 0), .ref l1, .ref l2, .ref l3, .ref l4, .ref l5, .ref l6, .int (iI nR), .int (iI sT), .int (iI dg), .ref l7]))]) rfl B
  refine lv_aload_n hx hb dX1_forget_10 rfl (lv_at hl 0 rfl) ?_
  refine lv_iconst (v := iI 0) hx hb dX1_forget_11 (by decide) ?_
  refine x_put (ci := 1) (C := RX1) (T := TX1) (N := 17) (ty := .boolean) (v := .int (iI 0)) B tyX1_ok nmX1 0 rfl rfl in_X1 14 (by decide) mw_432 (fun _ h9 => h9) rfl (by decide +kernel) (nar_b (by omega)) (fit_b (by omega)) (Nat.le_of_ble_eq_true rfl) dX1_forget_12 (fun H locs B => ?_)
  have B := bd_to (ws' := [(ly, .inr (1, [.ref (A 50 0 0), .int (iI v), .ref ln, .ref rw, .ref pp, .int (iI 1), .int (iI 0), .ref l1, .ref l2, .ref l3, .ref l4, .ref l5, .ref l6, .int (iI nR), .int (iI 0), .int (iI dg), .ref l7]))]) rfl B
  refine lv_aload_n hx hb dX1_forget_15 rfl (lv_at hl 0 rfl) ?_
  refine lv_iconst (v := iI 0) hx hb dX1_forget_16 (by decide) ?_
  refine x_put (ci := 1) (C := RX1) (T := TX1) (N := 17) (ty := .int) (v := .int (iI 0)) B tyX1_ok nmX1 0 rfl rfl in_X1 13 (by decide) mw_430 (fun _ h9 => h9) rfl (by decide +kernel) rfl rfl (Nat.le_of_ble_eq_true rfl) dX1_forget_17 (fun H locs B => ?_)
  have B := bd_to (ws' := [(ly, .inr (1, [.ref (A 50 0 0), .int (iI v), .ref ln, .ref rw, .ref pp, .int (iI 1), .int (iI 0), .ref l1, .ref l2, .ref l3, .ref l4, .ref l5, .ref l6, .int (iI 0), .int (iI 0), .int (iI dg), .ref l7]))]) rfl B
  refine lv_aload_n hx hb dX1_forget_20 rfl (lv_at hl 0 rfl) ?_
  refine lv_sipush (v := iI 1365) hx hb dX1_forget_21 (by decide) ?_
  refine x_put (ci := 1) (C := RX1) (T := TX1) (N := 17) (ty := .int) (v := .int (iI 1365)) B tyX1_ok nmX1 0 rfl rfl in_X1 15 (by decide) mw_434 (fun _ h9 => h9) rfl (by decide +kernel) rfl rfl (Nat.le_of_ble_eq_true rfl) dX1_forget_24 (fun H locs B => ?_)
  have B := bd_to (ws' := [(ly, .inr (1, [.ref (A 50 0 0), .int (iI v), .ref ln, .ref rw, .ref pp, .int (iI 1), .int (iI 0), .ref l1, .ref l2, .ref l3, .ref l4, .ref l5, .ref l6, .int (iI 0), .int (iI 0), .int (iI 1365), .ref l7]))]) rfl B
  exact k_vret B hr (⟨rfl, rfl, rfl, rfl⟩) ⟨Nat.le_of_ble_eq_true rfl, Nat.le_of_ble_eq_true rfl⟩ ⟨Nat.le_of_ble_eq_true rfl, Nat.le_of_ble_eq_true rfl⟩ dX1_forget_27

end
