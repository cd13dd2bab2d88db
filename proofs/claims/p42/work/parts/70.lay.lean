section
/-- pages: (0, 0) how many, (0, 1) costs; 1 first rows, 2 rows, 3 lines of notes, 4 used; 5 the pages of rows; 6 where figures stand -/
def puQ (P : Nat → Int → Int) (fr n no us : Int) : Nat → Int → Int := fun c i =>
  if c = 0 then uz (P 0) 0 (P 0 0 + 1) i else if c = 1 then uz (P 1) (P 0 0) fr i else if c = 2 then uz (P 2) (P 0 0) n i else if c = 3 then uz (P 3) (P 0 0) no i else if c = 4 then uz (P 4) (P 0 0) us i else P c i
def puP (P : Nat → Int → Int) (fr n no us : Int) : Nat → Int → Int := if P 0 0 < 965 then puQ P fr n no us else P
/-- one of the arrays anew -/
def seP (P : Nat → Int → Int) (q : Nat) (g : Int → Int) : Nat → Int → Int := fun c i => if c = q then g i else P c i
def PA (P : Nat → Int → Int) (rr : Int) (f1 f2 f3 f4 f5 f6 : Int → Int) : Prop :=
  (∀ j, 0 ≤ j → j < P 0 0 → f1 j = P 1 j ∧ f2 j = P 2 j ∧ f3 j = P 3 j ∧ f4 j = P 4 j) ∧ (∀ j, 0 ≤ j → j < rr → f5 j = P 5 j) ∧ (∀ j, 0 ≤ j → j < 5 → f6 j = P 6 j)
/-- figures noted at a place v, and their heights, together -/
def plS (T : Nat → Int → Int → Int → Int) (M : Nat → Int → Int) (st v : Int) (g : Int → Int) : Nat → (Int → Int) × Int
  | 0 => (g, 0)
  | k + 1 => if bAnd (bShr st (k : Int)) 1 = 1 then (uz (plS T M st v g k).1 (M 16 (k : Int)) v, (plS T M st v g k).2 + T 14 (M 16 (k : Int)) 0 0) else plS T M st v g k
abbrev plZ (T : Nat → Int → Int → Int → Int) (M : Nat → Int → Int) (st v : Int) (g : Int → Int) : (Int → Int) × Int := plS T M st v g (Int.toNat (M 17 0))
/-- a page with rows; one with figures alone -/
def ppZ (T : Nat → Int → Int → Int → Int) (M P : Nat → Int → Int) (ro n no us ts bs : Int) : Nat → Int → Int :=
  seP (seP (puP P ro n no us) 5 (fil (P 5) ro n (puP P ro n no us 0 0))) 6 (plZ T M bs (10 * puP P ro n no us 0 0 + 1) (plZ T M ts (10 * puP P ro n no us 0 0 + 0) (P 6)).1).1
def pfQ (T : Nat → Int → Int → Int → Int) (M P : Nat → Int → Int) (st : Int) : Nat → Int → Int :=
  seP (seP (puQ P (M 0 0) 0 0 0) 6 (plZ T M st (10 * (P 0 0 + 1) + 2) (P 6)).1) 4 (uz (uz (P 4) (P 0 0) 0) (P 0 0) (plZ T M st (10 * (P 0 0 + 1) + 2) (P 6)).2)
def pfZ (T : Nat → Int → Int → Int → Int) (M P : Nat → Int → Int) (st : Int) : Nat → Int → Int := if P 0 0 < 965 then pfQ T M P st else P
/-- pages of their own for the first k figures of a set; pages behind all rows -/
def paS (T : Nat → Int → Int → Int → Int) (M : Nat → Int → Int) (st : Int) (P : Nat → Int → Int) : Nat → (Nat → Int → Int)
  | 0 => P
  | k + 1 => if bAnd (bShr st (k : Int)) 1 = 1 then pfZ T M (paS T M st P k) (bShl 1 (k : Int)) else paS T M st P k
abbrev paZ (T : Nat → Int → Int → Int → Int) (M : Nat → Int → Int) (st : Int) (P : Nat → Int → Int) : Nat → Int → Int := paS T M st P (Int.toNat (M 17 0))
def bhF (T : Nat → Int → Int → Int → Int) (M : Nat → Int → Int) : Nat → Int → (Nat → Int → Int) → (Nat → Int → Int)
  | 0, _, P => P
  | f + 1, w, P => if w = 0 then P else bhF T M f (bDif w (fbZ T M w)) (pfZ T M P (fbZ T M w))
def bnF (T : Nat → Int → Int → Int → Int) (M : Nat → Int → Int) : Nat → Int → (Nat → Int → Int) → (Nat → Int → Int)
  | 0, _, P => P
  | f + 1, lf, P => if lf ≤ 0 then P else bnF T M f (lf - min lf (T 17 0 0 0 - 1)) (puP P (M 0 0) 0 (min lf (T 17 0 0 0 - 1)) (min lf (T 17 0 0 0 - 1) + 1))
section LA1
variable {T : Nat → Int → Int → Int → Int} {M P : Nat → Int → Int} {fr n no us rr st v : Int} {f1 f2 f3 f4 f5 f6 g : Int → Int}
theorem puQ_0 : puQ P fr n no us 0 0 = P 0 0 + 1 := rfl
theorem puQ_01 : puQ P fr n no us 0 1 = P 0 1 := rfl
theorem puP_y (h : P 0 0 < 965) : puP P fr n no us = puQ P fr n no us := if_pos h
theorem puP_n (h : ¬ P 0 0 < 965) : puP P fr n no us = P := if_neg h
theorem puP_01 : puP P fr n no us 0 1 = P 0 1 := by
  unfold puP
  split
  · rfl
  · rfl
theorem puP_5 : puP P fr n no us 5 = P 5 := by
  unfold puP
  split
  · rfl
  · rfl
theorem puP_6 : puP P fr n no us 6 = P 6 := by
  unfold puP
  split
  · rfl
  · rfl
theorem puP_in (h : 0 ≤ P 0 0 ∧ P 0 0 ≤ 965) : 0 ≤ puP P fr n no us 0 0 ∧ puP P fr n no us 0 0 ≤ 965 := by
  unfold puP
  split
  · rw [puQ_0]; omega
  · exact h
theorem PA_pu (h : PA P rr f1 f2 f3 f4 f5 f6) : PA (puQ P fr n no us) rr (uz f1 (P 0 0) fr) (uz f2 (P 0 0) n) (uz f3 (P 0 0) no) (uz f4 (P 0 0) us) f5 f6 := by
  refine ⟨fun j g1 g2 => ?_, h.2.1, h.2.2⟩
  rw [puQ_0] at g2
  show uz f1 (P 0 0) fr j = uz (P 1) (P 0 0) fr j ∧ uz f2 (P 0 0) n j = uz (P 2) (P 0 0) n j ∧ uz f3 (P 0 0) no j = uz (P 3) (P 0 0) no j ∧ uz f4 (P 0 0) us j = uz (P 4) (P 0 0) us j
  by_cases e : j = P 0 0
  · rw [e, uz_s, uz_s, uz_s, uz_s, uz_s, uz_s, uz_s, uz_s]; exact ⟨rfl, rfl, rfl, rfl⟩
  · rw [uz_n e, uz_n e, uz_n e, uz_n e, uz_n e, uz_n e, uz_n e, uz_n e]; exact h.1 j g1 (by omega)
theorem PA_6 (h : PA P rr f1 f2 f3 f4 f5 f6) {u6 : Int → Int} (hg : ∀ j, 0 ≤ j → j < 5 → u6 j = g j) : PA (seP P 6 g) rr f1 f2 f3 f4 f5 u6 := ⟨h.1, h.2.1, hg⟩
theorem PA_5 (h : PA P rr f1 f2 f3 f4 f5 f6) {u5 : Int → Int} {r2 : Int} (hg : ∀ j, 0 ≤ j → j < r2 → u5 j = g j) : PA (seP P 5 g) r2 f1 f2 f3 f4 u5 f6 := ⟨h.1, hg, h.2.2⟩
theorem PA_4 (h : PA P rr f1 f2 f3 f4 f5 f6) {u4 : Int → Int} (hg : ∀ j, 0 ≤ j → j < P 0 0 → u4 j = g j) : PA (seP P 4 g) rr f1 f2 f3 u4 f5 f6 := ⟨fun j g1 g2 => by
  obtain ⟨a, b, c, -⟩ := h.1 j g1 g2
  exact ⟨a, b, c, hg j g1 g2⟩, h.2.1, h.2.2⟩
theorem plS_s {q : Int} (h : 0 ≤ q) : plS T M st v g (Int.toNat (q + 1)) = if bAnd (bShr st q) 1 = 1 then (uz (plS T M st v g (Int.toNat q)).1 (M 16 q) v, (plS T M st v g (Int.toNat q)).2 + T 14 (M 16 q) 0 0) else plS T M st v g (Int.toNat q) := by
  rw [show Int.toNat (q + 1) = Int.toNat q + 1 by omega]
  simp only [plS]
  rw [show ((Int.toNat q : Nat) : Int) = q by omega]
theorem plS_in (hK : TK T) : ∀ k : Nat, 0 ≤ (plS T M st v g k).2 ∧ (plS T M st v g k).2 ≤ 40 * k
  | 0 => by simp only [plS]; omega
  | k + 1 => by
    have ih := plS_in hK k
    have h := TK_fh hK (M 16 (k : Int))
    simp only [plS]
    split
    · simp only; omega
    · omega
theorem paS_s {q : Int} (h : 0 ≤ q) : paS T M st P (Int.toNat (q + 1)) = if bAnd (bShr st q) 1 = 1 then pfZ T M (paS T M st P (Int.toNat q)) (bShl 1 q) else paS T M st P (Int.toNat q) := by
  rw [show Int.toNat (q + 1) = Int.toNat q + 1 by omega]
  simp only [paS]
  rw [show ((Int.toNat q : Nat) : Int) = q by omega]
theorem pfZ_y (h : P 0 0 < 965) : pfZ T M P st = pfQ T M P st := if_pos h
theorem pfZ_n (h : ¬ P 0 0 < 965) : pfZ T M P st = P := if_neg h
theorem pfQ_0 : pfQ T M P st 0 0 = P 0 0 + 1 := rfl
theorem pfQ_01 : pfQ T M P st 0 1 = P 0 1 := rfl
theorem pfZ_in (h : 0 ≤ P 0 0 ∧ P 0 0 ≤ 965) : (0 ≤ pfZ T M P st 0 0 ∧ pfZ T M P st 0 0 ≤ 965) ∧ pfZ T M P st 0 1 = P 0 1 := by
  unfold pfZ
  split
  · rw [pfQ_0, pfQ_01]; omega
  · exact ⟨h, rfl⟩
theorem ppZ_0 {ro ts bs : Int} : ppZ T M P ro n no us ts bs 0 = puP P ro n no us 0 := rfl
end LA1

theorem mw_369 : (Jvm.Cond.fieldLink "Galleyforge$Pages" (51 : Nat) "Galleyforge$Pages" "count" "I") ∈ gt := gt_at 439 (by decide +kernel) (by decide +kernel)
theorem mw_374 : (Jvm.Cond.fieldLink "Galleyforge$Pages" (9 : Nat) "Galleyforge$Pages" "firstRows" "[I") ∈ gt := gt_at 444 (by decide +kernel) (by decide +kernel)
theorem mw_376 : (Jvm.Cond.fieldLink "Galleyforge$Pages" (15 : Nat) "Galleyforge$Pages" "rowCounts" "[I") ∈ gt := gt_at 446 (by decide +kernel) (by decide +kernel)
theorem mw_378 : (Jvm.Cond.fieldLink "Galleyforge$Pages" (18 : Nat) "Galleyforge$Pages" "noteLines" "[I") ∈ gt := gt_at 448 (by decide +kernel) (by decide +kernel)
theorem mw_380 : (Jvm.Cond.fieldLink "Galleyforge$Pages" (21 : Nat) "Galleyforge$Pages" "used" "[I") ∈ gt := gt_at 450 (by decide +kernel) (by decide +kernel)
theorem dX4_put_0 : decode cX4_put 0 = .ok (.aload_n 0, 1) := by decide +kernel
theorem dX4_put_1 : decode cX4_put 1 = .ok (.getfield 51, 3) := by decide +kernel
theorem dX4_put_4 : decode cX4_put 4 = .ok (.sipush 965, 3) := by decide +kernel
theorem dX4_put_7 : decode cX4_put 7 = .ok (.if_icmp .ge 54, 3) := by decide +kernel
theorem dX4_put_10 : decode cX4_put 10 = .ok (.aload_n 0, 1) := by decide +kernel
theorem dX4_put_11 : decode cX4_put 11 = .ok (.getfield 9, 3) := by decide +kernel
theorem dX4_put_14 : decode cX4_put 14 = .ok (.aload_n 0, 1) := by decide +kernel
theorem dX4_put_15 : decode cX4_put 15 = .ok (.getfield 51, 3) := by decide +kernel
theorem dX4_put_18 : decode cX4_put 18 = .ok (.iload_n 1, 1) := by decide +kernel
theorem dX4_put_19 : decode cX4_put 19 = .ok (.iastore, 1) := by decide +kernel
theorem dX4_put_20 : decode cX4_put 20 = .ok (.aload_n 0, 1) := by decide +kernel
theorem dX4_put_21 : decode cX4_put 21 = .ok (.getfield 15, 3) := by decide +kernel
theorem dX4_put_24 : decode cX4_put 24 = .ok (.aload_n 0, 1) := by decide +kernel
theorem dX4_put_25 : decode cX4_put 25 = .ok (.getfield 51, 3) := by decide +kernel
theorem dX4_put_28 : decode cX4_put 28 = .ok (.iload_n 2, 1) := by decide +kernel
theorem dX4_put_29 : decode cX4_put 29 = .ok (.iastore, 1) := by decide +kernel
theorem dX4_put_30 : decode cX4_put 30 = .ok (.aload_n 0, 1) := by decide +kernel
theorem dX4_put_31 : decode cX4_put 31 = .ok (.getfield 18, 3) := by decide +kernel
theorem dX4_put_34 : decode cX4_put 34 = .ok (.aload_n 0, 1) := by decide +kernel
theorem dX4_put_35 : decode cX4_put 35 = .ok (.getfield 51, 3) := by decide +kernel
theorem dX4_put_38 : decode cX4_put 38 = .ok (.iload_n 3, 1) := by decide +kernel
theorem dX4_put_39 : decode cX4_put 39 = .ok (.iastore, 1) := by decide +kernel
theorem dX4_put_40 : decode cX4_put 40 = .ok (.aload_n 0, 1) := by decide +kernel
theorem dX4_put_41 : decode cX4_put 41 = .ok (.getfield 21, 3) := by decide +kernel
theorem dX4_put_44 : decode cX4_put 44 = .ok (.aload_n 0, 1) := by decide +kernel
theorem dX4_put_45 : decode cX4_put 45 = .ok (.getfield 51, 3) := by decide +kernel
theorem dX4_put_48 : decode cX4_put 48 = .ok (.iload 4, 2) := by decide +kernel
theorem dX4_put_50 : decode cX4_put 50 = .ok (.iastore, 1) := by decide +kernel
theorem dX4_put_51 : decode cX4_put 51 = .ok (.aload_n 0, 1) := by decide +kernel
theorem dX4_put_52 : decode cX4_put 52 = .ok (.dup, 1) := by decide +kernel
theorem dX4_put_53 : decode cX4_put 53 = .ok (.getfield 51, 3) := by decide +kernel
theorem dX4_put_56 : decode cX4_put 56 = .ok (.iconst 1, 1) := by decide +kernel
theorem dX4_put_57 : decode cX4_put 57 = .ok (.iadd, 1) := by decide +kernel
theorem dX4_put_58 : decode cX4_put 58 = .ok (.putfield 51, 3) := by decide +kernel
theorem dX4_put_61 : decode cX4_put 61 = .ok (.return_, 1) := by decide +kernel
set_option maxHeartbeats 4000000 in
set_option maxRecDepth 100000 in
theorem k_put (l : Launch) (dC : Nat → ClassId) (dI : Nat → Nat → Nat) (k : Nat → ClassId) (pp : Nat) (pg : Nat) (so : Nat) (p1 : Nat) (p2 : Nat) (p3 : Nat) (p4 : Nat) (p5 : Nat) (p6 : Nat) (T : Nat → Int → Int → Int → Int) (A : Nat → Int → Int → Nat) (X : Nat → Int → Int → Int) (tl : va_W) (M : Nat → Int → Int) (V : Nat → Int → Int) (Aw : Nat → Nat) (f1 : Int → Int) (f2 : Int → Int) (f3 : Int → Int) (f4 : Int → Int) (f5 : Int → Int) (f6 : Int → Int) (P : Nat → Int → Int) (rr : Int) (fr : Int) (nn : Int) (no : Int) (us : Int) (hPA : PA P rr f1 f2 f3 f4 f5 f6) (hPn : 0 ≤ P 0 0 ∧ P 0 0 ≤ 965) : Kn l dC dI k yX4_put (.code yX4_put cX4_put 5 none) ({ frames := 0, cells := 0, slots := 0, locals := 0 } : Room) [.ref pp, .int (iI fr), .int (iI nn), .int (iI no), .int (iI us)] [(pp, .inr (4, [.ref (A 50 0 0), .ref (Aw 20), .ref pg, .ref so, .int (iI (P 0 0)), .int (iI (P 0 1)), .ref p1, .ref p2, .ref p3, .ref p4, .ref p5, .ref p6])), (p1, .inl (k 0, 965, .inl (fun i9 : Nat => iI (f1 i9)))), (p2, .inl (k 0, 965, .inl (fun i9 : Nat => iI (f2 i9)))), (p3, .inl (k 0, 965, .inl (fun i9 : Nat => iI (f3 i9)))), (p4, .inl (k 0, 965, .inl (fun i9 : Nat => iI (f4 i9)))), (p5, .inl (k 0, 768, .inl (fun i9 : Nat => iI (f5 i9)))), (p6, .inl (k 0, 5, .inl (fun i9 : Nat => iI (f6 i9))))] (fun r w gc gs => (∃ (P2 : Nat → Int → Int) (u1 : Int → Int) (u2 : Int → Int) (u3 : Int → Int) (u4 : Int → Int), (P2 = (puP P fr nn no us)) ∧ (PA P2 rr u1 u2 u3 u4 f5 f6) ∧ (0 ≤ P2 0 0 ∧ P2 0 0 ≤ 965) ∧ r = none ∧ w = [(pp, .inr (4, [.ref (A 50 0 0), .ref (Aw 20), .ref pg, .ref so, .int (iI (P2 0 0)), .int (iI (P2 0 1)), .ref p1, .ref p2, .ref p3, .ref p4, .ref p5, .ref p6])), (p1, .inl (k 0, 965, .inl (fun i9 : Nat => iI (u1 i9)))), (p2, .inl (k 0, 965, .inl (fun i9 : Nat => iI (u2 i9)))), (p3, .inl (k 0, 965, .inl (fun i9 : Nat => iI (u3 i9)))), (p4, .inl (k 0, 965, .inl (fun i9 : Nat => iI (u4 i9)))), (p5, .inl (k 0, 768, .inl (fun i9 : Nat => iI (f5 i9)))), (p6, .inl (k 0, 5, .inl (fun i9 : Nat => iI (f6 i9))))] ∧ gc = 0 ∧ gs = 0)) := by
  refine kn_of (by decide) (Nat.le_of_ble_eq_true rfl) ?_
  intro p e s m args below meth c H locs B hr hnm ls hl
  have hx := B.1.1
  have hb := B.1.2.1
  have hl : lv_has ls 5 [(0, .ref pp), (1, .int (iI fr)), (2, .int (iI nn)), (3, .int (iI no)), (4, .int (iI us))] := hl
  refine lv_aload_n hx hb dX4_put_0 rfl (lv_at hl 0 rfl) ?_
  refine x_get (ci := 4) (C := RX4) (T := TX4) (N := 12) (v := .int (iI (P 0 0))) B 0 rfl rfl in_X4 4 (by decide) mw_369 (fun _ h9 => h9) rfl dX4_put_1 ?_
  refine lv_sipush (v := iI 965) hx hb dX4_put_4 (by decide) ?_
  refine lv_icmp_ge (tgt := 61) hx hb dX4_put_7 (by decide) (fun c_1 => ?_) (fun c_1 => ?_)
  · have zc_1 : 965 ≤ (P 0 0) := jle (a := 965) (b := (P 0 0)) (by omega) (by omega) c_1
    have e_2 : ((puP P fr nn no us) 0 0) = (P 0 0) := (by rw [puP_n (by omega)])
    have e_3 : ((puP P fr nn no us) 0 1) = (P 0 1) := puP_01
    have B := bd_to (ws' := [(pp, .inr (4, [.ref (A 50 0 0), .ref (Aw 20), .ref pg, .ref so, .int (iI ((puP P fr nn no us) 0 0)), .int (iI ((puP P fr nn no us) 0 1)), .ref p1, .ref p2, .ref p3, .ref p4, .ref p5, .ref p6])), (p1, .inl (k 0, 965, .inl (fun i9 : Nat => iI (f1 i9)))), (p2, .inl (k 0, 965, .inl (fun i9 : Nat => iI (f2 i9)))), (p3, .inl (k 0, 965, .inl (fun i9 : Nat => iI (f3 i9)))), (p4, .inl (k 0, 965, .inl (fun i9 : Nat => iI (f4 i9)))), (p5, .inl (k 0, 768, .inl (fun i9 : Nat => iI (f5 i9)))), (p6, .inl (k 0, 5, .inl (fun i9 : Nat => iI (f6 i9))))]) (by first | rfl | (rw [e_2, e_3]) | (rw [e_3, e_2])) B
    exact k_vret B hr (⟨(puP P fr nn no us), f1, f2, f3, f4, rfl, (by rw [puP_n (by omega)]; exact hPA), (puP_in hPn), rfl, rfl, rfl, rfl⟩) ⟨Nat.le_of_ble_eq_true rfl, Nat.le_of_ble_eq_true rfl⟩ ⟨Nat.le_of_ble_eq_true rfl, Nat.le_of_ble_eq_true rfl⟩ dX4_put_61
  · have zc_1 : (P 0 0) < 965 := jnle (a := 965) (b := (P 0 0)) (by omega) (by omega) c_1
    refine lv_aload_n hx hb dX4_put_10 rfl (lv_at hl 0 rfl) ?_
    refine x_get (ci := 4) (C := RX4) (T := TX4) (N := 12) (v := .ref p1) B 0 rfl rfl in_X4 6 (by decide) mw_374 (fun _ h9 => h9) rfl dX4_put_11 ?_
    refine lv_aload_n hx hb dX4_put_14 rfl (lv_at hl 0 rfl) ?_
    refine x_get (ci := 4) (C := RX4) (T := TX4) (N := 12) (v := .int (iI (P 0 0))) B 0 rfl rfl in_X4 4 (by decide) mw_369 (fun _ h9 => h9) rfl dX4_put_15 ?_
    refine lv_iload_n hx hb dX4_put_18 rfl (lv_at hl 1 rfl) ?_
    refine x_iast' (f := f1) (z := (P 0 0)) (v := fr) B 1 rfl (by omega) dX4_put_19 (fun H locs B => ?_)
    have B := bd_to (ws' := [(pp, .inr (4, [.ref (A 50 0 0), .ref (Aw 20), .ref pg, .ref so, .int (iI (P 0 0)), .int (iI (P 0 1)), .ref p1, .ref p2, .ref p3, .ref p4, .ref p5, .ref p6])), (p1, .inl (k 0, 965, .inl (fun i9 : Nat => iI ((uz f1 (P 0 0) fr) i9)))), (p2, .inl (k 0, 965, .inl (fun i9 : Nat => iI (f2 i9)))), (p3, .inl (k 0, 965, .inl (fun i9 : Nat => iI (f3 i9)))), (p4, .inl (k 0, 965, .inl (fun i9 : Nat => iI (f4 i9)))), (p5, .inl (k 0, 768, .inl (fun i9 : Nat => iI (f5 i9)))), (p6, .inl (k 0, 5, .inl (fun i9 : Nat => iI (f6 i9))))]) rfl B
    refine lv_aload_n hx hb dX4_put_20 rfl (lv_at hl 0 rfl) ?_
    refine x_get (ci := 4) (C := RX4) (T := TX4) (N := 12) (v := .ref p2) B 0 rfl rfl in_X4 7 (by decide) mw_376 (fun _ h9 => h9) rfl dX4_put_21 ?_
    refine lv_aload_n hx hb dX4_put_24 rfl (lv_at hl 0 rfl) ?_
    refine x_get (ci := 4) (C := RX4) (T := TX4) (N := 12) (v := .int (iI (P 0 0))) B 0 rfl rfl in_X4 4 (by decide) mw_369 (fun _ h9 => h9) rfl dX4_put_25 ?_
    refine lv_iload_n hx hb dX4_put_28 rfl (lv_at hl 2 rfl) ?_
    refine x_iast' (f := f2) (z := (P 0 0)) (v := nn) B 2 rfl (by omega) dX4_put_29 (fun H locs B => ?_)
    have B := bd_to (ws' := [(pp, .inr (4, [.ref (A 50 0 0), .ref (Aw 20), .ref pg, .ref so, .int (iI (P 0 0)), .int (iI (P 0 1)), .ref p1, .ref p2, .ref p3, .ref p4, .ref p5, .ref p6])), (p1, .inl (k 0, 965, .inl (fun i9 : Nat => iI ((uz f1 (P 0 0) fr) i9)))), (p2, .inl (k 0, 965, .inl (fun i9 : Nat => iI ((uz f2 (P 0 0) nn) i9)))), (p3, .inl (k 0, 965, .inl (fun i9 : Nat => iI (f3 i9)))), (p4, .inl (k 0, 965, .inl (fun i9 : Nat => iI (f4 i9)))), (p5, .inl (k 0, 768, .inl (fun i9 : Nat => iI (f5 i9)))), (p6, .inl (k 0, 5, .inl (fun i9 : Nat => iI (f6 i9))))]) rfl B
    refine lv_aload_n hx hb dX4_put_30 rfl (lv_at hl 0 rfl) ?_
    refine x_get (ci := 4) (C := RX4) (T := TX4) (N := 12) (v := .ref p3) B 0 rfl rfl in_X4 8 (by decide) mw_378 (fun _ h9 => h9) rfl dX4_put_31 ?_
    refine lv_aload_n hx hb dX4_put_34 rfl (lv_at hl 0 rfl) ?_
    refine x_get (ci := 4) (C := RX4) (T := TX4) (N := 12) (v := .int (iI (P 0 0))) B 0 rfl rfl in_X4 4 (by decide) mw_369 (fun _ h9 => h9) rfl dX4_put_35 ?_
    refine lv_iload_n hx hb dX4_put_38 rfl (lv_at hl 3 rfl) ?_
    refine x_iast' (f := f3) (z := (P 0 0)) (v := no) B 3 rfl (by omega) dX4_put_39 (fun H locs B => ?_)
    have B := bd_to (ws' := [(pp, .inr (4, [.ref (A 50 0 0), .ref (Aw 20), .ref pg, .ref so, .int (iI (P 0 0)), .int (iI (P 0 1)), .ref p1, .ref p2, .ref p3, .ref p4, .ref p5, .ref p6])), (p1, .inl (k 0, 965, .inl (fun i9 : Nat => iI ((uz f1 (P 0 0) fr) i9)))), (p2, .inl (k 0, 965, .inl (fun i9 : Nat => iI ((uz f2 (P 0 0) nn) i9)))), (p3, .inl (k 0, 965, .inl (fun i9 : Nat => iI ((uz f3 (P 0 0) no) i9)))), (p4, .inl (k 0, 965, .inl (fun i9 : Nat => iI (f4 i9)))), (p5, .inl (k 0, 768, .inl (fun i9 : Nat => iI (f5 i9)))), (p6, .inl (k 0, 5, .inl (fun i9 : Nat => iI (f6 i9))))]) rfl B
    refine lv_aload_n hx hb dX4_put_40 rfl (lv_at hl 0 rfl) ?_
    refine x_get (ci := 4) (C := RX4) (T := TX4) (N := 12) (v := .ref p4) B 0 rfl rfl in_X4 9 (by decide) mw_380 (fun _ h9 => h9) rfl dX4_put_41 ?_
    refine lv_aload_n hx hb dX4_put_44 rfl (lv_at hl 0 rfl) ?_
    refine x_get (ci := 4) (C := RX4) (T := TX4) (N := 12) (v := .int (iI (P 0 0))) B 0 rfl rfl in_X4 4 (by decide) mw_369 (fun _ h9 => h9) rfl dX4_put_45 ?_
    refine lv_iload hx hb dX4_put_48 (lv_at hl 4 rfl) ?_
    refine x_iast' (f := f4) (z := (P 0 0)) (v := us) B 4 rfl (by omega) dX4_put_50 (fun H locs B => ?_)
    have B := bd_to (ws' := [(pp, .inr (4, [.ref (A 50 0 0), .ref (Aw 20), .ref pg, .ref so, .int (iI (P 0 0)), .int (iI (P 0 1)), .ref p1, .ref p2, .ref p3, .ref p4, .ref p5, .ref p6])), (p1, .inl (k 0, 965, .inl (fun i9 : Nat => iI ((uz f1 (P 0 0) fr) i9)))), (p2, .inl (k 0, 965, .inl (fun i9 : Nat => iI ((uz f2 (P 0 0) nn) i9)))), (p3, .inl (k 0, 965, .inl (fun i9 : Nat => iI ((uz f3 (P 0 0) no) i9)))), (p4, .inl (k 0, 965, .inl (fun i9 : Nat => iI ((uz f4 (P 0 0) us) i9)))), (p5, .inl (k 0, 768, .inl (fun i9 : Nat => iI (f5 i9)))), (p6, .inl (k 0, 5, .inl (fun i9 : Nat => iI (f6 i9))))]) rfl B
    refine lv_aload_n hx hb dX4_put_51 rfl (lv_at hl 0 rfl) ?_
    refine lv_dup hx hb dX4_put_52 rfl ?_
    refine x_get (ci := 4) (C := RX4) (T := TX4) (N := 12) (v := .int (iI (P 0 0))) B 0 rfl rfl in_X4 4 (by decide) mw_369 (fun _ h9 => h9) rfl dX4_put_53 ?_
    refine lv_iconst (v := iI 1) hx hb dX4_put_56 (by decide) ?_
    refine y_add hx hb dX4_put_57 ?_
    refine x_put (ci := 4) (C := RX4) (T := TX4) (N := 12) (ty := .int) (v := .int (iI ((P 0 0) + 1))) B tyX4_ok nmX4 0 rfl rfl in_X4 4 (by decide) mw_369 (fun _ h9 => h9) rfl (by decide +kernel) rfl rfl (Nat.le_of_ble_eq_true rfl) dX4_put_58 (fun H locs B => ?_)
    have B := bd_to (ws' := [(pp, .inr (4, [.ref (A 50 0 0), .ref (Aw 20), .ref pg, .ref so, .int (iI ((P 0 0) + 1)), .int (iI (P 0 1)), .ref p1, .ref p2, .ref p3, .ref p4, .ref p5, .ref p6])), (p1, .inl (k 0, 965, .inl (fun i9 : Nat => iI ((uz f1 (P 0 0) fr) i9)))), (p2, .inl (k 0, 965, .inl (fun i9 : Nat => iI ((uz f2 (P 0 0) nn) i9)))), (p3, .inl (k 0, 965, .inl (fun i9 : Nat => iI ((uz f3 (P 0 0) no) i9)))), (p4, .inl (k 0, 965, .inl (fun i9 : Nat => iI ((uz f4 (P 0 0) us) i9)))), (p5, .inl (k 0, 768, .inl (fun i9 : Nat => iI (f5 i9)))), (p6, .inl (k 0, 5, .inl (fun i9 : Nat => iI (f6 i9))))]) rfl B
    have e_4 : ((puP P fr nn no us) 0 0) = ((P 0 0) + 1) := (by rw [puP_y (by omega)]; exact puQ_0)
    have e_5 : ((puP P fr nn no us) 0 1) = (P 0 1) := puP_01
    have B := bd_to (ws' := [(pp, .inr (4, [.ref (A 50 0 0), .ref (Aw 20), .ref pg, .ref so, .int (iI ((puP P fr nn no us) 0 0)), .int (iI ((puP P fr nn no us) 0 1)), .ref p1, .ref p2, .ref p3, .ref p4, .ref p5, .ref p6])), (p1, .inl (k 0, 965, .inl (fun i9 : Nat => iI ((uz f1 (P 0 0) fr) i9)))), (p2, .inl (k 0, 965, .inl (fun i9 : Nat => iI ((uz f2 (P 0 0) nn) i9)))), (p3, .inl (k 0, 965, .inl (fun i9 : Nat => iI ((uz f3 (P 0 0) no) i9)))), (p4, .inl (k 0, 965, .inl (fun i9 : Nat => iI ((uz f4 (P 0 0) us) i9)))), (p5, .inl (k 0, 768, .inl (fun i9 : Nat => iI (f5 i9)))), (p6, .inl (k 0, 5, .inl (fun i9 : Nat => iI (f6 i9))))]) (by first | rfl | (rw [e_4, e_5]) | (rw [e_5, e_4])) B
    exact k_vret B hr (⟨(puP P fr nn no us), (uz f1 (P 0 0) fr), (uz f2 (P 0 0) nn), (uz f3 (P 0 0) no), (uz f4 (P 0 0) us), rfl, (by rw [puP_y (by omega)]; exact PA_pu hPA), (puP_in hPn), rfl, rfl, rfl, rfl⟩) ⟨Nat.le_of_ble_eq_true rfl, Nat.le_of_ble_eq_true rfl⟩ ⟨Nat.le_of_ble_eq_true rfl, Nat.le_of_ble_eq_true rfl⟩ dX4_put_61

theorem mw_383 : (Jvm.Cond.fieldLink "Galleyforge$Pages" (27 : Nat) "Galleyforge$Pages" "figuresAt" "[I") ∈ gt := gt_at 453 (by decide +kernel) (by decide +kernel)
theorem dX4_placeFigures_0 : decode cX4_placeFigures 0 = .ok (.iconst 0, 1) := by decide +kernel
theorem dX4_placeFigures_1 : decode cX4_placeFigures 1 = .ok (.istore_n 3, 1) := by decide +kernel
theorem dX4_placeFigures_2 : decode cX4_placeFigures 2 = .ok (.iconst 0, 1) := by decide +kernel
theorem dX4_placeFigures_3 : decode cX4_placeFigures 3 = .ok (.istore 4, 2) := by decide +kernel
theorem dX4_placeFigures_5 : decode cX4_placeFigures 5 = .ok (.iload 4, 2) := by decide +kernel
theorem dX4_placeFigures_7 : decode cX4_placeFigures 7 = .ok (.aload_n 0, 1) := by decide +kernel
theorem dX4_placeFigures_8 : decode cX4_placeFigures 8 = .ok (.getfield 34, 3) := by decide +kernel
theorem dX4_placeFigures_11 : decode cX4_placeFigures 11 = .ok (.getfield 152, 3) := by decide +kernel
theorem dX4_placeFigures_14 : decode cX4_placeFigures 14 = .ok (.if_icmp .ge 60, 3) := by decide +kernel
theorem dX4_placeFigures_17 : decode cX4_placeFigures 17 = .ok (.iload_n 1, 1) := by decide +kernel
theorem dX4_placeFigures_18 : decode cX4_placeFigures 18 = .ok (.iload 4, 2) := by decide +kernel
theorem dX4_placeFigures_20 : decode cX4_placeFigures 20 = .ok (.ishr, 1) := by decide +kernel
theorem dX4_placeFigures_21 : decode cX4_placeFigures 21 = .ok (.iconst 1, 1) := by decide +kernel
theorem dX4_placeFigures_22 : decode cX4_placeFigures 22 = .ok (.iand, 1) := by decide +kernel
theorem dX4_placeFigures_23 : decode cX4_placeFigures 23 = .ok (.iconst 1, 1) := by decide +kernel
theorem dX4_placeFigures_24 : decode cX4_placeFigures 24 = .ok (.if_icmp .ne 44, 3) := by decide +kernel
theorem dX4_placeFigures_27 : decode cX4_placeFigures 27 = .ok (.aload_n 0, 1) := by decide +kernel
theorem dX4_placeFigures_28 : decode cX4_placeFigures 28 = .ok (.getfield 34, 3) := by decide +kernel
theorem dX4_placeFigures_31 : decode cX4_placeFigures 31 = .ok (.getfield 160, 3) := by decide +kernel
theorem dX4_placeFigures_34 : decode cX4_placeFigures 34 = .ok (.iload 4, 2) := by decide +kernel
theorem dX4_placeFigures_36 : decode cX4_placeFigures 36 = .ok (.iaload, 1) := by decide +kernel
theorem dX4_placeFigures_37 : decode cX4_placeFigures 37 = .ok (.istore 5, 2) := by decide +kernel
theorem dX4_placeFigures_39 : decode cX4_placeFigures 39 = .ok (.aload_n 0, 1) := by decide +kernel
theorem dX4_placeFigures_40 : decode cX4_placeFigures 40 = .ok (.getfield 27, 3) := by decide +kernel
theorem dX4_placeFigures_43 : decode cX4_placeFigures 43 = .ok (.iload 5, 2) := by decide +kernel
theorem dX4_placeFigures_45 : decode cX4_placeFigures 45 = .ok (.bipush 10, 2) := by decide +kernel
theorem dX4_placeFigures_47 : decode cX4_placeFigures 47 = .ok (.aload_n 0, 1) := by decide +kernel
theorem dX4_placeFigures_48 : decode cX4_placeFigures 48 = .ok (.getfield 51, 3) := by decide +kernel
theorem dX4_placeFigures_51 : decode cX4_placeFigures 51 = .ok (.imul, 1) := by decide +kernel
theorem dX4_placeFigures_52 : decode cX4_placeFigures 52 = .ok (.iload_n 2, 1) := by decide +kernel
theorem dX4_placeFigures_53 : decode cX4_placeFigures 53 = .ok (.iadd, 1) := by decide +kernel
theorem dX4_placeFigures_54 : decode cX4_placeFigures 54 = .ok (.iastore, 1) := by decide +kernel
theorem dX4_placeFigures_55 : decode cX4_placeFigures 55 = .ok (.iload_n 3, 1) := by decide +kernel
theorem dX4_placeFigures_56 : decode cX4_placeFigures 56 = .ok (.aload_n 0, 1) := by decide +kernel
theorem dX4_placeFigures_57 : decode cX4_placeFigures 57 = .ok (.getfield 30, 3) := by decide +kernel
theorem dX4_placeFigures_60 : decode cX4_placeFigures 60 = .ok (.getfield 155, 3) := by decide +kernel
theorem dX4_placeFigures_63 : decode cX4_placeFigures 63 = .ok (.iload 5, 2) := by decide +kernel
theorem dX4_placeFigures_65 : decode cX4_placeFigures 65 = .ok (.iaload, 1) := by decide +kernel
theorem dX4_placeFigures_66 : decode cX4_placeFigures 66 = .ok (.iadd, 1) := by decide +kernel
theorem dX4_placeFigures_67 : decode cX4_placeFigures 67 = .ok (.istore_n 3, 1) := by decide +kernel
theorem dX4_placeFigures_68 : decode cX4_placeFigures 68 = .ok (.iinc 4 1, 3) := by decide +kernel
theorem dX4_placeFigures_71 : decode cX4_placeFigures 71 = .ok (.goto (-66), 3) := by decide +kernel
theorem dX4_placeFigures_74 : decode cX4_placeFigures 74 = .ok (.iload_n 3, 1) := by decide +kernel
theorem dX4_placeFigures_75 : decode cX4_placeFigures 75 = .ok (.ireturn, 1) := by decide +kernel
set_option maxHeartbeats 4000000 in
set_option maxRecDepth 100000 in
theorem k_placeFigures (l : Launch) (dC : Nat → ClassId) (dI : Nat → Nat → Nat) (k : Nat → ClassId) (pp : Nat) (pg : Nat) (so : Nat) (p1 : Nat) (p2 : Nat) (p3 : Nat) (p4 : Nat) (p5 : Nat) (p6 : Nat) (T : Nat → Int → Int → Int → Int) (A : Nat → Int → Int → Nat) (X : Nat → Int → Int → Int) (tl : va_W) (M : Nat → Int → Int) (V : Nat → Int → Int) (Aw : Nat → Nat) (f1 : Int → Int) (f2 : Int → Int) (f3 : Int → Int) (f4 : Int → Int) (f5 : Int → Int) (f6 : Int → Int) (P : Nat → Int → Int) (rr : Int) (st_ : Int) (wh : Int) (hT : TI dI k T A X tl) (hK : TK T) (hR : RI k (T 0 0 0 0) M V Aw tl) (hM : MK M) (hMT : ∀ j, 0 ≤ j → j < M 0 0 → M 2 j < T 0 0 0 0) (hPA : PA P rr f1 f2 f3 f4 f5 f6) (hPn : 0 ≤ P 0 0 ∧ P 0 0 ≤ 965) (h1 : 0 ≤ st_ ∧ st_ < 32 ∧ 0 ≤ wh ∧ wh ≤ 2) : Kn l dC dI k yX4_placeFigures (.code yX4_placeFigures cX4_placeFigures 6 (some .int)) ({ frames := 0, cells := 0, slots := 0, locals := 0 } : Room) [.ref pp, .int (iI st_), .int (iI wh)] ([(pp, .inr (4, [.ref (A 50 0 0), .ref (Aw 20), .ref pg, .ref so, .int (iI (P 0 0)), .int (iI (P 0 1)), .ref p1, .ref p2, .ref p3, .ref p4, .ref p5, .ref p6])), (p1, .inl (k 0, 965, .inl (fun i9 : Nat => iI (f1 i9)))), (p2, .inl (k 0, 965, .inl (fun i9 : Nat => iI (f2 i9)))), (p3, .inl (k 0, 965, .inl (fun i9 : Nat => iI (f3 i9)))), (p4, .inl (k 0, 965, .inl (fun i9 : Nat => iI (f4 i9)))), (p5, .inl (k 0, 768, .inl (fun i9 : Nat => iI (f5 i9)))), (p6, .inl (k 0, 5, .inl (fun i9 : Nat => iI (f6 i9))))] ++ tl) (fun r w gc gs => (∃ (P2 : Nat → Int → Int) (u6 : Int → Int), (P2 = seP P 6 (plZ T M st_ (10 * P 0 0 + wh) (P 6)).1) ∧ (PA P2 rr f1 f2 f3 f4 f5 u6) ∧ (0 ≤ P2 0 0 ∧ P2 0 0 ≤ 965) ∧ (0 ≤ (plZ T M st_ (10 * P 0 0 + wh) (P 6)).2 ∧ (plZ T M st_ (10 * P 0 0 + wh) (P 6)).2 ≤ 200) ∧ r = some (.int (iI ((plZ T M st_ (10 * P 0 0 + wh) (P 6)).2))) ∧ w = ([(pp, .inr (4, [.ref (A 50 0 0), .ref (Aw 20), .ref pg, .ref so, .int (iI (P2 0 0)), .int (iI (P2 0 1)), .ref p1, .ref p2, .ref p3, .ref p4, .ref p5, .ref p6])), (p1, .inl (k 0, 965, .inl (fun i9 : Nat => iI (f1 i9)))), (p2, .inl (k 0, 965, .inl (fun i9 : Nat => iI (f2 i9)))), (p3, .inl (k 0, 965, .inl (fun i9 : Nat => iI (f3 i9)))), (p4, .inl (k 0, 965, .inl (fun i9 : Nat => iI (f4 i9)))), (p5, .inl (k 0, 768, .inl (fun i9 : Nat => iI (f5 i9)))), (p6, .inl (k 0, 5, .inl (fun i9 : Nat => iI (u6 i9))))] ++ tl) ∧ gc = 0 ∧ gs = 0)) := by
  refine kn_of (by decide) (Nat.le_of_ble_eq_true rfl) ?_
  intro p e s m args below meth c H locs B hr hnm ls hl
  have hx := B.1.1
  have hb := B.1.2.1
  have hl : lv_has ls 6 [(0, .ref pp), (1, .int (iI st_)), (2, .int (iI wh))] := hl
  have hn0 := MK_cnt hM
  have hf0 := MK_17 hM
  refine lv_iconst (v := iI 0) hx hb dX4_placeFigures_0 (by decide) ?_
  refine lv_istore_n (lv' := [(3, .int (iI 0)), (0, .ref pp), (1, .int (iI st_)), (2, .int (iI wh))]) hx hb dX4_placeFigures_1 rfl hl (by decide) rfl (fun ls hl => ?_)
  refine lv_iconst (v := iI 0) hx hb dX4_placeFigures_2 (by decide) ?_
  refine lv_istore (lv' := [(4, .int (iI 0)), (3, .int (iI 0)), (0, .ref pp), (1, .int (iI st_)), (2, .int (iI wh))]) hx hb dX4_placeFigures_3 hl (by decide) rfl (fun ls hl => ?_)
  refine k_loop (σ := Int × Int × (Int → Int)) B (fun g9 : Int × Int × (Int → Int) => (0 ≤ g9.2.1 ∧ g9.2.1 ≤ M 17 0 ∧ 0 ≤ g9.1 ∧ g9.1 ≤ 40 * g9.2.1) ∧ (g9.1 = (plS T M st_ (10 * P 0 0 + wh) (P 6) (Int.toNat g9.2.1)).2) ∧ (∀ j, 0 ≤ j → j < 5 → g9.2.2 j = (plS T M st_ (10 * P 0 0 + wh) (P 6) (Int.toNat g9.2.1)).1 j)) (fun g9 : Int × Int × (Int → Int) => (M 17 0 - g9.2.1).toNat) (fun g9 : Int × Int × (Int → Int) => [(4, .int (iI g9.2.1)), (3, .int (iI g9.1)), (0, .ref pp), (1, .int (iI st_)), (2, .int (iI wh))]) (fun g9 : Int × Int × (Int → Int) => ([(pp, .inr (4, [.ref (A 50 0 0), .ref (Aw 20), .ref pg, .ref so, .int (iI (P 0 0)), .int (iI (P 0 1)), .ref p1, .ref p2, .ref p3, .ref p4, .ref p5, .ref p6])), (p1, .inl (k 0, 965, .inl (fun i9 : Nat => iI (f1 i9)))), (p2, .inl (k 0, 965, .inl (fun i9 : Nat => iI (f2 i9)))), (p3, .inl (k 0, 965, .inl (fun i9 : Nat => iI (f3 i9)))), (p4, .inl (k 0, 965, .inl (fun i9 : Nat => iI (f4 i9)))), (p5, .inl (k 0, 768, .inl (fun i9 : Nat => iI (f5 i9)))), (p6, .inl (k 0, 5, .inl (fun i9 : Nat => iI (g9.2.2 i9))))] ++ tl)) ?_ (0, 0, f6) ⟨(show 0 ≤ 0 ∧ 0 ≤ M 17 0 ∧ 0 ≤ 0 ∧ 0 ≤ 40 * 0 from (by omega)), (show 0 = (plS T M st_ (10 * P 0 0 + wh) (P 6) (Int.toNat 0)).2 from rfl), (show ∀ j, 0 ≤ j → j < 5 → f6 j = (plS T M st_ (10 * P 0 0 + wh) (P 6) (Int.toNat 0)).1 j from hPA.2.2)⟩ ls H locs (lv_sub hl [0, 1, 2, 3, 4] rfl) (bd_to rfl B)
  clear hl B
  rintro ⟨hh, q, u6⟩ ⟨hk, hhh, hu6⟩ ih_1 ls H locs hl B
  have hk : 0 ≤ q ∧ q ≤ M 17 0 ∧ 0 ≤ hh ∧ hh ≤ 40 * q := hk
  have hhh : hh = (plS T M st_ (10 * P 0 0 + wh) (P 6) (Int.toNat q)).2 := hhh
  have hu6 : ∀ j, 0 ≤ j → j < 5 → u6 j = (plS T M st_ (10 * P 0 0 + wh) (P 6) (Int.toNat q)).1 j := hu6
  have hl : lv_has ls 6 [(4, .int (iI q)), (3, .int (iI hh)), (0, .ref pp), (1, .int (iI st_)), (2, .int (iI wh))] := hl
  have B := bd_to (ws' := ([(pp, .inr (4, [.ref (A 50 0 0), .ref (Aw 20), .ref pg, .ref so, .int (iI (P 0 0)), .int (iI (P 0 1)), .ref p1, .ref p2, .ref p3, .ref p4, .ref p5, .ref p6])), (p1, .inl (k 0, 965, .inl (fun i9 : Nat => iI (f1 i9)))), (p2, .inl (k 0, 965, .inl (fun i9 : Nat => iI (f2 i9)))), (p3, .inl (k 0, 965, .inl (fun i9 : Nat => iI (f3 i9)))), (p4, .inl (k 0, 965, .inl (fun i9 : Nat => iI (f4 i9)))), (p5, .inl (k 0, 768, .inl (fun i9 : Nat => iI (f5 i9)))), (p6, .inl (k 0, 5, .inl (fun i9 : Nat => iI (u6 i9))))] ++ tl)) rfl B
  refine lv_iload hx hb dX4_placeFigures_5 (lv_at hl 0 rfl) ?_
  refine lv_aload_n hx hb dX4_placeFigures_7 rfl (lv_at hl 2 rfl) ?_
  refine x_get (ci := 4) (C := RX4) (T := TX4) (N := 12) (v := .ref (Aw 20)) B 0 rfl rfl in_X4 1 (by decide) mw_366 (fun _ h9 => h9) rfl dX4_placeFigures_8 ?_
  obtain ⟨k_2, hk_2⟩ := pk_at (hs := [(pp, .inr (4, [.ref (A 50 0 0), .ref (Aw 20), .ref pg, .ref so, .int (iI (P 0 0)), .int (iI (P 0 1)), .ref p1, .ref p2, .ref p3, .ref p4, .ref p5, .ref p6])), (p1, .inl (k 0, 965, .inl (fun i9 : Nat => iI (f1 i9)))), (p2, .inl (k 0, 965, .inl (fun i9 : Nat => iI (f2 i9)))), (p3, .inl (k 0, 965, .inl (fun i9 : Nat => iI (f3 i9)))), (p4, .inl (k 0, 965, .inl (fun i9 : Nat => iI (f4 i9)))), (p5, .inl (k 0, 768, .inl (fun i9 : Nat => iI (f5 i9)))), (p6, .inl (k 0, 5, .inl (fun i9 : Nat => iI (u6 i9))))]) (RI_o hR)
  refine x_get (ci := 6) (C := RX6) (T := TX6) (N := 18) (v := .int (iI (M 17 0))) B k_2 hk_2 rfl in_X6 17 (by decide) mw_261 (fun _ h9 => h9) rfl dX4_placeFigures_11 ?_
  refine lv_icmp_ge (tgt := 74) hx hb dX4_placeFigures_14 (by decide) (fun c_3 => ?_) (fun c_3 => ?_)
  · have zc_3 : (M 17 0) ≤ q := jle (a := (M 17 0)) (b := q) (by omega) (by omega) c_3
    refine lv_iload_n hx hb dX4_placeFigures_74 rfl (lv_at hl 1 rfl) ?_
    have e_4 : ((plZ T M st_ (10 * P 0 0 + wh) (P 6)).2) = hh := (by have e9 : plZ T M st_ (10 * P 0 0 + wh) (P 6) = plS T M st_ (10 * P 0 0 + wh) (P 6) (Int.toNat q) := (by show plS T M st_ (10 * P 0 0 + wh) (P 6) (Int.toNat (M 17 0)) = _; rw [show M 17 0 = q by omega]); rw [e9]; exact hhh.symm)
    have e_5 : ((seP P 6 (plZ T M st_ (10 * P 0 0 + wh) (P 6)).1) 0 0) = (P 0 0) := rfl
    have e_6 : ((seP P 6 (plZ T M st_ (10 * P 0 0 + wh) (P 6)).1) 0 1) = (P 0 1) := rfl
    have B := bd_to (ws' := ([(pp, .inr (4, [.ref (A 50 0 0), .ref (Aw 20), .ref pg, .ref so, .int (iI ((seP P 6 (plZ T M st_ (10 * P 0 0 + wh) (P 6)).1) 0 0)), .int (iI ((seP P 6 (plZ T M st_ (10 * P 0 0 + wh) (P 6)).1) 0 1)), .ref p1, .ref p2, .ref p3, .ref p4, .ref p5, .ref p6])), (p1, .inl (k 0, 965, .inl (fun i9 : Nat => iI (f1 i9)))), (p2, .inl (k 0, 965, .inl (fun i9 : Nat => iI (f2 i9)))), (p3, .inl (k 0, 965, .inl (fun i9 : Nat => iI (f3 i9)))), (p4, .inl (k 0, 965, .inl (fun i9 : Nat => iI (f4 i9)))), (p5, .inl (k 0, 768, .inl (fun i9 : Nat => iI (f5 i9)))), (p6, .inl (k 0, 5, .inl (fun i9 : Nat => iI (u6 i9))))] ++ tl)) (by first | rfl | (rw [e_4, e_5, e_6]) | (rw [e_6, e_5, e_4])) B
    exact k_iret B hr (⟨(seP P 6 (plZ T M st_ (10 * P 0 0 + wh) (P 6)).1), u6, rfl, (PA_6 hPA (by rw [show plZ T M st_ (10 * P 0 0 + wh) (P 6) = plS T M st_ (10 * P 0 0 + wh) (P 6) (Int.toNat q) from by show plS T M st_ (10 * P 0 0 + wh) (P 6) (Int.toNat (M 17 0)) = _; rw [show M 17 0 = q by omega]]; exact hu6)), hPn, (by have q9 := plS_in (T := T) (M := M) (st := st_) (v := 10 * P 0 0 + wh) (g := P 6) hK (Int.toNat (M 17 0)); show 0 ≤ (plS T M st_ (10 * P 0 0 + wh) (P 6) (Int.toNat (M 17 0))).2 ∧ (plS T M st_ (10 * P 0 0 + wh) (P 6) (Int.toNat (M 17 0))).2 ≤ 200; omega), (by rw [e_4]), rfl, rfl, rfl⟩) ⟨Nat.le_of_ble_eq_true rfl, Nat.le_of_ble_eq_true rfl⟩ ⟨Nat.le_of_ble_eq_true rfl, Nat.le_of_ble_eq_true rfl⟩ dX4_placeFigures_75
  · have zc_3 : q < (M 17 0) := jnle (a := (M 17 0)) (b := q) (by omega) (by omega) c_3
    refine lv_iload_n hx hb dX4_placeFigures_17 rfl (lv_at hl 3 rfl) ?_
    refine lv_iload hx hb dX4_placeFigures_18 (lv_at hl 0 rfl) ?_
    refine y_shr hx hb (a := st_) (b := q) (by omega) (by omega) dX4_placeFigures_20 ?_
    have z_7 : 0 ≤ (bShr st_ q) ∧ (bShr st_ q) ≤ st_ := bShr_le (by omega)
    refine lv_iconst (v := iI 1) hx hb dX4_placeFigures_21 (by decide) ?_
    refine y_and hx hb (a := (bShr st_ q)) (b := 1) (by omega) (by omega) dX4_placeFigures_22 ?_
    have z_8 : 0 ≤ (bAnd (bShr st_ q) 1) ∧ (bAnd (bShr st_ q) 1) ≤ (bShr st_ q) := bAnd_le (by omega)
    have z_9 : 0 ≤ (bAnd (bShr st_ q) 1) ∧ (bAnd (bShr st_ q) 1) ≤ 1 := bAnd_le' (by omega)
    refine lv_iconst (v := iI 1) hx hb dX4_placeFigures_23 (by decide) ?_
    refine lv_icmp_ne (tgt := 68) hx hb dX4_placeFigures_24 (by decide) (fun c_10 => ?_) (fun c_10 => ?_)
    · have zc_10 : (bAnd (bShr st_ q) 1) ≠ 1 := jne (a := (bAnd (bShr st_ q) 1)) (b := 1) (by omega) (by omega) c_10
      refine lv_iinc (v := iI (q + 1)) (lv' := [(4, .int (iI (q + 1))), (3, .int (iI hh)), (0, .ref pp), (1, .int (iI st_)), (2, .int (iI wh))]) hx hb dX4_placeFigures_68 hl (k := 0) rfl (iI_add _ _) (by decide) rfl (fun ls hl => ?_)
      refine lv_goto (tgt := 5) hx hb dX4_placeFigures_71 (by decide) ?_
      exact ih_1 (hh, (q + 1), u6) ⟨(show 0 ≤ (q + 1) ∧ (q + 1) ≤ M 17 0 ∧ 0 ≤ hh ∧ hh ≤ 40 * (q + 1) from (by omega)), (show hh = (plS T M st_ (10 * P 0 0 + wh) (P 6) (Int.toNat (q + 1))).2 from (by rw [plS_s (by omega), if_neg (by omega)]; exact hhh)), (show ∀ j, 0 ≤ j → j < 5 → u6 j = (plS T M st_ (10 * P 0 0 + wh) (P 6) (Int.toNat (q + 1))).1 j from (by rw [plS_s (by omega), if_neg (by omega)]; exact hu6))⟩ (by first | omega | (dsimp only; omega)) _ _ _ (lv_sub hl [0, 1, 2, 3, 4] rfl) (bd_to rfl B)
    · have zc_10 : (bAnd (bShr st_ q) 1) = 1 := jeq (a := (bAnd (bShr st_ q) 1)) (b := 1) (by omega) (by omega) c_10
      refine lv_aload_n hx hb dX4_placeFigures_27 rfl (lv_at hl 2 rfl) ?_
      refine x_get (ci := 4) (C := RX4) (T := TX4) (N := 12) (v := .ref (Aw 20)) B 0 rfl rfl in_X4 1 (by decide) mw_366 (fun _ h9 => h9) rfl dX4_placeFigures_28 ?_
      obtain ⟨k_11, hk_11⟩ := pk_at (hs := [(pp, .inr (4, [.ref (A 50 0 0), .ref (Aw 20), .ref pg, .ref so, .int (iI (P 0 0)), .int (iI (P 0 1)), .ref p1, .ref p2, .ref p3, .ref p4, .ref p5, .ref p6])), (p1, .inl (k 0, 965, .inl (fun i9 : Nat => iI (f1 i9)))), (p2, .inl (k 0, 965, .inl (fun i9 : Nat => iI (f2 i9)))), (p3, .inl (k 0, 965, .inl (fun i9 : Nat => iI (f3 i9)))), (p4, .inl (k 0, 965, .inl (fun i9 : Nat => iI (f4 i9)))), (p5, .inl (k 0, 768, .inl (fun i9 : Nat => iI (f5 i9)))), (p6, .inl (k 0, 5, .inl (fun i9 : Nat => iI (u6 i9))))]) (RI_o hR)
      refine x_get (ci := 6) (C := RX6) (T := TX6) (N := 18) (v := .ref (Aw 16)) B k_11 hk_11 rfl in_X6 16 (by decide) mw_259 (fun _ h9 => h9) rfl dX4_placeFigures_31 ?_
      refine lv_iload hx hb dX4_placeFigures_34 (lv_at hl 0 rfl) ?_
      obtain ⟨k_12, hk_12⟩ := pk_at (hs := [(pp, .inr (4, [.ref (A 50 0 0), .ref (Aw 20), .ref pg, .ref so, .int (iI (P 0 0)), .int (iI (P 0 1)), .ref p1, .ref p2, .ref p3, .ref p4, .ref p5, .ref p6])), (p1, .inl (k 0, 965, .inl (fun i9 : Nat => iI (f1 i9)))), (p2, .inl (k 0, 965, .inl (fun i9 : Nat => iI (f2 i9)))), (p3, .inl (k 0, 965, .inl (fun i9 : Nat => iI (f3 i9)))), (p4, .inl (k 0, 965, .inl (fun i9 : Nat => iI (f4 i9)))), (p5, .inl (k 0, 768, .inl (fun i9 : Nat => iI (f5 i9)))), (p6, .inl (k 0, 5, .inl (fun i9 : Nat => iI (u6 i9))))]) (RI_16 hR)
      refine x_iald' (f := (V 16)) (z := q) B k_12 hk_12 (by omega) dX4_placeFigures_36 ?_
      refine lv_seti (y := iI (M 16 q)) (congrArg iI (show (V 16) q = M 16 q from RA_16 (RI_a hR) _ (by omega) (by omega))) ?_
      have z_13 : 0 ≤ M 16 q ∧ M 16 q ≤ 4 := MK_16 hM _
      refine lv_istore (lv' := [(5, .int (iI (M 16 q))), (4, .int (iI q)), (3, .int (iI hh)), (0, .ref pp), (1, .int (iI st_)), (2, .int (iI wh))]) hx hb dX4_placeFigures_37 hl (by decide) rfl (fun ls hl => ?_)
      refine lv_aload_n hx hb dX4_placeFigures_39 rfl (lv_at hl 3 rfl) ?_
      refine x_get (ci := 4) (C := RX4) (T := TX4) (N := 12) (v := .ref p6) B 0 rfl rfl in_X4 11 (by decide) mw_383 (fun _ h9 => h9) rfl dX4_placeFigures_40 ?_
      refine lv_iload hx hb dX4_placeFigures_43 (lv_at hl 0 rfl) ?_
      refine lv_bipush (v := iI 10) hx hb dX4_placeFigures_45 (by decide) ?_
      refine lv_aload_n hx hb dX4_placeFigures_47 rfl (lv_at hl 3 rfl) ?_
      refine x_get (ci := 4) (C := RX4) (T := TX4) (N := 12) (v := .int (iI (P 0 0))) B 0 rfl rfl in_X4 4 (by decide) mw_369 (fun _ h9 => h9) rfl dX4_placeFigures_48 ?_
      refine y_mul hx hb dX4_placeFigures_51 ?_
      refine lv_iload_n hx hb dX4_placeFigures_52 rfl (lv_at hl 5 rfl) ?_
      refine y_add hx hb dX4_placeFigures_53 ?_
      refine x_iast' (f := u6) (z := (M 16 q)) (v := ((10 * (P 0 0)) + wh)) B 6 rfl (by omega) dX4_placeFigures_54 (fun H locs B => ?_)
      have B := bd_to (ws' := ([(pp, .inr (4, [.ref (A 50 0 0), .ref (Aw 20), .ref pg, .ref so, .int (iI (P 0 0)), .int (iI (P 0 1)), .ref p1, .ref p2, .ref p3, .ref p4, .ref p5, .ref p6])), (p1, .inl (k 0, 965, .inl (fun i9 : Nat => iI (f1 i9)))), (p2, .inl (k 0, 965, .inl (fun i9 : Nat => iI (f2 i9)))), (p3, .inl (k 0, 965, .inl (fun i9 : Nat => iI (f3 i9)))), (p4, .inl (k 0, 965, .inl (fun i9 : Nat => iI (f4 i9)))), (p5, .inl (k 0, 768, .inl (fun i9 : Nat => iI (f5 i9)))), (p6, .inl (k 0, 5, .inl (fun i9 : Nat => iI ((uz u6 (M 16 q) ((10 * (P 0 0)) + wh)) i9))))] ++ tl)) rfl B
      refine lv_iload_n hx hb dX4_placeFigures_55 rfl (lv_at hl 2 rfl) ?_
      refine lv_aload_n hx hb dX4_placeFigures_56 rfl (lv_at hl 3 rfl) ?_
      refine x_get (ci := 4) (C := RX4) (T := TX4) (N := 12) (v := .ref (A 50 0 0)) B 0 rfl rfl in_X4 0 (by decide) mw_365 (fun _ h9 => h9) rfl dX4_placeFigures_57 ?_
      obtain ⟨k_14, hk_14⟩ := pk_at (hs := [(pp, .inr (4, [.ref (A 50 0 0), .ref (Aw 20), .ref pg, .ref so, .int (iI (P 0 0)), .int (iI (P 0 1)), .ref p1, .ref p2, .ref p3, .ref p4, .ref p5, .ref p6])), (p1, .inl (k 0, 965, .inl (fun i9 : Nat => iI (f1 i9)))), (p2, .inl (k 0, 965, .inl (fun i9 : Nat => iI (f2 i9)))), (p3, .inl (k 0, 965, .inl (fun i9 : Nat => iI (f3 i9)))), (p4, .inl (k 0, 965, .inl (fun i9 : Nat => iI (f4 i9)))), (p5, .inl (k 0, 768, .inl (fun i9 : Nat => iI (f5 i9)))), (p6, .inl (k 0, 5, .inl (fun i9 : Nat => iI ((uz u6 (M 16 q) ((10 * (P 0 0)) + wh)) i9))))]) hT.1.1
      refine x_get (ci := 9) (C := RX9) (T := TX9) (N := 8) (v := .ref (A 54 0 0)) B k_14 hk_14 rfl in_X9 3 (by decide) mw_87 (fun _ h9 => h9) rfl dX4_placeFigures_60 ?_
      refine lv_iload hx hb dX4_placeFigures_63 (lv_at hl 0 rfl) ?_
      obtain ⟨k_15, hk_15⟩ := pk_at (hs := [(pp, .inr (4, [.ref (A 50 0 0), .ref (Aw 20), .ref pg, .ref so, .int (iI (P 0 0)), .int (iI (P 0 1)), .ref p1, .ref p2, .ref p3, .ref p4, .ref p5, .ref p6])), (p1, .inl (k 0, 965, .inl (fun i9 : Nat => iI (f1 i9)))), (p2, .inl (k 0, 965, .inl (fun i9 : Nat => iI (f2 i9)))), (p3, .inl (k 0, 965, .inl (fun i9 : Nat => iI (f3 i9)))), (p4, .inl (k 0, 965, .inl (fun i9 : Nat => iI (f4 i9)))), (p5, .inl (k 0, 768, .inl (fun i9 : Nat => iI (f5 i9)))), (p6, .inl (k 0, 5, .inl (fun i9 : Nat => iI ((uz u6 (M 16 q) ((10 * (P 0 0)) + wh)) i9))))]) hT.1.2.2.1
      refine x_iald' (f := (fun j9 : Int => T 14 j9 0 0)) (z := (M 16 q)) B k_15 hk_15 (by omega) dX4_placeFigures_65 ?_
      have z_16 : 0 ≤ (T 14 (M 16 q) 0 0) ∧ (T 14 (M 16 q) 0 0) ≤ 40 := (fun j => TK_fh hK j) (M 16 q)
      refine y_add hx hb dX4_placeFigures_66 ?_
      refine lv_istore_n (lv' := [(3, .int (iI (hh + (T 14 (M 16 q) 0 0)))), (5, .int (iI (M 16 q))), (4, .int (iI q)), (0, .ref pp), (1, .int (iI st_)), (2, .int (iI wh))]) hx hb dX4_placeFigures_67 rfl hl (by decide) rfl (fun ls hl => ?_)
      refine lv_iinc (v := iI (q + 1)) (lv' := [(4, .int (iI (q + 1))), (3, .int (iI (hh + (T 14 (M 16 q) 0 0)))), (5, .int (iI (M 16 q))), (0, .ref pp), (1, .int (iI st_)), (2, .int (iI wh))]) hx hb dX4_placeFigures_68 hl (k := 2) rfl (iI_add _ _) (by decide) rfl (fun ls hl => ?_)
      refine lv_goto (tgt := 5) hx hb dX4_placeFigures_71 (by decide) ?_
      exact ih_1 ((hh + (T 14 (M 16 q) 0 0)), (q + 1), (uz u6 (M 16 q) ((10 * (P 0 0)) + wh))) ⟨(show 0 ≤ (q + 1) ∧ (q + 1) ≤ M 17 0 ∧ 0 ≤ (hh + (T 14 (M 16 q) 0 0)) ∧ (hh + (T 14 (M 16 q) 0 0)) ≤ 40 * (q + 1) from (by omega)), (show (hh + (T 14 (M 16 q) 0 0)) = (plS T M st_ (10 * P 0 0 + wh) (P 6) (Int.toNat (q + 1))).2 from (by rw [plS_s (by omega), if_pos (by omega)]; show _ = _ + _; rw [← hhh])), (show ∀ j, 0 ≤ j → j < 5 → (uz u6 (M 16 q) ((10 * (P 0 0)) + wh)) j = (plS T M st_ (10 * P 0 0 + wh) (P 6) (Int.toNat (q + 1))).1 j from (fun j a9 b9 => by rw [plS_s (by omega), if_pos (by omega)]; show uz u6 _ _ j = uz _ _ _ j; by_cases e9 : j = M 16 q; (rw [e9, uz_s, uz_s]); (rw [uz_n e9, uz_n e9]; exact hu6 j a9 b9)))⟩ (by first | omega | (dsimp only; omega)) _ _ _ (lv_sub hl [0, 1, 3, 4, 5] rfl) (bd_to rfl B)

theorem seP_seP {P : Nat → Int → Int} {q : Nat} {g h : Int → Int} : seP (seP P q g) q h = seP P q h := by
  funext c i
  simp only [seP]
  split <;> rfl
theorem pp_eq {T : Nat → Int → Int → Int → Int} {M P P1 P5 Pb Pc : Nat → Int → Int} {ro n no us ts bs : Int} (h1 : P1 = puP P ro n no us) (h5 : P5 = seP P1 5 (fil (P 5) ro n (P1 0 0))) (hb : Pb = seP P5 6 (plZ T M ts (10 * P5 0 0 + 0) (P5 6)).1) (hc : Pc = seP Pb 6 (plZ T M bs (10 * Pb 0 0 + 1) (Pb 6)).1) : Pc = ppZ T M P ro n no us ts bs := by
  subst h1
  subst h5
  have a6 : seP (puP P ro n no us) 5 (fil (P 5) ro n (puP P ro n no us 0 0)) 6 = P 6 := Eq.trans (show seP (puP P ro n no us) 5 (fil (P 5) ro n (puP P ro n no us 0 0)) 6 = puP P ro n no us 6 from rfl) puP_6
  rw [a6] at hb
  subst hb
  subst hc
  rw [seP_seP]
  rfl
theorem fil_ag {f5 : Int → Int} {P P1 : Nat → Int → Int} {ro n no us c : Int} (h1 : P1 = puP P ro n no us) (h : ∀ j, 0 ≤ j → j < ro → f5 j = P1 5 j) : ∀ j, 0 ≤ j → j < ro + n → fil f5 ro n c j = fil (P 5) ro n c j := fun j a b => by
  by_cases e : j < ro
  · rw [fil_out (by omega), fil_out (by omega), h j a e, h1, puP_5]
  · rw [fil_in (by omega), fil_in (by omega)]
theorem pf_eq {T : Nat → Int → Int → Int → Int} {M P P1 Pb : Nat → Int → Int} {st v : Int} (hc : P 0 0 < 965) (h1 : P1 = puP P (M 0 0) 0 0 0) (hb : Pb = seP P1 6 (plZ T M st (10 * P1 0 0 + 2) (P1 6)).1) (hv : v = (plZ T M st (10 * P1 0 0 + 2) (P1 6)).2) : seP Pb 4 (uz (uz (P 4) (P 0 0) 0) (P 0 0) v) = pfZ T M P st := by
  rw [pfZ_y hc]
  rw [puP_y hc] at h1
  subst h1
  have a6 : puQ P (M 0 0) 0 0 0 6 = P 6 := rfl
  rw [a6, puQ_0] at hb hv
  subst hb
  subst hv
  rfl

theorem mw_323 : (Jvm.Cond.fieldLink "Galleyforge$Pages" (194 : Nat) "Galleyforge$Page" "topSet" "I") ∈ gt := gt_at 393 (by decide +kernel) (by decide +kernel)
theorem mw_325 : (Jvm.Cond.fieldLink "Galleyforge$Pages" (200 : Nat) "Galleyforge$Page" "bottomSet" "I") ∈ gt := gt_at 395 (by decide +kernel) (by decide +kernel)
theorem mw_331 : (Jvm.Cond.fieldLink "Galleyforge$Pages" (187 : Nat) "Galleyforge$Page" "noteLines" "I") ∈ gt := gt_at 401 (by decide +kernel) (by decide +kernel)
theorem mw_333 : (Jvm.Cond.fieldLink "Galleyforge$Pages" (189 : Nat) "Galleyforge$Page" "used" "I") ∈ gt := gt_at 403 (by decide +kernel) (by decide +kernel)
theorem mw_382 : (Jvm.Cond.fieldLink "Galleyforge$Pages" (24 : Nat) "Galleyforge$Pages" "pagesOfRows" "[I") ∈ gt := gt_at 452 (by decide +kernel) (by decide +kernel)
theorem mw_1626 : (Jvm.Cond.methodLink "Galleyforge$Pages" (191 : Nat) ({ cls := "Galleyforge$Pages", name := "put", desc := "(IIII)V" } : Jvm.MethodName)) ∈ gt := gt_at 1696 (by decide +kernel) (by decide +kernel)
theorem mw_1628 : (Jvm.Cond.instanceMethod ({ cls := "Galleyforge$Pages", name := "put", desc := "(IIII)V" } : Jvm.MethodName)) ∈ gt := gt_at 1698 (by decide +kernel) (by decide +kernel)
theorem mw_1629 : (Jvm.Cond.code ({ cls := "Galleyforge$Pages", name := "put", desc := "(IIII)V" } : Jvm.MethodName) prog_6_method_12_code (5 : Nat) (Option.none : Option Jvm.ClassFile.FieldType)) ∈ gt := gt_at 1699 (by decide +kernel) (by decide +kernel)
theorem mw_1630 : (Jvm.Cond.methodLink "Galleyforge$Pages" (197 : Nat) ({ cls := "Galleyforge$Pages", name := "placeFigures", desc := "(II)I" } : Jvm.MethodName)) ∈ gt := gt_at 1700 (by decide +kernel) (by decide +kernel)
theorem mw_1632 : (Jvm.Cond.instanceMethod ({ cls := "Galleyforge$Pages", name := "placeFigures", desc := "(II)I" } : Jvm.MethodName)) ∈ gt := gt_at 1702 (by decide +kernel) (by decide +kernel)
theorem mw_1633 : (Jvm.Cond.code ({ cls := "Galleyforge$Pages", name := "placeFigures", desc := "(II)I" } : Jvm.MethodName) prog_6_method_13_code (6 : Nat) (Option.some Jvm.ClassFile.FieldType.int)) ∈ gt := gt_at 1703 (by decide +kernel) (by decide +kernel)
theorem ms_56 : Cond.selects "Galleyforge$Pages" (⟨"Galleyforge$Pages", "placeFigures", "(II)I"⟩ : MethodName) (⟨"Galleyforge$Pages", "placeFigures", "(II)I"⟩ : MethodName) ∈ gt := gt_at 56 (by decide +kernel) (by decide +kernel)
theorem mV_X4_placeFigures : mV yX4_placeFigures cX4_placeFigures 6 (some .int) 2 := ⟨⟨mw_1633, mw_10, by decide, by decide, by decide +kernel⟩, mw_1632, ms_56⟩
theorem ms_55 : Cond.selects "Galleyforge$Pages" (⟨"Galleyforge$Pages", "put", "(IIII)V"⟩ : MethodName) (⟨"Galleyforge$Pages", "put", "(IIII)V"⟩ : MethodName) ∈ gt := gt_at 55 (by decide +kernel) (by decide +kernel)
theorem mV_X4_put : mV yX4_put cX4_put 5 none 4 := ⟨⟨mw_1629, mw_10, by decide, by decide, by decide +kernel⟩, mw_1628, ms_55⟩
theorem dX4_putPage_0 : decode cX4_putPage 0 = .ok (.aload_n 0, 1) := by decide +kernel
theorem dX4_putPage_1 : decode cX4_putPage 1 = .ok (.iload_n 1, 1) := by decide +kernel
theorem dX4_putPage_2 : decode cX4_putPage 2 = .ok (.iload_n 2, 1) := by decide +kernel
theorem dX4_putPage_3 : decode cX4_putPage 3 = .ok (.aload_n 0, 1) := by decide +kernel
theorem dX4_putPage_4 : decode cX4_putPage 4 = .ok (.getfield 47, 3) := by decide +kernel
theorem dX4_putPage_7 : decode cX4_putPage 7 = .ok (.getfield 187, 3) := by decide +kernel
theorem dX4_putPage_10 : decode cX4_putPage 10 = .ok (.aload_n 0, 1) := by decide +kernel
theorem dX4_putPage_11 : decode cX4_putPage 11 = .ok (.getfield 47, 3) := by decide +kernel
theorem dX4_putPage_14 : decode cX4_putPage 14 = .ok (.getfield 189, 3) := by decide +kernel
theorem dX4_putPage_17 : decode cX4_putPage 17 = .ok (.invokevirtual 191, 3) := by decide +kernel
theorem dX4_putPage_20 : decode cX4_putPage 20 = .ok (.iload_n 1, 1) := by decide +kernel
theorem dX4_putPage_21 : decode cX4_putPage 21 = .ok (.istore_n 3, 1) := by decide +kernel
theorem dX4_putPage_22 : decode cX4_putPage 22 = .ok (.iload_n 3, 1) := by decide +kernel
theorem dX4_putPage_23 : decode cX4_putPage 23 = .ok (.iload_n 1, 1) := by decide +kernel
theorem dX4_putPage_24 : decode cX4_putPage 24 = .ok (.iload_n 2, 1) := by decide +kernel
theorem dX4_putPage_25 : decode cX4_putPage 25 = .ok (.iadd, 1) := by decide +kernel
theorem dX4_putPage_26 : decode cX4_putPage 26 = .ok (.if_icmp .ge 30, 3) := by decide +kernel
theorem dX4_putPage_29 : decode cX4_putPage 29 = .ok (.iload_n 3, 1) := by decide +kernel
theorem dX4_putPage_30 : decode cX4_putPage 30 = .ok (.aload_n 0, 1) := by decide +kernel
theorem dX4_putPage_31 : decode cX4_putPage 31 = .ok (.getfield 34, 3) := by decide +kernel
theorem dX4_putPage_34 : decode cX4_putPage 34 = .ok (.getfield 64, 3) := by decide +kernel
theorem dX4_putPage_37 : decode cX4_putPage 37 = .ok (.if_icmp .ge 19, 3) := by decide +kernel
theorem dX4_putPage_40 : decode cX4_putPage 40 = .ok (.aload_n 0, 1) := by decide +kernel
theorem dX4_putPage_41 : decode cX4_putPage 41 = .ok (.getfield 24, 3) := by decide +kernel
theorem dX4_putPage_44 : decode cX4_putPage 44 = .ok (.iload_n 3, 1) := by decide +kernel
theorem dX4_putPage_45 : decode cX4_putPage 45 = .ok (.aload_n 0, 1) := by decide +kernel
theorem dX4_putPage_46 : decode cX4_putPage 46 = .ok (.getfield 51, 3) := by decide +kernel
theorem dX4_putPage_49 : decode cX4_putPage 49 = .ok (.iastore, 1) := by decide +kernel
theorem dX4_putPage_50 : decode cX4_putPage 50 = .ok (.iinc 3 1, 3) := by decide +kernel
theorem dX4_putPage_53 : decode cX4_putPage 53 = .ok (.goto (-31), 3) := by decide +kernel
theorem dX4_putPage_56 : decode cX4_putPage 56 = .ok (.aload_n 0, 1) := by decide +kernel
theorem dX4_putPage_57 : decode cX4_putPage 57 = .ok (.aload_n 0, 1) := by decide +kernel
theorem dX4_putPage_58 : decode cX4_putPage 58 = .ok (.getfield 47, 3) := by decide +kernel
theorem dX4_putPage_61 : decode cX4_putPage 61 = .ok (.getfield 194, 3) := by decide +kernel
theorem dX4_putPage_64 : decode cX4_putPage 64 = .ok (.iconst 0, 1) := by decide +kernel
theorem dX4_putPage_65 : decode cX4_putPage 65 = .ok (.invokevirtual 197, 3) := by decide +kernel
theorem dX4_putPage_68 : decode cX4_putPage 68 = .ok (.pop, 1) := by decide +kernel
theorem dX4_putPage_69 : decode cX4_putPage 69 = .ok (.aload_n 0, 1) := by decide +kernel
theorem dX4_putPage_70 : decode cX4_putPage 70 = .ok (.aload_n 0, 1) := by decide +kernel
theorem dX4_putPage_71 : decode cX4_putPage 71 = .ok (.getfield 47, 3) := by decide +kernel
theorem dX4_putPage_74 : decode cX4_putPage 74 = .ok (.getfield 200, 3) := by decide +kernel
theorem dX4_putPage_77 : decode cX4_putPage 77 = .ok (.iconst 1, 1) := by decide +kernel
theorem dX4_putPage_78 : decode cX4_putPage 78 = .ok (.invokevirtual 197, 3) := by decide +kernel
theorem dX4_putPage_81 : decode cX4_putPage 81 = .ok (.pop, 1) := by decide +kernel
theorem dX4_putPage_82 : decode cX4_putPage 82 = .ok (.return_, 1) := by decide +kernel
set_option maxHeartbeats 4000000 in
set_option maxRecDepth 100000 in
theorem k_putPage (l : Launch) (dC : Nat → ClassId) (dI : Nat → Nat → Nat) (k : Nat → ClassId) (pp : Nat) (pg : Nat) (so : Nat) (p1 : Nat) (p2 : Nat) (p3 : Nat) (p4 : Nat) (p5 : Nat) (p6 : Nat) (T : Nat → Int → Int → Int → Int) (A : Nat → Int → Int → Nat) (X : Nat → Int → Int → Int) (tl : va_W) (M : Nat → Int → Int) (V : Nat → Int → Int) (Aw : Nat → Nat) (f1 : Int → Int) (f2 : Int → Int) (f3 : Int → Int) (f4 : Int → Int) (f5 : Int → Int) (f6 : Int → Int) (P : Nat → Int → Int) (rr : Int) (pR : Int) (pC : Int) (pW : Int) (pL : Int) (pH : Int) (pN : Int) (pQ : Int) (pT : Int) (pB : Int) (pX : Int) (pY : Int) (pM : Int) (pU : Int) (ro : Int) (nn : Int) (hT : TI dI k T A X tl) (hK : TK T) (hR : RI k (T 0 0 0 0) M V Aw tl) (hM : MK M) (hMT : ∀ j, 0 ≤ j → j < M 0 0 → M 2 j < T 0 0 0 0) (hPA : PA P ro f1 f2 f3 f4 f5 f6) (hPn : 0 ≤ P 0 0 ∧ P 0 0 ≤ 965) (h1 : 0 ≤ ro ∧ 0 ≤ nn ∧ ro + nn ≤ M 0 0 ∧ 0 ≤ pT ∧ pT < 32 ∧ 0 ≤ pB ∧ pB < 32) : Kn l dC dI k yX4_putPage (.code yX4_putPage cX4_putPage 4 none) ({ frames := 1, cells := 0, slots := 0, locals := 25 } : Room) [.ref pp, .int (iI ro), .int (iI nn)] ([(pp, .inr (4, [.ref (A 50 0 0), .ref (Aw 20), .ref pg, .ref so, .int (iI (P 0 0)), .int (iI (P 0 1)), .ref p1, .ref p2, .ref p3, .ref p4, .ref p5, .ref p6])), (pg, .inr (3, [.ref (A 50 0 0), .ref (Aw 20), .int (iI pR), .int (iI pC), .int (iI pW), .int (iI pL), .int (iI pH), .int (iI pN), .int (iI pQ), .int (iI pT), .int (iI pB), .int (iI pX), .int (iI pY), .int (iI pM), .int (iI pU)])), (p1, .inl (k 0, 965, .inl (fun i9 : Nat => iI (f1 i9)))), (p2, .inl (k 0, 965, .inl (fun i9 : Nat => iI (f2 i9)))), (p3, .inl (k 0, 965, .inl (fun i9 : Nat => iI (f3 i9)))), (p4, .inl (k 0, 965, .inl (fun i9 : Nat => iI (f4 i9)))), (p5, .inl (k 0, 768, .inl (fun i9 : Nat => iI (f5 i9)))), (p6, .inl (k 0, 5, .inl (fun i9 : Nat => iI (f6 i9))))] ++ tl) (fun r w gc gs => (∃ (P2 : Nat → Int → Int) (u1 : Int → Int) (u2 : Int → Int) (u3 : Int → Int) (u4 : Int → Int) (u5 : Int → Int) (u6 : Int → Int), (P2 = ppZ T M P ro nn pM pU pT pB) ∧ (PA P2 (ro + nn) u1 u2 u3 u4 u5 u6) ∧ (0 ≤ P2 0 0 ∧ P2 0 0 ≤ 965) ∧ r = none ∧ w = ([(pp, .inr (4, [.ref (A 50 0 0), .ref (Aw 20), .ref pg, .ref so, .int (iI (P2 0 0)), .int (iI (P2 0 1)), .ref p1, .ref p2, .ref p3, .ref p4, .ref p5, .ref p6])), (pg, .inr (3, [.ref (A 50 0 0), .ref (Aw 20), .int (iI pR), .int (iI pC), .int (iI pW), .int (iI pL), .int (iI pH), .int (iI pN), .int (iI pQ), .int (iI pT), .int (iI pB), .int (iI pX), .int (iI pY), .int (iI pM), .int (iI pU)])), (p1, .inl (k 0, 965, .inl (fun i9 : Nat => iI (u1 i9)))), (p2, .inl (k 0, 965, .inl (fun i9 : Nat => iI (u2 i9)))), (p3, .inl (k 0, 965, .inl (fun i9 : Nat => iI (u3 i9)))), (p4, .inl (k 0, 965, .inl (fun i9 : Nat => iI (u4 i9)))), (p5, .inl (k 0, 768, .inl (fun i9 : Nat => iI (u5 i9)))), (p6, .inl (k 0, 5, .inl (fun i9 : Nat => iI (u6 i9))))] ++ tl) ∧ gc = 0 ∧ gs = 0)) := by
  refine kn_of (by decide) (Nat.le_of_ble_eq_true rfl) ?_
  intro p e s m args below meth c H locs B hr hnm ls hl
  have hx := B.1.1
  have hb := B.1.2.1
  have hl : lv_has ls 4 [(0, .ref pp), (1, .int (iI ro)), (2, .int (iI nn))] := hl
  have hn0 := MK_cnt hM
  have hf0 := MK_17 hM
  refine lv_aload_n hx hb dX4_putPage_0 rfl (lv_at hl 0 rfl) ?_
  refine lv_iload_n hx hb dX4_putPage_1 rfl (lv_at hl 1 rfl) ?_
  refine lv_iload_n hx hb dX4_putPage_2 rfl (lv_at hl 2 rfl) ?_
  refine lv_aload_n hx hb dX4_putPage_3 rfl (lv_at hl 0 rfl) ?_
  refine x_get (ci := 4) (C := RX4) (T := TX4) (N := 12) (v := .ref pg) B 0 rfl rfl in_X4 2 (by decide) mw_367 (fun _ h9 => h9) rfl dX4_putPage_4 ?_
  refine x_get (ci := 3) (C := RX3) (T := TX3) (N := 15) (v := .int (iI pM)) B 1 rfl rfl in_X3 13 (by decide) mw_331 (fun _ h9 => h9) rfl dX4_putPage_7 ?_
  refine lv_aload_n hx hb dX4_putPage_10 rfl (lv_at hl 0 rfl) ?_
  refine x_get (ci := 4) (C := RX4) (T := TX4) (N := 12) (v := .ref pg) B 0 rfl rfl in_X4 2 (by decide) mw_367 (fun _ h9 => h9) rfl dX4_putPage_11 ?_
  refine x_get (ci := 3) (C := RX3) (T := TX3) (N := 15) (v := .int (iI pU)) B 1 rfl rfl in_X3 14 (by decide) mw_333 (fun _ h9 => h9) rfl dX4_putPage_14 ?_
  have B := bd_pick (hs := [(pp, .inr (4, [.ref (A 50 0 0), .ref (Aw 20), .ref pg, .ref so, .int (iI (P 0 0)), .int (iI (P 0 1)), .ref p1, .ref p2, .ref p3, .ref p4, .ref p5, .ref p6])), (pg, .inr (3, [.ref (A 50 0 0), .ref (Aw 20), .int (iI pR), .int (iI pC), .int (iI pW), .int (iI pL), .int (iI pH), .int (iI pN), .int (iI pQ), .int (iI pT), .int (iI pB), .int (iI pX), .int (iI pY), .int (iI pM), .int (iI pU)])), (p1, .inl (k 0, 965, .inl (fun i9 : Nat => iI (f1 i9)))), (p2, .inl (k 0, 965, .inl (fun i9 : Nat => iI (f2 i9)))), (p3, .inl (k 0, 965, .inl (fun i9 : Nat => iI (f3 i9)))), (p4, .inl (k 0, 965, .inl (fun i9 : Nat => iI (f4 i9)))), (p5, .inl (k 0, 768, .inl (fun i9 : Nat => iI (f5 i9)))), (p6, .inl (k 0, 5, .inl (fun i9 : Nat => iI (f6 i9))))]) (ws' := [(pp, .inr (4, [.ref (A 50 0 0), .ref (Aw 20), .ref pg, .ref so, .int (iI (P 0 0)), .int (iI (P 0 1)), .ref p1, .ref p2, .ref p3, .ref p4, .ref p5, .ref p6])), (p1, .inl (k 0, 965, .inl (fun i9 : Nat => iI (f1 i9)))), (p2, .inl (k 0, 965, .inl (fun i9 : Nat => iI (f2 i9)))), (p3, .inl (k 0, 965, .inl (fun i9 : Nat => iI (f3 i9)))), (p4, .inl (k 0, 965, .inl (fun i9 : Nat => iI (f4 i9)))), (p5, .inl (k 0, 768, .inl (fun i9 : Nat => iI (f5 i9)))), (p6, .inl (k 0, 5, .inl (fun i9 : Nat => iI (f6 i9)))), (pg, .inr (3, [.ref (A 50 0 0), .ref (Aw 20), .int (iI pR), .int (iI pC), .int (iI pW), .int (iI pL), .int (iI pH), .int (iI pN), .int (iI pQ), .int (iI pT), .int (iI pB), .int (iI pX), .int (iI pY), .int (iI pM), .int (iI pU)]))]) (tl := tl) [0, 2, 3, 4, 5, 6, 7, 1] (by decide) rfl B
  have B := bd_to (ws' := [(pp, .inr (4, [.ref (A 50 0 0), .ref (Aw 20), .ref pg, .ref so, .int (iI (P 0 0)), .int (iI (P 0 1)), .ref p1, .ref p2, .ref p3, .ref p4, .ref p5, .ref p6])), (p1, .inl (k 0, 965, .inl (fun i9 : Nat => iI (f1 i9)))), (p2, .inl (k 0, 965, .inl (fun i9 : Nat => iI (f2 i9)))), (p3, .inl (k 0, 965, .inl (fun i9 : Nat => iI (f3 i9)))), (p4, .inl (k 0, 965, .inl (fun i9 : Nat => iI (f4 i9)))), (p5, .inl (k 0, 768, .inl (fun i9 : Nat => iI (f5 i9)))), (p6, .inl (k 0, 5, .inl (fun i9 : Nat => iI (f6 i9))))] ++ ([(pg, .inr (3, [.ref (A 50 0 0), .ref (Aw 20), .int (iI pR), .int (iI pC), .int (iI pW), .int (iI pL), .int (iI pH), .int (iI pN), .int (iI pQ), .int (iI pT), .int (iI pB), .int (iI pX), .int (iI pY), .int (iI pM), .int (iI pU)]))] ++ tl)) rfl B
  refine k_V (rest := []) (wc := [(pp, .inr (4, [.ref (A 50 0 0), .ref (Aw 20), .ref pg, .ref so, .int (iI (P 0 0)), .int (iI (P 0 1)), .ref p1, .ref p2, .ref p3, .ref p4, .ref p5, .ref p6])), (p1, .inl (k 0, 965, .inl (fun i9 : Nat => iI (f1 i9)))), (p2, .inl (k 0, 965, .inl (fun i9 : Nat => iI (f2 i9)))), (p3, .inl (k 0, 965, .inl (fun i9 : Nat => iI (f3 i9)))), (p4, .inl (k 0, 965, .inl (fun i9 : Nat => iI (f4 i9)))), (p5, .inl (k 0, 768, .inl (fun i9 : Nat => iI (f5 i9)))), (p6, .inl (k 0, 5, .inl (fun i9 : Nat => iI (f6 i9))))]) (wr := ([(pg, .inr (3, [.ref (A 50 0 0), .ref (Aw 20), .int (iI pR), .int (iI pC), .int (iI pW), .int (iI pL), .int (iI pH), .int (iI pN), .int (iI pQ), .int (iI pT), .int (iI pB), .int (iI pX), .int (iI pY), .int (iI pM), .int (iI pU)]))] ++ tl)) (k_put l dC dI k pp pg so p1 p2 p3 p4 p5 p6 T A X tl M V Aw f1 f2 f3 f4 f5 f6 P ro ro nn pM pU hPA hPn) B mV_X4_put mw_1626 hl (q0 := 0) rfl rfl rfl ⟨Nat.le_of_ble_eq_true rfl, Nat.le_of_ble_eq_true rfl⟩ (Nat.le_of_ble_eq_true rfl) rfl dX4_putPage_17 ⟨Nat.le_of_ble_eq_true rfl, Nat.le_of_ble_eq_true rfl⟩ (fun r w gc gs H locs hp B => ?_)
  obtain ⟨P2_1, u1_2, u2_3, u3_4, u4_5, z_6, z_7, z_8, rfl, hw9, rfl, rfl⟩ := hp
  rw [hw9] at B; clear hw9
  have B := bd_swap (a := [(pg, .inr (3, [.ref (A 50 0 0), .ref (Aw 20), .int (iI pR), .int (iI pC), .int (iI pW), .int (iI pL), .int (iI pH), .int (iI pN), .int (iI pQ), .int (iI pT), .int (iI pB), .int (iI pX), .int (iI pY), .int (iI pM), .int (iI pU)]))]) (b := tl) (d := [(pp, .inr (4, [.ref (A 50 0 0), .ref (Aw 20), .ref pg, .ref so, .int (iI (P2_1 0 0)), .int (iI (P2_1 0 1)), .ref p1, .ref p2, .ref p3, .ref p4, .ref p5, .ref p6])), (p1, .inl (k 0, 965, .inl (fun i9 : Nat => iI (u1_2 i9)))), (p2, .inl (k 0, 965, .inl (fun i9 : Nat => iI (u2_3 i9)))), (p3, .inl (k 0, 965, .inl (fun i9 : Nat => iI (u3_4 i9)))), (p4, .inl (k 0, 965, .inl (fun i9 : Nat => iI (u4_5 i9)))), (p5, .inl (k 0, 768, .inl (fun i9 : Nat => iI (f5 i9)))), (p6, .inl (k 0, 5, .inl (fun i9 : Nat => iI (f6 i9))))]) B
  have B := bd_to (ws' := ([(pg, .inr (3, [.ref (A 50 0 0), .ref (Aw 20), .int (iI pR), .int (iI pC), .int (iI pW), .int (iI pL), .int (iI pH), .int (iI pN), .int (iI pQ), .int (iI pT), .int (iI pB), .int (iI pX), .int (iI pY), .int (iI pM), .int (iI pU)])), (pp, .inr (4, [.ref (A 50 0 0), .ref (Aw 20), .ref pg, .ref so, .int (iI (P2_1 0 0)), .int (iI (P2_1 0 1)), .ref p1, .ref p2, .ref p3, .ref p4, .ref p5, .ref p6])), (p1, .inl (k 0, 965, .inl (fun i9 : Nat => iI (u1_2 i9)))), (p2, .inl (k 0, 965, .inl (fun i9 : Nat => iI (u2_3 i9)))), (p3, .inl (k 0, 965, .inl (fun i9 : Nat => iI (u3_4 i9)))), (p4, .inl (k 0, 965, .inl (fun i9 : Nat => iI (u4_5 i9)))), (p5, .inl (k 0, 768, .inl (fun i9 : Nat => iI (f5 i9)))), (p6, .inl (k 0, 5, .inl (fun i9 : Nat => iI (f6 i9))))] ++ tl)) rfl B
  have hPA : PA P2_1 ro u1_2 u2_3 u3_4 u4_5 f5 f6 := z_7
  have hPn : 0 ≤ P2_1 0 0 ∧ P2_1 0 0 ≤ 965 := z_8
  refine lv_iload_n hx hb dX4_putPage_20 rfl (lv_at hl 1 rfl) ?_
  refine lv_istore_n (lv' := [(3, .int (iI ro)), (0, .ref pp), (1, .int (iI ro)), (2, .int (iI nn))]) hx hb dX4_putPage_21 rfl hl (by decide) rfl (fun ls hl => ?_)
  have e_9 : ro = (ro + 0) := (by first | rfl | omega)
  have e_10 : f5 = (fil f5 ro 0 (P2_1 0 0)) := (fil_0 _ _ _)
  have hl : lv_has ls 4 [(3, .int (iI ro)), (0, .ref pp), (1, .int (iI ro)), (2, .int (iI nn))] := lv_sub hl [0, 1, 2, 3] rfl
  have hl := Eq.mp (congrArg (fun h9 : Int => lv_has ls 4 [(3, .int (iI h9)), (0, .ref pp), (1, .int (iI ro)), (2, .int (iI nn))]) e_9) hl
  have hl : lv_has ls 4 [(3, .int (iI (ro + 0))), (0, .ref pp), (1, .int (iI ro)), (2, .int (iI nn))] := hl
  have B := bd_to (ws' := ([(pg, .inr (3, [.ref (A 50 0 0), .ref (Aw 20), .int (iI pR), .int (iI pC), .int (iI pW), .int (iI pL), .int (iI pH), .int (iI pN), .int (iI pQ), .int (iI pT), .int (iI pB), .int (iI pX), .int (iI pY), .int (iI pM), .int (iI pU)])), (pp, .inr (4, [.ref (A 50 0 0), .ref (Aw 20), .ref pg, .ref so, .int (iI (P2_1 0 0)), .int (iI (P2_1 0 1)), .ref p1, .ref p2, .ref p3, .ref p4, .ref p5, .ref p6])), (p1, .inl (k 0, 965, .inl (fun i9 : Nat => iI (u1_2 i9)))), (p2, .inl (k 0, 965, .inl (fun i9 : Nat => iI (u2_3 i9)))), (p3, .inl (k 0, 965, .inl (fun i9 : Nat => iI (u3_4 i9)))), (p4, .inl (k 0, 965, .inl (fun i9 : Nat => iI (u4_5 i9)))), (p5, .inl (k 0, 768, .inl (fun i9 : Nat => iI ((fil f5 ro 0 (P2_1 0 0)) i9)))), (p6, .inl (k 0, 5, .inl (fun i9 : Nat => iI (f6 i9))))] ++ tl)) (congrArg (fun h9 : Int → Int => ([(pg, .inr (3, [.ref (A 50 0 0), .ref (Aw 20), .int (iI pR), .int (iI pC), .int (iI pW), .int (iI pL), .int (iI pH), .int (iI pN), .int (iI pQ), .int (iI pT), .int (iI pB), .int (iI pX), .int (iI pY), .int (iI pM), .int (iI pU)])), (pp, .inr (4, [.ref (A 50 0 0), .ref (Aw 20), .ref pg, .ref so, .int (iI (P2_1 0 0)), .int (iI (P2_1 0 1)), .ref p1, .ref p2, .ref p3, .ref p4, .ref p5, .ref p6])), (p1, .inl (k 0, 965, .inl (fun i9 : Nat => iI (u1_2 i9)))), (p2, .inl (k 0, 965, .inl (fun i9 : Nat => iI (u2_3 i9)))), (p3, .inl (k 0, 965, .inl (fun i9 : Nat => iI (u3_4 i9)))), (p4, .inl (k 0, 965, .inl (fun i9 : Nat => iI (u4_5 i9)))), (p5, .inl (k 0, 768, .inl (fun i9 : Nat => iI (h9 i9)))), (p6, .inl (k 0, 5, .inl (fun i9 : Nat => iI (f6 i9))))] ++ tl)) e_10) B
  refine k_loop (σ := Int) B (fun g9 : Int => (0 ≤ g9 ∧ g9 ≤ nn)) (fun g9 : Int => (nn - g9).toNat) (fun g9 : Int => [(3, .int (iI (ro + g9))), (0, .ref pp), (1, .int (iI ro)), (2, .int (iI nn))]) (fun g9 : Int => ([(pg, .inr (3, [.ref (A 50 0 0), .ref (Aw 20), .int (iI pR), .int (iI pC), .int (iI pW), .int (iI pL), .int (iI pH), .int (iI pN), .int (iI pQ), .int (iI pT), .int (iI pB), .int (iI pX), .int (iI pY), .int (iI pM), .int (iI pU)])), (pp, .inr (4, [.ref (A 50 0 0), .ref (Aw 20), .ref pg, .ref so, .int (iI (P2_1 0 0)), .int (iI (P2_1 0 1)), .ref p1, .ref p2, .ref p3, .ref p4, .ref p5, .ref p6])), (p1, .inl (k 0, 965, .inl (fun i9 : Nat => iI (u1_2 i9)))), (p2, .inl (k 0, 965, .inl (fun i9 : Nat => iI (u2_3 i9)))), (p3, .inl (k 0, 965, .inl (fun i9 : Nat => iI (u3_4 i9)))), (p4, .inl (k 0, 965, .inl (fun i9 : Nat => iI (u4_5 i9)))), (p5, .inl (k 0, 768, .inl (fun i9 : Nat => iI ((fil f5 ro g9 (P2_1 0 0)) i9)))), (p6, .inl (k 0, 5, .inl (fun i9 : Nat => iI (f6 i9))))] ++ tl)) ?_ 0 (show 0 ≤ 0 ∧ 0 ≤ nn from (by omega)) ls H locs (lv_sub hl [0, 1, 2, 3] rfl) (bd_to rfl B)
  clear hl B
  rintro j9_ hj ih_11 ls H locs hl B
  have hl : lv_has ls 4 [(3, .int (iI (ro + j9_))), (0, .ref pp), (1, .int (iI ro)), (2, .int (iI nn))] := hl
  have B := bd_to (ws' := ([(pg, .inr (3, [.ref (A 50 0 0), .ref (Aw 20), .int (iI pR), .int (iI pC), .int (iI pW), .int (iI pL), .int (iI pH), .int (iI pN), .int (iI pQ), .int (iI pT), .int (iI pB), .int (iI pX), .int (iI pY), .int (iI pM), .int (iI pU)])), (pp, .inr (4, [.ref (A 50 0 0), .ref (Aw 20), .ref pg, .ref so, .int (iI (P2_1 0 0)), .int (iI (P2_1 0 1)), .ref p1, .ref p2, .ref p3, .ref p4, .ref p5, .ref p6])), (p1, .inl (k 0, 965, .inl (fun i9 : Nat => iI (u1_2 i9)))), (p2, .inl (k 0, 965, .inl (fun i9 : Nat => iI (u2_3 i9)))), (p3, .inl (k 0, 965, .inl (fun i9 : Nat => iI (u3_4 i9)))), (p4, .inl (k 0, 965, .inl (fun i9 : Nat => iI (u4_5 i9)))), (p5, .inl (k 0, 768, .inl (fun i9 : Nat => iI ((fil f5 ro j9_ (P2_1 0 0)) i9)))), (p6, .inl (k 0, 5, .inl (fun i9 : Nat => iI (f6 i9))))] ++ tl)) rfl B
  refine lv_iload_n hx hb dX4_putPage_22 rfl (lv_at hl 0 rfl) ?_
  refine lv_iload_n hx hb dX4_putPage_23 rfl (lv_at hl 2 rfl) ?_
  refine lv_iload_n hx hb dX4_putPage_24 rfl (lv_at hl 3 rfl) ?_
  refine y_add hx hb dX4_putPage_25 ?_
  refine lv_icmp_ge (tgt := 56) hx hb dX4_putPage_26 (by decide) (fun c_12 => ?_) (fun c_12 => ?_)
  · have zc_12 : (ro + nn) ≤ (ro + j9_) := jle (a := (ro + nn)) (b := (ro + j9_)) (by omega) (by omega) c_12
    have ej9 : j9_ = nn := by omega
    rw [ej9] at B
    have B := bd_to (ws' := ([(pg, .inr (3, [.ref (A 50 0 0), .ref (Aw 20), .int (iI pR), .int (iI pC), .int (iI pW), .int (iI pL), .int (iI pH), .int (iI pN), .int (iI pQ), .int (iI pT), .int (iI pB), .int (iI pX), .int (iI pY), .int (iI pM), .int (iI pU)])), (pp, .inr (4, [.ref (A 50 0 0), .ref (Aw 20), .ref pg, .ref so, .int (iI (P2_1 0 0)), .int (iI (P2_1 0 1)), .ref p1, .ref p2, .ref p3, .ref p4, .ref p5, .ref p6])), (p1, .inl (k 0, 965, .inl (fun i9 : Nat => iI (u1_2 i9)))), (p2, .inl (k 0, 965, .inl (fun i9 : Nat => iI (u2_3 i9)))), (p3, .inl (k 0, 965, .inl (fun i9 : Nat => iI (u3_4 i9)))), (p4, .inl (k 0, 965, .inl (fun i9 : Nat => iI (u4_5 i9)))), (p5, .inl (k 0, 768, .inl (fun i9 : Nat => iI ((fil f5 ro nn (P2_1 0 0)) i9)))), (p6, .inl (k 0, 5, .inl (fun i9 : Nat => iI (f6 i9))))] ++ tl)) rfl B
    obtain ⟨P5_13, hP5_13⟩ : ∃ q9, q9 = seP P2_1 5 (fil (P 5) ro nn (P2_1 0 0)) := ⟨_, rfl⟩
    have B := bd_to (ws' := ([(pg, .inr (3, [.ref (A 50 0 0), .ref (Aw 20), .int (iI pR), .int (iI pC), .int (iI pW), .int (iI pL), .int (iI pH), .int (iI pN), .int (iI pQ), .int (iI pT), .int (iI pB), .int (iI pX), .int (iI pY), .int (iI pM), .int (iI pU)])), (pp, .inr (4, [.ref (A 50 0 0), .ref (Aw 20), .ref pg, .ref so, .int (iI (P5_13 0 0)), .int (iI (P2_1 0 1)), .ref p1, .ref p2, .ref p3, .ref p4, .ref p5, .ref p6])), (p1, .inl (k 0, 965, .inl (fun i9 : Nat => iI (u1_2 i9)))), (p2, .inl (k 0, 965, .inl (fun i9 : Nat => iI (u2_3 i9)))), (p3, .inl (k 0, 965, .inl (fun i9 : Nat => iI (u3_4 i9)))), (p4, .inl (k 0, 965, .inl (fun i9 : Nat => iI (u4_5 i9)))), (p5, .inl (k 0, 768, .inl (fun i9 : Nat => iI ((fil f5 ro nn (P2_1 0 0)) i9)))), (p6, .inl (k 0, 5, .inl (fun i9 : Nat => iI (f6 i9))))] ++ tl)) (congrArg (fun h9 : Int => ([(pg, .inr (3, [.ref (A 50 0 0), .ref (Aw 20), .int (iI pR), .int (iI pC), .int (iI pW), .int (iI pL), .int (iI pH), .int (iI pN), .int (iI pQ), .int (iI pT), .int (iI pB), .int (iI pX), .int (iI pY), .int (iI pM), .int (iI pU)])), (pp, .inr (4, [.ref (A 50 0 0), .ref (Aw 20), .ref pg, .ref so, .int (iI h9), .int (iI (P2_1 0 1)), .ref p1, .ref p2, .ref p3, .ref p4, .ref p5, .ref p6])), (p1, .inl (k 0, 965, .inl (fun i9 : Nat => iI (u1_2 i9)))), (p2, .inl (k 0, 965, .inl (fun i9 : Nat => iI (u2_3 i9)))), (p3, .inl (k 0, 965, .inl (fun i9 : Nat => iI (u3_4 i9)))), (p4, .inl (k 0, 965, .inl (fun i9 : Nat => iI (u4_5 i9)))), (p5, .inl (k 0, 768, .inl (fun i9 : Nat => iI ((fil f5 ro nn (P2_1 0 0)) i9)))), (p6, .inl (k 0, 5, .inl (fun i9 : Nat => iI (f6 i9))))] ++ tl)) (show (P2_1 0 0) = (P5_13 0 0) from (by rw [hP5_13]; rfl))) B
    have B := bd_to (ws' := ([(pg, .inr (3, [.ref (A 50 0 0), .ref (Aw 20), .int (iI pR), .int (iI pC), .int (iI pW), .int (iI pL), .int (iI pH), .int (iI pN), .int (iI pQ), .int (iI pT), .int (iI pB), .int (iI pX), .int (iI pY), .int (iI pM), .int (iI pU)])), (pp, .inr (4, [.ref (A 50 0 0), .ref (Aw 20), .ref pg, .ref so, .int (iI (P5_13 0 0)), .int (iI (P5_13 0 1)), .ref p1, .ref p2, .ref p3, .ref p4, .ref p5, .ref p6])), (p1, .inl (k 0, 965, .inl (fun i9 : Nat => iI (u1_2 i9)))), (p2, .inl (k 0, 965, .inl (fun i9 : Nat => iI (u2_3 i9)))), (p3, .inl (k 0, 965, .inl (fun i9 : Nat => iI (u3_4 i9)))), (p4, .inl (k 0, 965, .inl (fun i9 : Nat => iI (u4_5 i9)))), (p5, .inl (k 0, 768, .inl (fun i9 : Nat => iI ((fil f5 ro nn (P2_1 0 0)) i9)))), (p6, .inl (k 0, 5, .inl (fun i9 : Nat => iI (f6 i9))))] ++ tl)) (congrArg (fun h9 : Int => ([(pg, .inr (3, [.ref (A 50 0 0), .ref (Aw 20), .int (iI pR), .int (iI pC), .int (iI pW), .int (iI pL), .int (iI pH), .int (iI pN), .int (iI pQ), .int (iI pT), .int (iI pB), .int (iI pX), .int (iI pY), .int (iI pM), .int (iI pU)])), (pp, .inr (4, [.ref (A 50 0 0), .ref (Aw 20), .ref pg, .ref so, .int (iI (P5_13 0 0)), .int (iI h9), .ref p1, .ref p2, .ref p3, .ref p4, .ref p5, .ref p6])), (p1, .inl (k 0, 965, .inl (fun i9 : Nat => iI (u1_2 i9)))), (p2, .inl (k 0, 965, .inl (fun i9 : Nat => iI (u2_3 i9)))), (p3, .inl (k 0, 965, .inl (fun i9 : Nat => iI (u3_4 i9)))), (p4, .inl (k 0, 965, .inl (fun i9 : Nat => iI (u4_5 i9)))), (p5, .inl (k 0, 768, .inl (fun i9 : Nat => iI ((fil f5 ro nn (P2_1 0 0)) i9)))), (p6, .inl (k 0, 5, .inl (fun i9 : Nat => iI (f6 i9))))] ++ tl)) (show (P2_1 0 1) = (P5_13 0 1) from (by rw [hP5_13]; rfl))) B
    have hPA : PA P5_13 (ro + nn) u1_2 u2_3 u3_4 u4_5 (fil f5 ro nn (P2_1 0 0)) f6 := by rw [hP5_13]; exact PA_5 hPA (fil_ag z_6 hPA.2.1)
    have hPn : 0 ≤ P5_13 0 0 ∧ P5_13 0 0 ≤ 965 := by rw [hP5_13]; exact hPn
    refine lv_aload_n hx hb dX4_putPage_56 rfl (lv_at hl 1 rfl) ?_
    refine lv_aload_n hx hb dX4_putPage_57 rfl (lv_at hl 1 rfl) ?_
    refine x_get (ci := 4) (C := RX4) (T := TX4) (N := 12) (v := .ref pg) B 1 rfl rfl in_X4 2 (by decide) mw_367 (fun _ h9 => h9) rfl dX4_putPage_58 ?_
    refine x_get (ci := 3) (C := RX3) (T := TX3) (N := 15) (v := .int (iI pT)) B 0 rfl rfl in_X3 9 (by decide) mw_323 (fun _ h9 => h9) rfl dX4_putPage_61 ?_
    refine lv_iconst (v := iI 0) hx hb dX4_putPage_64 (by decide) ?_
    have B := bd_pick (hs := [(pg, .inr (3, [.ref (A 50 0 0), .ref (Aw 20), .int (iI pR), .int (iI pC), .int (iI pW), .int (iI pL), .int (iI pH), .int (iI pN), .int (iI pQ), .int (iI pT), .int (iI pB), .int (iI pX), .int (iI pY), .int (iI pM), .int (iI pU)])), (pp, .inr (4, [.ref (A 50 0 0), .ref (Aw 20), .ref pg, .ref so, .int (iI (P5_13 0 0)), .int (iI (P5_13 0 1)), .ref p1, .ref p2, .ref p3, .ref p4, .ref p5, .ref p6])), (p1, .inl (k 0, 965, .inl (fun i9 : Nat => iI (u1_2 i9)))), (p2, .inl (k 0, 965, .inl (fun i9 : Nat => iI (u2_3 i9)))), (p3, .inl (k 0, 965, .inl (fun i9 : Nat => iI (u3_4 i9)))), (p4, .inl (k 0, 965, .inl (fun i9 : Nat => iI (u4_5 i9)))), (p5, .inl (k 0, 768, .inl (fun i9 : Nat => iI ((fil f5 ro nn (P2_1 0 0)) i9)))), (p6, .inl (k 0, 5, .inl (fun i9 : Nat => iI (f6 i9))))]) (ws' := [(pp, .inr (4, [.ref (A 50 0 0), .ref (Aw 20), .ref pg, .ref so, .int (iI (P5_13 0 0)), .int (iI (P5_13 0 1)), .ref p1, .ref p2, .ref p3, .ref p4, .ref p5, .ref p6])), (p1, .inl (k 0, 965, .inl (fun i9 : Nat => iI (u1_2 i9)))), (p2, .inl (k 0, 965, .inl (fun i9 : Nat => iI (u2_3 i9)))), (p3, .inl (k 0, 965, .inl (fun i9 : Nat => iI (u3_4 i9)))), (p4, .inl (k 0, 965, .inl (fun i9 : Nat => iI (u4_5 i9)))), (p5, .inl (k 0, 768, .inl (fun i9 : Nat => iI ((fil f5 ro nn (P2_1 0 0)) i9)))), (p6, .inl (k 0, 5, .inl (fun i9 : Nat => iI (f6 i9)))), (pg, .inr (3, [.ref (A 50 0 0), .ref (Aw 20), .int (iI pR), .int (iI pC), .int (iI pW), .int (iI pL), .int (iI pH), .int (iI pN), .int (iI pQ), .int (iI pT), .int (iI pB), .int (iI pX), .int (iI pY), .int (iI pM), .int (iI pU)]))]) (tl := tl) [1, 2, 3, 4, 5, 6, 7, 0] (by decide) rfl B
    have B := bd_swap (a := [(pp, .inr (4, [.ref (A 50 0 0), .ref (Aw 20), .ref pg, .ref so, .int (iI (P5_13 0 0)), .int (iI (P5_13 0 1)), .ref p1, .ref p2, .ref p3, .ref p4, .ref p5, .ref p6])), (p1, .inl (k 0, 965, .inl (fun i9 : Nat => iI (u1_2 i9)))), (p2, .inl (k 0, 965, .inl (fun i9 : Nat => iI (u2_3 i9)))), (p3, .inl (k 0, 965, .inl (fun i9 : Nat => iI (u3_4 i9)))), (p4, .inl (k 0, 965, .inl (fun i9 : Nat => iI (u4_5 i9)))), (p5, .inl (k 0, 768, .inl (fun i9 : Nat => iI ((fil f5 ro nn (P2_1 0 0)) i9)))), (p6, .inl (k 0, 5, .inl (fun i9 : Nat => iI (f6 i9))))]) (b := [(pg, .inr (3, [.ref (A 50 0 0), .ref (Aw 20), .int (iI pR), .int (iI pC), .int (iI pW), .int (iI pL), .int (iI pH), .int (iI pN), .int (iI pQ), .int (iI pT), .int (iI pB), .int (iI pX), .int (iI pY), .int (iI pM), .int (iI pU)]))]) (d := tl) (bd_to rfl B)
    refine k_V (rest := []) (wc := ([(pp, .inr (4, [.ref (A 50 0 0), .ref (Aw 20), .ref pg, .ref so, .int (iI (P5_13 0 0)), .int (iI (P5_13 0 1)), .ref p1, .ref p2, .ref p3, .ref p4, .ref p5, .ref p6])), (p1, .inl (k 0, 965, .inl (fun i9 : Nat => iI (u1_2 i9)))), (p2, .inl (k 0, 965, .inl (fun i9 : Nat => iI (u2_3 i9)))), (p3, .inl (k 0, 965, .inl (fun i9 : Nat => iI (u3_4 i9)))), (p4, .inl (k 0, 965, .inl (fun i9 : Nat => iI (u4_5 i9)))), (p5, .inl (k 0, 768, .inl (fun i9 : Nat => iI ((fil f5 ro nn (P2_1 0 0)) i9)))), (p6, .inl (k 0, 5, .inl (fun i9 : Nat => iI (f6 i9))))] ++ tl)) (wr := [(pg, .inr (3, [.ref (A 50 0 0), .ref (Aw 20), .int (iI pR), .int (iI pC), .int (iI pW), .int (iI pL), .int (iI pH), .int (iI pN), .int (iI pQ), .int (iI pT), .int (iI pB), .int (iI pX), .int (iI pY), .int (iI pM), .int (iI pU)]))]) (k_placeFigures l dC dI k pp pg so p1 p2 p3 p4 p5 p6 T A X tl M V Aw u1_2 u2_3 u3_4 u4_5 (fil f5 ro nn (P2_1 0 0)) f6 P5_13 (ro + nn) pT 0 hT hK hR hM hMT hPA hPn (by omega)) B mV_X4_placeFigures mw_1630 hl (q0 := 0) rfl rfl rfl ⟨Nat.le_of_ble_eq_true rfl, Nat.le_of_ble_eq_true rfl⟩ (Nat.le_of_ble_eq_true rfl) rfl dX4_putPage_65 ⟨Nat.le_of_ble_eq_true rfl, Nat.le_of_ble_eq_true rfl⟩ (fun r w gc gs H locs hp B => ?_)
    obtain ⟨P2_14, u6_15, z_16, z_17, z_18, z_19, rfl, hw9, rfl, rfl⟩ := hp
    rw [hw9] at B; clear hw9
    have B := bd_to (ws' := ([(pg, .inr (3, [.ref (A 50 0 0), .ref (Aw 20), .int (iI pR), .int (iI pC), .int (iI pW), .int (iI pL), .int (iI pH), .int (iI pN), .int (iI pQ), .int (iI pT), .int (iI pB), .int (iI pX), .int (iI pY), .int (iI pM), .int (iI pU)])), (pp, .inr (4, [.ref (A 50 0 0), .ref (Aw 20), .ref pg, .ref so, .int (iI (P2_14 0 0)), .int (iI (P2_14 0 1)), .ref p1, .ref p2, .ref p3, .ref p4, .ref p5, .ref p6])), (p1, .inl (k 0, 965, .inl (fun i9 : Nat => iI (u1_2 i9)))), (p2, .inl (k 0, 965, .inl (fun i9 : Nat => iI (u2_3 i9)))), (p3, .inl (k 0, 965, .inl (fun i9 : Nat => iI (u3_4 i9)))), (p4, .inl (k 0, 965, .inl (fun i9 : Nat => iI (u4_5 i9)))), (p5, .inl (k 0, 768, .inl (fun i9 : Nat => iI ((fil f5 ro nn (P2_1 0 0)) i9)))), (p6, .inl (k 0, 5, .inl (fun i9 : Nat => iI (u6_15 i9))))] ++ tl)) rfl B
    have hPA : PA P2_14 (ro + nn) u1_2 u2_3 u3_4 u4_5 (fil f5 ro nn (P2_1 0 0)) u6_15 := z_17
    have hPn : 0 ≤ P2_14 0 0 ∧ P2_14 0 0 ≤ 965 := z_18
    refine lv_pop hx hb dX4_putPage_68 rfl ?_
    refine lv_aload_n hx hb dX4_putPage_69 rfl (lv_at hl 1 rfl) ?_
    refine lv_aload_n hx hb dX4_putPage_70 rfl (lv_at hl 1 rfl) ?_
    refine x_get (ci := 4) (C := RX4) (T := TX4) (N := 12) (v := .ref pg) B 1 rfl rfl in_X4 2 (by decide) mw_367 (fun _ h9 => h9) rfl dX4_putPage_71 ?_
    refine x_get (ci := 3) (C := RX3) (T := TX3) (N := 15) (v := .int (iI pB)) B 0 rfl rfl in_X3 10 (by decide) mw_325 (fun _ h9 => h9) rfl dX4_putPage_74 ?_
    refine lv_iconst (v := iI 1) hx hb dX4_putPage_77 (by decide) ?_
    have B := bd_pick (hs := [(pg, .inr (3, [.ref (A 50 0 0), .ref (Aw 20), .int (iI pR), .int (iI pC), .int (iI pW), .int (iI pL), .int (iI pH), .int (iI pN), .int (iI pQ), .int (iI pT), .int (iI pB), .int (iI pX), .int (iI pY), .int (iI pM), .int (iI pU)])), (pp, .inr (4, [.ref (A 50 0 0), .ref (Aw 20), .ref pg, .ref so, .int (iI (P2_14 0 0)), .int (iI (P2_14 0 1)), .ref p1, .ref p2, .ref p3, .ref p4, .ref p5, .ref p6])), (p1, .inl (k 0, 965, .inl (fun i9 : Nat => iI (u1_2 i9)))), (p2, .inl (k 0, 965, .inl (fun i9 : Nat => iI (u2_3 i9)))), (p3, .inl (k 0, 965, .inl (fun i9 : Nat => iI (u3_4 i9)))), (p4, .inl (k 0, 965, .inl (fun i9 : Nat => iI (u4_5 i9)))), (p5, .inl (k 0, 768, .inl (fun i9 : Nat => iI ((fil f5 ro nn (P2_1 0 0)) i9)))), (p6, .inl (k 0, 5, .inl (fun i9 : Nat => iI (u6_15 i9))))]) (ws' := [(pp, .inr (4, [.ref (A 50 0 0), .ref (Aw 20), .ref pg, .ref so, .int (iI (P2_14 0 0)), .int (iI (P2_14 0 1)), .ref p1, .ref p2, .ref p3, .ref p4, .ref p5, .ref p6])), (p1, .inl (k 0, 965, .inl (fun i9 : Nat => iI (u1_2 i9)))), (p2, .inl (k 0, 965, .inl (fun i9 : Nat => iI (u2_3 i9)))), (p3, .inl (k 0, 965, .inl (fun i9 : Nat => iI (u3_4 i9)))), (p4, .inl (k 0, 965, .inl (fun i9 : Nat => iI (u4_5 i9)))), (p5, .inl (k 0, 768, .inl (fun i9 : Nat => iI ((fil f5 ro nn (P2_1 0 0)) i9)))), (p6, .inl (k 0, 5, .inl (fun i9 : Nat => iI (u6_15 i9)))), (pg, .inr (3, [.ref (A 50 0 0), .ref (Aw 20), .int (iI pR), .int (iI pC), .int (iI pW), .int (iI pL), .int (iI pH), .int (iI pN), .int (iI pQ), .int (iI pT), .int (iI pB), .int (iI pX), .int (iI pY), .int (iI pM), .int (iI pU)]))]) (tl := tl) [1, 2, 3, 4, 5, 6, 7, 0] (by decide) rfl B
    have B := bd_swap (a := [(pp, .inr (4, [.ref (A 50 0 0), .ref (Aw 20), .ref pg, .ref so, .int (iI (P2_14 0 0)), .int (iI (P2_14 0 1)), .ref p1, .ref p2, .ref p3, .ref p4, .ref p5, .ref p6])), (p1, .inl (k 0, 965, .inl (fun i9 : Nat => iI (u1_2 i9)))), (p2, .inl (k 0, 965, .inl (fun i9 : Nat => iI (u2_3 i9)))), (p3, .inl (k 0, 965, .inl (fun i9 : Nat => iI (u3_4 i9)))), (p4, .inl (k 0, 965, .inl (fun i9 : Nat => iI (u4_5 i9)))), (p5, .inl (k 0, 768, .inl (fun i9 : Nat => iI ((fil f5 ro nn (P2_1 0 0)) i9)))), (p6, .inl (k 0, 5, .inl (fun i9 : Nat => iI (u6_15 i9))))]) (b := [(pg, .inr (3, [.ref (A 50 0 0), .ref (Aw 20), .int (iI pR), .int (iI pC), .int (iI pW), .int (iI pL), .int (iI pH), .int (iI pN), .int (iI pQ), .int (iI pT), .int (iI pB), .int (iI pX), .int (iI pY), .int (iI pM), .int (iI pU)]))]) (d := tl) (bd_to rfl B)
    refine k_V (rest := []) (wc := ([(pp, .inr (4, [.ref (A 50 0 0), .ref (Aw 20), .ref pg, .ref so, .int (iI (P2_14 0 0)), .int (iI (P2_14 0 1)), .ref p1, .ref p2, .ref p3, .ref p4, .ref p5, .ref p6])), (p1, .inl (k 0, 965, .inl (fun i9 : Nat => iI (u1_2 i9)))), (p2, .inl (k 0, 965, .inl (fun i9 : Nat => iI (u2_3 i9)))), (p3, .inl (k 0, 965, .inl (fun i9 : Nat => iI (u3_4 i9)))), (p4, .inl (k 0, 965, .inl (fun i9 : Nat => iI (u4_5 i9)))), (p5, .inl (k 0, 768, .inl (fun i9 : Nat => iI ((fil f5 ro nn (P2_1 0 0)) i9)))), (p6, .inl (k 0, 5, .inl (fun i9 : Nat => iI (u6_15 i9))))] ++ tl)) (wr := [(pg, .inr (3, [.ref (A 50 0 0), .ref (Aw 20), .int (iI pR), .int (iI pC), .int (iI pW), .int (iI pL), .int (iI pH), .int (iI pN), .int (iI pQ), .int (iI pT), .int (iI pB), .int (iI pX), .int (iI pY), .int (iI pM), .int (iI pU)]))]) (k_placeFigures l dC dI k pp pg so p1 p2 p3 p4 p5 p6 T A X tl M V Aw u1_2 u2_3 u3_4 u4_5 (fil f5 ro nn (P2_1 0 0)) u6_15 P2_14 (ro + nn) pB 1 hT hK hR hM hMT z_17 z_18 (by omega)) B mV_X4_placeFigures mw_1630 hl (q0 := 0) rfl rfl rfl ⟨Nat.le_of_ble_eq_true rfl, Nat.le_of_ble_eq_true rfl⟩ (Nat.le_of_ble_eq_true rfl) rfl dX4_putPage_78 ⟨Nat.le_of_ble_eq_true rfl, Nat.le_of_ble_eq_true rfl⟩ (fun r w gc gs H locs hp B => ?_)
    obtain ⟨P2_20, u6_21, z_22, z_23, z_24, z_25, rfl, hw9, rfl, rfl⟩ := hp
    rw [hw9] at B; clear hw9
    have B := bd_to (ws' := ([(pg, .inr (3, [.ref (A 50 0 0), .ref (Aw 20), .int (iI pR), .int (iI pC), .int (iI pW), .int (iI pL), .int (iI pH), .int (iI pN), .int (iI pQ), .int (iI pT), .int (iI pB), .int (iI pX), .int (iI pY), .int (iI pM), .int (iI pU)])), (pp, .inr (4, [.ref (A 50 0 0), .ref (Aw 20), .ref pg, .ref so, .int (iI (P2_20 0 0)), .int (iI (P2_20 0 1)), .ref p1, .ref p2, .ref p3, .ref p4, .ref p5, .ref p6])), (p1, .inl (k 0, 965, .inl (fun i9 : Nat => iI (u1_2 i9)))), (p2, .inl (k 0, 965, .inl (fun i9 : Nat => iI (u2_3 i9)))), (p3, .inl (k 0, 965, .inl (fun i9 : Nat => iI (u3_4 i9)))), (p4, .inl (k 0, 965, .inl (fun i9 : Nat => iI (u4_5 i9)))), (p5, .inl (k 0, 768, .inl (fun i9 : Nat => iI ((fil f5 ro nn (P2_1 0 0)) i9)))), (p6, .inl (k 0, 5, .inl (fun i9 : Nat => iI (u6_21 i9))))] ++ tl)) rfl B
    have hPA : PA P2_20 (ro + nn) u1_2 u2_3 u3_4 u4_5 (fil f5 ro nn (P2_1 0 0)) u6_21 := z_23
    have hPn : 0 ≤ P2_20 0 0 ∧ P2_20 0 0 ≤ 965 := z_24
    refine lv_pop hx hb dX4_putPage_81 rfl ?_
    have B := bd_pick (hs := [(pg, .inr (3, [.ref (A 50 0 0), .ref (Aw 20), .int (iI pR), .int (iI pC), .int (iI pW), .int (iI pL), .int (iI pH), .int (iI pN), .int (iI pQ), .int (iI pT), .int (iI pB), .int (iI pX), .int (iI pY), .int (iI pM), .int (iI pU)])), (pp, .inr (4, [.ref (A 50 0 0), .ref (Aw 20), .ref pg, .ref so, .int (iI (P2_20 0 0)), .int (iI (P2_20 0 1)), .ref p1, .ref p2, .ref p3, .ref p4, .ref p5, .ref p6])), (p1, .inl (k 0, 965, .inl (fun i9 : Nat => iI (u1_2 i9)))), (p2, .inl (k 0, 965, .inl (fun i9 : Nat => iI (u2_3 i9)))), (p3, .inl (k 0, 965, .inl (fun i9 : Nat => iI (u3_4 i9)))), (p4, .inl (k 0, 965, .inl (fun i9 : Nat => iI (u4_5 i9)))), (p5, .inl (k 0, 768, .inl (fun i9 : Nat => iI ((fil f5 ro nn (P2_1 0 0)) i9)))), (p6, .inl (k 0, 5, .inl (fun i9 : Nat => iI (u6_21 i9))))]) (ws' := [(pp, .inr (4, [.ref (A 50 0 0), .ref (Aw 20), .ref pg, .ref so, .int (iI (P2_20 0 0)), .int (iI (P2_20 0 1)), .ref p1, .ref p2, .ref p3, .ref p4, .ref p5, .ref p6])), (pg, .inr (3, [.ref (A 50 0 0), .ref (Aw 20), .int (iI pR), .int (iI pC), .int (iI pW), .int (iI pL), .int (iI pH), .int (iI pN), .int (iI pQ), .int (iI pT), .int (iI pB), .int (iI pX), .int (iI pY), .int (iI pM), .int (iI pU)])), (p1, .inl (k 0, 965, .inl (fun i9 : Nat => iI (u1_2 i9)))), (p2, .inl (k 0, 965, .inl (fun i9 : Nat => iI (u2_3 i9)))), (p3, .inl (k 0, 965, .inl (fun i9 : Nat => iI (u3_4 i9)))), (p4, .inl (k 0, 965, .inl (fun i9 : Nat => iI (u4_5 i9)))), (p5, .inl (k 0, 768, .inl (fun i9 : Nat => iI ((fil f5 ro nn (P2_1 0 0)) i9)))), (p6, .inl (k 0, 5, .inl (fun i9 : Nat => iI (u6_21 i9))))]) (tl := tl) [1, 0, 2, 3, 4, 5, 6, 7] (by decide) rfl B
    exact k_vret B hr (⟨P2_20, u1_2, u2_3, u3_4, u4_5, (fil f5 ro nn (P2_1 0 0)), u6_21, (pp_eq z_6 hP5_13 z_16 z_22), hPA, hPn, rfl, rfl, rfl, rfl⟩) ⟨Nat.le_of_ble_eq_true rfl, Nat.le_of_ble_eq_true rfl⟩ ⟨Nat.le_of_ble_eq_true rfl, Nat.le_of_ble_eq_true rfl⟩ dX4_putPage_82
  · have zc_12 : (ro + j9_) < (ro + nn) := jnle (a := (ro + nn)) (b := (ro + j9_)) (by omega) (by omega) c_12
    refine lv_iload_n hx hb dX4_putPage_29 rfl (lv_at hl 0 rfl) ?_
    refine lv_aload_n hx hb dX4_putPage_30 rfl (lv_at hl 1 rfl) ?_
    refine x_get (ci := 4) (C := RX4) (T := TX4) (N := 12) (v := .ref (Aw 20)) B 1 rfl rfl in_X4 1 (by decide) mw_366 (fun _ h9 => h9) rfl dX4_putPage_31 ?_
    obtain ⟨k_26, hk_26⟩ := pk_at (hs := [(pg, .inr (3, [.ref (A 50 0 0), .ref (Aw 20), .int (iI pR), .int (iI pC), .int (iI pW), .int (iI pL), .int (iI pH), .int (iI pN), .int (iI pQ), .int (iI pT), .int (iI pB), .int (iI pX), .int (iI pY), .int (iI pM), .int (iI pU)])), (pp, .inr (4, [.ref (A 50 0 0), .ref (Aw 20), .ref pg, .ref so, .int (iI (P2_1 0 0)), .int (iI (P2_1 0 1)), .ref p1, .ref p2, .ref p3, .ref p4, .ref p5, .ref p6])), (p1, .inl (k 0, 965, .inl (fun i9 : Nat => iI (u1_2 i9)))), (p2, .inl (k 0, 965, .inl (fun i9 : Nat => iI (u2_3 i9)))), (p3, .inl (k 0, 965, .inl (fun i9 : Nat => iI (u3_4 i9)))), (p4, .inl (k 0, 965, .inl (fun i9 : Nat => iI (u4_5 i9)))), (p5, .inl (k 0, 768, .inl (fun i9 : Nat => iI ((fil f5 ro j9_ (P2_1 0 0)) i9)))), (p6, .inl (k 0, 5, .inl (fun i9 : Nat => iI (f6 i9))))]) (RI_o hR)
    refine x_get (ci := 6) (C := RX6) (T := TX6) (N := 18) (v := .int (iI (M 0 0))) B k_26 hk_26 rfl in_X6 0 (by decide) mw_224 (fun _ h9 => h9) rfl dX4_putPage_34 ?_
    refine lv_icmp_ge (tgt := 56) hx hb dX4_putPage_37 (by decide) (fun c_27 => ?_) (fun c_27 => ?_)
    · have zc_27 : (M 0 0) ≤ (ro + j9_) := jle (a := (M 0 0)) (b := (ro + j9_)) (by omega) (by omega) c_27
      have ej9 : j9_ = nn := by omega
      rw [ej9] at B
      have B := bd_to (ws' := ([(pg, .inr (3, [.ref (A 50 0 0), .ref (Aw 20), .int (iI pR), .int (iI pC), .int (iI pW), .int (iI pL), .int (iI pH), .int (iI pN), .int (iI pQ), .int (iI pT), .int (iI pB), .int (iI pX), .int (iI pY), .int (iI pM), .int (iI pU)])), (pp, .inr (4, [.ref (A 50 0 0), .ref (Aw 20), .ref pg, .ref so, .int (iI (P2_1 0 0)), .int (iI (P2_1 0 1)), .ref p1, .ref p2, .ref p3, .ref p4, .ref p5, .ref p6])), (p1, .inl (k 0, 965, .inl (fun i9 : Nat => iI (u1_2 i9)))), (p2, .inl (k 0, 965, .inl (fun i9 : Nat => iI (u2_3 i9)))), (p3, .inl (k 0, 965, .inl (fun i9 : Nat => iI (u3_4 i9)))), (p4, .inl (k 0, 965, .inl (fun i9 : Nat => iI (u4_5 i9)))), (p5, .inl (k 0, 768, .inl (fun i9 : Nat => iI ((fil f5 ro nn (P2_1 0 0)) i9)))), (p6, .inl (k 0, 5, .inl (fun i9 : Nat => iI (f6 i9))))] ++ tl)) rfl B
      obtain ⟨P5_28, hP5_28⟩ : ∃ q9, q9 = seP P2_1 5 (fil (P 5) ro nn (P2_1 0 0)) := ⟨_, rfl⟩
      have B := bd_to (ws' := ([(pg, .inr (3, [.ref (A 50 0 0), .ref (Aw 20), .int (iI pR), .int (iI pC), .int (iI pW), .int (iI pL), .int (iI pH), .int (iI pN), .int (iI pQ), .int (iI pT), .int (iI pB), .int (iI pX), .int (iI pY), .int (iI pM), .int (iI pU)])), (pp, .inr (4, [.ref (A 50 0 0), .ref (Aw 20), .ref pg, .ref so, .int (iI (P5_28 0 0)), .int (iI (P2_1 0 1)), .ref p1, .ref p2, .ref p3, .ref p4, .ref p5, .ref p6])), (p1, .inl (k 0, 965, .inl (fun i9 : Nat => iI (u1_2 i9)))), (p2, .inl (k 0, 965, .inl (fun i9 : Nat => iI (u2_3 i9)))), (p3, .inl (k 0, 965, .inl (fun i9 : Nat => iI (u3_4 i9)))), (p4, .inl (k 0, 965, .inl (fun i9 : Nat => iI (u4_5 i9)))), (p5, .inl (k 0, 768, .inl (fun i9 : Nat => iI ((fil f5 ro nn (P2_1 0 0)) i9)))), (p6, .inl (k 0, 5, .inl (fun i9 : Nat => iI (f6 i9))))] ++ tl)) (congrArg (fun h9 : Int => ([(pg, .inr (3, [.ref (A 50 0 0), .ref (Aw 20), .int (iI pR), .int (iI pC), .int (iI pW), .int (iI pL), .int (iI pH), .int (iI pN), .int (iI pQ), .int (iI pT), .int (iI pB), .int (iI pX), .int (iI pY), .int (iI pM), .int (iI pU)])), (pp, .inr (4, [.ref (A 50 0 0), .ref (Aw 20), .ref pg, .ref so, .int (iI h9), .int (iI (P2_1 0 1)), .ref p1, .ref p2, .ref p3, .ref p4, .ref p5, .ref p6])), (p1, .inl (k 0, 965, .inl (fun i9 : Nat => iI (u1_2 i9)))), (p2, .inl (k 0, 965, .inl (fun i9 : Nat => iI (u2_3 i9)))), (p3, .inl (k 0, 965, .inl (fun i9 : Nat => iI (u3_4 i9)))), (p4, .inl (k 0, 965, .inl (fun i9 : Nat => iI (u4_5 i9)))), (p5, .inl (k 0, 768, .inl (fun i9 : Nat => iI ((fil f5 ro nn (P2_1 0 0)) i9)))), (p6, .inl (k 0, 5, .inl (fun i9 : Nat => iI (f6 i9))))] ++ tl)) (show (P2_1 0 0) = (P5_28 0 0) from (by rw [hP5_28]; rfl))) B
      have B := bd_to (ws' := ([(pg, .inr (3, [.ref (A 50 0 0), .ref (Aw 20), .int (iI pR), .int (iI pC), .int (iI pW), .int (iI pL), .int (iI pH), .int (iI pN), .int (iI pQ), .int (iI pT), .int (iI pB), .int (iI pX), .int (iI pY), .int (iI pM), .int (iI pU)])), (pp, .inr (4, [.ref (A 50 0 0), .ref (Aw 20), .ref pg, .ref so, .int (iI (P5_28 0 0)), .int (iI (P5_28 0 1)), .ref p1, .ref p2, .ref p3, .ref p4, .ref p5, .ref p6])), (p1, .inl (k 0, 965, .inl (fun i9 : Nat => iI (u1_2 i9)))), (p2, .inl (k 0, 965, .inl (fun i9 : Nat => iI (u2_3 i9)))), (p3, .inl (k 0, 965, .inl (fun i9 : Nat => iI (u3_4 i9)))), (p4, .inl (k 0, 965, .inl (fun i9 : Nat => iI (u4_5 i9)))), (p5, .inl (k 0, 768, .inl (fun i9 : Nat => iI ((fil f5 ro nn (P2_1 0 0)) i9)))), (p6, .inl (k 0, 5, .inl (fun i9 : Nat => iI (f6 i9))))] ++ tl)) (congrArg (fun h9 : Int => ([(pg, .inr (3, [.ref (A 50 0 0), .ref (Aw 20), .int (iI pR), .int (iI pC), .int (iI pW), .int (iI pL), .int (iI pH), .int (iI pN), .int (iI pQ), .int (iI pT), .int (iI pB), .int (iI pX), .int (iI pY), .int (iI pM), .int (iI pU)])), (pp, .inr (4, [.ref (A 50 0 0), .ref (Aw 20), .ref pg, .ref so, .int (iI (P5_28 0 0)), .int (iI h9), .ref p1, .ref p2, .ref p3, .ref p4, .ref p5, .ref p6])), (p1, .inl (k 0, 965, .inl (fun i9 : Nat => iI (u1_2 i9)))), (p2, .inl (k 0, 965, .inl (fun i9 : Nat => iI (u2_3 i9)))), (p3, .inl (k 0, 965, .inl (fun i9 : Nat => iI (u3_4 i9)))), (p4, .inl (k 0, 965, .inl (fun i9 : Nat => iI (u4_5 i9)))), (p5, .inl (k 0, 768, .inl (fun i9 : Nat => iI ((fil f5 ro nn (P2_1 0 0)) i9)))), (p6, .inl (k 0, 5, .inl (fun i9 : Nat => iI (f6 i9))))] ++ tl)) (show (P2_1 0 1) = (P5_28 0 1) from (by rw [hP5_28]; rfl))) B
      have hPA : PA P5_28 (ro + nn) u1_2 u2_3 u3_4 u4_5 (fil f5 ro nn (P2_1 0 0)) f6 := by rw [hP5_28]; exact PA_5 hPA (fil_ag z_6 hPA.2.1)
      have hPn : 0 ≤ P5_28 0 0 ∧ P5_28 0 0 ≤ 965 := by rw [hP5_28]; exact hPn
      refine lv_aload_n hx hb dX4_putPage_56 rfl (lv_at hl 1 rfl) ?_
      refine lv_aload_n hx hb dX4_putPage_57 rfl (lv_at hl 1 rfl) ?_
      refine x_get (ci := 4) (C := RX4) (T := TX4) (N := 12) (v := .ref pg) B 1 rfl rfl in_X4 2 (by decide) mw_367 (fun _ h9 => h9) rfl dX4_putPage_58 ?_
      refine x_get (ci := 3) (C := RX3) (T := TX3) (N := 15) (v := .int (iI pT)) B 0 rfl rfl in_X3 9 (by decide) mw_323 (fun _ h9 => h9) rfl dX4_putPage_61 ?_
      refine lv_iconst (v := iI 0) hx hb dX4_putPage_64 (by decide) ?_
      have B := bd_pick (hs := [(pg, .inr (3, [.ref (A 50 0 0), .ref (Aw 20), .int (iI pR), .int (iI pC), .int (iI pW), .int (iI pL), .int (iI pH), .int (iI pN), .int (iI pQ), .int (iI pT), .int (iI pB), .int (iI pX), .int (iI pY), .int (iI pM), .int (iI pU)])), (pp, .inr (4, [.ref (A 50 0 0), .ref (Aw 20), .ref pg, .ref so, .int (iI (P5_28 0 0)), .int (iI (P5_28 0 1)), .ref p1, .ref p2, .ref p3, .ref p4, .ref p5, .ref p6])), (p1, .inl (k 0, 965, .inl (fun i9 : Nat => iI (u1_2 i9)))), (p2, .inl (k 0, 965, .inl (fun i9 : Nat => iI (u2_3 i9)))), (p3, .inl (k 0, 965, .inl (fun i9 : Nat => iI (u3_4 i9)))), (p4, .inl (k 0, 965, .inl (fun i9 : Nat => iI (u4_5 i9)))), (p5, .inl (k 0, 768, .inl (fun i9 : Nat => iI ((fil f5 ro nn (P2_1 0 0)) i9)))), (p6, .inl (k 0, 5, .inl (fun i9 : Nat => iI (f6 i9))))]) (ws' := [(pp, .inr (4, [.ref (A 50 0 0), .ref (Aw 20), .ref pg, .ref so, .int (iI (P5_28 0 0)), .int (iI (P5_28 0 1)), .ref p1, .ref p2, .ref p3, .ref p4, .ref p5, .ref p6])), (p1, .inl (k 0, 965, .inl (fun i9 : Nat => iI (u1_2 i9)))), (p2, .inl (k 0, 965, .inl (fun i9 : Nat => iI (u2_3 i9)))), (p3, .inl (k 0, 965, .inl (fun i9 : Nat => iI (u3_4 i9)))), (p4, .inl (k 0, 965, .inl (fun i9 : Nat => iI (u4_5 i9)))), (p5, .inl (k 0, 768, .inl (fun i9 : Nat => iI ((fil f5 ro nn (P2_1 0 0)) i9)))), (p6, .inl (k 0, 5, .inl (fun i9 : Nat => iI (f6 i9)))), (pg, .inr (3, [.ref (A 50 0 0), .ref (Aw 20), .int (iI pR), .int (iI pC), .int (iI pW), .int (iI pL), .int (iI pH), .int (iI pN), .int (iI pQ), .int (iI pT), .int (iI pB), .int (iI pX), .int (iI pY), .int (iI pM), .int (iI pU)]))]) (tl := tl) [1, 2, 3, 4, 5, 6, 7, 0] (by decide) rfl B
      have B := bd_swap (a := [(pp, .inr (4, [.ref (A 50 0 0), .ref (Aw 20), .ref pg, .ref so, .int (iI (P5_28 0 0)), .int (iI (P5_28 0 1)), .ref p1, .ref p2, .ref p3, .ref p4, .ref p5, .ref p6])), (p1, .inl (k 0, 965, .inl (fun i9 : Nat => iI (u1_2 i9)))), (p2, .inl (k 0, 965, .inl (fun i9 : Nat => iI (u2_3 i9)))), (p3, .inl (k 0, 965, .inl (fun i9 : Nat => iI (u3_4 i9)))), (p4, .inl (k 0, 965, .inl (fun i9 : Nat => iI (u4_5 i9)))), (p5, .inl (k 0, 768, .inl (fun i9 : Nat => iI ((fil f5 ro nn (P2_1 0 0)) i9)))), (p6, .inl (k 0, 5, .inl (fun i9 : Nat => iI (f6 i9))))]) (b := [(pg, .inr (3, [.ref (A 50 0 0), .ref (Aw 20), .int (iI pR), .int (iI pC), .int (iI pW), .int (iI pL), .int (iI pH), .int (iI pN), .int (iI pQ), .int (iI pT), .int (iI pB), .int (iI pX), .int (iI pY), .int (iI pM), .int (iI pU)]))]) (d := tl) (bd_to rfl B)
      refine k_V (rest := []) (wc := ([(pp, .inr (4, [.ref (A 50 0 0), .ref (Aw 20), .ref pg, .ref so, .int (iI (P5_28 0 0)), .int (iI (P5_28 0 1)), .ref p1, .ref p2, .ref p3, .ref p4, .ref p5, .ref p6])), (p1, .inl (k 0, 965, .inl (fun i9 : Nat => iI (u1_2 i9)))), (p2, .inl (k 0, 965, .inl (fun i9 : Nat => iI (u2_3 i9)))), (p3, .inl (k 0, 965, .inl (fun i9 : Nat => iI (u3_4 i9)))), (p4, .inl (k 0, 965, .inl (fun i9 : Nat => iI (u4_5 i9)))), (p5, .inl (k 0, 768, .inl (fun i9 : Nat => iI ((fil f5 ro nn (P2_1 0 0)) i9)))), (p6, .inl (k 0, 5, .inl (fun i9 : Nat => iI (f6 i9))))] ++ tl)) (wr := [(pg, .inr (3, [.ref (A 50 0 0), .ref (Aw 20), .int (iI pR), .int (iI pC), .int (iI pW), .int (iI pL), .int (iI pH), .int (iI pN), .int (iI pQ), .int (iI pT), .int (iI pB), .int (iI pX), .int (iI pY), .int (iI pM), .int (iI pU)]))]) (k_placeFigures l dC dI k pp pg so p1 p2 p3 p4 p5 p6 T A X tl M V Aw u1_2 u2_3 u3_4 u4_5 (fil f5 ro nn (P2_1 0 0)) f6 P5_28 (ro + nn) pT 0 hT hK hR hM hMT hPA hPn (by omega)) B mV_X4_placeFigures mw_1630 hl (q0 := 0) rfl rfl rfl ⟨Nat.le_of_ble_eq_true rfl, Nat.le_of_ble_eq_true rfl⟩ (Nat.le_of_ble_eq_true rfl) rfl dX4_putPage_65 ⟨Nat.le_of_ble_eq_true rfl, Nat.le_of_ble_eq_true rfl⟩ (fun r w gc gs H locs hp B => ?_)
      obtain ⟨P2_29, u6_30, z_31, z_32, z_33, z_34, rfl, hw9, rfl, rfl⟩ := hp
      rw [hw9] at B; clear hw9
      have B := bd_to (ws' := ([(pg, .inr (3, [.ref (A 50 0 0), .ref (Aw 20), .int (iI pR), .int (iI pC), .int (iI pW), .int (iI pL), .int (iI pH), .int (iI pN), .int (iI pQ), .int (iI pT), .int (iI pB), .int (iI pX), .int (iI pY), .int (iI pM), .int (iI pU)])), (pp, .inr (4, [.ref (A 50 0 0), .ref (Aw 20), .ref pg, .ref so, .int (iI (P2_29 0 0)), .int (iI (P2_29 0 1)), .ref p1, .ref p2, .ref p3, .ref p4, .ref p5, .ref p6])), (p1, .inl (k 0, 965, .inl (fun i9 : Nat => iI (u1_2 i9)))), (p2, .inl (k 0, 965, .inl (fun i9 : Nat => iI (u2_3 i9)))), (p3, .inl (k 0, 965, .inl (fun i9 : Nat => iI (u3_4 i9)))), (p4, .inl (k 0, 965, .inl (fun i9 : Nat => iI (u4_5 i9)))), (p5, .inl (k 0, 768, .inl (fun i9 : Nat => iI ((fil f5 ro nn (P2_1 0 0)) i9)))), (p6, .inl (k 0, 5, .inl (fun i9 : Nat => iI (u6_30 i9))))] ++ tl)) rfl B
      have hPA : PA P2_29 (ro + nn) u1_2 u2_3 u3_4 u4_5 (fil f5 ro nn (P2_1 0 0)) u6_30 := z_32
      have hPn : 0 ≤ P2_29 0 0 ∧ P2_29 0 0 ≤ 965 := z_33
      refine lv_pop hx hb dX4_putPage_68 rfl ?_
      refine lv_aload_n hx hb dX4_putPage_69 rfl (lv_at hl 1 rfl) ?_
      refine lv_aload_n hx hb dX4_putPage_70 rfl (lv_at hl 1 rfl) ?_
      refine x_get (ci := 4) (C := RX4) (T := TX4) (N := 12) (v := .ref pg) B 1 rfl rfl in_X4 2 (by decide) mw_367 (fun _ h9 => h9) rfl dX4_putPage_71 ?_
      refine x_get (ci := 3) (C := RX3) (T := TX3) (N := 15) (v := .int (iI pB)) B 0 rfl rfl in_X3 10 (by decide) mw_325 (fun _ h9 => h9) rfl dX4_putPage_74 ?_
      refine lv_iconst (v := iI 1) hx hb dX4_putPage_77 (by decide) ?_
      have B := bd_pick (hs := [(pg, .inr (3, [.ref (A 50 0 0), .ref (Aw 20), .int (iI pR), .int (iI pC), .int (iI pW), .int (iI pL), .int (iI pH), .int (iI pN), .int (iI pQ), .int (iI pT), .int (iI pB), .int (iI pX), .int (iI pY), .int (iI pM), .int (iI pU)])), (pp, .inr (4, [.ref (A 50 0 0), .ref (Aw 20), .ref pg, .ref so, .int (iI (P2_29 0 0)), .int (iI (P2_29 0 1)), .ref p1, .ref p2, .ref p3, .ref p4, .ref p5, .ref p6])), (p1, .inl (k 0, 965, .inl (fun i9 : Nat => iI (u1_2 i9)))), (p2, .inl (k 0, 965, .inl (fun i9 : Nat => iI (u2_3 i9)))), (p3, .inl (k 0, 965, .inl (fun i9 : Nat => iI (u3_4 i9)))), (p4, .inl (k 0, 965, .inl (fun i9 : Nat => iI (u4_5 i9)))), (p5, .inl (k 0, 768, .inl (fun i9 : Nat => iI ((fil f5 ro nn (P2_1 0 0)) i9)))), (p6, .inl (k 0, 5, .inl (fun i9 : Nat => iI (u6_30 i9))))]) (ws' := [(pp, .inr (4, [.ref (A 50 0 0), .ref (Aw 20), .ref pg, .ref so, .int (iI (P2_29 0 0)), .int (iI (P2_29 0 1)), .ref p1, .ref p2, .ref p3, .ref p4, .ref p5, .ref p6])), (p1, .inl (k 0, 965, .inl (fun i9 : Nat => iI (u1_2 i9)))), (p2, .inl (k 0, 965, .inl (fun i9 : Nat => iI (u2_3 i9)))), (p3, .inl (k 0, 965, .inl (fun i9 : Nat => iI (u3_4 i9)))), (p4, .inl (k 0, 965, .inl (fun i9 : Nat => iI (u4_5 i9)))), (p5, .inl (k 0, 768, .inl (fun i9 : Nat => iI ((fil f5 ro nn (P2_1 0 0)) i9)))), (p6, .inl (k 0, 5, .inl (fun i9 : Nat => iI (u6_30 i9)))), (pg, .inr (3, [.ref (A 50 0 0), .ref (Aw 20), .int (iI pR), .int (iI pC), .int (iI pW), .int (iI pL), .int (iI pH), .int (iI pN), .int (iI pQ), .int (iI pT), .int (iI pB), .int (iI pX), .int (iI pY), .int (iI pM), .int (iI pU)]))]) (tl := tl) [1, 2, 3, 4, 5, 6, 7, 0] (by decide) rfl B
      have B := bd_swap (a := [(pp, .inr (4, [.ref (A 50 0 0), .ref (Aw 20), .ref pg, .ref so, .int (iI (P2_29 0 0)), .int (iI (P2_29 0 1)), .ref p1, .ref p2, .ref p3, .ref p4, .ref p5, .ref p6])), (p1, .inl (k 0, 965, .inl (fun i9 : Nat => iI (u1_2 i9)))), (p2, .inl (k 0, 965, .inl (fun i9 : Nat => iI (u2_3 i9)))), (p3, .inl (k 0, 965, .inl (fun i9 : Nat => iI (u3_4 i9)))), (p4, .inl (k 0, 965, .inl (fun i9 : Nat => iI (u4_5 i9)))), (p5, .inl (k 0, 768, .inl (fun i9 : Nat => iI ((fil f5 ro nn (P2_1 0 0)) i9)))), (p6, .inl (k 0, 5, .inl (fun i9 : Nat => iI (u6_30 i9))))]) (b := [(pg, .inr (3, [.ref (A 50 0 0), .ref (Aw 20), .int (iI pR), .int (iI pC), .int (iI pW), .int (iI pL), .int (iI pH), .int (iI pN), .int (iI pQ), .int (iI pT), .int (iI pB), .int (iI pX), .int (iI pY), .int (iI pM), .int (iI pU)]))]) (d := tl) (bd_to rfl B)
      refine k_V (rest := []) (wc := ([(pp, .inr (4, [.ref (A 50 0 0), .ref (Aw 20), .ref pg, .ref so, .int (iI (P2_29 0 0)), .int (iI (P2_29 0 1)), .ref p1, .ref p2, .ref p3, .ref p4, .ref p5, .ref p6])), (p1, .inl (k 0, 965, .inl (fun i9 : Nat => iI (u1_2 i9)))), (p2, .inl (k 0, 965, .inl (fun i9 : Nat => iI (u2_3 i9)))), (p3, .inl (k 0, 965, .inl (fun i9 : Nat => iI (u3_4 i9)))), (p4, .inl (k 0, 965, .inl (fun i9 : Nat => iI (u4_5 i9)))), (p5, .inl (k 0, 768, .inl (fun i9 : Nat => iI ((fil f5 ro nn (P2_1 0 0)) i9)))), (p6, .inl (k 0, 5, .inl (fun i9 : Nat => iI (u6_30 i9))))] ++ tl)) (wr := [(pg, .inr (3, [.ref (A 50 0 0), .ref (Aw 20), .int (iI pR), .int (iI pC), .int (iI pW), .int (iI pL), .int (iI pH), .int (iI pN), .int (iI pQ), .int (iI pT), .int (iI pB), .int (iI pX), .int (iI pY), .int (iI pM), .int (iI pU)]))]) (k_placeFigures l dC dI k pp pg so p1 p2 p3 p4 p5 p6 T A X tl M V Aw u1_2 u2_3 u3_4 u4_5 (fil f5 ro nn (P2_1 0 0)) u6_30 P2_29 (ro + nn) pB 1 hT hK hR hM hMT z_32 z_33 (by omega)) B mV_X4_placeFigures mw_1630 hl (q0 := 0) rfl rfl rfl ⟨Nat.le_of_ble_eq_true rfl, Nat.le_of_ble_eq_true rfl⟩ (Nat.le_of_ble_eq_true rfl) rfl dX4_putPage_78 ⟨Nat.le_of_ble_eq_true rfl, Nat.le_of_ble_eq_true rfl⟩ (fun r w gc gs H locs hp B => ?_)
      obtain ⟨P2_35, u6_36, z_37, z_38, z_39, z_40, rfl, hw9, rfl, rfl⟩ := hp
      rw [hw9] at B; clear hw9
      have B := bd_to (ws' := ([(pg, .inr (3, [.ref (A 50 0 0), .ref (Aw 20), .int (iI pR), .int (iI pC), .int (iI pW), .int (iI pL), .int (iI pH), .int (iI pN), .int (iI pQ), .int (iI pT), .int (iI pB), .int (iI pX), .int (iI pY), .int (iI pM), .int (iI pU)])), (pp, .inr (4, [.ref (A 50 0 0), .ref (Aw 20), .ref pg, .ref so, .int (iI (P2_35 0 0)), .int (iI (P2_35 0 1)), .ref p1, .ref p2, .ref p3, .ref p4, .ref p5, .ref p6])), (p1, .inl (k 0, 965, .inl (fun i9 : Nat => iI (u1_2 i9)))), (p2, .inl (k 0, 965, .inl (fun i9 : Nat => iI (u2_3 i9)))), (p3, .inl (k 0, 965, .inl (fun i9 : Nat => iI (u3_4 i9)))), (p4, .inl (k 0, 965, .inl (fun i9 : Nat => iI (u4_5 i9)))), (p5, .inl (k 0, 768, .inl (fun i9 : Nat => iI ((fil f5 ro nn (P2_1 0 0)) i9)))), (p6, .inl (k 0, 5, .inl (fun i9 : Nat => iI (u6_36 i9))))] ++ tl)) rfl B
      have hPA : PA P2_35 (ro + nn) u1_2 u2_3 u3_4 u4_5 (fil f5 ro nn (P2_1 0 0)) u6_36 := z_38
      have hPn : 0 ≤ P2_35 0 0 ∧ P2_35 0 0 ≤ 965 := z_39
      refine lv_pop hx hb dX4_putPage_81 rfl ?_
      have B := bd_pick (hs := [(pg, .inr (3, [.ref (A 50 0 0), .ref (Aw 20), .int (iI pR), .int (iI pC), .int (iI pW), .int (iI pL), .int (iI pH), .int (iI pN), .int (iI pQ), .int (iI pT), .int (iI pB), .int (iI pX), .int (iI pY), .int (iI pM), .int (iI pU)])), (pp, .inr (4, [.ref (A 50 0 0), .ref (Aw 20), .ref pg, .ref so, .int (iI (P2_35 0 0)), .int (iI (P2_35 0 1)), .ref p1, .ref p2, .ref p3, .ref p4, .ref p5, .ref p6])), (p1, .inl (k 0, 965, .inl (fun i9 : Nat => iI (u1_2 i9)))), (p2, .inl (k 0, 965, .inl (fun i9 : Nat => iI (u2_3 i9)))), (p3, .inl (k 0, 965, .inl (fun i9 : Nat => iI (u3_4 i9)))), (p4, .inl (k 0, 965, .inl (fun i9 : Nat => iI (u4_5 i9)))), (p5, .inl (k 0, 768, .inl (fun i9 : Nat => iI ((fil f5 ro nn (P2_1 0 0)) i9)))), (p6, .inl (k 0, 5, .inl (fun i9 : Nat => iI (u6_36 i9))))]) (ws' := [(pp, .inr (4, [.ref (A 50 0 0), .ref (Aw 20), .ref pg, .ref so, .int (iI (P2_35 0 0)), .int (iI (P2_35 0 1)), .ref p1, .ref p2, .ref p3, .ref p4, .ref p5, .ref p6])), (pg, .inr (3, [.ref (A 50 0 0), .ref (Aw 20), .int (iI pR), .int (iI pC), .int (iI pW), .int (iI pL), .int (iI pH), .int (iI pN), .int (iI pQ), .int (iI pT), .int (iI pB), .int (iI pX), .int (iI pY), .int (iI pM), .int (iI pU)])), (p1, .inl (k 0, 965, .inl (fun i9 : Nat => iI (u1_2 i9)))), (p2, .inl (k 0, 965, .inl (fun i9 : Nat => iI (u2_3 i9)))), (p3, .inl (k 0, 965, .inl (fun i9 : Nat => iI (u3_4 i9)))), (p4, .inl (k 0, 965, .inl (fun i9 : Nat => iI (u4_5 i9)))), (p5, .inl (k 0, 768, .inl (fun i9 : Nat => iI ((fil f5 ro nn (P2_1 0 0)) i9)))), (p6, .inl (k 0, 5, .inl (fun i9 : Nat => iI (u6_36 i9))))]) (tl := tl) [1, 0, 2, 3, 4, 5, 6, 7] (by decide) rfl B
      exact k_vret B hr (⟨P2_35, u1_2, u2_3, u3_4, u4_5, (fil f5 ro nn (P2_1 0 0)), u6_36, (pp_eq z_6 hP5_28 z_31 z_37), hPA, hPn, rfl, rfl, rfl, rfl⟩) ⟨Nat.le_of_ble_eq_true rfl, Nat.le_of_ble_eq_true rfl⟩ ⟨Nat.le_of_ble_eq_true rfl, Nat.le_of_ble_eq_true rfl⟩ dX4_putPage_82
    · have zc_27 : (ro + j9_) < (M 0 0) := jnle (a := (M 0 0)) (b := (ro + j9_)) (by omega) (by omega) c_27
      refine lv_aload_n hx hb dX4_putPage_40 rfl (lv_at hl 1 rfl) ?_
      refine x_get (ci := 4) (C := RX4) (T := TX4) (N := 12) (v := .ref p5) B 1 rfl rfl in_X4 10 (by decide) mw_382 (fun _ h9 => h9) rfl dX4_putPage_41 ?_
      refine lv_iload_n hx hb dX4_putPage_44 rfl (lv_at hl 0 rfl) ?_
      refine lv_aload_n hx hb dX4_putPage_45 rfl (lv_at hl 1 rfl) ?_
      refine x_get (ci := 4) (C := RX4) (T := TX4) (N := 12) (v := .int (iI (P2_1 0 0))) B 1 rfl rfl in_X4 4 (by decide) mw_369 (fun _ h9 => h9) rfl dX4_putPage_46 ?_
      refine x_iast' (f := (fil f5 ro j9_ (P2_1 0 0))) (z := (ro + j9_)) (v := (P2_1 0 0)) B 6 rfl (by omega) dX4_putPage_49 (fun H locs B => ?_)
      have B := bd_to (ws' := ([(pg, .inr (3, [.ref (A 50 0 0), .ref (Aw 20), .int (iI pR), .int (iI pC), .int (iI pW), .int (iI pL), .int (iI pH), .int (iI pN), .int (iI pQ), .int (iI pT), .int (iI pB), .int (iI pX), .int (iI pY), .int (iI pM), .int (iI pU)])), (pp, .inr (4, [.ref (A 50 0 0), .ref (Aw 20), .ref pg, .ref so, .int (iI (P2_1 0 0)), .int (iI (P2_1 0 1)), .ref p1, .ref p2, .ref p3, .ref p4, .ref p5, .ref p6])), (p1, .inl (k 0, 965, .inl (fun i9 : Nat => iI (u1_2 i9)))), (p2, .inl (k 0, 965, .inl (fun i9 : Nat => iI (u2_3 i9)))), (p3, .inl (k 0, 965, .inl (fun i9 : Nat => iI (u3_4 i9)))), (p4, .inl (k 0, 965, .inl (fun i9 : Nat => iI (u4_5 i9)))), (p5, .inl (k 0, 768, .inl (fun i9 : Nat => iI ((uz (fil f5 ro j9_ (P2_1 0 0)) (ro + j9_) (P2_1 0 0)) i9)))), (p6, .inl (k 0, 5, .inl (fun i9 : Nat => iI (f6 i9))))] ++ tl)) rfl B
      refine lv_iinc (v := iI ((ro + j9_) + 1)) (lv' := [(3, .int (iI ((ro + j9_) + 1))), (0, .ref pp), (1, .int (iI ro)), (2, .int (iI nn))]) hx hb dX4_putPage_50 hl (k := 0) rfl (iI_add _ _) (by decide) rfl (fun ls hl => ?_)
      refine lv_goto (tgt := 22) hx hb dX4_putPage_53 (by decide) ?_
      have e_41 : ((ro + j9_) + 1) = (ro + (j9_ + 1)) := (by first | rfl | omega)
      have e_42 : (uz (fil f5 ro j9_ (P2_1 0 0)) (ro + j9_) (P2_1 0 0)) = (fil f5 ro (j9_ + 1) (P2_1 0 0)) := (fil_s _ (by omega))
      have hl : lv_has ls 4 [(3, .int (iI ((ro + j9_) + 1))), (0, .ref pp), (1, .int (iI ro)), (2, .int (iI nn))] := lv_sub hl [0, 1, 2, 3] rfl
      have hl := Eq.mp (congrArg (fun h9 : Int => lv_has ls 4 [(3, .int (iI h9)), (0, .ref pp), (1, .int (iI ro)), (2, .int (iI nn))]) e_41) hl
      have hl : lv_has ls 4 [(3, .int (iI (ro + (j9_ + 1)))), (0, .ref pp), (1, .int (iI ro)), (2, .int (iI nn))] := hl
      have B := bd_pick (ws' := [(pg, .inr (3, [.ref (A 50 0 0), .ref (Aw 20), .int (iI pR), .int (iI pC), .int (iI pW), .int (iI pL), .int (iI pH), .int (iI pN), .int (iI pQ), .int (iI pT), .int (iI pB), .int (iI pX), .int (iI pY), .int (iI pM), .int (iI pU)])), (pp, .inr (4, [.ref (A 50 0 0), .ref (Aw 20), .ref pg, .ref so, .int (iI (P2_1 0 0)), .int (iI (P2_1 0 1)), .ref p1, .ref p2, .ref p3, .ref p4, .ref p5, .ref p6])), (p1, .inl (k 0, 965, .inl (fun i9 : Nat => iI (u1_2 i9)))), (p2, .inl (k 0, 965, .inl (fun i9 : Nat => iI (u2_3 i9)))), (p3, .inl (k 0, 965, .inl (fun i9 : Nat => iI (u3_4 i9)))), (p4, .inl (k 0, 965, .inl (fun i9 : Nat => iI (u4_5 i9)))), (p5, .inl (k 0, 768, .inl (fun i9 : Nat => iI ((uz (fil f5 ro j9_ (P2_1 0 0)) (ro + j9_) (P2_1 0 0)) i9)))), (p6, .inl (k 0, 5, .inl (fun i9 : Nat => iI (f6 i9))))]) (tl := tl) [0, 1, 2, 3, 4, 5, 6, 7] (by decide) rfl B
      have B := bd_to (ws' := ([(pg, .inr (3, [.ref (A 50 0 0), .ref (Aw 20), .int (iI pR), .int (iI pC), .int (iI pW), .int (iI pL), .int (iI pH), .int (iI pN), .int (iI pQ), .int (iI pT), .int (iI pB), .int (iI pX), .int (iI pY), .int (iI pM), .int (iI pU)])), (pp, .inr (4, [.ref (A 50 0 0), .ref (Aw 20), .ref pg, .ref so, .int (iI (P2_1 0 0)), .int (iI (P2_1 0 1)), .ref p1, .ref p2, .ref p3, .ref p4, .ref p5, .ref p6])), (p1, .inl (k 0, 965, .inl (fun i9 : Nat => iI (u1_2 i9)))), (p2, .inl (k 0, 965, .inl (fun i9 : Nat => iI (u2_3 i9)))), (p3, .inl (k 0, 965, .inl (fun i9 : Nat => iI (u3_4 i9)))), (p4, .inl (k 0, 965, .inl (fun i9 : Nat => iI (u4_5 i9)))), (p5, .inl (k 0, 768, .inl (fun i9 : Nat => iI ((fil f5 ro (j9_ + 1) (P2_1 0 0)) i9)))), (p6, .inl (k 0, 5, .inl (fun i9 : Nat => iI (f6 i9))))] ++ tl)) (congrArg (fun h9 : Int → Int => ([(pg, .inr (3, [.ref (A 50 0 0), .ref (Aw 20), .int (iI pR), .int (iI pC), .int (iI pW), .int (iI pL), .int (iI pH), .int (iI pN), .int (iI pQ), .int (iI pT), .int (iI pB), .int (iI pX), .int (iI pY), .int (iI pM), .int (iI pU)])), (pp, .inr (4, [.ref (A 50 0 0), .ref (Aw 20), .ref pg, .ref so, .int (iI (P2_1 0 0)), .int (iI (P2_1 0 1)), .ref p1, .ref p2, .ref p3, .ref p4, .ref p5, .ref p6])), (p1, .inl (k 0, 965, .inl (fun i9 : Nat => iI (u1_2 i9)))), (p2, .inl (k 0, 965, .inl (fun i9 : Nat => iI (u2_3 i9)))), (p3, .inl (k 0, 965, .inl (fun i9 : Nat => iI (u3_4 i9)))), (p4, .inl (k 0, 965, .inl (fun i9 : Nat => iI (u4_5 i9)))), (p5, .inl (k 0, 768, .inl (fun i9 : Nat => iI (h9 i9)))), (p6, .inl (k 0, 5, .inl (fun i9 : Nat => iI (f6 i9))))] ++ tl)) e_42) B
      exact ih_11 (j9_ + 1) (show 0 ≤ (j9_ + 1) ∧ (j9_ + 1) ≤ nn from (by omega)) (by first | omega | (dsimp only; omega)) _ _ _ (lv_sub hl [0, 1, 2, 3] rfl) (bd_to rfl B)

end
