section
theorem jSp_in {lk sp to n : Int} (h : -100000 ≤ lk) : 0 ≤ jSp lk sp to n ∧ jSp lk sp to n ≤ 400 := by
  unfold jSp
  (repeat' split) <;> first | omega | skip
  · rename_i h1 h2 h3 h4
    have := div_in (a := 100 * lk) (b := 2 * sp) (by omega) (by omega)
    omega
  · rename_i h1 h2 h3
    have h5 := div_in (a := 100 * -lk) (b := sp) (by omega) (by omega)
    have h6 : 100 * -lk / sp ≤ 100 := by
      have h7 : 100 * -lk ≤ 100 * sp := by omega
      exact Int.ediv_le_of_le_mul (by omega) (by omega)
    omega
theorem jCl_in (lk sp to n : Int) : 0 ≤ jCl lk sp to n ∧ jCl lk sp to n ≤ 3 := by
  unfold jCl
  (repeat' split) <;> omega
def clZ (fg fw fo : Int → Int) (n wz fr to : Int) : Int := jCl (jLk fw fo fg fr to wz) (fo (to - 1) - fo fr) to n
def sdZ (fg fw fo : Int → Int) (n wz fr to : Int) : Int := jSp (jLk fw fo fg fr to wz) (fo (to - 1) - fo fr) to n
abbrev okZ (fg fw fo : Int → Int) (wz fr to : Int) : Prop := jOk (jLk fw fo fg fr to wz) (fo (to - 1) - fo fr) fr to
/-- an entry after k tries: X, Y tell demerits and lines behind -/
def enS (fg fw fo : Int → Int) (X Y : Int → Int → Int → Int) (n wz dp la fr : Int) (e0 : Int → Int × Int × Int) : Nat → Int → Int × Int × Int
  | 0, a => e0 a
  | k + 1, a =>
    let q := enS fg fw fo X Y n wz dp la fr e0 k a
    let to := fr + 1 + (k : Int)
    let sm := (ownZ (sdZ fg fw fo n wz fr to) (fg to) + pnZ (clZ fg fw fo n wz fr to) a (fg fr) (fg to)) + X to (min (la + 1) dp) (clZ fg fw fo n wz fr to)
    let ct := Y to (min (la + 1) dp) (clZ fg fw fo n wz fr to) + 1
    (tlD q.1 q.2.1 sm ct, tlL q.1 q.2.1 sm ct, tlE q.1 q.2.1 q.2.2 sm ct to)
section EN
variable {fg fw fo : Int → Int} {X Y : Int → Int → Int → Int} {n wz dp la fr to b bh : Int} {e0 : Int → Int × Int × Int} {dD dL dE d2 : Int → Int}
theorem Ri_c {D : Int → Int} {b n : Int} {g g' : Int → Int} (h : Ri D b n g) (e : ∀ a, 0 ≤ a → a < n → g a = g' a) : Ri D b n g' := fun a h1 h2 => (h a h1 h2).trans (e a h1 h2)
theorem en_k (h : fr + 1 ≤ to) (a : Int) : enS fg fw fo X Y n wz dp la fr e0 ((to + 1) - fr - 1).toNat a =
    (let q := enS fg fw fo X Y n wz dp la fr e0 (to - fr - 1).toNat a
     let sm := (ownZ (sdZ fg fw fo n wz fr to) (fg to) + pnZ (clZ fg fw fo n wz fr to) a (fg fr) (fg to)) + X to (min (la + 1) dp) (clZ fg fw fo n wz fr to)
     let ct := Y to (min (la + 1) dp) (clZ fg fw fo n wz fr to) + 1
     (tlD q.1 q.2.1 sm ct, tlL q.1 q.2.1 sm ct, tlE q.1 q.2.1 q.2.2 sm ct to)) := by
  have e : ((to + 1) - fr - 1).toNat = (to - fr - 1).toNat + 1 := by omega
  have e2 : fr + 1 + ((to - fr - 1).toNat : Int) = to := by omega
  rw [e]
  simp only [enS, e2]
theorem en_D (h : fr + 1 ≤ to) (rD : Ri dD b 5 (fun a => (enS fg fw fo X Y n wz dp la fr e0 (to - fr - 1).toNat a).1)) (rL : Ri dL b 5 (fun a => (enS fg fw fo X Y n wz dp la fr e0 (to - fr - 1).toNat a).2.1))
    (hX : dD bh = X to (min (la + 1) dp) (clZ fg fw fo n wz fr to)) (hY : dL bh = Y to (min (la + 1) dp) (clZ fg fw fo n wz fr to))
    (z : Ri d2 b 5 (fun a => tlD (dD (b + a)) (dL (b + a)) ((ownZ (sdZ fg fw fo n wz fr to) (fg to) + pnZ (clZ fg fw fo n wz fr to) a (fg fr) (fg to)) + dD bh) (dL bh + 1))) : Ri d2 b 5 (fun a => (enS fg fw fo X Y n wz dp la fr e0 ((to + 1) - fr - 1).toNat a).1) := by
  refine Ri_c z (fun a h1 h2 => ?_)
  rw [en_k h, rD a h1 h2, rL a h1 h2, hX, hY]
theorem en_L (h : fr + 1 ≤ to) (rD : Ri dD b 5 (fun a => (enS fg fw fo X Y n wz dp la fr e0 (to - fr - 1).toNat a).1)) (rL : Ri dL b 5 (fun a => (enS fg fw fo X Y n wz dp la fr e0 (to - fr - 1).toNat a).2.1))
    (hX : dD bh = X to (min (la + 1) dp) (clZ fg fw fo n wz fr to)) (hY : dL bh = Y to (min (la + 1) dp) (clZ fg fw fo n wz fr to))
    (z : Ri d2 b 5 (fun a => tlL (dD (b + a)) (dL (b + a)) ((ownZ (sdZ fg fw fo n wz fr to) (fg to) + pnZ (clZ fg fw fo n wz fr to) a (fg fr) (fg to)) + dD bh) (dL bh + 1))) : Ri d2 b 5 (fun a => (enS fg fw fo X Y n wz dp la fr e0 ((to + 1) - fr - 1).toNat a).2.1) := by
  refine Ri_c z (fun a h1 h2 => ?_)
  rw [en_k h, rD a h1 h2, rL a h1 h2, hX, hY]
theorem en_E (h : fr + 1 ≤ to) (rD : Ri dD b 5 (fun a => (enS fg fw fo X Y n wz dp la fr e0 (to - fr - 1).toNat a).1)) (rL : Ri dL b 5 (fun a => (enS fg fw fo X Y n wz dp la fr e0 (to - fr - 1).toNat a).2.1)) (rE : Ri dE b 5 (fun a => (enS fg fw fo X Y n wz dp la fr e0 (to - fr - 1).toNat a).2.2))
    (hX : dD bh = X to (min (la + 1) dp) (clZ fg fw fo n wz fr to)) (hY : dL bh = Y to (min (la + 1) dp) (clZ fg fw fo n wz fr to))
    (z : Ri d2 b 5 (fun a => tlE (dD (b + a)) (dL (b + a)) (dE (b + a)) ((ownZ (sdZ fg fw fo n wz fr to) (fg to) + pnZ (clZ fg fw fo n wz fr to) a (fg fr) (fg to)) + dD bh) (dL bh + 1) to)) : Ri d2 b 5 (fun a => (enS fg fw fo X Y n wz dp la fr e0 ((to + 1) - fr - 1).toNat a).2.2) := by
  refine Ri_c z (fun a h1 h2 => ?_)
  rw [en_k h, rD a h1 h2, rL a h1 h2, rE a h1 h2, hX, hY]
end EN
/-- how many ends, from fr + 1 on, a line from fr can have -/
def okC (fg fw fo : Int → Int) (wz fr : Int) : Nat → Int → Int
  | 0, _ => 0
  | f + 1, t => if okZ fg fw fo wz fr t then 1 + okC fg fw fo wz fr f (t + 1) else 0
theorem okC_eq {fg fw fo : Int → Int} {wz fr n : Int} : ∀ (f : Nat) (t q : Int), (f : Int) = n + 1 - t → t ≤ q → q ≤ n + 1 → (∀ u, t ≤ u → u < q → okZ fg fw fo wz fr u) → (q = n + 1 ∨ ¬ okZ fg fw fo wz fr q) → okC fg fw fo wz fr f t = q - t
  | 0, t, q, hf, h1, h2, _, _ => by simp only [okC]; omega
  | f + 1, t, q, hf, h1, h2, h3, h4 => by
    simp only [okC]
    by_cases e : q = t
    · subst e
      rw [if_neg (by rcases h4 with h | h; omega; exact h)]
      omega
    · rw [if_pos (h3 t (by omega) (by omega)), okC_eq f (t + 1) q (by omega) (by omega) h2 (fun u a b => h3 u (by omega) b) h4]
      omega

theorem mw_1428 : (Jvm.Cond.methodLink "Galleyforge$Lines" (130 : Nat) ({ cls := "Galleyforge$Lines", name := "widthOf", desc := "(I)I" } : Jvm.MethodName)) ∈ gt := gt_at 1498 (by decide +kernel) (by decide +kernel)
theorem mw_1430 : (Jvm.Cond.instanceMethod ({ cls := "Galleyforge$Lines", name := "widthOf", desc := "(I)I" } : Jvm.MethodName)) ∈ gt := gt_at 1500 (by decide +kernel) (by decide +kernel)
theorem mw_1431 : (Jvm.Cond.code ({ cls := "Galleyforge$Lines", name := "widthOf", desc := "(I)I" } : Jvm.MethodName) prog_4_method_6_code (2 : Nat) (Option.some Jvm.ClassFile.FieldType.int)) ∈ gt := gt_at 1501 (by decide +kernel) (by decide +kernel)
theorem mw_1432 : (Jvm.Cond.methodLink "Galleyforge$Lines" (134 : Nat) ({ cls := "Galleyforge$Lines", name := "judge", desc := "(III)Z" } : Jvm.MethodName)) ∈ gt := gt_at 1502 (by decide +kernel) (by decide +kernel)
theorem mw_1434 : (Jvm.Cond.instanceMethod ({ cls := "Galleyforge$Lines", name := "judge", desc := "(III)Z" } : Jvm.MethodName)) ∈ gt := gt_at 1504 (by decide +kernel) (by decide +kernel)
theorem mw_1435 : (Jvm.Cond.code ({ cls := "Galleyforge$Lines", name := "judge", desc := "(III)Z" } : Jvm.MethodName) prog_4_method_7_code (7 : Nat) (Option.some Jvm.ClassFile.FieldType.boolean)) ∈ gt := gt_at 1505 (by decide +kernel) (by decide +kernel)
theorem mw_1437 : (Jvm.Cond.methodLink "Galleyforge$Lines" (138 : Nat) ({ cls := "Galleyforge$Lines", name := "tryLine", desc := "(III)V" } : Jvm.MethodName)) ∈ gt := gt_at 1507 (by decide +kernel) (by decide +kernel)
theorem mw_1439 : (Jvm.Cond.instanceMethod ({ cls := "Galleyforge$Lines", name := "tryLine", desc := "(III)V" } : Jvm.MethodName)) ∈ gt := gt_at 1509 (by decide +kernel) (by decide +kernel)
theorem mw_1440 : (Jvm.Cond.code ({ cls := "Galleyforge$Lines", name := "tryLine", desc := "(III)V" } : Jvm.MethodName) prog_4_method_15_code (12 : Nat) (Option.none : Option Jvm.ClassFile.FieldType)) ∈ gt := gt_at 1510 (by decide +kernel) (by decide +kernel)
theorem ms_27 : Cond.selects "Galleyforge$Lines" (⟨"Galleyforge$Lines", "judge", "(III)Z"⟩ : MethodName) (⟨"Galleyforge$Lines", "judge", "(III)Z"⟩ : MethodName) ∈ gt := gt_at 27 (by decide +kernel) (by decide +kernel)
theorem mV_X2_judge : mV yX2_judge cX2_judge 7 (some .boolean) 3 := ⟨⟨mw_1435, mw_6, by decide, by decide, by decide +kernel⟩, mw_1434, ms_27⟩
theorem ms_28 : Cond.selects "Galleyforge$Lines" (⟨"Galleyforge$Lines", "tryLine", "(III)V"⟩ : MethodName) (⟨"Galleyforge$Lines", "tryLine", "(III)V"⟩ : MethodName) ∈ gt := gt_at 28 (by decide +kernel) (by decide +kernel)
theorem mV_X2_tryLine : mV yX2_tryLine cX2_tryLine 12 none 3 := ⟨⟨mw_1440, mw_6, by decide, by decide, by decide +kernel⟩, mw_1439, ms_28⟩
theorem ms_26 : Cond.selects "Galleyforge$Lines" (⟨"Galleyforge$Lines", "widthOf", "(I)I"⟩ : MethodName) (⟨"Galleyforge$Lines", "widthOf", "(I)I"⟩ : MethodName) ∈ gt := gt_at 26 (by decide +kernel) (by decide +kernel)
theorem mV_X2_widthOf : mV yX2_widthOf cX2_widthOf 2 (some .int) 1 := ⟨⟨mw_1431, mw_6, by decide, by decide, by decide +kernel⟩, mw_1430, ms_26⟩
theorem dX2_tryLines_0 : decode cX2_tryLines 0 = .ok (.iload_n 1, 1) := by decide +kernel
theorem dX2_tryLines_1 : decode cX2_tryLines 1 = .ok (.iconst 1, 1) := by decide +kernel
theorem dX2_tryLines_2 : decode cX2_tryLines 2 = .ok (.iadd, 1) := by decide +kernel
theorem dX2_tryLines_3 : decode cX2_tryLines 3 = .ok (.istore_n 3, 1) := by decide +kernel
theorem dX2_tryLines_4 : decode cX2_tryLines 4 = .ok (.iload_n 3, 1) := by decide +kernel
theorem dX2_tryLines_5 : decode cX2_tryLines 5 = .ok (.aload_n 0, 1) := by decide +kernel
theorem dX2_tryLines_6 : decode cX2_tryLines 6 = .ok (.getfield 34, 3) := by decide +kernel
theorem dX2_tryLines_9 : decode cX2_tryLines 9 = .ok (.if_icmp .gt 31, 3) := by decide +kernel
theorem dX2_tryLines_12 : decode cX2_tryLines 12 = .ok (.aload_n 0, 1) := by decide +kernel
theorem dX2_tryLines_13 : decode cX2_tryLines 13 = .ok (.iload_n 1, 1) := by decide +kernel
theorem dX2_tryLines_14 : decode cX2_tryLines 14 = .ok (.iload_n 3, 1) := by decide +kernel
theorem dX2_tryLines_15 : decode cX2_tryLines 15 = .ok (.aload_n 0, 1) := by decide +kernel
theorem dX2_tryLines_16 : decode cX2_tryLines 16 = .ok (.iload_n 2, 1) := by decide +kernel
theorem dX2_tryLines_17 : decode cX2_tryLines 17 = .ok (.invokevirtual 130, 3) := by decide +kernel
theorem dX2_tryLines_20 : decode cX2_tryLines 20 = .ok (.invokevirtual 134, 3) := by decide +kernel
theorem dX2_tryLines_23 : decode cX2_tryLines 23 = .ok (.ifCond .ne 4, 3) := by decide +kernel
theorem dX2_tryLines_26 : decode cX2_tryLines 26 = .ok (.return_, 1) := by decide +kernel
theorem dX2_tryLines_27 : decode cX2_tryLines 27 = .ok (.aload_n 0, 1) := by decide +kernel
theorem dX2_tryLines_28 : decode cX2_tryLines 28 = .ok (.iload_n 1, 1) := by decide +kernel
theorem dX2_tryLines_29 : decode cX2_tryLines 29 = .ok (.iload_n 3, 1) := by decide +kernel
theorem dX2_tryLines_30 : decode cX2_tryLines 30 = .ok (.iload_n 2, 1) := by decide +kernel
theorem dX2_tryLines_31 : decode cX2_tryLines 31 = .ok (.invokevirtual 138, 3) := by decide +kernel
theorem dX2_tryLines_34 : decode cX2_tryLines 34 = .ok (.iinc 3 1, 3) := by decide +kernel
theorem dX2_tryLines_37 : decode cX2_tryLines 37 = .ok (.goto (-33), 3) := by decide +kernel
theorem dX2_tryLines_40 : decode cX2_tryLines 40 = .ok (.return_, 1) := by decide +kernel
set_option maxHeartbeats 4000000 in
set_option maxRecDepth 100000 in
theorem k_tryLines (l : Launch) (dC : Nat → ClassId) (dI : Nat → Nat → Nat) (k : Nat → ClassId) (ln : Nat) (wa : Nat) (ga : Nat) (wt : Nat) (wo : Nat) (bD : Nat) (bL : Nat) (bE : Nat) (n : Int) (wd : Int) (nw : Int) (dp : Int) (sd : Int) (cl : Int) (fg : Int → Int) (fw : Int → Int) (fo : Int → Int) (fD : Int → Int) (fL : Int → Int) (fE : Int → Int) (fr : Int) (la : Int) (hg : Bd 0 5 fg) (hw : Bd 0 2000 fw) (ho : Bd 0 12 fo) (hD : Bd (-1) 1099511627776 fD) (hL : Bd 0 1000 fL) (hE : Bd (-1) 48 fE) (h1 : 0 ≤ fr ∧ fr < n ∧ n ≤ 48) (h2 : 0 ≤ la ∧ la ≤ dp ∧ dp ≤ 3) (h3 : 0 ≤ wd ∧ wd ≤ 200 ∧ 0 ≤ nw ∧ nw ≤ 200) (hX : ∀ t9 u9 c9 : Int, fr < t9 → t9 ≤ n → 0 ≤ u9 → u9 ≤ dp → 0 ≤ c9 → c9 ≤ 3 → (0 ≤ fD ((((t9 * 4) + u9) * 5) + c9) ∧ fD ((((t9 * 4) + u9) * 5) + c9) ≤ 549755813888) ∧ (0 ≤ fL ((((t9 * 4) + u9) * 5) + c9) ∧ fL ((((t9 * 4) + u9) * 5) + c9) ≤ 500)) : Kn l dC dI k yX2_tryLines (.code yX2_tryLines cX2_tryLines 4 none) ({ frames := 2, cells := 0, slots := 0, locals := 55 } : Room) [.ref ln, .int (iI fr), .int (iI la)] [(ln, .inr (2, [.int (iI n), .ref wa, .ref ga, .ref wt, .ref wo, .int (iI wd), .int (iI nw), .int (iI dp), .int (iI sd), .int (iI cl), .ref bD, .ref bL, .ref bE])), (ga, .inl (k 0, 49, .inl (fun i9 : Nat => iI (fg i9)))), (wt, .inl (k 0, 49, .inl (fun i9 : Nat => iI (fw i9)))), (wo, .inl (k 0, 49, .inl (fun i9 : Nat => iI (fo i9)))), (bD, .inl (k 2, 980, .inr (.inl (fun i9 : Nat => lI (fD i9))))), (bL, .inl (k 0, 980, .inl (fun i9 : Nat => iI (fL i9)))), (bE, .inl (k 0, 980, .inl (fun i9 : Nat => iI (fE i9))))] (fun r w gc gs => (∃ (kk : Int) (dD : Int → Int) (dL : Int → Int) (dE : Int → Int) (sq : Int) (cq : Int), (0 ≤ kk ∧ fr + kk ≤ n) ∧ (∀ t9 : Int, fr + 1 ≤ t9 → t9 < fr + 1 + kk → okZ fg fw fo (if la < dp then nw else wd) fr t9) ∧ (fr + 1 + kk = n + 1 ∨ ¬ okZ fg fw fo (if la < dp then nw else wd) fr (fr + 1 + kk)) ∧ (Ro dD fD (((fr * 4) + la) * 5) 5) ∧ (Ro dL fL (((fr * 4) + la) * 5) 5) ∧ (Ro dE fE (((fr * 4) + la) * 5) 5) ∧ (Ri dD (((fr * 4) + la) * 5) 5 (fun a => (enS fg fw fo (fun t9 u9 c9 => fD ((((t9 * 4) + u9) * 5) + c9)) (fun t9 u9 c9 => fL ((((t9 * 4) + u9) * 5) + c9)) n (if la < dp then nw else wd) dp la fr (fun a => (fD ((((fr * 4) + la) * 5) + a), fL ((((fr * 4) + la) * 5) + a), fE ((((fr * 4) + la) * 5) + a))) kk.toNat a).1)) ∧ (Ri dL (((fr * 4) + la) * 5) 5 (fun a => (enS fg fw fo (fun t9 u9 c9 => fD ((((t9 * 4) + u9) * 5) + c9)) (fun t9 u9 c9 => fL ((((t9 * 4) + u9) * 5) + c9)) n (if la < dp then nw else wd) dp la fr (fun a => (fD ((((fr * 4) + la) * 5) + a), fL ((((fr * 4) + la) * 5) + a), fE ((((fr * 4) + la) * 5) + a))) kk.toNat a).2.1)) ∧ (Ri dE (((fr * 4) + la) * 5) 5 (fun a => (enS fg fw fo (fun t9 u9 c9 => fD ((((t9 * 4) + u9) * 5) + c9)) (fun t9 u9 c9 => fL ((((t9 * 4) + u9) * 5) + c9)) n (if la < dp then nw else wd) dp la fr (fun a => (fD ((((fr * 4) + la) * 5) + a), fL ((((fr * 4) + la) * 5) + a), fE ((((fr * 4) + la) * 5) + a))) kk.toNat a).2.2)) ∧ (Bd (-1) 1099511627776 dD) ∧ (Bd 0 1000 dL) ∧ (Bd (-1) 48 dE) ∧ r = none ∧ w = [(ln, .inr (2, [.int (iI n), .ref wa, .ref ga, .ref wt, .ref wo, .int (iI wd), .int (iI nw), .int (iI dp), .int (iI sq), .int (iI cq), .ref bD, .ref bL, .ref bE])), (ga, .inl (k 0, 49, .inl (fun i9 : Nat => iI (fg i9)))), (wt, .inl (k 0, 49, .inl (fun i9 : Nat => iI (fw i9)))), (wo, .inl (k 0, 49, .inl (fun i9 : Nat => iI (fo i9)))), (bD, .inl (k 2, 980, .inr (.inl (fun i9 : Nat => lI (dD i9))))), (bL, .inl (k 0, 980, .inl (fun i9 : Nat => iI (dL i9)))), (bE, .inl (k 0, 980, .inl (fun i9 : Nat => iI (dE i9))))] ∧ gc = 0 ∧ gs = 0)) := by
  refine kn_of (by decide) (Nat.le_of_ble_eq_true rfl) ?_
  intro p e s m args below meth c H locs B hr hnm ls hl
  have hx := B.1.1
  have hb := B.1.2.1
  have hl : lv_has ls 4 [(0, .ref ln), (1, .int (iI fr)), (2, .int (iI la))] := hl
  refine lv_iload_n hx hb dX2_tryLines_0 rfl (lv_at hl 1 rfl) ?_
  refine lv_iconst (v := iI 1) hx hb dX2_tryLines_1 (by decide) ?_
  refine y_add hx hb dX2_tryLines_2 ?_
  refine lv_istore_n (lv' := [(3, .int (iI (fr + 1))), (0, .ref ln), (1, .int (iI fr)), (2, .int (iI la))]) hx hb dX2_tryLines_3 rfl hl (by decide) rfl (fun ls hl => ?_)
  refine k_loop (σ := Int × (Int → Int) × (Int → Int) × (Int → Int) × Int × Int) B (fun g9 : Int × (Int → Int) × (Int → Int) × (Int → Int) × Int × Int => (fr + 1 ≤ g9.1 ∧ g9.1 ≤ n + 1) ∧ (∀ t9 : Int, fr + 1 ≤ t9 → t9 < g9.1 → okZ fg fw fo (if la < dp then nw else wd) fr t9) ∧ (Ro g9.2.1 fD (((fr * 4) + la) * 5) 5) ∧ (Ro g9.2.2.1 fL (((fr * 4) + la) * 5) 5) ∧ (Ro g9.2.2.2.1 fE (((fr * 4) + la) * 5) 5) ∧ (Ri g9.2.1 (((fr * 4) + la) * 5) 5 (fun a => (enS fg fw fo (fun t9 u9 c9 => fD ((((t9 * 4) + u9) * 5) + c9)) (fun t9 u9 c9 => fL ((((t9 * 4) + u9) * 5) + c9)) n (if la < dp then nw else wd) dp la fr (fun a => (fD ((((fr * 4) + la) * 5) + a), fL ((((fr * 4) + la) * 5) + a), fE ((((fr * 4) + la) * 5) + a))) (g9.1 - fr - 1).toNat a).1)) ∧ (Ri g9.2.2.1 (((fr * 4) + la) * 5) 5 (fun a => (enS fg fw fo (fun t9 u9 c9 => fD ((((t9 * 4) + u9) * 5) + c9)) (fun t9 u9 c9 => fL ((((t9 * 4) + u9) * 5) + c9)) n (if la < dp then nw else wd) dp la fr (fun a => (fD ((((fr * 4) + la) * 5) + a), fL ((((fr * 4) + la) * 5) + a), fE ((((fr * 4) + la) * 5) + a))) (g9.1 - fr - 1).toNat a).2.1)) ∧ (Ri g9.2.2.2.1 (((fr * 4) + la) * 5) 5 (fun a => (enS fg fw fo (fun t9 u9 c9 => fD ((((t9 * 4) + u9) * 5) + c9)) (fun t9 u9 c9 => fL ((((t9 * 4) + u9) * 5) + c9)) n (if la < dp then nw else wd) dp la fr (fun a => (fD ((((fr * 4) + la) * 5) + a), fL ((((fr * 4) + la) * 5) + a), fE ((((fr * 4) + la) * 5) + a))) (g9.1 - fr - 1).toNat a).2.2)) ∧ (Bd (-1) 1099511627776 g9.2.1) ∧ (Bd 0 1000 g9.2.2.1) ∧ (Bd (-1) 48 g9.2.2.2.1)) (fun g9 : Int × (Int → Int) × (Int → Int) × (Int → Int) × Int × Int => (n + 1 - g9.1).toNat) (fun g9 : Int × (Int → Int) × (Int → Int) × (Int → Int) × Int × Int => [(3, .int (iI g9.1)), (0, .ref ln), (1, .int (iI fr)), (2, .int (iI la))]) (fun g9 : Int × (Int → Int) × (Int → Int) × (Int → Int) × Int × Int => [(ln, .inr (2, [.int (iI n), .ref wa, .ref ga, .ref wt, .ref wo, .int (iI wd), .int (iI nw), .int (iI dp), .int (iI g9.2.2.2.2.1), .int (iI g9.2.2.2.2.2), .ref bD, .ref bL, .ref bE])), (ga, .inl (k 0, 49, .inl (fun i9 : Nat => iI (fg i9)))), (wt, .inl (k 0, 49, .inl (fun i9 : Nat => iI (fw i9)))), (wo, .inl (k 0, 49, .inl (fun i9 : Nat => iI (fo i9)))), (bD, .inl (k 2, 980, .inr (.inl (fun i9 : Nat => lI (g9.2.1 i9))))), (bL, .inl (k 0, 980, .inl (fun i9 : Nat => iI (g9.2.2.1 i9)))), (bE, .inl (k 0, 980, .inl (fun i9 : Nat => iI (g9.2.2.2.1 i9))))]) ?_ ((fr + 1), fD, fL, fE, sd, cl) ⟨(by omega), (fun t9 h9 h8 => by omega), (fun _ _ => rfl), (fun _ _ => rfl), (fun _ _ => rfl), (fun a h9 h8 => by rw [show ((fr + 1) - fr - 1).toNat = 0 by omega]; rfl), (fun a h9 h8 => by rw [show ((fr + 1) - fr - 1).toNat = 0 by omega]; rfl), (fun a h9 h8 => by rw [show ((fr + 1) - fr - 1).toNat = 0 by omega]; rfl), hD, hL, hE⟩ ls H locs (lv_sub hl [0, 1, 2, 3] rfl) (bd_to rfl B)
  clear hl B
  rintro ⟨to, dD, dL, dE, sq, cq⟩ ⟨hto, hok, oD, oL, oE, iD, iL, iE, bD9, bL9, bE9⟩ ih_1 ls H locs hl B
  have hto : fr + 1 ≤ to ∧ to ≤ n + 1 := hto
  have hok : ∀ t9 : Int, fr + 1 ≤ t9 → t9 < to → okZ fg fw fo (if la < dp then nw else wd) fr t9 := hok
  have oD : Ro dD fD (((fr * 4) + la) * 5) 5 := oD
  have oL : Ro dL fL (((fr * 4) + la) * 5) 5 := oL
  have oE : Ro dE fE (((fr * 4) + la) * 5) 5 := oE
  have iD : Ri dD (((fr * 4) + la) * 5) 5 (fun a => (enS fg fw fo (fun t9 u9 c9 => fD ((((t9 * 4) + u9) * 5) + c9)) (fun t9 u9 c9 => fL ((((t9 * 4) + u9) * 5) + c9)) n (if la < dp then nw else wd) dp la fr (fun a => (fD ((((fr * 4) + la) * 5) + a), fL ((((fr * 4) + la) * 5) + a), fE ((((fr * 4) + la) * 5) + a))) (to - fr - 1).toNat a).1) := iD
  have iL : Ri dL (((fr * 4) + la) * 5) 5 (fun a => (enS fg fw fo (fun t9 u9 c9 => fD ((((t9 * 4) + u9) * 5) + c9)) (fun t9 u9 c9 => fL ((((t9 * 4) + u9) * 5) + c9)) n (if la < dp then nw else wd) dp la fr (fun a => (fD ((((fr * 4) + la) * 5) + a), fL ((((fr * 4) + la) * 5) + a), fE ((((fr * 4) + la) * 5) + a))) (to - fr - 1).toNat a).2.1) := iL
  have iE : Ri dE (((fr * 4) + la) * 5) 5 (fun a => (enS fg fw fo (fun t9 u9 c9 => fD ((((t9 * 4) + u9) * 5) + c9)) (fun t9 u9 c9 => fL ((((t9 * 4) + u9) * 5) + c9)) n (if la < dp then nw else wd) dp la fr (fun a => (fD ((((fr * 4) + la) * 5) + a), fL ((((fr * 4) + la) * 5) + a), fE ((((fr * 4) + la) * 5) + a))) (to - fr - 1).toNat a).2.2) := iE
  have bD9 : Bd (-1) 1099511627776 dD := bD9
  have bL9 : Bd 0 1000 dL := bL9
  have bE9 : Bd (-1) 48 dE := bE9
  have hl : lv_has ls 4 [(3, .int (iI to)), (0, .ref ln), (1, .int (iI fr)), (2, .int (iI la))] := hl
  have B := bd_to (ws' := [(ln, .inr (2, [.int (iI n), .ref wa, .ref ga, .ref wt, .ref wo, .int (iI wd), .int (iI nw), .int (iI dp), .int (iI sq), .int (iI cq), .ref bD, .ref bL, .ref bE])), (ga, .inl (k 0, 49, .inl (fun i9 : Nat => iI (fg i9)))), (wt, .inl (k 0, 49, .inl (fun i9 : Nat => iI (fw i9)))), (wo, .inl (k 0, 49, .inl (fun i9 : Nat => iI (fo i9)))), (bD, .inl (k 2, 980, .inr (.inl (fun i9 : Nat => lI (dD i9))))), (bL, .inl (k 0, 980, .inl (fun i9 : Nat => iI (dL i9)))), (bE, .inl (k 0, 980, .inl (fun i9 : Nat => iI (dE i9))))]) rfl B
  refine lv_iload_n hx hb dX2_tryLines_4 rfl (lv_at hl 0 rfl) ?_
  refine lv_aload_n hx hb dX2_tryLines_5 rfl (lv_at hl 1 rfl) ?_
  refine x_get (ci := 2) (C := RX2) (T := TX2) (N := 13) (v := .int (iI n)) B 0 rfl rfl in_X2 0 (by decide) mw_126 (fun _ h9 => h9) rfl dX2_tryLines_6 ?_
  refine lv_icmp_gt (tgt := 40) hx hb dX2_tryLines_9 (by decide) (fun c_2 => ?_) (fun c_2 => ?_)
  · have zc_2 : n < to := jlt (a := n) (b := to) (by omega) (by omega) c_2
    exact k_vret B hr (⟨(to - fr - 1), dD, dL, dE, sq, cq, (by omega), (fun t9 h9 h8 => hok t9 h9 (by omega)), (Or.inl (by omega)), oD, oL, oE, iD, iL, iE, bD9, bL9, bE9, rfl, rfl, rfl, rfl⟩) ⟨Nat.le_of_ble_eq_true rfl, Nat.le_of_ble_eq_true rfl⟩ ⟨Nat.le_of_ble_eq_true rfl, Nat.le_of_ble_eq_true rfl⟩ dX2_tryLines_40
  · have zc_2 : to ≤ n := jnlt (a := n) (b := to) (by omega) (by omega) c_2
    refine lv_aload_n hx hb dX2_tryLines_12 rfl (lv_at hl 1 rfl) ?_
    refine lv_iload_n hx hb dX2_tryLines_13 rfl (lv_at hl 2 rfl) ?_
    refine lv_iload_n hx hb dX2_tryLines_14 rfl (lv_at hl 0 rfl) ?_
    refine lv_aload_n hx hb dX2_tryLines_15 rfl (lv_at hl 1 rfl) ?_
    refine lv_iload_n hx hb dX2_tryLines_16 rfl (lv_at hl 3 rfl) ?_
    have B := bd_to (ws' := [(ln, .inr (2, [.int (iI n), .ref wa, .ref ga, .ref wt, .ref wo, .int (iI wd), .int (iI nw), .int (iI dp), .int (iI sq), .int (iI cq), .ref bD, .ref bL, .ref bE]))] ++ [(ga, .inl (k 0, 49, .inl (fun i9 : Nat => iI (fg i9)))), (wt, .inl (k 0, 49, .inl (fun i9 : Nat => iI (fw i9)))), (wo, .inl (k 0, 49, .inl (fun i9 : Nat => iI (fo i9)))), (bD, .inl (k 2, 980, .inr (.inl (fun i9 : Nat => lI (dD i9))))), (bL, .inl (k 0, 980, .inl (fun i9 : Nat => iI (dL i9)))), (bE, .inl (k 0, 980, .inl (fun i9 : Nat => iI (dE i9))))]) rfl B
    refine k_V (rest := [.int (iI to), .int (iI fr), .ref ln]) (wc := [(ln, .inr (2, [.int (iI n), .ref wa, .ref ga, .ref wt, .ref wo, .int (iI wd), .int (iI nw), .int (iI dp), .int (iI sq), .int (iI cq), .ref bD, .ref bL, .ref bE]))]) (wr := [(ga, .inl (k 0, 49, .inl (fun i9 : Nat => iI (fg i9)))), (wt, .inl (k 0, 49, .inl (fun i9 : Nat => iI (fw i9)))), (wo, .inl (k 0, 49, .inl (fun i9 : Nat => iI (fo i9)))), (bD, .inl (k 2, 980, .inr (.inl (fun i9 : Nat => lI (dD i9))))), (bL, .inl (k 0, 980, .inl (fun i9 : Nat => iI (dL i9)))), (bE, .inl (k 0, 980, .inl (fun i9 : Nat => iI (dE i9))))]) (k_widthOf l dC dI k ln wa ga wt wo bD bL bE n wd nw dp sq cq la (by omega) (by omega)) B mV_X2_widthOf mw_1428 hl (q0 := 0) rfl rfl rfl ⟨Nat.le_of_ble_eq_true rfl, Nat.le_of_ble_eq_true rfl⟩ (Nat.le_of_ble_eq_true rfl) rfl dX2_tryLines_17 ⟨Nat.le_of_ble_eq_true rfl, Nat.le_of_ble_eq_true rfl⟩ (fun r w gc gs H locs hp B => ?_)
    obtain ⟨rfl, rfl, rfl, rfl⟩ := hp
    have B := bd_to (ws' := [(ga, .inl (k 0, 49, .inl (fun i9 : Nat => iI (fg i9)))), (wt, .inl (k 0, 49, .inl (fun i9 : Nat => iI (fw i9)))), (wo, .inl (k 0, 49, .inl (fun i9 : Nat => iI (fo i9)))), (bD, .inl (k 2, 980, .inr (.inl (fun i9 : Nat => lI (dD i9))))), (bL, .inl (k 0, 980, .inl (fun i9 : Nat => iI (dL i9)))), (bE, .inl (k 0, 980, .inl (fun i9 : Nat => iI (dE i9)))), (ln, .inr (2, [.int (iI n), .ref wa, .ref ga, .ref wt, .ref wo, .int (iI wd), .int (iI nw), .int (iI dp), .int (iI sq), .int (iI cq), .ref bD, .ref bL, .ref bE]))]) rfl B
    have B := bd_sub (ws' := [(ln, .inr (2, [.int (iI n), .ref wa, .ref ga, .ref wt, .ref wo, .int (iI wd), .int (iI nw), .int (iI dp), .int (iI sq), .int (iI cq), .ref bD, .ref bL, .ref bE])), (ga, .inl (k 0, 49, .inl (fun i9 : Nat => iI (fg i9)))), (wt, .inl (k 0, 49, .inl (fun i9 : Nat => iI (fw i9)))), (wo, .inl (k 0, 49, .inl (fun i9 : Nat => iI (fo i9)))), (bD, .inl (k 2, 980, .inr (.inl (fun i9 : Nat => lI (dD i9))))), (bL, .inl (k 0, 980, .inl (fun i9 : Nat => iI (dL i9)))), (bE, .inl (k 0, 980, .inl (fun i9 : Nat => iI (dE i9))))]) [6, 0, 1, 2, 3, 4, 5] (by decide) rfl B
    have B := bd_to (ws' := [(ln, .inr (2, [.int (iI n), .ref wa, .ref ga, .ref wt, .ref wo, .int (iI wd), .int (iI nw), .int (iI dp), .int (iI sq), .int (iI cq), .ref bD, .ref bL, .ref bE])), (ga, .inl (k 0, 49, .inl (fun i9 : Nat => iI (fg i9)))), (wt, .inl (k 0, 49, .inl (fun i9 : Nat => iI (fw i9)))), (wo, .inl (k 0, 49, .inl (fun i9 : Nat => iI (fo i9))))] ++ [(bD, .inl (k 2, 980, .inr (.inl (fun i9 : Nat => lI (dD i9))))), (bL, .inl (k 0, 980, .inl (fun i9 : Nat => iI (dL i9)))), (bE, .inl (k 0, 980, .inl (fun i9 : Nat => iI (dE i9))))]) rfl B
    refine k_V (rest := []) (wc := [(ln, .inr (2, [.int (iI n), .ref wa, .ref ga, .ref wt, .ref wo, .int (iI wd), .int (iI nw), .int (iI dp), .int (iI sq), .int (iI cq), .ref bD, .ref bL, .ref bE])), (ga, .inl (k 0, 49, .inl (fun i9 : Nat => iI (fg i9)))), (wt, .inl (k 0, 49, .inl (fun i9 : Nat => iI (fw i9)))), (wo, .inl (k 0, 49, .inl (fun i9 : Nat => iI (fo i9))))]) (wr := [(bD, .inl (k 2, 980, .inr (.inl (fun i9 : Nat => lI (dD i9))))), (bL, .inl (k 0, 980, .inl (fun i9 : Nat => iI (dL i9)))), (bE, .inl (k 0, 980, .inl (fun i9 : Nat => iI (dE i9))))]) (k_judge l dC dI k ln wa ga wt wo bD bL bE n wd nw dp sq cq fg fw fo fr to (if la < dp then nw else wd) hg hw ho (by omega) (by split <;> omega)) B mV_X2_judge mw_1432 hl (q0 := 0) rfl rfl rfl ⟨Nat.le_of_ble_eq_true rfl, Nat.le_of_ble_eq_true rfl⟩ (Nat.le_of_ble_eq_true rfl) rfl dX2_tryLines_20 ⟨Nat.le_of_ble_eq_true rfl, Nat.le_of_ble_eq_true rfl⟩ (fun r w gc gs H locs hp B => ?_)
    rcases hp with ⟨z_3, rfl, rfl, rfl, rfl⟩ | ⟨z_4, rfl, rfl, rfl, rfl⟩
    · skip
      have B := bd_to (ws' := [(bD, .inl (k 2, 980, .inr (.inl (fun i9 : Nat => lI (dD i9))))), (bL, .inl (k 0, 980, .inl (fun i9 : Nat => iI (dL i9)))), (bE, .inl (k 0, 980, .inl (fun i9 : Nat => iI (dE i9)))), (ln, .inr (2, [.int (iI n), .ref wa, .ref ga, .ref wt, .ref wo, .int (iI wd), .int (iI nw), .int (iI dp), .int (iI (jSp (jLk fw fo fg fr to (if la < dp then nw else wd)) (fo (to - 1) - fo fr) to n)), .int (iI (jCl (jLk fw fo fg fr to (if la < dp then nw else wd)) (fo (to - 1) - fo fr) to n)), .ref bD, .ref bL, .ref bE])), (ga, .inl (k 0, 49, .inl (fun i9 : Nat => iI (fg i9)))), (wt, .inl (k 0, 49, .inl (fun i9 : Nat => iI (fw i9)))), (wo, .inl (k 0, 49, .inl (fun i9 : Nat => iI (fo i9))))]) rfl B
      have z_5 : -3000 ≤ jLk fw fo fg fr to (if la < dp then nw else wd) := by unfold jLk; have := hw to; have := hw fr; have := ho (to - 1); have := ho fr; split <;> omega
      have z_6 : 0 ≤ jCl (jLk fw fo fg fr to (if la < dp then nw else wd)) (fo (to - 1) - fo fr) to n ∧ jCl (jLk fw fo fg fr to (if la < dp then nw else wd)) (fo (to - 1) - fo fr) to n ≤ 3 := jCl_in _ _ _ _
      have z_7 : 0 ≤ jSp (jLk fw fo fg fr to (if la < dp then nw else wd)) (fo (to - 1) - fo fr) to n ∧ jSp (jLk fw fo fg fr to (if la < dp then nw else wd)) (fo (to - 1) - fo fr) to n ≤ 400 := jSp_in (by omega)
      refine lv_if_ne (tgt := 27) hx hb dX2_tryLines_23 (by decide) (fun _ => ?_) (fun c9 => absurd c9 (by decide))
      refine lv_aload_n hx hb dX2_tryLines_27 rfl (lv_at hl 1 rfl) ?_
      refine lv_iload_n hx hb dX2_tryLines_28 rfl (lv_at hl 2 rfl) ?_
      refine lv_iload_n hx hb dX2_tryLines_29 rfl (lv_at hl 0 rfl) ?_
      refine lv_iload_n hx hb dX2_tryLines_30 rfl (lv_at hl 3 rfl) ?_
      have B := bd_sub (ws' := [(ln, .inr (2, [.int (iI n), .ref wa, .ref ga, .ref wt, .ref wo, .int (iI wd), .int (iI nw), .int (iI dp), .int (iI (jSp (jLk fw fo fg fr to (if la < dp then nw else wd)) (fo (to - 1) - fo fr) to n)), .int (iI (jCl (jLk fw fo fg fr to (if la < dp then nw else wd)) (fo (to - 1) - fo fr) to n)), .ref bD, .ref bL, .ref bE])), (ga, .inl (k 0, 49, .inl (fun i9 : Nat => iI (fg i9)))), (bD, .inl (k 2, 980, .inr (.inl (fun i9 : Nat => lI (dD i9))))), (bL, .inl (k 0, 980, .inl (fun i9 : Nat => iI (dL i9)))), (bE, .inl (k 0, 980, .inl (fun i9 : Nat => iI (dE i9)))), (wt, .inl (k 0, 49, .inl (fun i9 : Nat => iI (fw i9)))), (wo, .inl (k 0, 49, .inl (fun i9 : Nat => iI (fo i9))))]) [3, 4, 0, 1, 2, 5, 6] (by decide) rfl B
      have B := bd_to (ws' := [(ln, .inr (2, [.int (iI n), .ref wa, .ref ga, .ref wt, .ref wo, .int (iI wd), .int (iI nw), .int (iI dp), .int (iI (jSp (jLk fw fo fg fr to (if la < dp then nw else wd)) (fo (to - 1) - fo fr) to n)), .int (iI (jCl (jLk fw fo fg fr to (if la < dp then nw else wd)) (fo (to - 1) - fo fr) to n)), .ref bD, .ref bL, .ref bE])), (ga, .inl (k 0, 49, .inl (fun i9 : Nat => iI (fg i9)))), (bD, .inl (k 2, 980, .inr (.inl (fun i9 : Nat => lI (dD i9))))), (bL, .inl (k 0, 980, .inl (fun i9 : Nat => iI (dL i9)))), (bE, .inl (k 0, 980, .inl (fun i9 : Nat => iI (dE i9))))] ++ [(wt, .inl (k 0, 49, .inl (fun i9 : Nat => iI (fw i9)))), (wo, .inl (k 0, 49, .inl (fun i9 : Nat => iI (fo i9))))]) rfl B
      refine k_V (rest := []) (wc := [(ln, .inr (2, [.int (iI n), .ref wa, .ref ga, .ref wt, .ref wo, .int (iI wd), .int (iI nw), .int (iI dp), .int (iI (jSp (jLk fw fo fg fr to (if la < dp then nw else wd)) (fo (to - 1) - fo fr) to n)), .int (iI (jCl (jLk fw fo fg fr to (if la < dp then nw else wd)) (fo (to - 1) - fo fr) to n)), .ref bD, .ref bL, .ref bE])), (ga, .inl (k 0, 49, .inl (fun i9 : Nat => iI (fg i9)))), (bD, .inl (k 2, 980, .inr (.inl (fun i9 : Nat => lI (dD i9))))), (bL, .inl (k 0, 980, .inl (fun i9 : Nat => iI (dL i9)))), (bE, .inl (k 0, 980, .inl (fun i9 : Nat => iI (dE i9))))]) (wr := [(wt, .inl (k 0, 49, .inl (fun i9 : Nat => iI (fw i9)))), (wo, .inl (k 0, 49, .inl (fun i9 : Nat => iI (fo i9))))]) (k_tryLine l dC dI k ln wa ga wt wo bD bL bE n wd nw dp (jSp (jLk fw fo fg fr to (if la < dp then nw else wd)) (fo (to - 1) - fo fr) to n) (jCl (jLk fw fo fg fr to (if la < dp then nw else wd)) (fo (to - 1) - fo fr) to n) fg dD dL dE fr to la hg bD9 bL9 bE9 (by omega) h2 (by omega) (by omega) (by rw [oD _ (by omega)]; exact (hX _ _ _ (by omega) (by omega) (by omega) (by omega) (by omega) (by omega)).1) (by rw [oL _ (by omega)]; exact (hX _ _ _ (by omega) (by omega) (by omega) (by omega) (by omega) (by omega)).2)) B mV_X2_tryLine mw_1437 hl (q0 := 0) rfl rfl rfl ⟨Nat.le_of_ble_eq_true rfl, Nat.le_of_ble_eq_true rfl⟩ (Nat.le_of_ble_eq_true rfl) rfl dX2_tryLines_31 ⟨Nat.le_of_ble_eq_true rfl, Nat.le_of_ble_eq_true rfl⟩ (fun r w gc gs H locs hp B => ?_)
      obtain ⟨dD_8, dL_9, dE_10, z_11, z_12, z_13, z_14, z_15, z_16, z_17, z_18, z_19, rfl, rfl, rfl, rfl⟩ := hp
      have B := bd_to (ws' := [(wt, .inl (k 0, 49, .inl (fun i9 : Nat => iI (fw i9)))), (wo, .inl (k 0, 49, .inl (fun i9 : Nat => iI (fo i9)))), (ln, .inr (2, [.int (iI n), .ref wa, .ref ga, .ref wt, .ref wo, .int (iI wd), .int (iI nw), .int (iI dp), .int (iI (jSp (jLk fw fo fg fr to (if la < dp then nw else wd)) (fo (to - 1) - fo fr) to n)), .int (iI (jCl (jLk fw fo fg fr to (if la < dp then nw else wd)) (fo (to - 1) - fo fr) to n)), .ref bD, .ref bL, .ref bE])), (ga, .inl (k 0, 49, .inl (fun i9 : Nat => iI (fg i9)))), (bD, .inl (k 2, 980, .inr (.inl (fun i9 : Nat => lI (dD_8 i9))))), (bL, .inl (k 0, 980, .inl (fun i9 : Nat => iI (dL_9 i9)))), (bE, .inl (k 0, 980, .inl (fun i9 : Nat => iI (dE_10 i9))))]) rfl B
      refine lv_iinc (v := iI (to + 1)) (lv' := [(3, .int (iI (to + 1))), (0, .ref ln), (1, .int (iI fr)), (2, .int (iI la))]) hx hb dX2_tryLines_34 hl (k := 0) rfl (iI_add _ _) (by decide) rfl (fun ls hl => ?_)
      refine lv_goto (tgt := 4) hx hb dX2_tryLines_37 (by decide) ?_
      have B := bd_sub (ws' := [(ln, .inr (2, [.int (iI n), .ref wa, .ref ga, .ref wt, .ref wo, .int (iI wd), .int (iI nw), .int (iI dp), .int (iI (jSp (jLk fw fo fg fr to (if la < dp then nw else wd)) (fo (to - 1) - fo fr) to n)), .int (iI (jCl (jLk fw fo fg fr to (if la < dp then nw else wd)) (fo (to - 1) - fo fr) to n)), .ref bD, .ref bL, .ref bE])), (ga, .inl (k 0, 49, .inl (fun i9 : Nat => iI (fg i9)))), (wt, .inl (k 0, 49, .inl (fun i9 : Nat => iI (fw i9)))), (wo, .inl (k 0, 49, .inl (fun i9 : Nat => iI (fo i9)))), (bD, .inl (k 2, 980, .inr (.inl (fun i9 : Nat => lI (dD_8 i9))))), (bL, .inl (k 0, 980, .inl (fun i9 : Nat => iI (dL_9 i9)))), (bE, .inl (k 0, 980, .inl (fun i9 : Nat => iI (dE_10 i9))))]) [2, 3, 0, 1, 4, 5, 6] (by decide) rfl B
      exact ih_1 ((to + 1), dD_8, dL_9, dE_10, (jSp (jLk fw fo fg fr to (if la < dp then nw else wd)) (fo (to - 1) - fo fr) to n), (jCl (jLk fw fo fg fr to (if la < dp then nw else wd)) (fo (to - 1) - fo fr) to n)) ⟨(by omega), (fun t9 h9 h8 => by by_cases e9 : t9 = to; (subst e9; exact z_3); exact hok t9 h9 (by omega)), (fun i9 h9 => (z_11 i9 h9).trans (oD i9 h9)), (fun i9 h9 => (z_12 i9 h9).trans (oL i9 h9)), (fun i9 h9 => (z_13 i9 h9).trans (oE i9 h9)), (en_D (bh := ((((to * 4) + (min (la + 1) dp)) * 5) + (jCl (jLk fw fo fg fr to (if la < dp then nw else wd)) (fo (to - 1) - fo fr) to n))) (by omega) iD iL (oD _ (by omega)) (oL _ (by omega)) z_14), (en_L (bh := ((((to * 4) + (min (la + 1) dp)) * 5) + (jCl (jLk fw fo fg fr to (if la < dp then nw else wd)) (fo (to - 1) - fo fr) to n))) (by omega) iD iL (oD _ (by omega)) (oL _ (by omega)) z_15), (en_E (bh := ((((to * 4) + (min (la + 1) dp)) * 5) + (jCl (jLk fw fo fg fr to (if la < dp then nw else wd)) (fo (to - 1) - fo fr) to n))) (by omega) iD iL iE (oD _ (by omega)) (oL _ (by omega)) z_16), z_17, z_18, z_19⟩ (by first | omega | (dsimp only; omega)) _ _ _ (lv_sub hl [0, 1, 2, 3] rfl) (bd_to rfl B)
    · skip
      have B := bd_to (ws' := [(bD, .inl (k 2, 980, .inr (.inl (fun i9 : Nat => lI (dD i9))))), (bL, .inl (k 0, 980, .inl (fun i9 : Nat => iI (dL i9)))), (bE, .inl (k 0, 980, .inl (fun i9 : Nat => iI (dE i9)))), (ln, .inr (2, [.int (iI n), .ref wa, .ref ga, .ref wt, .ref wo, .int (iI wd), .int (iI nw), .int (iI dp), .int (iI (jSp (jLk fw fo fg fr to (if la < dp then nw else wd)) (fo (to - 1) - fo fr) to n)), .int (iI (jCl (jLk fw fo fg fr to (if la < dp then nw else wd)) (fo (to - 1) - fo fr) to n)), .ref bD, .ref bL, .ref bE])), (ga, .inl (k 0, 49, .inl (fun i9 : Nat => iI (fg i9)))), (wt, .inl (k 0, 49, .inl (fun i9 : Nat => iI (fw i9)))), (wo, .inl (k 0, 49, .inl (fun i9 : Nat => iI (fo i9))))]) rfl B
      have z_20 : -3000 ≤ jLk fw fo fg fr to (if la < dp then nw else wd) := by unfold jLk; have := hw to; have := hw fr; have := ho (to - 1); have := ho fr; split <;> omega
      have z_21 : 0 ≤ jCl (jLk fw fo fg fr to (if la < dp then nw else wd)) (fo (to - 1) - fo fr) to n ∧ jCl (jLk fw fo fg fr to (if la < dp then nw else wd)) (fo (to - 1) - fo fr) to n ≤ 3 := jCl_in _ _ _ _
      have z_22 : 0 ≤ jSp (jLk fw fo fg fr to (if la < dp then nw else wd)) (fo (to - 1) - fo fr) to n ∧ jSp (jLk fw fo fg fr to (if la < dp then nw else wd)) (fo (to - 1) - fo fr) to n ≤ 400 := jSp_in (by omega)
      refine lv_if_ne (tgt := 27) hx hb dX2_tryLines_23 (by decide) (fun c9 => absurd c9 (by decide)) (fun _ => ?_)
      have B := bd_sub (ws' := [(ln, .inr (2, [.int (iI n), .ref wa, .ref ga, .ref wt, .ref wo, .int (iI wd), .int (iI nw), .int (iI dp), .int (iI (jSp (jLk fw fo fg fr to (if la < dp then nw else wd)) (fo (to - 1) - fo fr) to n)), .int (iI (jCl (jLk fw fo fg fr to (if la < dp then nw else wd)) (fo (to - 1) - fo fr) to n)), .ref bD, .ref bL, .ref bE])), (ga, .inl (k 0, 49, .inl (fun i9 : Nat => iI (fg i9)))), (wt, .inl (k 0, 49, .inl (fun i9 : Nat => iI (fw i9)))), (wo, .inl (k 0, 49, .inl (fun i9 : Nat => iI (fo i9)))), (bD, .inl (k 2, 980, .inr (.inl (fun i9 : Nat => lI (dD i9))))), (bL, .inl (k 0, 980, .inl (fun i9 : Nat => iI (dL i9)))), (bE, .inl (k 0, 980, .inl (fun i9 : Nat => iI (dE i9))))]) [3, 4, 5, 6, 0, 1, 2] (by decide) rfl B
      exact k_vret B hr (⟨(to - fr - 1), dD, dL, dE, (jSp (jLk fw fo fg fr to (if la < dp then nw else wd)) (fo (to - 1) - fo fr) to n), (jCl (jLk fw fo fg fr to (if la < dp then nw else wd)) (fo (to - 1) - fo fr) to n), (by omega), (fun t9 h9 h8 => hok t9 h9 (by omega)), (Or.inr (by rw [show fr + 1 + (to - fr - 1) = to by omega]; exact z_4)), oD, oL, oE, iD, iL, iE, bD9, bL9, bE9, rfl, rfl, rfl, rfl⟩) ⟨Nat.le_of_ble_eq_true rfl, Nat.le_of_ble_eq_true rfl⟩ ⟨Nat.le_of_ble_eq_true rfl, Nat.le_of_ble_eq_true rfl⟩ dX2_tryLines_26

end
