section
/-- the best ways: demerits, lines, first end of those from fr on, for la lines ahead (at most dp) and the class a of the line ahead -/
def bwT (fg fw fo : Int → Int) (n wd nw dp : Int) : Nat → Int → Int → Int → Int × Int × Int
  | 0, _, _, _ => (0, 0, -1)
  | k + 1, fr, la, a => if fr = n - 1 - (k : Int) then enS fg fw fo (fun t q c => (bwT fg fw fo n wd nw dp k t q c).1) (fun t q c => (bwT fg fw fo n wd nw dp k t q c).2.1) n (if la < dp then nw else wd) dp la fr (fun _ => (-1, 0, -1)) (okC fg fw fo (if la < dp then nw else wd) fr (n - fr).toNat (fr + 1)).toNat a else bwT fg fw fo n wd nw dp k fr la a
def BW (fg fw fo : Int → Int) (n wd nw dp fr la a : Int) : Int × Int × Int := bwT fg fw fo n wd nw dp (n - fr).toNat fr la a
section BWS
variable {fg fw fo : Int → Int} {n wd nw dp fr la a : Int}
theorem bwT_st : ∀ (k : Nat) (fr la a : Int), n - fr ≤ k → bwT fg fw fo n wd nw dp k fr la a = BW fg fw fo n wd nw dp fr la a
  | 0, fr, la, a, h => by unfold BW; rw [show (n - fr).toNat = 0 by omega]
  | k + 1, fr, la, a, h => by
    by_cases e : n - fr = ((k + 1 : Nat) : Int)
    · unfold BW; rw [e]; rfl
    · rw [← bwT_st k fr la a (by omega)]
      show (if fr = n - 1 - (k : Int) then _ else _) = _
      rw [if_neg (by omega)]
theorem enS_congr {X Y X' Y' : Int → Int → Int → Int} {wz : Int} {e0 e0' : Int → Int × Int × Int} (hla : 0 ≤ la ∧ la ≤ dp) (he : e0 a = e0' a) : ∀ k : Nat, fr + k ≤ n → (∀ t u c : Int, fr < t → t ≤ n → 0 ≤ u → u ≤ dp → 0 ≤ c → c ≤ 3 → X t u c = X' t u c ∧ Y t u c = Y' t u c) →
    enS fg fw fo X Y n wz dp la fr e0 k a = enS fg fw fo X' Y' n wz dp la fr e0' k a := by
  intro k
  induction k with
  | zero => exact fun _ _ => he
  | succ k ih =>
    intro hk h
    have ih := ih (by omega) h
    have hc := jCl_in (jLk fw fo fg fr (fr + 1 + k) wz) (fo (fr + 1 + k - 1) - fo fr) (fr + 1 + k) n
    have h2 := h (fr + 1 + k) (min (la + 1) dp) (clZ fg fw fo n wz fr (fr + 1 + k)) (by omega) (by omega) (by omega) (by omega) hc.1 hc.2
    simp only [enS]
    rw [ih, h2.1, h2.2]
theorem okC_le {wz : Int} : ∀ (f : Nat) (t : Int), 0 ≤ okC fg fw fo wz fr f t ∧ okC fg fw fo wz fr f t ≤ f
  | 0, t => by simp only [okC]; omega
  | f + 1, t => by
    have := okC_le (wz := wz) f (t + 1)
    simp only [okC]
    split <;> omega
theorem okC_1 {wz : Int} (h : fr < n) : 1 ≤ okC fg fw fo wz fr (n - fr).toNat (fr + 1) := by
  obtain ⟨f, hf⟩ : ∃ f : Nat, (n - fr).toNat = f + 1 := ⟨(n - fr).toNat - 1, by omega⟩
  rw [hf]
  have := okC_le (fg := fg) (fw := fw) (fo := fo) (fr := fr) (wz := wz) f (fr + 1 + 1)
  simp only [okC]
  rw [if_pos (Or.inr (Or.inr rfl))]
  omega
theorem enS_in {X Y : Int → Int → Int → Int} {wz M N : Int} (hM : 0 ≤ M) (hN : 0 ≤ N) (hw : ∀ to, -100000 ≤ jLk fw fo fg fr to wz) (hla : 0 ≤ la ∧ la ≤ dp) (hX : ∀ t u c : Int, fr < t → t ≤ n → 0 ≤ u → u ≤ dp → 0 ≤ c → c ≤ 3 → (0 ≤ X t u c ∧ X t u c ≤ M) ∧ (0 ≤ Y t u c ∧ Y t u c ≤ N)) : ∀ k : Nat, 1 ≤ k → fr + k ≤ n →
    (0 ≤ (enS fg fw fo X Y n wz dp la fr (fun _ => (-1, 0, -1)) k a).1 ∧ (enS fg fw fo X Y n wz dp la fr (fun _ => (-1, 0, -1)) k a).1 ≤ M + 41736600) ∧ (0 ≤ (enS fg fw fo X Y n wz dp la fr (fun _ => (-1, 0, -1)) k a).2.1 ∧ (enS fg fw fo X Y n wz dp la fr (fun _ => (-1, 0, -1)) k a).2.1 ≤ N + 1) ∧ (fr < (enS fg fw fo X Y n wz dp la fr (fun _ => (-1, 0, -1)) k a).2.2 ∧ (enS fg fw fo X Y n wz dp la fr (fun _ => (-1, 0, -1)) k a).2.2 ≤ fr + k) := by
  intro k
  induction k with
  | zero => intro h; omega
  | succ k ih =>
    intro _ hk
    have hc := jCl_in (jLk fw fo fg fr (fr + 1 + k) wz) (fo (fr + 1 + k - 1) - fo fr) (fr + 1 + k) n
    have hs := jSp_in (lk := jLk fw fo fg fr (fr + 1 + k) wz) (sp := fo (fr + 1 + k - 1) - fo fr) (to := fr + 1 + k) (n := n) (hw _)
    have h2 := hX (fr + 1 + k) (min (la + 1) dp) (clZ fg fw fo n wz fr (fr + 1 + k)) (by omega) (by omega) (by omega) (by omega) hc.1 hc.2
    have ho := ownZ_in (sd := sdZ fg fw fo n wz fr (fr + 1 + k)) (g := fg (fr + 1 + k)) hs
    have hp := pnZ_in (clZ fg fw fo n wz fr (fr + 1 + k)) a (fg fr) (fg (fr + 1 + k))
    by_cases e : k = 0
    · subst e
      simp only [enS, tlD, tlL, tlE, true_or, if_true]
      omega
    · have ih := ih (by omega) (by omega)
      simp only [enS, tlD, tlL, tlE]
      refine ⟨?_, ?_, ?_⟩
      · split <;> omega
      · split <;> omega
      · split <;> omega
theorem BW_n : BW fg fw fo n wd nw dp n la a = (0, 0, -1) := by unfold BW; rw [show (n - n).toNat = 0 by omega]; rfl
theorem BW_s (h : fr < n) (hla : 0 ≤ la ∧ la ≤ dp) : BW fg fw fo n wd nw dp fr la a = enS fg fw fo (fun t q c => (BW fg fw fo n wd nw dp t q c).1) (fun t q c => (BW fg fw fo n wd nw dp t q c).2.1) n (if la < dp then nw else wd) dp la fr (fun _ => (-1, 0, -1)) (okC fg fw fo (if la < dp then nw else wd) fr (n - fr).toNat (fr + 1)).toNat a := by
  obtain ⟨k, hk⟩ : ∃ k : Nat, (n - fr).toNat = k + 1 := ⟨(n - fr).toNat - 1, by omega⟩
  have hl := okC_le (fg := fg) (fw := fw) (fo := fo) (fr := fr) (wz := (if la < dp then nw else wd)) (n - fr).toNat (fr + 1)
  have e : BW fg fw fo n wd nw dp fr la a = bwT fg fw fo n wd nw dp (k + 1) fr la a := by unfold BW; rw [hk]
  rw [e]
  show (if fr = n - 1 - (k : Int) then _ else _) = _
  rw [if_pos (by omega)]
  exact enS_congr hla rfl _ (by omega) (fun t u c h1 h2 _ _ _ _ => by rw [bwT_st k t u c (by omega)]; exact ⟨rfl, rfl⟩)
theorem BW_in (hw : ∀ (wz fr to : Int), wz = nw ∨ wz = wd → -100000 ≤ jLk fw fo fg fr to wz) (hd : 0 ≤ dp) : ∀ (k : Nat) (fr la a : Int), n - fr = k → 0 ≤ la → la ≤ dp → (0 ≤ (BW fg fw fo n wd nw dp fr la a).1 ∧ (BW fg fw fo n wd nw dp fr la a).1 ≤ 41736600 * (n - fr)) ∧ (0 ≤ (BW fg fw fo n wd nw dp fr la a).2.1 ∧ (BW fg fw fo n wd nw dp fr la a).2.1 ≤ n - fr) ∧ (fr < n → fr < (BW fg fw fo n wd nw dp fr la a).2.2 ∧ (BW fg fw fo n wd nw dp fr la a).2.2 ≤ n) := by
  intro k
  induction k using Nat.strongRecOn with
  | ind k ih =>
    intro fr la a h1 h2 h3
    by_cases e : k = 0
    · subst e
      have : fr = n := by omega
      subst this
      rw [BW_n]
      simp only
      omega
    · rw [BW_s (by omega) ⟨h2, h3⟩]
      have hl := okC_le (fg := fg) (fw := fw) (fo := fo) (fr := fr) (wz := (if la < dp then nw else wd)) (n - fr).toNat (fr + 1)
      have hl1 := okC_1 (fg := fg) (fw := fw) (fo := fo) (fr := fr) (n := n) (wz := (if la < dp then nw else wd)) (by omega)
      have q := enS_in (fg := fg) (fw := fw) (fo := fo) (n := n) (dp := dp) (la := la) (fr := fr) (a := a) (X := fun t q c => (BW fg fw fo n wd nw dp t q c).1) (Y := fun t q c => (BW fg fw fo n wd nw dp t q c).2.1) (wz := (if la < dp then nw else wd)) (M := 41736600 * (n - fr - 1)) (N := n - fr - 1) (by omega) (by omega) (fun to => hw _ _ _ (by split <;> simp)) ⟨h2, h3⟩
        (fun t u c g1 g2 g3 g4 _ _ => by
          have := ih (n - t).toNat (by omega) t u c (by omega) g3 g4
          omega) (okC fg fw fo (if la < dp then nw else wd) fr (n - fr).toNat (fr + 1)).toNat (by omega) (by omega)
      omega
end BWS
/-- the table stands for all places from f on, and at the place g for fewer than u lines ahead -/
def TbP (fg fw fo : Int → Int) (n wd nw dp : Int) (dD dL dE : Int → Int) (f g u : Int) : Prop := ∀ fr la a : Int, (f ≤ fr ∨ (fr = g ∧ la < u)) → 0 ≤ fr → fr ≤ n → 0 ≤ la → la ≤ dp → 0 ≤ a → a ≤ 4 →
  dD ((((fr * 4) + la) * 5) + a) = (BW fg fw fo n wd nw dp fr la a).1 ∧ dL ((((fr * 4) + la) * 5) + a) = (BW fg fw fo n wd nw dp fr la a).2.1 ∧ dE ((((fr * 4) + la) * 5) + a) = (BW fg fw fo n wd nw dp fr la a).2.2
section TBS
variable {fg fw fo dD dL dE d2 l2 e2 : Int → Int} {n wd nw dp fi la kk : Int}
theorem Tb_0 (hd : 0 ≤ dp ∧ dp ≤ 3) (hn : 0 ≤ n) : TbP fg fw fo n wd nw dp (fil dD (n * 20) (5 * (dp + 1)) 0) (fil dL (n * 20) (5 * (dp + 1)) 0) (fil dE (n * 20) (5 * (dp + 1)) (-1)) n (n - 1) 0 := by
  intro fr la a h1 h2 h3 h4 h5 h6 h7
  have e : fr = n := by omega
  subst e
  rw [BW_n, fil_in (by omega), fil_in (by omega), fil_in (by omega)]
  exact ⟨rfl, rfl, rfl⟩
theorem Tb_next (h : TbP fg fw fo n wd nw dp dD dL dE (fi + 1) fi la) (hla : dp < la) : TbP fg fw fo n wd nw dp dD dL dE fi (fi - 1) 0 := fun fr l2 a h1 h2 h3 h4 h5 h6 h7 => h fr l2 a (by omega) h2 h3 h4 h5 h6 h7
theorem Tb_step (hn : 0 ≤ fi ∧ fi < n ∧ n ≤ 48) (hla : 0 ≤ la ∧ la ≤ dp ∧ dp ≤ 3) (T : TbP fg fw fo n wd nw dp dD dL dE (fi + 1) fi la)
    (hk1 : 0 ≤ kk ∧ fi + kk ≤ n) (hk2 : ∀ t : Int, fi + 1 ≤ t → t < fi + 1 + kk → okZ fg fw fo (if la < dp then nw else wd) fi t) (hk3 : fi + 1 + kk = n + 1 ∨ ¬ okZ fg fw fo (if la < dp then nw else wd) fi (fi + 1 + kk))
    (oD : Ro d2 (fil dD (((fi * 4) + la) * 5) 5 (-1)) (((fi * 4) + la) * 5) 5) (oL : Ro l2 (fil dL (((fi * 4) + la) * 5) 5 0) (((fi * 4) + la) * 5) 5) (oE : Ro e2 (fil dE (((fi * 4) + la) * 5) 5 (-1)) (((fi * 4) + la) * 5) 5)
    {X Y : Int → Int → Int → Int} {e0 : Int → Int × Int × Int} (hX : ∀ t u c : Int, X t u c = (fil dD (((fi * 4) + la) * 5) 5 (-1)) ((((t * 4) + u) * 5) + c)) (hY : ∀ t u c : Int, Y t u c = (fil dL (((fi * 4) + la) * 5) 5 0) ((((t * 4) + u) * 5) + c))
    (he : ∀ a, e0 a = ((fil dD (((fi * 4) + la) * 5) 5 (-1)) ((((fi * 4) + la) * 5) + a), (fil dL (((fi * 4) + la) * 5) 5 0) ((((fi * 4) + la) * 5) + a), (fil dE (((fi * 4) + la) * 5) 5 (-1)) ((((fi * 4) + la) * 5) + a)))
    (iD : Ri d2 (((fi * 4) + la) * 5) 5 (fun a => (enS fg fw fo X Y n (if la < dp then nw else wd) dp la fi e0 kk.toNat a).1)) (iL : Ri l2 (((fi * 4) + la) * 5) 5 (fun a => (enS fg fw fo X Y n (if la < dp then nw else wd) dp la fi e0 kk.toNat a).2.1)) (iE : Ri e2 (((fi * 4) + la) * 5) 5 (fun a => (enS fg fw fo X Y n (if la < dp then nw else wd) dp la fi e0 kk.toNat a).2.2)) :
    TbP fg fw fo n wd nw dp d2 l2 e2 (fi + 1) fi (la + 1) := by
  intro fr l a h1 h2 h3 h4 h5 h6 h7
  by_cases e : fr = fi ∧ l = la
  · obtain ⟨rfl, rfl⟩ := e
    rw [iD a h6 (by omega), iL a h6 (by omega), iE a h6 (by omega)]
    dsimp only
    have hkk : okC fg fw fo (if l < dp then nw else wd) fr (n - fr).toNat (fr + 1) = kk := by
      rw [okC_eq (n := n) (n - fr).toNat (fr + 1) (fr + 1 + kk) (by omega) (by omega) (by omega) hk2 hk3]
      omega
    have E : enS fg fw fo X Y n (if l < dp then nw else wd) dp l fr e0 kk.toNat a = BW fg fw fo n wd nw dp fr l a := by
      rw [BW_s (by omega) ⟨h4, h5⟩, hkk]
      refine enS_congr ⟨h4, h5⟩ ?_ _ (by omega) (fun t u c g1 g2 g3 g4 g5 g6 => ?_)
      · rw [he, fil_in (by omega), fil_in (by omega), fil_in (by omega)]
      · have q := T t u c (by omega) (by omega) g2 g3 g4 g5 (by omega)
        rw [hX, hY, fil_out (by omega), fil_out (by omega), q.1, q.2.1]
        exact ⟨rfl, rfl⟩
    rw [E]
    exact ⟨rfl, rfl, rfl⟩
  · have q := T fr l a (by omega) h2 h3 h4 h5 h6 h7
    rw [oD _ (by omega), oL _ (by omega), oE _ (by omega), fil_out (by omega), fil_out (by omega), fil_out (by omega)]
    exact q
end TBS
theorem jLk_in {fg fw fo : Int → Int} (hw : Bd 0 2000 fw) (ho : Bd 0 12 fo) {fr to wz : Int} (h : 0 ≤ wz ∧ wz ≤ 200) : -3000 ≤ jLk fw fo fg fr to wz := by
  unfold jLk
  have := hw to; have := hw fr; have := ho (to - 1); have := ho fr
  split <;> omega

theorem mw_1413 : (Jvm.Cond.methodLink "Galleyforge$Lines" (119 : Nat) ({ cls := "Galleyforge$Lines", name := "clearWaysFrom", desc := "(II)V" } : Jvm.MethodName)) ∈ gt := gt_at 1483 (by decide +kernel) (by decide +kernel)
theorem mw_1415 : (Jvm.Cond.instanceMethod ({ cls := "Galleyforge$Lines", name := "clearWaysFrom", desc := "(II)V" } : Jvm.MethodName)) ∈ gt := gt_at 1485 (by decide +kernel) (by decide +kernel)
theorem mw_1416 : (Jvm.Cond.code ({ cls := "Galleyforge$Lines", name := "clearWaysFrom", desc := "(II)V" } : Jvm.MethodName) prog_4_method_13_code (4 : Nat) (Option.none : Option Jvm.ClassFile.FieldType)) ∈ gt := gt_at 1486 (by decide +kernel) (by decide +kernel)
theorem mw_1424 : (Jvm.Cond.methodLink "Galleyforge$Lines" (127 : Nat) ({ cls := "Galleyforge$Lines", name := "tryLines", desc := "(II)V" } : Jvm.MethodName)) ∈ gt := gt_at 1494 (by decide +kernel) (by decide +kernel)
theorem mw_1426 : (Jvm.Cond.instanceMethod ({ cls := "Galleyforge$Lines", name := "tryLines", desc := "(II)V" } : Jvm.MethodName)) ∈ gt := gt_at 1496 (by decide +kernel) (by decide +kernel)
theorem mw_1427 : (Jvm.Cond.code ({ cls := "Galleyforge$Lines", name := "tryLines", desc := "(II)V" } : Jvm.MethodName) prog_4_method_12_code (4 : Nat) (Option.none : Option Jvm.ClassFile.FieldType)) ∈ gt := gt_at 1497 (by decide +kernel) (by decide +kernel)
theorem ms_23 : Cond.selects "Galleyforge$Lines" (⟨"Galleyforge$Lines", "clearWaysFrom", "(II)V"⟩ : MethodName) (⟨"Galleyforge$Lines", "clearWaysFrom", "(II)V"⟩ : MethodName) ∈ gt := gt_at 23 (by decide +kernel) (by decide +kernel)
theorem mV_X2_clearWaysFrom : mV yX2_clearWaysFrom cX2_clearWaysFrom 4 none 2 := ⟨⟨mw_1416, mw_6, by decide, by decide, by decide +kernel⟩, mw_1415, ms_23⟩
theorem ms_25 : Cond.selects "Galleyforge$Lines" (⟨"Galleyforge$Lines", "tryLines", "(II)V"⟩ : MethodName) (⟨"Galleyforge$Lines", "tryLines", "(II)V"⟩ : MethodName) ∈ gt := gt_at 25 (by decide +kernel) (by decide +kernel)
theorem mV_X2_tryLines : mV yX2_tryLines cX2_tryLines 4 none 2 := ⟨⟨mw_1427, mw_6, by decide, by decide, by decide +kernel⟩, mw_1426, ms_25⟩
theorem dX2_findBestWays_0 : decode cX2_findBestWays 0 = .ok (.aload_n 0, 1) := by decide +kernel
theorem dX2_findBestWays_1 : decode cX2_findBestWays 1 = .ok (.aload_n 0, 1) := by decide +kernel
theorem dX2_findBestWays_2 : decode cX2_findBestWays 2 = .ok (.getfield 34, 3) := by decide +kernel
theorem dX2_findBestWays_5 : decode cX2_findBestWays 5 = .ok (.iconst 0, 1) := by decide +kernel
theorem dX2_findBestWays_6 : decode cX2_findBestWays 6 = .ok (.invokevirtual 119, 3) := by decide +kernel
theorem dX2_findBestWays_9 : decode cX2_findBestWays 9 = .ok (.aload_n 0, 1) := by decide +kernel
theorem dX2_findBestWays_10 : decode cX2_findBestWays 10 = .ok (.getfield 34, 3) := by decide +kernel
theorem dX2_findBestWays_13 : decode cX2_findBestWays 13 = .ok (.iconst 1, 1) := by decide +kernel
theorem dX2_findBestWays_14 : decode cX2_findBestWays 14 = .ok (.isub, 1) := by decide +kernel
theorem dX2_findBestWays_15 : decode cX2_findBestWays 15 = .ok (.istore_n 1, 1) := by decide +kernel
theorem dX2_findBestWays_16 : decode cX2_findBestWays 16 = .ok (.iload_n 1, 1) := by decide +kernel
theorem dX2_findBestWays_17 : decode cX2_findBestWays 17 = .ok (.ifCond .lt 38, 3) := by decide +kernel
theorem dX2_findBestWays_20 : decode cX2_findBestWays 20 = .ok (.iconst 0, 1) := by decide +kernel
theorem dX2_findBestWays_21 : decode cX2_findBestWays 21 = .ok (.istore_n 2, 1) := by decide +kernel
theorem dX2_findBestWays_22 : decode cX2_findBestWays 22 = .ok (.iload_n 2, 1) := by decide +kernel
theorem dX2_findBestWays_23 : decode cX2_findBestWays 23 = .ok (.aload_n 0, 1) := by decide +kernel
theorem dX2_findBestWays_24 : decode cX2_findBestWays 24 = .ok (.getfield 79, 3) := by decide +kernel
theorem dX2_findBestWays_27 : decode cX2_findBestWays 27 = .ok (.if_icmp .gt 22, 3) := by decide +kernel
theorem dX2_findBestWays_30 : decode cX2_findBestWays 30 = .ok (.aload_n 0, 1) := by decide +kernel
theorem dX2_findBestWays_31 : decode cX2_findBestWays 31 = .ok (.iload_n 1, 1) := by decide +kernel
theorem dX2_findBestWays_32 : decode cX2_findBestWays 32 = .ok (.iload_n 2, 1) := by decide +kernel
theorem dX2_findBestWays_33 : decode cX2_findBestWays 33 = .ok (.iconst (-1), 1) := by decide +kernel
theorem dX2_findBestWays_34 : decode cX2_findBestWays 34 = .ok (.invokevirtual 123, 3) := by decide +kernel
theorem dX2_findBestWays_37 : decode cX2_findBestWays 37 = .ok (.aload_n 0, 1) := by decide +kernel
theorem dX2_findBestWays_38 : decode cX2_findBestWays 38 = .ok (.iload_n 1, 1) := by decide +kernel
theorem dX2_findBestWays_39 : decode cX2_findBestWays 39 = .ok (.iload_n 2, 1) := by decide +kernel
theorem dX2_findBestWays_40 : decode cX2_findBestWays 40 = .ok (.invokevirtual 127, 3) := by decide +kernel
theorem dX2_findBestWays_43 : decode cX2_findBestWays 43 = .ok (.iinc 2 1, 3) := by decide +kernel
theorem dX2_findBestWays_46 : decode cX2_findBestWays 46 = .ok (.goto (-24), 3) := by decide +kernel
theorem dX2_findBestWays_49 : decode cX2_findBestWays 49 = .ok (.iinc 1 (-1), 3) := by decide +kernel
theorem dX2_findBestWays_52 : decode cX2_findBestWays 52 = .ok (.goto (-36), 3) := by decide +kernel
theorem dX2_findBestWays_55 : decode cX2_findBestWays 55 = .ok (.return_, 1) := by decide +kernel
set_option maxHeartbeats 4000000 in
set_option maxRecDepth 100000 in
theorem k_findBest (l : Launch) (dC : Nat → ClassId) (dI : Nat → Nat → Nat) (k : Nat → ClassId) (ln : Nat) (wa : Nat) (ga : Nat) (wt : Nat) (wo : Nat) (bD : Nat) (bL : Nat) (bE : Nat) (n : Int) (wd : Int) (nw : Int) (dp : Int) (sd : Int) (cl : Int) (fg : Int → Int) (fw : Int → Int) (fo : Int → Int) (fD : Int → Int) (fL : Int → Int) (fE : Int → Int) (hg : Bd 0 5 fg) (hw : Bd 0 2000 fw) (ho : Bd 0 12 fo) (hD : Bd (-1) 1099511627776 fD) (hL : Bd 0 1000 fL) (hE : Bd (-1) 48 fE) (h1 : 1 ≤ n ∧ n ≤ 48) (h2 : 0 ≤ dp ∧ dp ≤ 3) (h3 : 0 ≤ wd ∧ wd ≤ 200 ∧ 0 ≤ nw ∧ nw ≤ 200) : Kn l dC dI k yX2_findBestWays (.code yX2_findBestWays cX2_findBestWays 3 none) ({ frames := 3, cells := 0, slots := 0, locals := 78 } : Room) [.ref ln] [(ln, .inr (2, [.int (iI n), .ref wa, .ref ga, .ref wt, .ref wo, .int (iI wd), .int (iI nw), .int (iI dp), .int (iI sd), .int (iI cl), .ref bD, .ref bL, .ref bE])), (ga, .inl (k 0, 49, .inl (fun i9 : Nat => iI (fg i9)))), (wt, .inl (k 0, 49, .inl (fun i9 : Nat => iI (fw i9)))), (wo, .inl (k 0, 49, .inl (fun i9 : Nat => iI (fo i9)))), (bD, .inl (k 2, 980, .inr (.inl (fun i9 : Nat => lI (fD i9))))), (bL, .inl (k 0, 980, .inl (fun i9 : Nat => iI (fL i9)))), (bE, .inl (k 0, 980, .inl (fun i9 : Nat => iI (fE i9))))] (fun r w gc gs => (∃ (dD : Int → Int) (dL : Int → Int) (dE : Int → Int) (sq : Int) (cq : Int), (TbP fg fw fo n wd nw dp dD dL dE 0 (-1) 0) ∧ (Bd (-1) 1099511627776 dD) ∧ (Bd 0 1000 dL) ∧ (Bd (-1) 48 dE) ∧ r = none ∧ w = [(ln, .inr (2, [.int (iI n), .ref wa, .ref ga, .ref wt, .ref wo, .int (iI wd), .int (iI nw), .int (iI dp), .int (iI sq), .int (iI cq), .ref bD, .ref bL, .ref bE])), (ga, .inl (k 0, 49, .inl (fun i9 : Nat => iI (fg i9)))), (wt, .inl (k 0, 49, .inl (fun i9 : Nat => iI (fw i9)))), (wo, .inl (k 0, 49, .inl (fun i9 : Nat => iI (fo i9)))), (bD, .inl (k 2, 980, .inr (.inl (fun i9 : Nat => lI (dD i9))))), (bL, .inl (k 0, 980, .inl (fun i9 : Nat => iI (dL i9)))), (bE, .inl (k 0, 980, .inl (fun i9 : Nat => iI (dE i9))))] ∧ gc = 0 ∧ gs = 0)) := by
  refine kn_of (by decide) (Nat.le_of_ble_eq_true rfl) ?_
  intro p e s m args below meth c H locs B hr hnm ls hl
  have hx := B.1.1
  have hb := B.1.2.1
  have hl : lv_has ls 3 [(0, .ref ln)] := hl
  refine lv_aload_n hx hb dX2_findBestWays_0 rfl (lv_at hl 0 rfl) ?_
  refine lv_aload_n hx hb dX2_findBestWays_1 rfl (lv_at hl 0 rfl) ?_
  refine x_get (ci := 2) (C := RX2) (T := TX2) (N := 13) (v := .int (iI n)) B 0 rfl rfl in_X2 0 (by decide) mw_126 (fun _ h9 => h9) rfl dX2_findBestWays_2 ?_
  refine lv_iconst (v := iI 0) hx hb dX2_findBestWays_5 (by decide) ?_
  have B := bd_sub (ws' := [(ln, .inr (2, [.int (iI n), .ref wa, .ref ga, .ref wt, .ref wo, .int (iI wd), .int (iI nw), .int (iI dp), .int (iI sd), .int (iI cl), .ref bD, .ref bL, .ref bE])), (bD, .inl (k 2, 980, .inr (.inl (fun i9 : Nat => lI (fD i9))))), (bL, .inl (k 0, 980, .inl (fun i9 : Nat => iI (fL i9)))), (bE, .inl (k 0, 980, .inl (fun i9 : Nat => iI (fE i9)))), (ga, .inl (k 0, 49, .inl (fun i9 : Nat => iI (fg i9)))), (wt, .inl (k 0, 49, .inl (fun i9 : Nat => iI (fw i9)))), (wo, .inl (k 0, 49, .inl (fun i9 : Nat => iI (fo i9))))]) [0, 4, 5, 6, 1, 2, 3] (by decide) rfl B
  have B := bd_to (ws' := [(ln, .inr (2, [.int (iI n), .ref wa, .ref ga, .ref wt, .ref wo, .int (iI wd), .int (iI nw), .int (iI dp), .int (iI sd), .int (iI cl), .ref bD, .ref bL, .ref bE])), (bD, .inl (k 2, 980, .inr (.inl (fun i9 : Nat => lI (fD i9))))), (bL, .inl (k 0, 980, .inl (fun i9 : Nat => iI (fL i9)))), (bE, .inl (k 0, 980, .inl (fun i9 : Nat => iI (fE i9))))] ++ [(ga, .inl (k 0, 49, .inl (fun i9 : Nat => iI (fg i9)))), (wt, .inl (k 0, 49, .inl (fun i9 : Nat => iI (fw i9)))), (wo, .inl (k 0, 49, .inl (fun i9 : Nat => iI (fo i9))))]) rfl B
  refine k_V (rest := []) (wc := [(ln, .inr (2, [.int (iI n), .ref wa, .ref ga, .ref wt, .ref wo, .int (iI wd), .int (iI nw), .int (iI dp), .int (iI sd), .int (iI cl), .ref bD, .ref bL, .ref bE])), (bD, .inl (k 2, 980, .inr (.inl (fun i9 : Nat => lI (fD i9))))), (bL, .inl (k 0, 980, .inl (fun i9 : Nat => iI (fL i9)))), (bE, .inl (k 0, 980, .inl (fun i9 : Nat => iI (fE i9))))]) (wr := [(ga, .inl (k 0, 49, .inl (fun i9 : Nat => iI (fg i9)))), (wt, .inl (k 0, 49, .inl (fun i9 : Nat => iI (fw i9)))), (wo, .inl (k 0, 49, .inl (fun i9 : Nat => iI (fo i9))))]) (k_clearF l dC dI k ln wa ga wt wo bD bL bE n wd nw dp sd cl fD fL fE n 0 hD hL hE (by omega) (by omega) h2) B mV_X2_clearWaysFrom mw_1413 hl (q0 := 0) rfl rfl rfl ⟨Nat.le_of_ble_eq_true rfl, Nat.le_of_ble_eq_true rfl⟩ (Nat.le_of_ble_eq_true rfl) rfl dX2_findBestWays_6 ⟨Nat.le_of_ble_eq_true rfl, Nat.le_of_ble_eq_true rfl⟩ (fun r w gc gs H locs hp B => ?_)
  obtain ⟨z_1, z_2, z_3, rfl, hw9, rfl, rfl⟩ := hp
  rw [hw9] at B; clear hw9
  have B := bd_to (ws' := [(ga, .inl (k 0, 49, .inl (fun i9 : Nat => iI (fg i9)))), (wt, .inl (k 0, 49, .inl (fun i9 : Nat => iI (fw i9)))), (wo, .inl (k 0, 49, .inl (fun i9 : Nat => iI (fo i9)))), (ln, .inr (2, [.int (iI n), .ref wa, .ref ga, .ref wt, .ref wo, .int (iI wd), .int (iI nw), .int (iI dp), .int (iI sd), .int (iI cl), .ref bD, .ref bL, .ref bE])), (bD, .inl (k 2, 980, .inr (.inl (fun i9 : Nat => lI ((fil fD (n * 20) (5 * (dp + 1)) 0) i9))))), (bL, .inl (k 0, 980, .inl (fun i9 : Nat => iI ((fil fL (n * 20) (5 * (dp + 1)) 0) i9)))), (bE, .inl (k 0, 980, .inl (fun i9 : Nat => iI ((fil fE (n * 20) (5 * (dp + 1)) (-1)) i9))))]) rfl B
  refine lv_aload_n hx hb dX2_findBestWays_9 rfl (lv_at hl 0 rfl) ?_
  refine x_get (ci := 2) (C := RX2) (T := TX2) (N := 13) (v := .int (iI n)) B 3 rfl rfl in_X2 0 (by decide) mw_126 (fun _ h9 => h9) rfl dX2_findBestWays_10 ?_
  refine lv_iconst (v := iI 1) hx hb dX2_findBestWays_13 (by decide) ?_
  refine y_sub hx hb dX2_findBestWays_14 ?_
  refine lv_istore_n (lv' := [(1, .int (iI (n - 1))), (0, .ref ln)]) hx hb dX2_findBestWays_15 rfl hl (by decide) rfl (fun ls hl => ?_)
  refine k_loop (σ := Int × (Int → Int) × (Int → Int) × (Int → Int) × Int × Int) B (fun g9 : Int × (Int → Int) × (Int → Int) × (Int → Int) × Int × Int => (-1 ≤ g9.1 ∧ g9.1 ≤ n - 1) ∧ (TbP fg fw fo n wd nw dp g9.2.1 g9.2.2.1 g9.2.2.2.1 (g9.1 + 1) g9.1 0) ∧ (Bd (-1) 1099511627776 g9.2.1) ∧ (Bd 0 1000 g9.2.2.1) ∧ (Bd (-1) 48 g9.2.2.2.1)) (fun g9 : Int × (Int → Int) × (Int → Int) × (Int → Int) × Int × Int => (g9.1 + 1).toNat) (fun g9 : Int × (Int → Int) × (Int → Int) × (Int → Int) × Int × Int => [(1, .int (iI g9.1)), (0, .ref ln)]) (fun g9 : Int × (Int → Int) × (Int → Int) × (Int → Int) × Int × Int => [(ga, .inl (k 0, 49, .inl (fun i9 : Nat => iI (fg i9)))), (wt, .inl (k 0, 49, .inl (fun i9 : Nat => iI (fw i9)))), (wo, .inl (k 0, 49, .inl (fun i9 : Nat => iI (fo i9)))), (ln, .inr (2, [.int (iI n), .ref wa, .ref ga, .ref wt, .ref wo, .int (iI wd), .int (iI nw), .int (iI dp), .int (iI g9.2.2.2.2.1), .int (iI g9.2.2.2.2.2), .ref bD, .ref bL, .ref bE])), (bD, .inl (k 2, 980, .inr (.inl (fun i9 : Nat => lI (g9.2.1 i9))))), (bL, .inl (k 0, 980, .inl (fun i9 : Nat => iI (g9.2.2.1 i9)))), (bE, .inl (k 0, 980, .inl (fun i9 : Nat => iI (g9.2.2.2.1 i9))))]) ?_ ((n - 1), (fil fD (n * 20) (5 * (dp + 1)) 0), (fil fL (n * 20) (5 * (dp + 1)) 0), (fil fE (n * 20) (5 * (dp + 1)) (-1)), sd, cl) ⟨(show -1 ≤ (n - 1) ∧ (n - 1) ≤ n - 1 from (by omega)), (show TbP fg fw fo n wd nw dp (fil fD (n * 20) (5 * (dp + 1)) 0) (fil fL (n * 20) (5 * (dp + 1)) 0) (fil fE (n * 20) (5 * (dp + 1)) (-1)) ((n - 1) + 1) (n - 1) 0 from (by rw [show n - 1 + 1 = n by omega]; exact Tb_0 h2 (by omega))), (show Bd (-1) 1099511627776 (fil fD (n * 20) (5 * (dp + 1)) 0) from z_1), (show Bd 0 1000 (fil fL (n * 20) (5 * (dp + 1)) 0) from z_2), (show Bd (-1) 48 (fil fE (n * 20) (5 * (dp + 1)) (-1)) from z_3)⟩ ls H locs (lv_sub hl [0, 1] rfl) (bd_to rfl B)
  clear hl B
  rintro ⟨fi, dD, dL, dE, sq, cq⟩ ⟨hfi, tb, bD9, bL9, bE9⟩ ih_4 ls H locs hl B
  have hfi : -1 ≤ fi ∧ fi ≤ n - 1 := hfi
  have tb : TbP fg fw fo n wd nw dp dD dL dE (fi + 1) fi 0 := tb
  have bD9 : Bd (-1) 1099511627776 dD := bD9
  have bL9 : Bd 0 1000 dL := bL9
  have bE9 : Bd (-1) 48 dE := bE9
  have hl : lv_has ls 3 [(1, .int (iI fi)), (0, .ref ln)] := hl
  have B := bd_to (ws' := [(ga, .inl (k 0, 49, .inl (fun i9 : Nat => iI (fg i9)))), (wt, .inl (k 0, 49, .inl (fun i9 : Nat => iI (fw i9)))), (wo, .inl (k 0, 49, .inl (fun i9 : Nat => iI (fo i9)))), (ln, .inr (2, [.int (iI n), .ref wa, .ref ga, .ref wt, .ref wo, .int (iI wd), .int (iI nw), .int (iI dp), .int (iI sq), .int (iI cq), .ref bD, .ref bL, .ref bE])), (bD, .inl (k 2, 980, .inr (.inl (fun i9 : Nat => lI (dD i9))))), (bL, .inl (k 0, 980, .inl (fun i9 : Nat => iI (dL i9)))), (bE, .inl (k 0, 980, .inl (fun i9 : Nat => iI (dE i9))))]) rfl B
  refine lv_iload_n hx hb dX2_findBestWays_16 rfl (lv_at hl 0 rfl) ?_
  refine lv_if_lt (tgt := 55) hx hb dX2_findBestWays_17 (by decide) (fun c_5 => ?_) (fun c_5 => ?_)
  · have zc_5 : fi < 0 := jlt (a := fi) (b := 0) (by omega) (by omega) c_5
    have B := bd_sub (ws' := [(ln, .inr (2, [.int (iI n), .ref wa, .ref ga, .ref wt, .ref wo, .int (iI wd), .int (iI nw), .int (iI dp), .int (iI sq), .int (iI cq), .ref bD, .ref bL, .ref bE])), (ga, .inl (k 0, 49, .inl (fun i9 : Nat => iI (fg i9)))), (wt, .inl (k 0, 49, .inl (fun i9 : Nat => iI (fw i9)))), (wo, .inl (k 0, 49, .inl (fun i9 : Nat => iI (fo i9)))), (bD, .inl (k 2, 980, .inr (.inl (fun i9 : Nat => lI (dD i9))))), (bL, .inl (k 0, 980, .inl (fun i9 : Nat => iI (dL i9)))), (bE, .inl (k 0, 980, .inl (fun i9 : Nat => iI (dE i9))))]) [3, 0, 1, 2, 4, 5, 6] (by decide) rfl B
    exact k_vret B hr (⟨dD, dL, dE, sq, cq, (fun q1 q2 q3 q4 q5 q6 q7 q8 q9 q10 => tb q1 q2 q3 (by omega) q5 q6 q7 q8 q9 q10), bD9, bL9, bE9, rfl, rfl, rfl, rfl⟩) ⟨Nat.le_of_ble_eq_true rfl, Nat.le_of_ble_eq_true rfl⟩ ⟨Nat.le_of_ble_eq_true rfl, Nat.le_of_ble_eq_true rfl⟩ dX2_findBestWays_55
  · have zc_5 : 0 ≤ fi := jnlt (a := fi) (b := 0) (by omega) (by omega) c_5
    refine lv_iconst (v := iI 0) hx hb dX2_findBestWays_20 (by decide) ?_
    refine lv_istore_n (lv' := [(2, .int (iI 0)), (1, .int (iI fi)), (0, .ref ln)]) hx hb dX2_findBestWays_21 rfl hl (by decide) rfl (fun ls hl => ?_)
    refine k_loop (σ := Int × (Int → Int) × (Int → Int) × (Int → Int) × Int × Int) B (fun g9 : Int × (Int → Int) × (Int → Int) × (Int → Int) × Int × Int => (0 ≤ g9.1 ∧ g9.1 ≤ dp + 1) ∧ (TbP fg fw fo n wd nw dp g9.2.1 g9.2.2.1 g9.2.2.2.1 (fi + 1) fi g9.1) ∧ (Bd (-1) 1099511627776 g9.2.1) ∧ (Bd 0 1000 g9.2.2.1) ∧ (Bd (-1) 48 g9.2.2.2.1)) (fun g9 : Int × (Int → Int) × (Int → Int) × (Int → Int) × Int × Int => (dp + 1 - g9.1).toNat) (fun g9 : Int × (Int → Int) × (Int → Int) × (Int → Int) × Int × Int => [(2, .int (iI g9.1)), (1, .int (iI fi)), (0, .ref ln)]) (fun g9 : Int × (Int → Int) × (Int → Int) × (Int → Int) × Int × Int => [(ga, .inl (k 0, 49, .inl (fun i9 : Nat => iI (fg i9)))), (wt, .inl (k 0, 49, .inl (fun i9 : Nat => iI (fw i9)))), (wo, .inl (k 0, 49, .inl (fun i9 : Nat => iI (fo i9)))), (ln, .inr (2, [.int (iI n), .ref wa, .ref ga, .ref wt, .ref wo, .int (iI wd), .int (iI nw), .int (iI dp), .int (iI g9.2.2.2.2.1), .int (iI g9.2.2.2.2.2), .ref bD, .ref bL, .ref bE])), (bD, .inl (k 2, 980, .inr (.inl (fun i9 : Nat => lI (g9.2.1 i9))))), (bL, .inl (k 0, 980, .inl (fun i9 : Nat => iI (g9.2.2.1 i9)))), (bE, .inl (k 0, 980, .inl (fun i9 : Nat => iI (g9.2.2.2.1 i9))))]) ?_ (0, dD, dL, dE, sq, cq) ⟨(show 0 ≤ 0 ∧ 0 ≤ dp + 1 from (by omega)), (show TbP fg fw fo n wd nw dp dD dL dE (fi + 1) fi 0 from tb), (show Bd (-1) 1099511627776 dD from bD9), (show Bd 0 1000 dL from bL9), (show Bd (-1) 48 dE from bE9)⟩ ls H locs (lv_sub hl [0, 1, 2] rfl) (bd_to rfl B)
    clear hl B
    rintro ⟨la, dD, dL, dE, sq, cq⟩ ⟨hla, tb, bD9, bL9, bE9⟩ ih_6 ls H locs hl B
    have hla : 0 ≤ la ∧ la ≤ dp + 1 := hla
    have tb : TbP fg fw fo n wd nw dp dD dL dE (fi + 1) fi la := tb
    have bD9 : Bd (-1) 1099511627776 dD := bD9
    have bL9 : Bd 0 1000 dL := bL9
    have bE9 : Bd (-1) 48 dE := bE9
    have hl : lv_has ls 3 [(2, .int (iI la)), (1, .int (iI fi)), (0, .ref ln)] := hl
    have B := bd_to (ws' := [(ga, .inl (k 0, 49, .inl (fun i9 : Nat => iI (fg i9)))), (wt, .inl (k 0, 49, .inl (fun i9 : Nat => iI (fw i9)))), (wo, .inl (k 0, 49, .inl (fun i9 : Nat => iI (fo i9)))), (ln, .inr (2, [.int (iI n), .ref wa, .ref ga, .ref wt, .ref wo, .int (iI wd), .int (iI nw), .int (iI dp), .int (iI sq), .int (iI cq), .ref bD, .ref bL, .ref bE])), (bD, .inl (k 2, 980, .inr (.inl (fun i9 : Nat => lI (dD i9))))), (bL, .inl (k 0, 980, .inl (fun i9 : Nat => iI (dL i9)))), (bE, .inl (k 0, 980, .inl (fun i9 : Nat => iI (dE i9))))]) rfl B
    refine lv_iload_n hx hb dX2_findBestWays_22 rfl (lv_at hl 0 rfl) ?_
    refine lv_aload_n hx hb dX2_findBestWays_23 rfl (lv_at hl 2 rfl) ?_
    refine x_get (ci := 2) (C := RX2) (T := TX2) (N := 13) (v := .int (iI dp)) B 3 rfl rfl in_X2 7 (by decide) mw_136 (fun _ h9 => h9) rfl dX2_findBestWays_24 ?_
    refine lv_icmp_gt (tgt := 49) hx hb dX2_findBestWays_27 (by decide) (fun c_7 => ?_) (fun c_7 => ?_)
    · have zc_7 : dp < la := jlt (a := dp) (b := la) (by omega) (by omega) c_7
      refine lv_iinc (v := iI (fi + (-1))) (lv' := [(1, .int (iI (fi + (-1)))), (2, .int (iI la)), (0, .ref ln)]) hx hb dX2_findBestWays_49 hl (k := 1) rfl (iI_add _ _) (by decide) rfl (fun ls hl => ?_)
      refine lv_goto (tgt := 16) hx hb dX2_findBestWays_52 (by decide) ?_
      exact ih_4 ((fi + (-1)), dD, dL, dE, sq, cq) ⟨(show -1 ≤ (fi + (-1)) ∧ (fi + (-1)) ≤ n - 1 from (by omega)), (show TbP fg fw fo n wd nw dp dD dL dE ((fi + (-1)) + 1) (fi + (-1)) 0 from (by rw [show fi + (-1) + 1 = fi by omega, show fi + (-1) = fi - 1 by omega]; exact Tb_next tb (by omega))), (show Bd (-1) 1099511627776 dD from bD9), (show Bd 0 1000 dL from bL9), (show Bd (-1) 48 dE from bE9)⟩ (by first | omega | (dsimp only; omega)) _ _ _ (lv_sub hl [0, 2] rfl) (bd_to rfl B)
    · have zc_7 : la ≤ dp := jnlt (a := dp) (b := la) (by omega) (by omega) c_7
      refine lv_aload_n hx hb dX2_findBestWays_30 rfl (lv_at hl 2 rfl) ?_
      refine lv_iload_n hx hb dX2_findBestWays_31 rfl (lv_at hl 1 rfl) ?_
      refine lv_iload_n hx hb dX2_findBestWays_32 rfl (lv_at hl 0 rfl) ?_
      refine lv_iconst (v := iI (-1)) hx hb dX2_findBestWays_33 (by decide) ?_
      have B := bd_sub (ws' := [(ln, .inr (2, [.int (iI n), .ref wa, .ref ga, .ref wt, .ref wo, .int (iI wd), .int (iI nw), .int (iI dp), .int (iI sq), .int (iI cq), .ref bD, .ref bL, .ref bE])), (bD, .inl (k 2, 980, .inr (.inl (fun i9 : Nat => lI (dD i9))))), (bL, .inl (k 0, 980, .inl (fun i9 : Nat => iI (dL i9)))), (bE, .inl (k 0, 980, .inl (fun i9 : Nat => iI (dE i9)))), (ga, .inl (k 0, 49, .inl (fun i9 : Nat => iI (fg i9)))), (wt, .inl (k 0, 49, .inl (fun i9 : Nat => iI (fw i9)))), (wo, .inl (k 0, 49, .inl (fun i9 : Nat => iI (fo i9))))]) [3, 4, 5, 6, 0, 1, 2] (by decide) rfl B
      have B := bd_to (ws' := [(ln, .inr (2, [.int (iI n), .ref wa, .ref ga, .ref wt, .ref wo, .int (iI wd), .int (iI nw), .int (iI dp), .int (iI sq), .int (iI cq), .ref bD, .ref bL, .ref bE])), (bD, .inl (k 2, 980, .inr (.inl (fun i9 : Nat => lI (dD i9))))), (bL, .inl (k 0, 980, .inl (fun i9 : Nat => iI (dL i9)))), (bE, .inl (k 0, 980, .inl (fun i9 : Nat => iI (dE i9))))] ++ [(ga, .inl (k 0, 49, .inl (fun i9 : Nat => iI (fg i9)))), (wt, .inl (k 0, 49, .inl (fun i9 : Nat => iI (fw i9)))), (wo, .inl (k 0, 49, .inl (fun i9 : Nat => iI (fo i9))))]) rfl B
      refine k_V (rest := []) (wc := [(ln, .inr (2, [.int (iI n), .ref wa, .ref ga, .ref wt, .ref wo, .int (iI wd), .int (iI nw), .int (iI dp), .int (iI sq), .int (iI cq), .ref bD, .ref bL, .ref bE])), (bD, .inl (k 2, 980, .inr (.inl (fun i9 : Nat => lI (dD i9))))), (bL, .inl (k 0, 980, .inl (fun i9 : Nat => iI (dL i9)))), (bE, .inl (k 0, 980, .inl (fun i9 : Nat => iI (dE i9))))]) (wr := [(ga, .inl (k 0, 49, .inl (fun i9 : Nat => iI (fg i9)))), (wt, .inl (k 0, 49, .inl (fun i9 : Nat => iI (fw i9)))), (wo, .inl (k 0, 49, .inl (fun i9 : Nat => iI (fo i9))))]) (k_clear l dC dI k ln wa ga wt wo bD bL bE n wd nw dp sq cq dD dL dE fi la (-1) bD9 bL9 bE9 (by omega) (by omega)) B mV_X2_clearWays mw_1417 hl (q0 := 0) rfl rfl rfl ⟨Nat.le_of_ble_eq_true rfl, Nat.le_of_ble_eq_true rfl⟩ (Nat.le_of_ble_eq_true rfl) rfl dX2_findBestWays_34 ⟨Nat.le_of_ble_eq_true rfl, Nat.le_of_ble_eq_true rfl⟩ (fun r w gc gs H locs hp B => ?_)
      obtain ⟨z_8, z_9, z_10, rfl, hw9, rfl, rfl⟩ := hp
      rw [hw9] at B; clear hw9
      have B := bd_to (ws' := [(ga, .inl (k 0, 49, .inl (fun i9 : Nat => iI (fg i9)))), (wt, .inl (k 0, 49, .inl (fun i9 : Nat => iI (fw i9)))), (wo, .inl (k 0, 49, .inl (fun i9 : Nat => iI (fo i9)))), (ln, .inr (2, [.int (iI n), .ref wa, .ref ga, .ref wt, .ref wo, .int (iI wd), .int (iI nw), .int (iI dp), .int (iI sq), .int (iI cq), .ref bD, .ref bL, .ref bE])), (bD, .inl (k 2, 980, .inr (.inl (fun i9 : Nat => lI ((fil dD (((fi * 4) + la) * 5) 5 (-1)) i9))))), (bL, .inl (k 0, 980, .inl (fun i9 : Nat => iI ((fil dL (((fi * 4) + la) * 5) 5 0) i9)))), (bE, .inl (k 0, 980, .inl (fun i9 : Nat => iI ((fil dE (((fi * 4) + la) * 5) 5 (-1)) i9))))]) rfl B
      refine lv_aload_n hx hb dX2_findBestWays_37 rfl (lv_at hl 2 rfl) ?_
      refine lv_iload_n hx hb dX2_findBestWays_38 rfl (lv_at hl 1 rfl) ?_
      refine lv_iload_n hx hb dX2_findBestWays_39 rfl (lv_at hl 0 rfl) ?_
      have B := bd_sub (ws' := [(ln, .inr (2, [.int (iI n), .ref wa, .ref ga, .ref wt, .ref wo, .int (iI wd), .int (iI nw), .int (iI dp), .int (iI sq), .int (iI cq), .ref bD, .ref bL, .ref bE])), (ga, .inl (k 0, 49, .inl (fun i9 : Nat => iI (fg i9)))), (wt, .inl (k 0, 49, .inl (fun i9 : Nat => iI (fw i9)))), (wo, .inl (k 0, 49, .inl (fun i9 : Nat => iI (fo i9)))), (bD, .inl (k 2, 980, .inr (.inl (fun i9 : Nat => lI ((fil dD (((fi * 4) + la) * 5) 5 (-1)) i9))))), (bL, .inl (k 0, 980, .inl (fun i9 : Nat => iI ((fil dL (((fi * 4) + la) * 5) 5 0) i9)))), (bE, .inl (k 0, 980, .inl (fun i9 : Nat => iI ((fil dE (((fi * 4) + la) * 5) 5 (-1)) i9))))]) [3, 0, 1, 2, 4, 5, 6] (by decide) rfl B
      have B := bd_to (ws' := [(ln, .inr (2, [.int (iI n), .ref wa, .ref ga, .ref wt, .ref wo, .int (iI wd), .int (iI nw), .int (iI dp), .int (iI sq), .int (iI cq), .ref bD, .ref bL, .ref bE])), (ga, .inl (k 0, 49, .inl (fun i9 : Nat => iI (fg i9)))), (wt, .inl (k 0, 49, .inl (fun i9 : Nat => iI (fw i9)))), (wo, .inl (k 0, 49, .inl (fun i9 : Nat => iI (fo i9)))), (bD, .inl (k 2, 980, .inr (.inl (fun i9 : Nat => lI ((fil dD (((fi * 4) + la) * 5) 5 (-1)) i9))))), (bL, .inl (k 0, 980, .inl (fun i9 : Nat => iI ((fil dL (((fi * 4) + la) * 5) 5 0) i9)))), (bE, .inl (k 0, 980, .inl (fun i9 : Nat => iI ((fil dE (((fi * 4) + la) * 5) 5 (-1)) i9))))] ++ []) rfl B
      refine k_V (rest := []) (wc := [(ln, .inr (2, [.int (iI n), .ref wa, .ref ga, .ref wt, .ref wo, .int (iI wd), .int (iI nw), .int (iI dp), .int (iI sq), .int (iI cq), .ref bD, .ref bL, .ref bE])), (ga, .inl (k 0, 49, .inl (fun i9 : Nat => iI (fg i9)))), (wt, .inl (k 0, 49, .inl (fun i9 : Nat => iI (fw i9)))), (wo, .inl (k 0, 49, .inl (fun i9 : Nat => iI (fo i9)))), (bD, .inl (k 2, 980, .inr (.inl (fun i9 : Nat => lI ((fil dD (((fi * 4) + la) * 5) 5 (-1)) i9))))), (bL, .inl (k 0, 980, .inl (fun i9 : Nat => iI ((fil dL (((fi * 4) + la) * 5) 5 0) i9)))), (bE, .inl (k 0, 980, .inl (fun i9 : Nat => iI ((fil dE (((fi * 4) + la) * 5) 5 (-1)) i9))))]) (wr := []) (k_tryLines l dC dI k ln wa ga wt wo bD bL bE n wd nw dp sq cq fg fw fo (fil dD (((fi * 4) + la) * 5) 5 (-1)) (fil dL (((fi * 4) + la) * 5) 5 0) (fil dE (((fi * 4) + la) * 5) 5 (-1)) fi la hg hw ho z_8 z_9 z_10 (by omega) (by omega) h3 (fun t9 u9 c9 g1 g2 g3 g4 g5 g6 => by have q9 := tb t9 u9 c9 (by omega) (by omega) g2 g3 g4 g5 (by omega); have q8 := BW_in (fg := fg) (fw := fw) (fo := fo) (n := n) (wd := wd) (nw := nw) (dp := dp) (fun wz f1 t1 hz => by have := jLk_in hw ho (fg := fg) (fr := f1) (to := t1) (wz := wz) (by omega); omega) (by omega) (n - t9).toNat t9 u9 c9 (by omega) g3 g4; rw [fil_out (by omega), fil_out (by omega), q9.1, q9.2.1]; omega)) B mV_X2_tryLines mw_1424 hl (q0 := 0) rfl rfl rfl ⟨Nat.le_of_ble_eq_true rfl, Nat.le_of_ble_eq_true rfl⟩ (Nat.le_of_ble_eq_true rfl) rfl dX2_findBestWays_40 ⟨Nat.le_of_ble_eq_true rfl, Nat.le_of_ble_eq_true rfl⟩ (fun r w gc gs H locs hp B => ?_)
      obtain ⟨kk_11, dD_12, dL_13, dE_14, sq_15, cq_16, z_17, z_18, z_19, z_20, z_21, z_22, z_23, z_24, z_25, z_26, z_27, z_28, rfl, hw9, rfl, rfl⟩ := hp
      rw [hw9] at B; clear hw9
      have B := bd_to (ws' := [(ln, .inr (2, [.int (iI n), .ref wa, .ref ga, .ref wt, .ref wo, .int (iI wd), .int (iI nw), .int (iI dp), .int (iI sq_15), .int (iI cq_16), .ref bD, .ref bL, .ref bE])), (ga, .inl (k 0, 49, .inl (fun i9 : Nat => iI (fg i9)))), (wt, .inl (k 0, 49, .inl (fun i9 : Nat => iI (fw i9)))), (wo, .inl (k 0, 49, .inl (fun i9 : Nat => iI (fo i9)))), (bD, .inl (k 2, 980, .inr (.inl (fun i9 : Nat => lI (dD_12 i9))))), (bL, .inl (k 0, 980, .inl (fun i9 : Nat => iI (dL_13 i9)))), (bE, .inl (k 0, 980, .inl (fun i9 : Nat => iI (dE_14 i9))))]) rfl B
      refine lv_iinc (v := iI (la + 1)) (lv' := [(2, .int (iI (la + 1))), (1, .int (iI fi)), (0, .ref ln)]) hx hb dX2_findBestWays_43 hl (k := 0) rfl (iI_add _ _) (by decide) rfl (fun ls hl => ?_)
      refine lv_goto (tgt := 22) hx hb dX2_findBestWays_46 (by decide) ?_
      have B := bd_sub (ws' := [(ga, .inl (k 0, 49, .inl (fun i9 : Nat => iI (fg i9)))), (wt, .inl (k 0, 49, .inl (fun i9 : Nat => iI (fw i9)))), (wo, .inl (k 0, 49, .inl (fun i9 : Nat => iI (fo i9)))), (ln, .inr (2, [.int (iI n), .ref wa, .ref ga, .ref wt, .ref wo, .int (iI wd), .int (iI nw), .int (iI dp), .int (iI sq_15), .int (iI cq_16), .ref bD, .ref bL, .ref bE])), (bD, .inl (k 2, 980, .inr (.inl (fun i9 : Nat => lI (dD_12 i9))))), (bL, .inl (k 0, 980, .inl (fun i9 : Nat => iI (dL_13 i9)))), (bE, .inl (k 0, 980, .inl (fun i9 : Nat => iI (dE_14 i9))))]) [1, 2, 3, 0, 4, 5, 6] (by decide) rfl B
      exact ih_6 ((la + 1), dD_12, dL_13, dE_14, sq_15, cq_16) ⟨(show 0 ≤ (la + 1) ∧ (la + 1) ≤ dp + 1 from (by omega)), (show TbP fg fw fo n wd nw dp dD_12 dL_13 dE_14 (fi + 1) fi (la + 1) from (Tb_step (by omega) (by omega) tb z_17 z_18 z_19 z_20 z_21 z_22 (fun _ _ _ => rfl) (fun _ _ _ => rfl) (fun _ => rfl) z_23 z_24 z_25)), (show Bd (-1) 1099511627776 dD_12 from z_26), (show Bd 0 1000 dL_13 from z_27), (show Bd (-1) 48 dE_14 from z_28)⟩ (by first | omega | (dsimp only; omega)) _ _ _ (lv_sub hl [0, 1, 2] rfl) (bd_to rfl B)

end
