section
section BEST
variable {fg fw fo : Int → Int} {n wd nw dp fr la a to : Int}
/-- the line from fr to to, and the best way behind it -/
def stc (fg fw fo : Int → Int) (n wd nw dp fr la a to : Int) : Int :=
  (ownZ (sdZ fg fw fo n (if la < dp then nw else wd) fr to) (fg to) + pnZ (clZ fg fw fo n (if la < dp then nw else wd) fr to) a (fg fr) (fg to)) + (BW fg fw fo n wd nw dp to (min (la + 1) dp) (clZ fg fw fo n (if la < dp then nw else wd) fr to)).1
theorem own_nn (sd g : Int) (h : 0 ≤ sd) : 100 ≤ ownZ sd g := by
  unfold ownZ
  have h1 : 0 ≤ sd * sd * sd := Int.mul_nonneg (Int.mul_nonneg h h) h
  have h2 : 0 ≤ sd * sd * sd / 10000 := Int.ediv_nonneg h1 (by decide)
  have h3 : 10 ≤ 10 + sd * sd * sd / 10000 + (if 0 < g then 50 else 0) := by split <;> omega
  exact Int.mul_le_mul h3 h3 (by decide) (by omega)
theorem pn_nn (cl ah gf gt : Int) : 0 ≤ pnZ cl ah gf gt := by
  unfold pnZ
  repeat' split
  all_goals omega
theorem jSp_nn (lk sp t m : Int) : 0 ≤ jSp lk sp t m := by
  unfold jSp
  split
  · split
    · omega
    · split
      · split <;> omega
      · split
        · have : 0 ≤ 100 * lk / (2 * sp) := Int.ediv_nonneg (by omega) (by omega)
          omega
        · omega
  · split
    · split
      · exact Int.ediv_nonneg (by omega) (by omega)
      · omega
    · omega
theorem okC_ok {wz : Int} : ∀ (f : Nat) (t j : Int), 0 ≤ j → j < okC fg fw fo wz fr f t → okZ fg fw fo wz fr (t + j)
  | 0, t, j, h1, h2 => by have h3 : j < 0 := h2; omega
  | f + 1, t, j, h1, h2 => by
    simp only [okC] at h2
    split at h2
    · rename_i g
      by_cases e : j = 0
      · rw [e, Int.add_zero]; exact g
      · have := okC_ok (wz := wz) f (t + 1) (j - 1) (by omega) (by omega)
        rw [show t + 1 + (j - 1) = t + j by omega] at this
        exact this
    · omega
theorem okC_all {wz : Int} : ∀ (f : Nat) (t j : Int), 0 ≤ j → j < f → (∀ q, t ≤ q → q ≤ t + j → okZ fg fw fo wz fr q) → j < okC fg fw fo wz fr f t
  | 0, t, j, h1, h2, _ => by omega
  | f + 1, t, j, h1, h2, h3 => by
    have hn := (okC_le (fg := fg) (fw := fw) (fo := fo) (wz := wz) (fr := fr) f (t + 1)).1
    simp only [okC]
    rw [if_pos (h3 t (Int.le_refl _) (by omega))]
    by_cases e : j = 0
    · omega
    · have := okC_all (wz := wz) f (t + 1) (j - 1) (by omega) (by omega) (fun q a b => h3 q (by omega) (by omega))
      omega
/-- the least of all ends that were tried -/
theorem enS_min {X Y : Int → Int → Int → Int} {wz : Int} (hX : ∀ k : Nat, 0 ≤ (ownZ (sdZ fg fw fo n wz fr (fr + 1 + (k : Int))) (fg (fr + 1 + (k : Int))) + pnZ (clZ fg fw fo n wz fr (fr + 1 + (k : Int))) a (fg fr) (fg (fr + 1 + (k : Int)))) + X (fr + 1 + (k : Int)) (min (la + 1) dp) (clZ fg fw fo n wz fr (fr + 1 + (k : Int)))) :
    ∀ m : Nat, (∃ k : Nat, k < m + 1 ∧ (enS fg fw fo X Y n wz dp la fr (fun _ => (-1, 0, -1)) (m + 1) a).1 = (ownZ (sdZ fg fw fo n wz fr (fr + 1 + (k : Int))) (fg (fr + 1 + (k : Int))) + pnZ (clZ fg fw fo n wz fr (fr + 1 + (k : Int))) a (fg fr) (fg (fr + 1 + (k : Int)))) + X (fr + 1 + (k : Int)) (min (la + 1) dp) (clZ fg fw fo n wz fr (fr + 1 + (k : Int)))) ∧
      ∀ k : Nat, k < m + 1 → (enS fg fw fo X Y n wz dp la fr (fun _ => (-1, 0, -1)) (m + 1) a).1 ≤ (ownZ (sdZ fg fw fo n wz fr (fr + 1 + (k : Int))) (fg (fr + 1 + (k : Int))) + pnZ (clZ fg fw fo n wz fr (fr + 1 + (k : Int))) a (fg fr) (fg (fr + 1 + (k : Int)))) + X (fr + 1 + (k : Int)) (min (la + 1) dp) (clZ fg fw fo n wz fr (fr + 1 + (k : Int)))
  | 0 => by
    have e : (enS fg fw fo X Y n wz dp la fr (fun _ => (-1, 0, -1)) (0 + 1) a).1 = (ownZ (sdZ fg fw fo n wz fr (fr + 1 + ((0 : Nat) : Int))) (fg (fr + 1 + ((0 : Nat) : Int))) + pnZ (clZ fg fw fo n wz fr (fr + 1 + ((0 : Nat) : Int))) a (fg fr) (fg (fr + 1 + ((0 : Nat) : Int)))) + X (fr + 1 + ((0 : Nat) : Int)) (min (la + 1) dp) (clZ fg fw fo n wz fr (fr + 1 + ((0 : Nat) : Int))) := by
      have e9 : ∀ s c : Int, tlD (-1) 0 s c = s := fun s c => if_pos (Or.inl rfl)
      exact e9 _ (Y (fr + 1 + ((0 : Nat) : Int)) (min (la + 1) dp) (clZ fg fw fo n wz fr (fr + 1 + ((0 : Nat) : Int))) + 1)
    refine ⟨⟨0, by omega, e⟩, fun k hk => ?_⟩
    rw [show k = 0 by omega, e]
    exact Int.le_refl _
  | m + 1 => by
    obtain ⟨⟨k0, hk0, e0⟩, ih⟩ := enS_min (X := X) (Y := Y) (wz := wz) hX m
    have hx := hX (m + 1)
    have h0 := hX k0
    have e : (enS fg fw fo X Y n wz dp la fr (fun _ => (-1, 0, -1)) (m + 1 + 1) a).1 = tlD (enS fg fw fo X Y n wz dp la fr (fun _ => (-1, 0, -1)) (m + 1) a).1 (enS fg fw fo X Y n wz dp la fr (fun _ => (-1, 0, -1)) (m + 1) a).2.1 ((ownZ (sdZ fg fw fo n wz fr (fr + 1 + ((m + 1 : Nat) : Int))) (fg (fr + 1 + ((m + 1 : Nat) : Int))) + pnZ (clZ fg fw fo n wz fr (fr + 1 + ((m + 1 : Nat) : Int))) a (fg fr) (fg (fr + 1 + ((m + 1 : Nat) : Int)))) + X (fr + 1 + ((m + 1 : Nat) : Int)) (min (la + 1) dp) (clZ fg fw fo n wz fr (fr + 1 + ((m + 1 : Nat) : Int)))) (Y (fr + 1 + ((m + 1 : Nat) : Int)) (min (la + 1) dp) (clZ fg fw fo n wz fr (fr + 1 + ((m + 1 : Nat) : Int))) + 1) := rfl
    rw [e]
    unfold tlD
    generalize hd : (enS fg fw fo X Y n wz dp la fr (fun _ => (-1, 0, -1)) (m + 1) a).1 = d at *
    split
    · rename_i g
      refine ⟨⟨m + 1, by omega, rfl⟩, fun k hk => ?_⟩
      by_cases e9 : k = m + 1
      · rw [e9]; exact Int.le_refl _
      · have := ih k (by omega)
        omega
    · rename_i g
      refine ⟨⟨k0, by omega, e0⟩, fun k hk => ?_⟩
      by_cases e9 : k = m + 1
      · rw [e9]; omega
      · exact ih k (by omega)

theorem BW_best (hoff : ∀ fr to to' wz : Int, 0 ≤ fr → fr < to → to ≤ to' → to' ≤ n → okZ fg fw fo wz fr to' → okZ fg fw fo wz fr to) (hw : ∀ (wz fr to : Int), wz = nw ∨ wz = wd → -100000 ≤ jLk fw fo fg fr to wz) (hd : 0 ≤ dp) (h0 : 0 ≤ fr) (h : fr < n) (hla : 0 ≤ la ∧ la ≤ dp) :
    (∃ e, fr < e ∧ e ≤ n ∧ okZ fg fw fo (if la < dp then nw else wd) fr e ∧ (BW fg fw fo n wd nw dp fr la a).1 = stc fg fw fo n wd nw dp fr la a e) ∧ ∀ e, fr < e → e ≤ n → okZ fg fw fo (if la < dp then nw else wd) fr e → (BW fg fw fo n wd nw dp fr la a).1 ≤ stc fg fw fo n wd nw dp fr la a e := by
  rw [BW_s h hla]
  have h1 := okC_1 (fg := fg) (fw := fw) (fo := fo) (wz := if la < dp then nw else wd) h
  have h2 := okC_le (fg := fg) (fw := fw) (fo := fo) (wz := if la < dp then nw else wd) (fr := fr) (n - fr).toNat (fr + 1)
  have hB : ∀ t u c : Int, 0 ≤ u → u ≤ dp → 0 ≤ (BW fg fw fo n wd nw dp t u c).1 := by
    intro t u c hu hu2
    by_cases ht : t ≤ n
    · exact (BW_in hw hd (n - t).toNat t u c (by omega) hu hu2).1.1
    · have : (n - t).toNat = 0 := by omega
      unfold BW
      rw [this]
      exact Int.le_refl 0
  obtain ⟨m, hm⟩ : ∃ m : Nat, (okC fg fw fo (if la < dp then nw else wd) fr (n - fr).toNat (fr + 1)).toNat = m + 1 := ⟨(okC fg fw fo (if la < dp then nw else wd) fr (n - fr).toNat (fr + 1)).toNat - 1, by omega⟩
  rw [hm]
  obtain ⟨⟨k, hk, e⟩, hmin⟩ := enS_min (fg := fg) (fw := fw) (fo := fo) (n := n) (dp := dp) (fr := fr) (la := la) (a := a) (X := fun t q c => (BW fg fw fo n wd nw dp t q c).1) (Y := fun t q c => (BW fg fw fo n wd nw dp t q c).2.1) (wz := if la < dp then nw else wd) (fun k => by
    have q1 := own_nn (sdZ fg fw fo n (if la < dp then nw else wd) fr (fr + 1 + (k : Int))) (fg (fr + 1 + (k : Int))) (jSp_nn _ _ _ _)
    have q2 := pn_nn (clZ fg fw fo n (if la < dp then nw else wd) fr (fr + 1 + (k : Int))) a (fg fr) (fg (fr + 1 + (k : Int)))
    have q3 := hB (fr + 1 + (k : Int)) (min (la + 1) dp) (clZ fg fw fo n (if la < dp then nw else wd) fr (fr + 1 + (k : Int))) (by omega) (by omega)
    omega) m
  refine ⟨⟨fr + 1 + (k : Int), by omega, by omega, okC_ok (fg := fg) (fw := fw) (fo := fo) (fr := fr) (wz := if la < dp then nw else wd) (n - fr).toNat (fr + 1) (k : Int) (by omega) (by omega), e⟩, fun e9 g1 g2 g3 => ?_⟩
  have := okC_all (fg := fg) (fw := fw) (fo := fo) (fr := fr) (wz := if la < dp then nw else wd) (n - fr).toNat (fr + 1) (e9 - fr - 1) (by omega) (by omega) (fun q a b => hoff fr q e9 _ h0 (by omega) (by omega) g2 g3)
  have h9 := hmin (e9 - fr - 1).toNat (by omega)
  rw [show fr + 1 + (((e9 - fr - 1).toNat : Nat) : Int) = e9 by omega] at h9
  exact h9
theorem dm_low (hoff : ∀ fr to to' wz : Int, 0 ≤ fr → fr < to → to ≤ to' → to' ≤ n → okZ fg fw fo wz fr to' → okZ fg fw fo wz fr to) (hw : ∀ (wz fr to : Int), wz = nw ∨ wz = wd → -100000 ≤ jLk fw fo fg fr to wz) (hd : 0 ≤ dp) {ways : Int} : ∀ (f : Nat) (to fr li ah sum : Int), 0 ≤ fr → fr < to → to + f = n + 1 → (to = n + 1 → fr = n) → 0 ≤ li →
    dmF fg fw fo n wd nw dp ways f to fr li ah sum = -1 ∨ sum + (BW fg fw fo n wd nw dp fr (min li dp) ah).1 ≤ dmF fg fw fo n wd nw dp ways f to fr li ah sum
  | 0, to, fr, li, ah, sum, h1, h2, h3, h4, h5 => by
    rw [h4 (by omega), BW_n]
    exact Or.inr (by show sum + 0 ≤ sum; omega)
  | f + 1, to, fr, li, ah, sum, h1, h2, h3, h4, h5 => by
    simp only [dmF]
    by_cases g : to < n ∧ bAnd (bShr ways (to - 1)) 1 = 0
    · rw [if_pos g]
      exact dm_low hoff hw hd f (to + 1) fr li ah sum h1 (by omega) (by omega) (by omega) h5
    · rw [if_neg g]
      by_cases g : okZ fg fw fo (if li < dp then nw else wd) fr to
      · rw [if_pos g]
        have ih := dm_low hoff hw hd (ways := ways) f (to + 1) to (li + 1) (clZ fg fw fo n (if li < dp then nw else wd) fr to) (sum + (ownZ (sdZ fg fw fo n (if li < dp then nw else wd) fr to) (fg to) + pnZ (clZ fg fw fo n (if li < dp then nw else wd) fr to) ah (fg fr) (fg to))) (by omega) (by omega) (by omega) (by omega) (by omega)
        have e1 : (if min li dp < dp then nw else wd) = (if li < dp then nw else wd) := by
          by_cases q : li < dp
          · rw [if_pos q, if_pos (by omega)]
          · rw [if_neg q, if_neg (by omega)]
        have b := (BW_best hoff hw hd (a := ah) (la := min li dp) h1 (show fr < n by omega) (by omega)).2 to h2 (by omega) (by rw [e1]; exact g)
        unfold stc at b
        rw [e1, show min (min li dp + 1) dp = min (li + 1) dp by omega] at b
        rcases ih with ih | ih
        · exact Or.inl ih
        · exact Or.inr (by omega)
      · rw [if_neg g]; exact Or.inl rfl
theorem dm_run {ways : Int} {e : Int} (he : e ≤ n) {li ah sum : Int} : ∀ d : Nat, fr + 1 + (d : Int) ≤ e → (∀ t, fr < t → t < e → bAnd (bShr ways (t - 1)) 1 = 0) → dmF fg fw fo n wd nw dp ways (n - fr).toNat (fr + 1) fr li ah sum = dmF fg fw fo n wd nw dp ways (n - fr - d).toNat (fr + 1 + d) fr li ah sum
  | 0, h, hb => by
    rw [show n - fr - ((0 : Nat) : Int) = n - fr by omega, show fr + 1 + ((0 : Nat) : Int) = fr + 1 by omega]
  | d + 1, h, hb => by
    rw [dm_run he d (by omega) hb, show (n - fr - (d : Int)).toNat = (n - fr - ((d + 1 : Nat) : Int)).toNat + 1 by omega]
    simp only [dmF]
    rw [if_pos ⟨by omega, hb _ (by omega) (by omega)⟩, show fr + 1 + (d : Int) + 1 = fr + 1 + ((d + 1 : Nat) : Int) by omega]
theorem dm_hit (hoff : ∀ fr to to' wz : Int, 0 ≤ fr → fr < to → to ≤ to' → to' ≤ n → okZ fg fw fo wz fr to' → okZ fg fw fo wz fr to) (hw : ∀ (wz fr to : Int), wz = nw ∨ wz = wd → -100000 ≤ jLk fw fo fg fr to wz) (hd : 0 ≤ dp) : ∀ (k : Nat) (fr li ah : Int), 0 ≤ fr → fr ≤ n → n - fr ≤ k → 0 ≤ li →
    ∃ bt : Int → Bool, ∀ ways : Int, (∀ t, fr < t → t < n → bAnd (bShr ways (t - 1)) 1 = (if bt t then 1 else 0)) → ∀ sum, dmF fg fw fo n wd nw dp ways (n - fr).toNat (fr + 1) fr li ah sum = sum + (BW fg fw fo n wd nw dp fr (min li dp) ah).1
  | 0, fr, li, ah, h1, h2, h3, h4 => by
    have e0 : fr = n := by omega
    refine ⟨fun _ => false, fun ways hb sum => ?_⟩
    rw [e0, BW_n, show (n - n).toNat = 0 by omega]
    exact (Int.add_zero sum).symm
  | k + 1, fr, li, ah, h1, h2, h3, h4 => by
    by_cases e0 : fr = n
    · refine ⟨fun _ => false, fun ways hb sum => ?_⟩
      rw [e0, BW_n, show (n - n).toNat = 0 by omega]
      exact (Int.add_zero sum).symm
    · have e1 : (if min li dp < dp then nw else wd) = (if li < dp then nw else wd) := by
        by_cases q : li < dp
        · rw [if_pos q, if_pos (by omega)]
        · rw [if_neg q, if_neg (by omega)]
      obtain ⟨⟨e, g1, g2, g3, g4⟩, -⟩ := BW_best hoff hw hd (a := ah) (la := min li dp) h1 (show fr < n by omega) (by omega)
      unfold stc at g4
      rw [e1, show min (min li dp + 1) dp = min (li + 1) dp by omega] at g4
      rw [e1] at g3
      obtain ⟨bt, hbt⟩ := dm_hit hoff hw hd k e (li + 1) (clZ fg fw fo n (if li < dp then nw else wd) fr e) (by omega) g2 (by omega) (by omega)
      refine ⟨fun t => if t < e then false else if t = e then true else bt t, fun ways hb0 sum => ?_⟩
      have hb : ∀ t, fr < t → t < n → bAnd (bShr ways (t - 1)) 1 = (if (if t < e then false else if t = e then true else bt t) = true then 1 else 0) := hb0
      have r1 := dm_run (fg := fg) (fw := fw) (fo := fo) (wd := wd) (nw := nw) (dp := dp) (fr := fr) (ways := ways) (li := li) (ah := ah) (sum := sum) g2 (e - fr - 1).toNat (by omega) (fun t a b => by
        have q := hb t a (by omega)
        rw [if_pos b] at q
        exact q)
      rw [r1, show fr + 1 + (((e - fr - 1).toNat : Nat) : Int) = e by omega, show (n - fr - (((e - fr - 1).toNat : Nat) : Int)).toNat = (n - e).toNat + 1 by omega]
      simp only [dmF]
      rw [if_neg (fun q => by
        have := hb e g1 q.1
        rw [if_neg (show ¬ e < e by omega), if_pos rfl] at this
        have h9 := q.2
        rw [this] at h9
        exact absurd h9 (by decide)), if_pos g3]
      rw [hbt ways (fun t a b => by rw [hb t (by omega) b, if_neg (show ¬ t < e by omega), if_neg (show ¬ t = e by omega)]) _, g4]
      omega
end BEST
theorem and_bit (w : Nat) (k : Int) : bAnd (bShr (w : Int) k) 1 = if w.testBit k.toNat then 1 else 0 := by
  have e : bShr (w : Int) k = ((w / 2 ^ k.toNat : Nat) : Int) := by unfold bShr; rw [Int.natCast_ediv]
  rw [e]
  unfold bAnd
  rw [Int.toNat_natCast, show (1 : Int).toNat = 1 from rfl, Nat.and_one_is_mod, Nat.testBit_eq_decide_div_mod_eq]
  by_cases h : w / 2 ^ k.toNat % 2 = 1
  · rw [h]; rfl
  · rw [show w / 2 ^ k.toNat % 2 = 0 by omega]; rfl
theorem bits_of (bt : Int → Bool) : ∀ m : Nat, ∃ w : Nat, w < 2 ^ m ∧ ∀ t : Int, 1 ≤ t → t ≤ m → bAnd (bShr (w : Int) (t - 1)) 1 = if bt t then 1 else 0
  | 0 => ⟨0, by decide, fun t a b => by omega⟩
  | m + 1 => by
    obtain ⟨w, h1, h2⟩ := bits_of bt m
    have hp : 2 ^ (m + 1) = 2 ^ m + 2 ^ m := by rw [Nat.pow_succ]; omega
    cases hb : bt ((m : Int) + 1) with
    | false =>
      refine ⟨w, by omega, fun t a b => ?_⟩
      by_cases e : t = (m : Int) + 1
      · rw [e, hb, and_bit, show ((m : Int) + 1 - 1).toNat = m by omega, Nat.testBit_lt_two_pow h1]
      · exact h2 t a (by omega)
    | true =>
      refine ⟨2 ^ m + w, by omega, fun t a b => ?_⟩
      by_cases e : t = (m : Int) + 1
      · rw [e, hb, and_bit, show ((m : Int) + 1 - 1).toNat = m by omega, Nat.testBit_two_pow_add_eq, Nat.testBit_lt_two_pow h1]
        rfl
      · rw [← h2 t a (by omega), and_bit, and_bit, Nat.testBit_two_pow_add_gt (by omega)]
theorem lb_min {g : Int → Int} {m : Int} (hm : 0 ≤ m) : ∀ N : Nat, (∀ w : Nat, w < N → g w = -1 ∨ m ≤ g w) → (lbF g N = -1 ∨ m ≤ lbF g N) ∧ ((∃ w : Nat, w < N ∧ g w = m) → lbF g N = m)
  | 0, _ => ⟨Or.inl rfl, fun ⟨w, h, _⟩ => by omega⟩
  | N + 1, h => by
    obtain ⟨i1, i2⟩ := lb_min (g := g) hm N (fun w hw => h w (by omega))
    have hN := h N (by omega)
    simp only [lbF]
    constructor
    · repeat' split
      all_goals omega
    · rintro ⟨w, hw, e⟩
      by_cases ew : w = N
      · rw [ew] at e
        repeat' split
        all_goals omega
      · have := i2 ⟨w, by omega, e⟩
        repeat' split
        all_goals omega
section BEST2
variable {T : Nat → Int → Int → Int → Int} {i v dg : Int}
theorem by_all (hK : TK T) : byZ T v dg i = LDz T v dg i ∨ (byZ T v dg i = -1 ∧ 0 < (tkP T i v dg).1) := by
  have hn := (tkP_w (i := i) (v := v) (dg := dg) hK).1
  have hwd := wd_in (i := i) hK
  obtain ⟨hO, -⟩ := tkP_O (i := i) (v := v) (dg := dg) hK
  have hoff : ∀ fr to to' wz : Int, 0 ≤ fr → fr < to → to ≤ to' → to' ≤ (tkP T i v dg).1 → okZ (tkP T i v dg).2.2.1 (tkP T i v dg).2.2.2.1 (tkP T i v dg).2.2.2.2 wz fr to' → okZ (tkP T i v dg).2.2.1 (tkP T i v dg).2.2.2.1 (tkP T i v dg).2.2.2.2 wz fr to := fun fr to to' wz h1 h2 h3 h4 h5 => ok_off hO h1 h2 h3 h4 h5
  have hw : ∀ (wz fr to : Int), wz = nwZ T i (T 16 0 0 0) ∨ wz = wdZ T i (T 16 0 0 0) → -100000 ≤ jLk (tkP T i v dg).2.2.2.1 (tkP T i v dg).2.2.2.2 (tkP T i v dg).2.2.1 fr to wz := by
    intro wz fr to h
    have := jLk_tk (i := i) (v := v) (dg := dg) hK (wz := wz) (fr := fr) (to := to) (by omega)
    omega
  unfold byZ LDz
  by_cases e : (tkP T i v dg).1 = 0
  · rw [if_pos e, if_pos e]; exact Or.inl rfl
  · rw [if_neg e, if_neg e]
    by_cases e2 : 12 < (tkP T i v dg).1
    · rw [if_pos e2]; exact Or.inr ⟨rfl, by omega⟩
    · rw [if_neg e2]
      left
      have hm : 0 ≤ (bwc T i v dg 0 0 4).1 := ((bwc_in (i := i) (v := v) (dg := dg) hK (fr := 0) (la := 0) (a := 4) (by omega) (by omega)).1).1
      have hs : (bShl 1 ((tkP T i v dg).1 - 1)).toNat = 2 ^ ((tkP T i v dg).1 - 1).toNat := by
        unfold bShl
        rw [Int.one_mul, Int.toNat_natCast]
      rw [hs]
      refine (lb_min hm _ (fun w hw9 => ?_)).2 ?_
      · have k := dm_low hoff hw hwd.2.2.1 (ways := (w : Int)) (tkP T i v dg).1.toNat 1 0 0 4 0 (by omega) (by omega) (by omega) (by omega) (by omega)
        rw [show min 0 (dpZ T i) = 0 by omega] at k
        show DM _ _ _ _ _ _ _ _ = -1 ∨ _
        unfold DM
        rw [show ((tkP T i v dg).1 + 1 - 1).toNat = (tkP T i v dg).1.toNat by omega]
        unfold bwc
        rcases k with k | k
        · exact Or.inl k
        · exact Or.inr (by omega)
      · obtain ⟨bt, hbt⟩ := dm_hit hoff hw hwd.2.2.1 (tkP T i v dg).1.toNat 0 0 4 (by omega) (by omega) (by omega) (by omega)
        obtain ⟨w, h1, h2⟩ := bits_of bt ((tkP T i v dg).1 - 1).toNat
        refine ⟨w, h1, ?_⟩
        have k := hbt (w : Int) (fun t a b => h2 t (by omega) (by omega)) 0
        rw [show min 0 (dpZ T i) = 0 by omega] at k
        show DM _ _ _ _ _ _ _ _ = _
        unfold DM
        rw [show ((tkP T i v dg).1 + 1 - 1).toNat = ((tkP T i v dg).1 - 0).toNat by omega]
        unfold bwc
        rw [show (0 : Int) + 1 = 1 by omega] at k
        rw [k]
        omega
theorem ld_pos (hK : TK T) (h : 0 < (tkP T i v dg).1) : 0 < LDz T v dg i := by
  have hwd := wd_in (i := i) hK
  obtain ⟨hO, -⟩ := tkP_O (i := i) (v := v) (dg := dg) hK
  have hw : ∀ (wz fr to : Int), wz = nwZ T i (T 16 0 0 0) ∨ wz = wdZ T i (T 16 0 0 0) → -100000 ≤ jLk (tkP T i v dg).2.2.2.1 (tkP T i v dg).2.2.2.2 (tkP T i v dg).2.2.1 fr to wz := by
    intro wz fr to h
    have := jLk_tk (i := i) (v := v) (dg := dg) hK (wz := wz) (fr := fr) (to := to) (by omega)
    omega
  obtain ⟨⟨e, g1, g2, g3, g4⟩, -⟩ := BW_best (fun fr to to' wz h1 h2 h3 h4 h5 => ok_off hO h1 h2 h3 h4 h5) hw hwd.2.2.1 (a := 4) (la := 0) (fr := 0) (by omega) h (by omega)
  have hb := (bwc_in (i := i) (v := v) (dg := dg) hK (fr := e) (la := min (0 + 1) (dpZ T i)) (a := clZ (tkP T i v dg).2.2.1 (tkP T i v dg).2.2.2.1 (tkP T i v dg).2.2.2.2 (tkP T i v dg).1 (if 0 < dpZ T i then nwZ T i (T 16 0 0 0) else wdZ T i (T 16 0 0 0)) 0 e) (by omega) (by omega)).1.1
  unfold bwc at hb
  have q1 := own_nn (sdZ (tkP T i v dg).2.2.1 (tkP T i v dg).2.2.2.1 (tkP T i v dg).2.2.2.2 (tkP T i v dg).1 (if 0 < dpZ T i then nwZ T i (T 16 0 0 0) else wdZ T i (T 16 0 0 0)) 0 e) ((tkP T i v dg).2.2.1 e) (jSp_nn _ _ _ _)
  have q2 := pn_nn (clZ (tkP T i v dg).2.2.1 (tkP T i v dg).2.2.2.1 (tkP T i v dg).2.2.2.2 (tkP T i v dg).1 (if 0 < dpZ T i then nwZ T i (T 16 0 0 0) else wdZ T i (T 16 0 0 0)) 0 e) 4 ((tkP T i v dg).2.2.1 0) ((tkP T i v dg).2.2.1 e)
  unfold LDz bwc
  rw [if_neg (by omega), g4]
  unfold stc
  omega
end BEST2

end
