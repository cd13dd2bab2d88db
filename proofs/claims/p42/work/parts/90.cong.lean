section
section CG1
variable {fg fw fo gg gw go : Int → Int} {n wd nw dp wz la fr to : Int}
/-- the same places, up to n -/
def SPl (n : Int) (fg fw fo gg gw go : Int → Int) : Prop := ∀ j, 0 ≤ j → j ≤ n → fg j = gg j ∧ fw j = gw j ∧ fo j = go j
theorem jLk_cg (h : SPl n fg fw fo gg gw go) (h1 : 0 ≤ fr ∧ fr < to ∧ to ≤ n) : jLk fw fo fg fr to wz = jLk gw go gg fr to wz := by
  unfold jLk
  rw [(h to (by omega) (by omega)).2.1, (h fr (by omega) (by omega)).2.1, (h (to - 1) (by omega) (by omega)).2.2, (h fr (by omega) (by omega)).2.2, (h to (by omega) (by omega)).1]
theorem fo_cg (h : SPl n fg fw fo gg gw go) (h1 : 0 ≤ fr ∧ fr < to ∧ to ≤ n) : fo (to - 1) - fo fr = go (to - 1) - go fr := by
  rw [(h (to - 1) (by omega) (by omega)).2.2, (h fr (by omega) (by omega)).2.2]
theorem clZ_cg (h : SPl n fg fw fo gg gw go) (h1 : 0 ≤ fr ∧ fr < to ∧ to ≤ n) : clZ fg fw fo n wz fr to = clZ gg gw go n wz fr to := by
  unfold clZ
  rw [jLk_cg h h1, fo_cg h h1]
theorem sdZ_cg (h : SPl n fg fw fo gg gw go) (h1 : 0 ≤ fr ∧ fr < to ∧ to ≤ n) : sdZ fg fw fo n wz fr to = sdZ gg gw go n wz fr to := by
  unfold sdZ
  rw [jLk_cg h h1, fo_cg h h1]
theorem okZ_cg (h : SPl n fg fw fo gg gw go) (h1 : 0 ≤ fr ∧ fr < to ∧ to ≤ n) : okZ fg fw fo wz fr to ↔ okZ gg gw go wz fr to := by
  unfold okZ
  rw [jLk_cg h h1, fo_cg h h1]
theorem okC_cg (h : SPl n fg fw fo gg gw go) (h0 : 0 ≤ fr) : ∀ (f : Nat) (t : Int), fr < t → t + f ≤ n + 1 → okC fg fw fo wz fr f t = okC gg gw go wz fr f t
  | 0, _, _, _ => rfl
  | f + 1, t, h1, h2 => by
    simp only [okC]
    have e := okZ_cg (wz := wz) h (fr := fr) (to := t) (by omega)
    rw [okC_cg h h0 f (t + 1) (by omega) (by omega)]
    by_cases q : okZ fg fw fo wz fr t
    · rw [if_pos q, if_pos (e.mp q)]
    · rw [if_neg q, if_neg (fun z => q (e.mpr z))]
theorem enS_cg {X Y X' Y' : Int → Int → Int → Int} {e0 : Int → Int × Int × Int} {a : Int} (h : SPl n fg fw fo gg gw go) (h0 : 0 ≤ fr) (hla : 0 ≤ la ∧ la ≤ dp) : ∀ k : Nat, fr + k ≤ n → (∀ t u c : Int, fr < t → t ≤ n → 0 ≤ u → u ≤ dp → 0 ≤ c → c ≤ 3 → X t u c = X' t u c ∧ Y t u c = Y' t u c) →
    enS fg fw fo X Y n wz dp la fr e0 k a = enS gg gw go X' Y' n wz dp la fr e0 k a
  | 0, _, _ => rfl
  | k + 1, hk, hx => by
    have ih := enS_cg (e0 := e0) (a := a) h h0 hla k (by omega) hx
    have ht : 0 ≤ fr ∧ fr < fr + 1 + (k : Int) ∧ fr + 1 + (k : Int) ≤ n := by omega
    have hc := jCl_in (jLk gw go gg fr (fr + 1 + k) wz) (go (fr + 1 + k - 1) - go fr) (fr + 1 + k) n
    have h2 := hx (fr + 1 + k) (min (la + 1) dp) (clZ gg gw go n wz fr (fr + 1 + k)) (by omega) (by omega) (by omega) (by omega) hc.1 hc.2
    simp only [enS]
    rw [ih, clZ_cg h ht, sdZ_cg h ht, (h (fr + 1 + (k : Int)) (by omega) (by omega)).1, (h fr (by omega) (by omega)).1, h2.1, h2.2]
theorem BW_cg (h : SPl n fg fw fo gg gw go) : ∀ (k : Nat) (fr la a : Int), n - fr = k → 0 ≤ fr → 0 ≤ la → la ≤ dp → BW fg fw fo n wd nw dp fr la a = BW gg gw go n wd nw dp fr la a := by
  intro k
  induction k using Nat.strongRecOn with
  | ind k ih =>
    intro fr la a h1 h0 h2 h3
    by_cases e : k = 0
    · subst e
      have : fr = n := by omega
      subst this
      rw [BW_n, BW_n]
    · rw [BW_s (by omega) ⟨h2, h3⟩, BW_s (by omega) ⟨h2, h3⟩, okC_cg h h0 (n - fr).toNat (fr + 1) (by omega) (by omega)]
      have hl := okC_le (fg := gg) (fw := gw) (fo := go) (fr := fr) (wz := (if la < dp then nw else wd)) (n - fr).toNat (fr + 1)
      refine enS_cg h h0 ⟨h2, h3⟩ _ (by omega) (fun t u c g1 g2 g3 g4 _ _ => ?_)
      rw [ih (n - t).toNat (by omega) t u c (by omega) (by omega) g3 g4]
      exact ⟨rfl, rfl⟩
theorem dmF_cg {ways : Int} (h : SPl n fg fw fo gg gw go) : ∀ (f : Nat) (to fr li ah sum : Int), 0 ≤ fr → fr < to → to + f ≤ n + 1 → dmF fg fw fo n wd nw dp ways f to fr li ah sum = dmF gg gw go n wd nw dp ways f to fr li ah sum
  | 0, _, _, _, _, _, _, _, _ => rfl
  | f + 1, to, fr, li, ah, sum, h0, h1, h2 => by
    have ht : 0 ≤ fr ∧ fr < to ∧ to ≤ n := by omega
    simp only [dmF]
    have e := okZ_cg (wz := (if li < dp then nw else wd)) h ht
    rw [clZ_cg h ht, sdZ_cg h ht, (h to (by omega) (by omega)).1, (h fr (by omega) (by omega)).1, dmF_cg h f (to + 1) fr li ah sum h0 (by omega) (by omega)]
    by_cases q0 : to < n ∧ bAnd (bShr ways (to - 1)) 1 = 0
    · rw [if_pos q0, if_pos q0]
    · rw [if_neg q0, if_neg q0]
      by_cases q : okZ fg fw fo (if li < dp then nw else wd) fr to
      · rw [if_pos q, if_pos (e.mp q)]
        exact dmF_cg h f (to + 1) to (li + 1) _ _ (by omega) (by omega) (by omega)
      · rw [if_neg q, if_neg (fun z => q (e.mpr z))]
theorem DM_cg {ways : Int} (h : SPl n fg fw fo gg gw go) (hn : 0 ≤ n) : DM fg fw fo n wd nw dp ways = DM gg gw go n wd nw dp ways := dmF_cg h _ 1 0 0 4 0 (by omega) (by omega) (by omega)
theorem AgP_SPl {fa : Int → Int} {s : P5} (h : AgP n fa fg fw fo s) : SPl n fg fw fo s.2.2.1 s.2.2.2.1 s.2.2.2.2 := fun j a b => (h.2 j a b).2
end CG1

end
