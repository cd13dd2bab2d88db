section
section BWD
variable {T : Nat → Int → Int → Int → Int} {M S S' : Nat → Int → Int} {ro wt lf st : Int}
theorem ch_all (hK : TK T) : ∀ (f : Nat) (n : Int) (S : Nat → Int → Int), 0 ≤ n → S 8 st = ro → SG M S → (∀ i, 0 ≤ i → i < n → pgG M ro i) → SG M (chF T M ro wt lf st f n S) ∧ SE S (chF T M ro wt lf st f n S)
  | 0, n, S, _, _, h, _ => ⟨h, SE_rf⟩
  | f + 1, n, S, hn, h8, h, hg => by
    simp only [chF]
    split
    · exact ⟨h, SE_rf⟩
    · split
      · exact ⟨h, SE_rf⟩
      · rename_i g1
        split
        · exact ⟨h, SE_rf⟩
        · rename_i g2
          have hg2 : ∀ i, 0 ≤ i → i < n + 1 → pgG M ro i := fun i a b => by
            by_cases e : i = n
            · rw [e]; exact Classical.not_not.mp g1
            · exact hg i a (by omega)
          by_cases e : pgE T M ro wt lf (n + 1)
          · rw [if_pos e]
            have s1 := SG_we (T := T) (M := M) (S := S) (st := st) (n := n + 1) (nr := ro + (n + 1)) (cs := pgC T M ro wt lf (n + 1)) (wx := pgX T M ro wt lf (n + 1)) (ly := pgY T M ro wt lf (n + 1)) h (by omega) (by
              rw [h8]
              by_cases e1 : n + 1 = 1
              · exact Or.inl e1
              · exact Or.inr (sm_low (wt := wt) hK (by omega))) (fun i a b => by rw [h8]; exact hg2 i a b)
            have s2 := SE_we (T := T) (M := M) (S := S) (st := st) (n := n + 1) (nr := ro + (n + 1)) (cs := pgC T M ro wt lf (n + 1)) (wx := pgX T M ro wt lf (n + 1)) (ly := pgY T M ro wt lf (n + 1)) (by omega)
            have ih := ch_all hK f (n + 1) _ (by omega) (by rw [s2.1 8 (by omega) (by omega) (by omega)]; exact h8) s1 hg2
            exact ⟨ih.1, SE_tr s2 ih.2⟩
          · rw [if_neg e]
            exact ch_all hK f (n + 1) S (by omega) h8 h hg2
theorem ch_ne1 (hK : TK T) (h0 : 0 ≤ ro) (hr : ro < M 0 0) (h8 : S 8 st = ro) (h : SG M S) (f : Nat) : chF T M ro wt lf st (f + 1) 0 S 5 st ≠ 0 := by
  simp only [chF]
  rw [if_neg (by omega), if_neg (by simp only [pgG]; omega), if_neg (by omega), if_pos (by exact Or.inl (by omega))]
  have s1 := SG_we (T := T) (M := M) (S := S) (st := st) (n := 0 + 1) (nr := ro + (0 + 1)) (cs := pgC T M ro wt lf (0 + 1)) (wx := pgX T M ro wt lf (0 + 1)) (ly := pgY T M ro wt lf (0 + 1)) h (by omega) (Or.inl (by omega)) (fun i a b => by
    rw [h8, show i = 0 by omega]
    simp only [pgG]
    omega)
  have s2 := SE_we (T := T) (M := M) (S := S) (st := st) (n := 0 + 1) (nr := ro + (0 + 1)) (cs := pgC T M ro wt lf (0 + 1)) (wx := pgX T M ro wt lf (0 + 1)) (ly := pgY T M ro wt lf (0 + 1)) (by omega)
  have k := ch_all (T := T) (wt := wt) (lf := lf) (ro := ro) (st := st) hK f (0 + 1) _ (by omega) (by rw [s2.1 8 (by omega) (by omega) (by omega)]; exact h8) s1 (fun i a b => by
    rw [show i = 0 by omega]
    simp only [pgG]
    omega)
  exact k.2.2 st (we_ne (by omega))
theorem ch_ne (hK : TK T) (h0 : 0 ≤ ro) (hr : ro < M 0 0) (h8 : S 8 st = ro) (h : SG M S) : chZ T M S ro wt lf st 5 st ≠ 0 := ch_ne1 hK h0 hr h8 h 768
theorem bwC_all (hK : TK T) (h0 : 0 ≤ ro) (hr : ro < M 0 0) : ∀ (f : Nat) (st : Int) (S : Nat → Int → Int), SW S → SG M S → (st = -1 ∨ (0 ≤ st ∧ st < S 0 0 ∧ S 8 st = ro)) → st < f → SG M (bwC T M ro f st S) ∧ SE S (bwC T M ro f st S) ∧ ∀ j, 0 ≤ j → j ≤ st → S 8 j = ro → bwC T M ro f st S 5 j ≠ 0
  | 0, st, S, hW, h, hst, hf => ⟨h, SE_rf, fun j h1 h2 => by omega⟩
  | f + 1, st, S, hW, h, hst, hf => by
    simp only [bwC]
    split
    · exact ⟨h, SE_rf, fun j h1 h2 => by omega⟩
    · obtain ⟨s1, s2, s3⟩ := (show 0 ≤ st ∧ st < S 0 0 ∧ S 8 st = ro by rcases hst with q | q; omega; exact q)
      have c := ch_all (T := T) (M := M) (wt := S 3 st) (lf := S 4 st) (ro := ro) (st := st) hK 769 0 S (by omega) s3 h (fun i a b => by omega)
      have c2 : SG M (chZ T M S ro (S 3 st) (S 4 st) st) ∧ SE S (chZ T M S ro (S 3 st) (S 4 st) st) := c
      have cn := ch_ne (T := T) (wt := S 3 st) (lf := S 4 st) hK h0 hr s3 h
      have W2 := SW_SE hW c2.2
      have e0 := SE_0 c2.2
      have e2 : chZ T M S ro (S 3 st) (S 4 st) st 2 st = S 2 st := by rw [c2.2.1 2 (by omega) (by omega) (by omega)]
      have e8 : ∀ j, chZ T M S ro (S 3 st) (S 4 st) st 8 j = S 8 j := fun j => by rw [c2.2.1 8 (by omega) (by omega) (by omega)]
      have x := SW_x hW st s1 s2
      have ih := bwC_all hK h0 hr f (chZ T M S ro (S 3 st) (S 4 st) st 2 st) _ W2 c2.1 (by
        rw [e2]
        by_cases q : S 2 st = -1
        · exact Or.inl q
        · exact Or.inr ⟨by omega, by omega, by rw [e8, SW_xr hW st s1 s2 q, s3]⟩) (by rw [e2]; omega)
      refine ⟨ih.1, SE_tr c2.2 ih.2.1, fun j h1 h2 h3 => ?_⟩
      by_cases e : j = st
      · rw [e]; exact ih.2.1.2 st cn
      · have q := SW_c2 hW j st h1 (by omega) s2 (by rw [h3, s3])
        exact ih.2.2 j h1 (by rw [e2]; exact q) (by rw [e8]; exact h3)
theorem bwA_all (hK : TK T) (hW : SW S) (h : SG M S) : ∀ k : Nat, (k : Int) ≤ M 0 0 → SG M (bwA T M S k) ∧ SE S (bwA T M S k) ∧ ∀ j, 0 ≤ j → j < S 0 0 → S 8 j < M 0 0 → M 0 0 - k ≤ S 8 j → bwA T M S k 5 j ≠ 0
  | 0, _ => ⟨h, SE_rf, fun j h1 h2 h3 h4 => by omega⟩
  | k + 1, hk => by
    obtain ⟨i1, i2, i3⟩ := bwA_all hK hW h k (by omega)
    have W2 := SW_SE hW i2
    have hf := SW_f W2 (M 0 0 - 1 - (k : Int))
    have c := bwC_all (T := T) (M := M) (ro := M 0 0 - 1 - (k : Int)) hK (by omega) (by omega) (Int.toNat (bwA T M S k 1 (M 0 0 - 1 - (k : Int)) + 1)) (bwA T M S k 1 (M 0 0 - 1 - (k : Int))) (bwA T M S k) W2 i1 (by
      by_cases q : bwA T M S k 1 (M 0 0 - 1 - (k : Int)) = -1
      · exact Or.inl q
      · exact Or.inr ⟨by omega, hf.2, SW_fr W2 _ q⟩) (by omega)
    have e : bwA T M S (k + 1) = bwC T M (M 0 0 - 1 - (k : Int)) (Int.toNat (bwA T M S k 1 (M 0 0 - 1 - (k : Int)) + 1)) (bwA T M S k 1 (M 0 0 - 1 - (k : Int))) (bwA T M S k) := rfl
    rw [e]
    refine ⟨c.1, SE_tr i2 c.2.1, fun j h1 h2 h3 h4 => ?_⟩
    have e8 : bwA T M S k 8 j = S 8 j := by rw [i2.1 8 (by omega) (by omega) (by omega)]
    by_cases q : S 8 j = M 0 0 - 1 - (k : Int)
    · have c1 := SW_c1 W2 j h1 (by rw [SE_0 i2]; exact h2)
      rw [e8, q] at c1
      exact c.2.2 j h1 c1 (by rw [e8]; exact q)
    · exact c.2.1.2 j (i3 j h1 h2 h3 (by omega))
end BWD

end
