section
section KKL
variable {T T' : Nat → Int → Int → Int → Int} {K : Nat → Int → Int}
theorem KK_spell (hKK : KK T K) {le : Int} (h : (0 ≤ le ∧ le ≤ 3) ∧ K 0 0 < 6) : KK T (KKn (K 0 0 + 1) (uz (K 1) (K 0 0) le) (K 2)) := by
  have h0 := hKK.1
  refine ⟨(show 0 ≤ K 0 0 + 1 ∧ K 0 0 + 1 ≤ 6 by omega), fun j => ?_, hKK.2.2⟩
  show 0 ≤ uz (K 1) (K 0 0) le j ∧ uz (K 1) (K 0 0) le j ≤ 3
  unfold uz
  split
  · exact h.1
  · exact hKK.2.1 j
theorem KK_drop (hK : TK T) (hKK : KK T K) {n : Int} (h : 0 ≤ n ∧ n ≤ 6) : KK T (KKn n (K 1) (fun _ => -1)) := by
  have q := TK_fc hK
  exact ⟨h, hKK.2.1, fun _ => (show (-1 : Int) ≤ -1 ∧ (-1 : Int) ≤ 7 by decide), (show (-1 : Int) ≤ -1 ∧ (-1 : Int) ≤ 5 ∧ (-1 : Int) ≠ 0 by decide), (show (-1 : Int) < T 12 0 0 0 by omega), (show (-1 : Int) ≤ 5 by decide), (show (-1 : Int) ≤ 1 by decide)⟩
theorem KK_to (hKK : KK T K) (h : T 12 0 0 0 ≤ T' 12 0 0 0) : KK T' K := ⟨hKK.1, hKK.2.1, hKK.2.2.1, hKK.2.2.2.1, by have := hKK.2.2.2.2.1; omega, hKK.2.2.2.2.2⟩
theorem KO_spell (hKK : KK T K) (hKO : ∀ j : Int, j < 0 ∨ 5 < j → K 1 j = 0) {le : Int} (h : K 0 0 < 6) : ∀ j : Int, j < 0 ∨ 5 < j → uz (K 1) (K 0 0) le j = 0 := by
  intro j hj
  have h0 := hKK.1
  unfold uz
  rw [if_neg (by omega)]
  exact hKO j hj
theorem KK_mark (hK : TK T) (hKK : KK T K) {wt va : Int} (h : (0 ≤ wt ∧ wt ≤ 4) ∧ (va = -1 ∨ (lmZ wt ≤ va ∧ va ≤ mmZ T wt))) : KK T (KKn (K 0 0) (K 1) (uz (K 2) wt va)) := by
  have q1 := lmZ_in (a := wt)
  have q2 := mmZ_in hK (a := wt)
  have q3 := TK_fc hK
  refine ⟨hKK.1, hKK.2.1, fun j => ?_, ?_, ?_, ?_, ?_⟩
  · show -1 ≤ uz (K 2) wt va j ∧ uz (K 2) wt va j ≤ 7
    unfold uz
    split
    · omega
    · exact hKK.2.2.1 j
  · show -1 ≤ uz (K 2) wt va 0 ∧ uz (K 2) wt va 0 ≤ 5 ∧ uz (K 2) wt va 0 ≠ 0
    unfold uz
    split
    · rename_i e
      rw [← e] at h
      simp only [lmZ, mmZ, if_true] at h
      omega
    · exact hKK.2.2.2.1
  · show uz (K 2) wt va 1 < T 12 0 0 0
    unfold uz
    split
    · rename_i e
      rw [← e] at h
      have h3 : va = -1 ∨ (lmZ 1 ≤ va ∧ va ≤ T 12 0 0 0 - 1) := h.2
      omega
    · exact hKK.2.2.2.2.1
  · show uz (K 2) wt va 2 ≤ 5
    unfold uz
    split
    · rename_i e
      rw [← e] at h
      have h3 : va = -1 ∨ (lmZ 2 ≤ va ∧ va ≤ 5) := h.2
      omega
    · exact hKK.2.2.2.2.2.1
  · show uz (K 2) wt va 4 ≤ 1
    unfold uz
    split
    · rename_i e
      rw [← e] at h
      have h3 : va = -1 ∨ (lmZ 4 ≤ va ∧ va ≤ 1) := h.2
      omega
    · exact hKK.2.2.2.2.2.2
end KKL

end
