section
/-- what acts have brought about: blocks, words, letters, notes, terms -/
def bdW (T : Nat → Int → Int → Int → Int) (i j : Int) : Int := 1 + T 4 i j 0 + (if T 7 i j 0 = -1 then 0 else 1) + (if T 7 i j 3 = -1 then 0 else 1)
def bdB (T : Nat → Int → Int → Int → Int) (i : Int) : Int := 1 + smZ (bdW T i) 0 (Int.toNat (T 3 i 0 0))
def BUD (T : Nat → Int → Int → Int → Int) (K : Nat → Int → Int) : Int := smZ (bdB T) 0 (Int.toNat (T 0 0 0 0)) + (K 0 0 + (if K 2 0 = -1 then 0 else 1) + (if K 2 3 = -1 then 0 else 1))
/-- a press after n acts -/
def GOOD (T : Nat → Int → Int → Int → Int) (K : Nat → Int → Int) (n : Int) : Prop := TK T ∧ KK T K ∧ (∀ j : Int, j < 0 ∨ 5 < j → K 1 j = 0) ∧ BUD T K ≤ n
def NFR (T : Nat → Int → Int → Int → Int) (K : Nat → Int → Int) (nf : Int → Int) : Prop := nf 0 = T 0 0 0 0 ∧ nf 1 = K 0 0 ∧ nf 2 = T 12 0 0 0 ∧ nf 3 = T 18 0 0 0
section GOOD1
variable {T : Nat → Int → Int → Int → Int} {K : Nat → Int → Int} {n xx : Int} {nf nf2 : Int → Int}
theorem GOOD_ok (h : GOOD T K n) (hn : n ≤ 50) : OKT T K ∧ TOLD T 0 ∧ TOLD T 1 := sorry
theorem GOOD_step (h : GOOD T K n) (hx : 0 ≤ xx ∧ xx ≤ 2147483647) : GOOD (acZ T K xx).1 (acZ T K xx).2.1 (n + 1) := sorry
theorem GOOD_0 : GOOD T00 K00 0 := sorry
theorem acZ_in (h : GOOD T K n) (hx : 0 ≤ xx ∧ xx ≤ 2147483647) : -2147483648 ≤ (acZ T K xx).2.2 ∧ (acZ T K xx).2.2 < 2147483648 := sorry
theorem NF_step (h : GOOD T K n) (hx : 0 ≤ xx ∧ xx ≤ 2147483647) (hf : NFR T K nf) (h0 : nf2 0 = (acZ T K xx).1 0 0 0 0) (h1 : nf2 1 = kp2 nf xx (acZ T K xx).2.2) (h2 : nf2 2 = nf 2 + kp3 xx (acZ T K xx).2.2) (h3 : nf2 3 = nf 3 + kpP xx (acZ T K xx).2.2) : NFR (acZ T K xx).1 (acZ T K xx).2.1 nf2 := sorry
theorem NF_in (h : GOOD T K n) (hf : NFR T K nf) : (0 ≤ nf 1 ∧ nf 1 ≤ 6) ∧ (0 ≤ nf 2 ∧ nf 2 ≤ 5) ∧ (0 ≤ nf 3 ∧ nf 3 ≤ 8) := sorry
end GOOD1

end
