section
section GOOD1
variable {T : Nat → Int → Int → Int → Int} {K : Nat → Int → Int} {n xx : Int} {nf nf2 : Int → Int}
theorem GOOD_ok (h : GOOD T K n) (hn : n ≤ 50) : OKT T K ∧ TOLD T 0 ∧ TOLD T 1 := sorry
end GOOD1

end
