section
section GOOD1
variable {T : Nat → Int → Int → Int → Int} {K : Nat → Int → Int} {n xx : Int} {nf nf2 : Int → Int}
theorem GOOD_ok (h : GOOD T K n) (hn : n ≤ 50) : OKT T K ∧ TOLD T 0 ∧ TOLD T 1 := by
  obtain ⟨hK, hKK, hKO, hb, hF⟩ := h
  have ro : ∀ v dg : Int, BND T (moC T v dg) ≤ 131072 ∧ 6 * moC T v dg 0 0 + smZ (moC T v dg 4) 0 (Int.toNat (moC T v dg 0 0)) ≤ 960 := fun v dg => rows_ok hK hKK (by omega)
  have hcap : CAP T := by
    intro v dg _ _ _ _
    have hM := (moC_in (v := v) (dg := dg) hK).1
    have hm := MK_cnt hM
    by_cases e : moC T v dg 0 0 = 0
    · rw [e]
      show reS cS 0 0 0 0 0 ≤ 131072
      decide
    · obtain ⟨f1, -⟩ := fwA_FI hK hM (SRT_mo hK) (ro v dg).1 (by omega) (Int.toNat (moC T v dg 0 0)) (by omega)
      exact (SW_n f1.1).2
  have hpg : ∀ v : Int, PgI (moC T v (dgN T v)) (mkZ T (moC T v (dgN T v))) := fun v => by
    have hM := (moC_in (v := v) (dg := dgN T v) hK).1
    refine pages_ok hK hM (SRT_mo hK) (fun q hq => ?_) (fun r a b => ?_) (ro v (dgN T v)).1 (ro v (dgN T v)).2
    · have k := mo_16 (v := v) (dg := dgN T v) hK (x := (q : Int)) (by omega) hq
      exact hF _ k.2.1 k.2.2
    · obtain ⟨x, -, -, -, -, -, -, k⟩ := moC_at (v := v) (dg := dgN T v) hK a b
      exact k
  have hQ : OKT T K := ⟨hK, hKK, hKO, hcap, fun v _ _ => hpg v⟩
  exact ⟨hQ, told_ok hQ (by omega), told_ok hQ (by omega)⟩
end GOOD1

end
