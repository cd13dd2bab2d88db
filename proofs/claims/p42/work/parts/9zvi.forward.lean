section
section FWD
variable {T : Nat → Int → Int → Int → Int} {M S S' : Nat → Int → Int} {ro wt lf : Int}
/-- what holds of the states all along, with their number bounded -/
def FIS (T : Nat → Int → Int → Int → Int) (M S : Nat → Int → Int) : Prop := SW S ∧ DST S ∧ WVS T M S ∧ Z5 S
theorem FIS_RM (h : FIS T M S) : RM M S := fun j h1 h2 => (h.2.2.1 j h1 h2).2.2.2
theorem smZ_1000 (hM : MK M) (n : Nat) : 0 ≤ smZ (M 4) 0 n ∧ smZ (M 4) 0 n ≤ 1000 * n := smZ_bd (fun i => MK_4 hM i) n
theorem FIS_re (hK : TK T) (hM : MK M) (hB : BND T M ≤ 131072) (h : FIS T M S) (hw : SUF T M ro wt) (hl : 0 ≤ lf ∧ lf ≤ smZ (M 4) 0 (Int.toNat ro)) (hr : 0 ≤ ro ∧ ro < M 0 0) : FIS T M (reS S ro wt lf) := by
  have h0 := SW_n h.1
  have hm := MK_cnt hM
  have h1000 := smZ_1000 hM (Int.toNat ro)
  by_cases e : fnZ S ro wt lf ≠ -1 ∧ S 3 (fnZ S ro wt lf) = wt ∧ S 4 (fnZ S ro wt lf) = lf
  · rw [re_has e.1 e.2.1 e.2.2]; exact h
  · have z := Z5_re (S := S) (r2 := ro) (wt := wt) (lf := lf) h.2.2.2
    rw [re_pu e] at z ⊢
    have d := DST_pu h.1 h.2.1 e
    have v := WVS_pu h0.1 h.2.2.1 hw hl hr
    have c := st_cnt hK hM d v
    rw [pu_0] at c
    exact ⟨SW_pu h.1 (by omega) (by omega) ⟨hw.1, SUF_32 hM hw⟩ (by omega), d, v, z⟩
theorem pgY_in (hM : MK M) {n : Int} (hr : 0 ≤ ro) (hn : 0 ≤ n ∧ n ≤ 768) (hl : 0 ≤ lf ∧ lf ≤ smZ (M 4) 0 (Int.toNat ro)) : 0 ≤ pgY T M ro wt lf n ∧ pgY T M ro wt lf n ≤ smZ (M 4) 0 (Int.toNat (ro + n)) := by
  have hs := pgS_in (ro := ro) hM hn
  have e := smZ_add (M 4) 0 (Int.toNat ro) (Int.toNat n)
  rw [show Int.toNat ro + Int.toNat n = Int.toNat (ro + n) by omega, show (0 : Int) + ((Int.toNat ro : Nat) : Int) = ro by omega] at e
  have e2 : pgS M ro n = smZ (M 4) ro (Int.toNat n) := rfl
  show 0 ≤ (lf + pgS M ro n) - clN T (pgH T M ro wt n) lf (pgS M ro n) ∧ (lf + pgS M ro n) - clN T (pgH T M ro wt n) lf (pgS M ro n) ≤ _
  unfold clN
  split <;> omega
theorem rf_FI (hK : TK T) (hM : MK M) (hS : SRT M) (hB : BND T M ≤ 131072) (hr : 0 ≤ ro) (hw : SUF T M ro wt) (hl : 0 ≤ lf ∧ lf ≤ smZ (M 4) 0 (Int.toNat ro)) : ∀ (f : Nat) (n : Int) (S : Nat → Int → Int), 0 ≤ n → FIS T M S → FIS T M (rfF T M ro wt lf f n S)
  | 0, n, S, _, h => h
  | f + 1, n, S, hn, h => by
    have hm := MK_cnt hM
    simp only [rfF]
    split
    · exact h
    · split
      · exact h
      · split
        · exact h
        · by_cases e : pgE T M ro wt lf (n + 1) ∧ ro + (n + 1) < M 0 0
          · rw [if_pos e]
            exact rf_FI hK hM hS hB hr hw hl f (n + 1) _ (by omega) (FIS_re hK hM hB h (SUF_wa hM (SUF_x hK hM hS hw (by omega))) (pgY_in hM hr (by omega) hl) (by omega))
          · rw [if_neg e]
            exact rf_FI hK hM hS hB hr hw hl f (n + 1) S (by omega) h
theorem fwC_FI (hK : TK T) (hM : MK M) (hS : SRT M) (hB : BND T M ≤ 131072) (hr : 0 ≤ ro) : ∀ (f : Nat) (st : Int) (S : Nat → Int → Int), FIS T M S → (st = -1 ∨ (0 ≤ st ∧ st < S 0 0 ∧ S 8 st = ro)) → FIS T M (fwC T M ro f st S) ∧ ExS ro S (fwC T M ro f st S)
  | 0, st, S, h, _ => ⟨h, ExS_rf⟩
  | f + 1, st, S, h, hst => by
    simp only [fwC]
    split
    · exact ⟨h, ExS_rf⟩
    · obtain ⟨s1, s2, s3⟩ := (show 0 ≤ st ∧ st < S 0 0 ∧ S 8 st = ro by rcases hst with q | q; omega; exact q)
      obtain ⟨v1, v2, v3⟩ := h.2.2.1 st s1 s2
      rw [s3] at v1 v2
      have hn := SW_n h.1
      have a := rf_FI hK hM hS hB hr v1 v2 769 0 S (by omega) h
      have b := rf_all (T := T) (wt := S 3 st) (lf := S 4 st) hr hn.1 h.2.2.2 (FIS_RM h)
      have a2 : FIS T M (rfZ T M S ro (S 3 st) (S 4 st)) := a
      have x := SW_x a2.1 st s1 (by have := b.1.1; omega)
      have e8 := (b.1.2.1 st s1 s2).2.2.2
      have ih := fwC_FI hK hM hS hB hr f (rfZ T M S ro (S 3 st) (S 4 st) 2 st) (rfZ T M S ro (S 3 st) (S 4 st)) a2 (by
        by_cases q : rfZ T M S ro (S 3 st) (S 4 st) 2 st = -1
        · exact Or.inl q
        · have xr := SW_xr a2.1 st s1 (by have := b.1.1; omega) q
          exact Or.inr ⟨by omega, by have := b.1.1; omega, by rw [xr, e8, s3]⟩)
      exact ⟨ih.1, ExS_tr b.1 ih.2⟩
theorem fwA_FI (hK : TK T) (hM : MK M) (hS : SRT M) (hB : BND T M ≤ 131072) (h0 : 0 < M 0 0) : ∀ r : Nat, (r : Int) ≤ M 0 0 → FIS T M (fwA T M r) ∧ ∀ q : Int, 0 ≤ q → q ≤ r → q < M 0 0 → fwA T M r 1 q ≠ -1
  | 0, _ => by
    have f0 : FIS T M cS := ⟨SW_0, fun i j h1 h2 h3 => by have h4 : j < 0 := h3; omega, fun j h1 h2 => by have h4 : j < 0 := h2; omega, Z5_0⟩
    have e : fwA T M 0 = reS cS 0 0 0 := rfl
    rw [e]
    refine ⟨FIS_re hK hM hB f0 SUF_0 ⟨Int.le_refl 0, Int.le_refl 0⟩ ⟨Int.le_refl 0, h0⟩, fun q h1 h2 h3 => ?_⟩
    rw [show q = 0 by omega]
    exact re_ne SW_0
  | r + 1, hr => by
    obtain ⟨i1, i2⟩ := fwA_FI hK hM hS hB h0 r (by omega)
    have hn := SW_n i1.1
    have hne := i2 r (by omega) (Int.le_refl _) (by omega)
    have hf := SW_f i1.1 (r : Int)
    have hfr := SW_fr i1.1 (r : Int) hne
    have e : fwA T M (r + 1) = fwC T M (r : Int) (Int.toNat (fwA T M r 1 (r : Int) + 1)) (fwA T M r 1 (r : Int)) (fwA T M r) := rfl
    obtain ⟨k1, k2⟩ := fwC_FI hK hM hS hB (ro := (r : Int)) (by omega) (Int.toNat (fwA T M r 1 (r : Int) + 1)) (fwA T M r 1 (r : Int)) (fwA T M r) i1 (Or.inr ⟨by omega, hf.2, hfr⟩)
    rw [e]
    refine ⟨k1, fun q h1 h2 h3 => ?_⟩
    by_cases eq : q ≤ r
    · exact k2.2.2.2 q (i2 q h1 eq h3)
    · have eq2 : q = (r : Int) + 1 := by omega
      obtain ⟨m, hm⟩ : ∃ m : Nat, Int.toNat (fwA T M r 1 (r : Int) + 1) = m + 1 := ⟨Int.toNat (fwA T M r 1 (r : Int)), by omega⟩
      rw [hm]
      simp only [fwC]
      rw [if_neg hne]
      obtain ⟨v1, v2, v3⟩ := i1.2.2.1 (fwA T M r 1 (r : Int)) (by omega) hf.2
      rw [hfr] at v1 v2
      have hx := rf_next (T := T) (ro := (r : Int)) (wt := fwA T M r 3 (fwA T M r 1 (r : Int))) (lf := fwA T M r 4 (fwA T M r 1 (r : Int))) (by omega) (by omega) i1.1 i1.2.2.2 (FIS_RM i1)
      have a : FIS T M (rfZ T M (fwA T M r) (r : Int) (fwA T M r 3 (fwA T M r 1 (r : Int))) (fwA T M r 4 (fwA T M r 1 (r : Int)))) := rf_FI hK hM hS hB (by omega) v1 v2 769 0 _ (by omega) i1
      have b := rf_all (T := T) (ro := (r : Int)) (wt := fwA T M r 3 (fwA T M r 1 (r : Int))) (lf := fwA T M r 4 (fwA T M r 1 (r : Int))) (by omega) hn.1 i1.2.2.2 (FIS_RM i1)
      have x := SW_x a.1 (fwA T M r 1 (r : Int)) (by omega) (by have := b.1.1; omega)
      have e8 := (b.1.2.1 (fwA T M r 1 (r : Int)) (by omega) hf.2).2.2.2
      have k3 := fwC_FI hK hM hS hB (ro := (r : Int)) (by omega) m (rfZ T M (fwA T M r) (r : Int) (fwA T M r 3 (fwA T M r 1 (r : Int))) (fwA T M r 4 (fwA T M r 1 (r : Int))) 2 (fwA T M r 1 (r : Int))) _ a (by
        by_cases q9 : rfZ T M (fwA T M r) (r : Int) (fwA T M r 3 (fwA T M r 1 (r : Int))) (fwA T M r 4 (fwA T M r 1 (r : Int))) 2 (fwA T M r 1 (r : Int)) = -1
        · exact Or.inl q9
        · have xr := SW_xr a.1 (fwA T M r 1 (r : Int)) (by omega) (by have := b.1.1; omega) q9
          exact Or.inr ⟨by omega, by have := b.1.1; omega, by rw [xr, e8, hfr]⟩)
      rw [eq2]
      exact k3.2.2.2.2 ((r : Int) + 1) hx
end FWD

end
