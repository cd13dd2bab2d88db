section
section FA1
variable {T : Nat → Int → Int → Int → Int} {Q Q' : Nat → Int → Int} {LC : Int → Int} {v hn tn i lc dg : Int}
/-- rows of a run: block, index from its beginning, a height at least -/
def RuN (Q : Nat → Int → Int) (b n x : Int) : Prop := ∀ r, b ≤ r → r < b + n → Q 2 r = x ∧ Q 3 r = r - b ∧ 1 ≤ Q 1 r
/-- nothing ahead has changed -/
def AhD (Q Q' : Nat → Int → Int) : Prop := ∀ r, r < Q 0 0 → Q' 1 r = Q 1 r ∧ Q' 2 r = Q 2 r ∧ Q' 3 r = Q 3 r
theorem ar_run {pl n hg : Int} (h : 1 ≤ hg) : RuN (arQ Q pl n hg) (Q 0 0) n pl ∧ AhD Q (arQ Q pl n hg) := by
  refine ⟨fun r a b => ?_, fun r a => ?_⟩
  · show fil (Q 2) (Q 0 0) n pl r = pl ∧ ixF (Q 3) (Q 0 0) n r = r - Q 0 0 ∧ 1 ≤ fil (Q 1) (Q 0 0) n hg r
    rw [fil_in ⟨a, b⟩, fil_in ⟨a, b⟩]
    exact ⟨rfl, if_pos ⟨a, b⟩, h⟩
  · show fil (Q 1) (Q 0 0) n hg r = Q 1 r ∧ fil (Q 2) (Q 0 0) n pl r = Q 2 r ∧ ixF (Q 3) (Q 0 0) n r = Q 3 r
    rw [fil_out (by omega), fil_out (by omega)]
    exact ⟨rfl, rfl, if_neg (by omega)⟩
theorem at_run : ∀ n : Nat, RuN (atQ T Q i n) (Q 0 0) n i ∧ AhD Q (atQ T Q i n)
  | 0 => ⟨fun r a b => by omega, fun r a => ⟨rfl, rfl, rfl⟩⟩
  | n + 1 => by
    obtain ⟨h1, h2⟩ := at_run n
    have e := at_0 (T := T) (Q := Q) (i := i) (q := (n : Int)) (by omega)
    rw [show Int.toNat ((n : Nat) : Int) = n by omega] at e
    have hh : 1 ≤ htT T i (n : Int) := by
      unfold htT
      have : ∀ k : Nat, 1 ≤ htZ (fun j9 : Int => T 9 i j9 0) (fun j9 : Int => T 11 i j9 0) (fitZ (msW (fun j9 : Int => T 9 i j9 0) (fun j9 : Int => T 10 i j9 0) 3) (msW (fun j9 : Int => T 9 i j9 0) (fun j9 : Int => T 11 i j9 0) 3) (T 16 0 0 0)) (n : Int) k := by
        intro k
        induction k with
        | zero => simp only [htZ]; omega
        | succ k ih =>
          simp only [htZ]
          split
          · omega
          · exact ih
      exact this 3
    refine ⟨fun r a b => ?_, fun r a => ?_⟩
    · show uz (atQ T Q i n 2) (atQ T Q i n 0 0) i r = i ∧ uz (atQ T Q i n 3) (atQ T Q i n 0 0) (n : Int) r = r - Q 0 0 ∧ 1 ≤ uz (atQ T Q i n 1) (atQ T Q i n 0 0) (htT T i (n : Int)) r
      by_cases e2 : r = atQ T Q i n 0 0
      · rw [e2, uz_s, uz_s, uz_s]; exact ⟨rfl, by omega, hh⟩
      · rw [uz_n e2, uz_n e2, uz_n e2]; exact h1 r a (by omega)
    · show uz (atQ T Q i n 1) (atQ T Q i n 0 0) (htT T i (n : Int)) r = Q 1 r ∧ uz (atQ T Q i n 2) (atQ T Q i n 0 0) i r = Q 2 r ∧ uz (atQ T Q i n 3) (atQ T Q i n 0 0) (n : Int) r = Q 3 r
      rw [uz_n (by omega), uz_n (by omega), uz_n (by omega)]
      exact h2 r a
theorem AhD_rf : AhD Q Q := fun _ _ => ⟨rfl, rfl, rfl⟩
theorem ab_run : RuN (abQ T Q i lc hn tn) (Q 0 0) (nrZ T i lc hn tn) i ∧ AhD Q (abQ T Q i lc hn tn) := by
  have hz : ∀ Q' : Nat → Int → Int, RuN Q' (Q 0 0) 0 i := fun Q' r a b => by omega
  have hr := rcZ_in (f := fun j9 : Int => T 9 i j9 0) 12 (by omega)
  unfold abQ nrZ
  split
  · exact ar_run (by omega)
  · split
    · exact ar_run (by omega)
    · split
      · exact ar_run (by omega)
      · split
        · split
          · exact ⟨hz _, fun r a => ⟨rfl, rfl, rfl⟩⟩
          · exact ⟨hz _, AhD_rf⟩
        · split
          · exact ar_run (by omega)
          · split
            · exact ar_run (by omega)
            · have h := at_run (T := T) (Q := Q) (i := i) (Int.toNat (rcT T i))
              rw [show ((Int.toNat (rcT T i) : Nat) : Int) = rcT T i by have : 0 ≤ rcT T i := hr.1; omega] at h
              exact h
theorem rw_run : RuN (rwQ T v Q LC hn tn i) (Q 0 0) (if thB T i v then nrZ T i (LC i) hn tn else 0) i ∧ AhD Q (rwQ T v Q LC hn tn i) := by
  unfold rwQ
  split
  · exact ab_run
  · exact ⟨fun r a b => by omega, AhD_rf⟩
/-- how the rows of all blocks lie: each block's rows stand behind those ahead -/
def RwS (Q : Nat → Int → Int) (i : Int) : Prop :=
  (∀ x, 0 ≤ x → x < i → RuN Q (Q 7 x) (Q 8 x) x) ∧ (∀ x, 0 ≤ x → x < i → Q 7 x + Q 8 x = (if x + 1 < i then Q 7 (x + 1) else Q 0 0)) ∧ (0 < i → Q 7 0 = 0) ∧ (i ≤ 0 → Q 0 0 = 0)
theorem rwB_st {q : Int} (hl : ∀ x, 0 ≤ x → x < q → 0 ≤ LC x ∧ LC x ≤ 48) (hn' : 0 ≤ hn ∧ hn ≤ 16) (ht : 0 ≤ tn ∧ tn ≤ 8) : ∀ n : Nat, (n : Int) ≤ q → RwS (rwB T v LC hn tn n) n
  | 0, _ => ⟨fun x a b => by omega, fun x a b => by omega, fun a => by omega, fun _ => rfl⟩
  | n + 1, h => by
    obtain ⟨h1, h2, h3, h4⟩ := rwB_st hl hn' ht n (by omega)
    obtain ⟨⟨i1, i2⟩, -, i3⟩ := rwB_in (T := T) (v := v) hl hn' ht n (by omega)
    have hr := rcZ_in (f := fun j9 : Int => T 9 (n : Int) j9 0) 12 (by omega)
    obtain ⟨r1, r2⟩ := rw_run (T := T) (v := v) (Q := rwB T v LC hn tn n) (LC := LC) (hn := hn) (tn := tn) (i := (n : Int))
    have e0 := rwQ_0 (T := T) (v := v) (Q := rwB T v LC hn tn n) (LC := LC) (hn := hn) (tn := tn) (i := (n : Int)) hr.1
    have e00 : rwB T v LC hn tn (n + 1) 0 0 = rwQ T v (rwB T v LC hn tn n) LC hn tn (n : Int) 0 0 := rfl
    have e7 : ∀ x, rwB T v LC hn tn (n + 1) 7 x = uz (rwB T v LC hn tn n 7) (n : Int) (rwB T v LC hn tn n 0 0) x := fun x => by
      show uz (rwQ T v (rwB T v LC hn tn n) LC hn tn (n : Int) 7) (n : Int) (rwB T v LC hn tn n 0 0) x = _
      rw [rwQ_c (by omega)]
    have e8 : ∀ x, rwB T v LC hn tn (n + 1) 8 x = uz (rwB T v LC hn tn n 8) (n : Int) (rwQ T v (rwB T v LC hn tn n) LC hn tn (n : Int) 0 0 - rwB T v LC hn tn n 0 0) x := fun x => by
      show uz (rwQ T v (rwB T v LC hn tn n) LC hn tn (n : Int) 8) (n : Int) (rwQ T v (rwB T v LC hn tn n) LC hn tn (n : Int) 0 0 - rwB T v LC hn tn n 0 0) x = _
      rw [rwQ_c (by omega)]
    have ec : ∀ c : Nat, c ≠ 7 → c ≠ 8 → rwB T v LC hn tn (n + 1) c = rwQ T v (rwB T v LC hn tn n) LC hn tn (n : Int) c := fun c a b => by
      funext x
      simp only [rwB, seP]
      rw [if_neg b, if_neg a]
    refine ⟨fun x a b => ?_, fun x a b => ?_, fun _ => ?_, fun a => by omega⟩
    · rw [e7, e8]
      by_cases e : x = (n : Int)
      · rw [e, uz_s, uz_s]
        intro r g1 g2
        rw [ec 1 (by omega) (by omega), ec 2 (by omega) (by omega), ec 3 (by omega) (by omega)]
        exact r1 r g1 (by omega)
      · rw [uz_n e, uz_n e]
        intro r g1 g2
        have q := i3 x a (by omega)
        have w := r2 r (by omega)
        rw [ec 1 (by omega) (by omega), ec 2 (by omega) (by omega), ec 3 (by omega) (by omega), w.1, w.2.1, w.2.2]
        exact h1 x a (by omega) r g1 g2
    · rw [e00, e7, e8, e7]
      by_cases e : x = (n : Int)
      · rw [e, uz_s, uz_s, if_neg (by omega)]; omega
      · rw [uz_n e, uz_n e]
        have w := h2 x a (by omega)
        rw [w]
        by_cases e2 : x + 1 = (n : Int)
        · rw [e2, uz_s, if_neg (by omega), if_pos (by omega)]
        · rw [uz_n e2, if_pos (by omega), if_pos (by omega)]
    · rw [e7]
      by_cases e : (0 : Int) = (n : Int)
      · rw [← e, uz_s]
        exact h4 (by omega)
      · rw [uz_n e]; exact h3 (by omega)
/-- each row lies in a block -/
theorem RwS_ex (h : RwS Q i) (h8 : ∀ x, 0 ≤ x → x < i → 0 ≤ Q 8 x) : ∀ (n : Nat) (r : Int), (n : Int) < i → 0 ≤ r → r < Q 7 n + Q 8 n → ∃ x : Int, 0 ≤ x ∧ x ≤ n ∧ Q 7 x ≤ r ∧ r < Q 7 x + Q 8 x
  | 0, r, h1, h2, h3 => ⟨0, by omega, by omega, by have q := h.2.2.1 (by omega); show Q 7 0 ≤ r; omega, h3⟩
  | n + 1, r, h1, h2, h3 => by
    by_cases e : Q 7 ((n + 1 : Nat) : Int) ≤ r
    · exact ⟨((n + 1 : Nat) : Int), by omega, by omega, e, h3⟩
    · have w := h.2.1 (n : Int) (by omega) (by omega)
      rw [if_pos (by omega)] at w
      obtain ⟨x, a, b, c, d⟩ := RwS_ex h h8 n r (by omega) h2 (by rw [w]; have : (n : Int) + 1 = ((n + 1 : Nat) : Int) := by omega
                                                                  rw [this]; omega)
      exact ⟨x, a, by omega, c, d⟩
theorem RwS_at (h : RwS Q i) (h8 : ∀ x, 0 ≤ x → x < i → 0 ≤ Q 8 x) {r : Int} (h1 : 0 ≤ r) (h2 : r < Q 0 0) : ∃ x : Int, 0 ≤ x ∧ x < i ∧ Q 7 x ≤ r ∧ r < Q 7 x + Q 8 x ∧ Q 2 r = x ∧ Q 3 r = r - Q 7 x ∧ 1 ≤ Q 1 r := by
  have hi : 0 < i := by
    apply Int.lt_of_not_ge
    intro e
    have := h.2.2.2 e
    omega
  have w := h.2.1 (i - 1) (by omega) (by omega)
  rw [if_neg (by omega)] at w
  obtain ⟨x, a, b, c, d⟩ := RwS_ex h h8 (i - 1).toNat r (by omega) h1 (by rw [show (((i - 1).toNat : Nat) : Int) = i - 1 by omega]; omega)
  have q := h.1 x a (by omega) r c d
  exact ⟨x, a, by omega, c, d, q.1, q.2.1, q.2.2⟩
end FA1

end
