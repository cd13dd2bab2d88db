section
section STC
variable {T : Nat → Int → Int → Int → Int} {M S S' : Nat → Int → Int} {ro wt lf : Int} {f : Int → Int}
theorem smZ_add (f : Int → Int) (c : Int) (a : Nat) : ∀ b : Nat, smZ f c (a + b) = smZ f c a + smZ f (c + a) b
  | 0 => (Int.add_zero _).symm
  | b + 1 => by
    have e : smZ f c (a + (b + 1)) = smZ f c (a + b) + f (c + ((a + b : Nat) : Int)) := rfl
    rw [e, smZ_add f c a b]
    simp only [smZ]
    rw [show c + ((a + b : Nat) : Int) = c + a + b by omega]
    omega
/-- all states are different -/
def DST (S : Nat → Int → Int) : Prop := ∀ i j, 0 ≤ i → i < j → j < S 0 0 → ¬ (S 8 i = S 8 j ∧ S 3 i = S 3 j ∧ S 4 i = S 4 j)
/-- what waits and is left in a state can be -/
def WVS (T : Nat → Int → Int → Int → Int) (M S : Nat → Int → Int) : Prop := ∀ j, 0 ≤ j → j < S 0 0 → SUF T M (S 8 j) (S 3 j) ∧ (0 ≤ S 4 j ∧ S 4 j ≤ smZ (M 4) 0 (Int.toNat (S 8 j))) ∧ 0 ≤ S 8 j ∧ S 8 j < M 0 0
theorem fnL_find (hS : SW S) {j : Int} (hj : 0 ≤ j) (h3 : S 3 j = wt) (h4 : S 4 j = lf) : ∀ (f : Nat) (st : Int), j ≤ st → st < S 0 0 → S 8 st = S 8 j → st - j < f → fnL S wt lf f st ≠ -1
  | 0, st, h1, h2, h5, h6 => by omega
  | f + 1, st, h1, h2, h5, h6 => by
    simp only [fnL]
    rw [if_neg (by omega)]
    split
    · omega
    · rename_i g
      have hne : st ≠ j := by
        intro e
        rw [e] at g
        exact g ⟨h3, h4⟩
      have c2 := SW_c2 hS j st hj (by omega) h2 h5.symm
      have x := SW_x hS st (by omega) h2
      have xr := SW_xr hS st (by omega) h2 (by omega)
      exact fnL_find hS hj h3 h4 f (S 2 st) c2 (by omega) (by rw [xr, h5]) (by omega)
theorem fnZ_find (hS : SW S) {j : Int} (hj : 0 ≤ j) (hj2 : j < S 0 0) (h8 : S 8 j = ro) (h3 : S 3 j = wt) (h4 : S 4 j = lf) : fnZ S ro wt lf ≠ -1 ∧ S 3 (fnZ S ro wt lf) = wt ∧ S 4 (fnZ S ro wt lf) = lf := by
  have c1 := SW_c1 hS j hj hj2
  rw [h8] at c1
  have hf := SW_f hS ro
  have hfr := SW_fr hS ro (by omega)
  have k := fnL_find hS hj h3 h4 (S 0 0 + 1).toNat (S 1 ro) c1 hf.2 (by rw [hfr, h8]) (by omega)
  have i := fnL_in (wt := wt) (lf := lf) hS (S 0 0 + 1).toNat (S 1 ro) hf.1 hf.2
  unfold fnZ
  rw [if_neg k]
  exact ⟨k, (i.2 k).2⟩
theorem DST_pu (hS : SW S) (h : DST S) (hn : ¬ (fnZ S ro wt lf ≠ -1 ∧ S 3 (fnZ S ro wt lf) = wt ∧ S 4 (fnZ S ro wt lf) = lf)) : DST (puS S ro wt lf) := by
  have h0 := SW_n hS
  intro i j h1 h2 h3 hc
  rw [pu_0] at h3
  rw [pu_8, pu_8, pu_3, pu_3, pu_4, pu_4, uz_n (show i ≠ S 0 0 by omega), uz_n (show i ≠ S 0 0 by omega), uz_n (show i ≠ S 0 0 by omega)] at hc
  by_cases e : j = S 0 0
  · rw [e, uz_s, uz_s, uz_s] at hc
    exact hn (fnZ_find hS h1 (by omega) hc.1 hc.2.1 hc.2.2)
  · rw [uz_n e, uz_n e, uz_n e] at hc
    exact h i j h1 h2 (by omega) hc
theorem WVS_pu (h0 : 0 ≤ S 0 0) (h : WVS T M S) (hw : SUF T M ro wt) (hl : 0 ≤ lf ∧ lf ≤ smZ (M 4) 0 (Int.toNat ro)) (hr : 0 ≤ ro ∧ ro < M 0 0) : WVS T M (puS S ro wt lf) := by
  intro j h1 h2
  rw [pu_0] at h2
  rw [pu_8, pu_3, pu_4]
  by_cases e : j = S 0 0
  · rw [e, uz_s, uz_s, uz_s]; exact ⟨hw, hl, hr⟩
  · rw [uz_n e, uz_n e, uz_n e]; exact h j h1 (by omega)
/-- how many of a kind -/
def cnW (T : Nat → Int → Int → Int → Int) (M : Nat → Int → Int) (q : Int) (w : Int) : Nat → Nat
  | 0 => 0
  | n + 1 => cnW T M q w n + (if tb w n = true ∧ kdF T M n = q then 1 else 0)
def cnK (T : Nat → Int → Int → Int → Int) (M : Nat → Int → Int) (q : Int) : Nat → Nat
  | 0 => 0
  | n + 1 => cnK T M q n + (if kdF T M n = q then 1 else 0)
theorem cn_le {q w : Int} : ∀ n : Nat, cnW T M q w n ≤ cnK T M q n
  | 0 => Nat.le_refl 0
  | n + 1 => by
    have ih := cn_le (q := q) (w := w) n
    simp only [cnW, cnK]
    by_cases e : kdF T M n = q
    · rw [if_pos e]; split <;> omega
    · rw [if_neg e, if_neg (fun h => e h.2)]; omega
theorem cn_2 (hK : TK T) : ∀ n : Nat, cnK T M 0 n + cnK T M 1 n ≤ n
  | 0 => Nat.le_refl 0
  | n + 1 => by
    have ih := cn_2 hK n
    obtain ⟨q, hq, e⟩ := kd_nat (M := M) hK n
    simp only [cnK]
    rcases (show q = 0 ∨ q = 1 by omega) with rfl | rfl
    · have e2 : kdF T M n = 0 := e
      rw [if_pos e2, if_neg (by omega)]; omega
    · have e2 : kdF T M n = 1 := e
      rw [if_neg (by omega), if_pos e2]; omega
theorem cn_mono {q w w' : Int} : ∀ n : Nat, (∀ j, j < n → kdF T M j = q → tb w' j = true → tb w j = true) → cnW T M q w' n ≤ cnW T M q w n
  | 0, _ => Nat.le_refl 0
  | n + 1, h => by
    have ih := cn_mono (w := w) (w' := w') (q := q) n (fun j hj => h j (by omega))
    simp only [cnW]
    by_cases e : tb w' n = true ∧ kdF T M n = q
    · rw [if_pos e, if_pos ⟨h n (by omega) e.2 e.1, e.2⟩]; omega
    · rw [if_neg e]; omega
theorem cn_less {q w w' : Int} {k : Nat} (hk : kdF T M k = q) (h1 : tb w k = true) (h2 : tb w' k = false) : ∀ n : Nat, k < n → (∀ j, j < n → kdF T M j = q → tb w' j = true → tb w j = true) → cnW T M q w' n < cnW T M q w n
  | 0, hn, _ => by omega
  | n + 1, hn, h => by
    simp only [cnW]
    by_cases e : k = n
    · have ih := cn_mono (T := T) (M := M) (w := w) (w' := w') (q := q) n (fun j hj => h j (by omega))
      rw [← e, if_neg (fun g => by rw [h2] at g; exact absurd g.1 (by decide)), if_pos ⟨h1, hk⟩]
      rw [← e] at ih
      omega
    · have ih := cn_less hk h1 h2 n (by omega) (fun j hj => h j (by omega))
      by_cases e2 : tb w' n = true ∧ kdF T M n = q
      · rw [if_pos e2, if_pos ⟨h n (by omega) e2.2 e2.1, e2.2⟩]; omega
      · rw [if_neg e2]; omega
theorem SUF_less {r w w' : Int} (h : SUF T M r w) (h' : SUF T M r w') {k : Nat} (h1 : tb w k = true) (h2 : tb w' k = false) : cnW T M (kdF T M k) w' (Int.toNat (M 17 0)) < cnW T M (kdF T M k) w (Int.toNat (M 17 0)) := by
  have hk := h.2.1 k h1
  refine cn_less rfl h1 h2 _ (by omega) (fun j hj hkd hj1 => ?_)
  rcases Nat.lt_trichotomy j k with q | q | q
  · have := h'.2.2 j k q hk.1 hkd hk.2 hj1
    rw [h2] at this
    exact absurd this (by decide)
  · rw [q]; exact h1
  · exact h.2.2 k j q (by omega) hkd.symm (h'.2.1 j hj1).2 h1
theorem SUF_inj (hK : TK T) {r w w' : Int} (h : SUF T M r w) (h' : SUF T M r w') (e0 : cnW T M 0 w (Int.toNat (M 17 0)) = cnW T M 0 w' (Int.toNat (M 17 0))) (e1 : cnW T M 1 w (Int.toNat (M 17 0)) = cnW T M 1 w' (Int.toNat (M 17 0))) : w = w' := by
  refine tb_ext h.1 h'.1 (fun k => ?_)
  obtain ⟨q, hq, e⟩ := kd_nat (M := M) hK k
  cases a : tb w k with
  | true =>
    cases b : tb w' k with
    | true => rfl
    | false =>
      have := SUF_less h h' a b
      rw [e] at this
      rcases (show q = 0 ∨ q = 1 by omega) with rfl | rfl
      · rw [show ((0 : Nat) : Int) = 0 from rfl] at this; omega
      · rw [show ((1 : Nat) : Int) = 1 from rfl] at this; omega
  | false =>
    cases b : tb w' k with
    | false => rfl
    | true =>
      have := SUF_less h' h b a
      rw [e] at this
      rcases (show q = 0 ∨ q = 1 by omega) with rfl | rfl
      · rw [show ((0 : Nat) : Int) = 0 from rfl] at this; omega
      · rw [show ((1 : Nat) : Int) = 1 from rfl] at this; omega
theorem rad_lt {a b c A : Nat} (h1 : a < A) (h2 : c < b) : a * b + c < A * b := by
  have h3 : (a + 1) * b ≤ A * b := Nat.mul_le_mul_right b h1
  rw [Nat.succ_mul] at h3
  omega
theorem rad_inj {a a' b c c' : Nat} (h1 : c < b) (h2 : c' < b) (h : a * b + c = a' * b + c') : a = a' ∧ c = c' := by
  have e : ∀ x y : Nat, y < b → (x * b + y) / b = x := fun x y hy => by
    rw [Nat.mul_comm, Nat.mul_add_div (by omega), Nat.div_eq_of_lt hy, Nat.add_zero]
  have ea : a = a' := by rw [← e a c h1, ← e a' c' h2, h]
  refine ⟨ea, ?_⟩
  rw [ea] at h
  omega
/-- all that can be told apart -/
def BND (T : Nat → Int → Int → Int → Int) (M : Nat → Int → Int) : Nat := ((Int.toNat (M 0 0) * (Int.toNat (smZ (M 4) 0 (Int.toNat (M 0 0))) + 1)) * (cnK T M 0 (Int.toNat (M 17 0)) + 1)) * (cnK T M 1 (Int.toNat (M 17 0)) + 1)
theorem st_cnt (hK : TK T) (hM : MK M) (hd : DST S) (hv : WVS T M S) : S 0 0 ≤ (BND T M : Int) := by
  have hsm : ∀ r : Int, r < M 0 0 → smZ (M 4) 0 (Int.toNat r) ≤ smZ (M 4) 0 (Int.toNat (M 0 0)) := by
    intro r hr
    have e := smZ_add (M 4) 0 (Int.toNat r) (Int.toNat (M 0 0) - Int.toNat r)
    rw [show Int.toNat r + (Int.toNat (M 0 0) - Int.toNat r) = Int.toNat (M 0 0) by omega] at e
    have := sm_nn (f := fun j => M 4 (0 + ((Int.toNat r : Nat) : Int) + j)) (fun j => (MK_4 hM _).1) (Int.toNat (M 0 0) - Int.toNat r)
    have e2 : smZ (fun j => M 4 (0 + ((Int.toNat r : Nat) : Int) + j)) 0 (Int.toNat (M 0 0) - Int.toNat r) = smZ (M 4) (0 + ((Int.toNat r : Nat) : Int)) (Int.toNat (M 0 0) - Int.toNat r) := by
      have key : ∀ (c : Int) (n : Nat), smZ (fun j => M 4 (c + j)) 0 n = smZ (M 4) c n := by
        intro c n
        induction n with
        | zero => rfl
        | succ n ih =>
          simp only [smZ]
          rw [ih, show (0 : Int) + (n : Int) = (n : Int) by omega]
      exact key _ _
    omega
  have k := pig (BND T M) (fun i : Nat => ((Int.toNat (S 8 i) * (Int.toNat (smZ (M 4) 0 (Int.toNat (M 0 0))) + 1) + Int.toNat (S 4 i)) * (cnK T M 0 (Int.toNat (M 17 0)) + 1) + cnW T M 0 (S 3 i) (Int.toNat (M 17 0))) * (cnK T M 1 (Int.toNat (M 17 0)) + 1) + cnW T M 1 (S 3 i) (Int.toNat (M 17 0))) (S 0 0).toNat (fun i hi => ?_) (fun i j hij hj he => ?_)
  · omega
  · obtain ⟨a1, a2, a3⟩ := hv i (by omega) (by omega)
    have := hsm (S 8 i) a3.2
    have c0 := cn_le (T := T) (M := M) (q := 0) (w := S 3 i) (Int.toNat (M 17 0))
    have c1 := cn_le (T := T) (M := M) (q := 1) (w := S 3 i) (Int.toNat (M 17 0))
    unfold BND
    exact rad_lt (rad_lt (rad_lt (by omega) (by omega)) (by omega)) (by omega)
  · obtain ⟨a1, a2, a3⟩ := hv i (by omega) (by omega)
    obtain ⟨b1, b2, b3⟩ := hv j (by omega) (by omega)
    have h1 := hsm (S 8 i) a3.2
    have h2 := hsm (S 8 j) b3.2
    have c0 := cn_le (T := T) (M := M) (q := 0) (w := S 3 i) (Int.toNat (M 17 0))
    have c1 := cn_le (T := T) (M := M) (q := 1) (w := S 3 i) (Int.toNat (M 17 0))
    have d0 := cn_le (T := T) (M := M) (q := 0) (w := S 3 j) (Int.toNat (M 17 0))
    have d1 := cn_le (T := T) (M := M) (q := 1) (w := S 3 j) (Int.toNat (M 17 0))
    obtain ⟨e1, f1⟩ := rad_inj (by omega) (by omega) he
    obtain ⟨e2, f2⟩ := rad_inj (by omega) (by omega) e1
    obtain ⟨e3, f3⟩ := rad_inj (by omega) (by omega) e2
    have e8 : S 8 i = S 8 j := by omega
    rw [e8] at a1
    exact hd i j (by omega) (by omega) (by omega) ⟨e8, SUF_inj hK a1 b1 f2 f1, by omega⟩
end STC

end
