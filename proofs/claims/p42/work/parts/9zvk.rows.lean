section
section ROWS1
variable {T : Nat → Int → Int → Int → Int} {K M Q Qb : Nat → Int → Int} {v dg i j u0 w0 hn tn lc c : Int} {f g : Int → Int} {s : P5} {WL : Int → Int} {p : (Int → Int) × Int}
theorem sm_a2 : ∀ n : Nat, smZ (fun j => f j + g j) 0 n = smZ f 0 n + smZ g 0 n
  | 0 => rfl
  | n + 1 => by
    have ih := sm_a2 n
    simp only [smZ]
    omega
theorem sm_le (h : ∀ j, f j ≤ g j) : ∀ n : Nat, smZ f 0 n ≤ smZ g 0 n
  | 0 => Int.le_refl 0
  | n + 1 => by
    have ih := sm_le h n
    have := h (0 + (n : Int))
    simp only [smZ]
    omega
theorem sm_zr (h : ∀ j, f j = 0) : ∀ n : Nat, smZ f 0 n = 0
  | 0 => rfl
  | n + 1 => by
    have ih := sm_zr h n
    have := h (0 + (n : Int))
    simp only [smZ]
    omega
theorem sm_s (f : Int → Int) (n : Nat) : smZ f 0 (n + 1) = smZ f 0 n + f (n : Int) := by
  simp only [smZ]
  rw [show (0 : Int) + (n : Int) = (n : Int) by omega]
theorem sm_uz {a w : Int} (h : f a ≤ w) (n : Nat) : smZ (uz f a w) 0 n ≤ smZ f 0 n + (w - f a) := by
  by_cases e : 0 ≤ a ∧ a < n
  · rw [sm_up (f := f) (g := uz f a w) (i := a) (fun j hj => uz_n hj) n e.1 e.2, uz_s]
    exact Int.le_refl _
  · rw [smc (f := uz f a w) (g := f) n (fun j a1 a2 => uz_n (by omega))]
    omega
/-- a block's words and letters, notes, terms -/
def wcB (T : Nat → Int → Int → Int → Int) (i : Int) : Int := smZ (fun j => 1 + T 4 i j 0) 0 (Int.toNat (T 3 i 0 0))
def ncB (T : Nat → Int → Int → Int → Int) (i : Int) : Int := smZ (fun j => if T 7 i j 0 = -1 then 0 else 1) 0 (Int.toNat (T 3 i 0 0))
def tcB (T : Nat → Int → Int → Int → Int) (i : Int) : Int := smZ (fun j => if T 7 i j 3 = -1 then 0 else 1) 0 (Int.toNat (T 3 i 0 0))
theorem bdB_s : bdB T i = 1 + (wcB T i + ncB T i + tcB T i) := by
  have h1 := sm_a2 (f := fun j => 1 + T 4 i j 0) (g := fun j => if T 7 i j 0 = -1 then 0 else 1) (Int.toNat (T 3 i 0 0))
  have h2 := sm_a2 (f := fun j => 1 + T 4 i j 0 + (if T 7 i j 0 = -1 then 0 else 1)) (g := fun j => if T 7 i j 3 = -1 then 0 else 1) (Int.toNat (T 3 i 0 0))
  have h3 : bdB T i = 1 + smZ (fun j => 1 + T 4 i j 0 + (if T 7 i j 0 = -1 then 0 else 1) + (if T 7 i j 3 = -1 then 0 else 1)) 0 (Int.toNat (T 3 i 0 0)) := rfl
  rw [h3]
  unfold wcB ncB tcB
  omega
theorem wc_nn (hK : TK T) (i : Int) : 0 ≤ wcB T i := sm_nn (fun j => by have := TK_len hK i j; omega) _
theorem nc_nn (i : Int) : 0 ≤ ncB T i := sm_nn (fun j => by split <;> omega) _
theorem tc_nn (i : Int) : 0 ≤ tcB T i := sm_nn (fun j => by split <;> omega) _
theorem nc_wc (hK : TK T) (i : Int) : ncB T i ≤ wcB T i := sm_le (fun j => by have := TK_len hK i j; split <;> omega) _
theorem lt_cnt : ∀ q : Nat, (ltP T i j s u0 w0 q).1.1 ≤ s.1 + q
  | 0 => by
    show s.1 ≤ s.1 + ((0 : Nat) : Int)
    omega
  | q + 1 => by
    have ih := lt_cnt q
    simp only [ltP]
    by_cases e : bAnd (bShr (T 8 i j 0) (q : Int)) 1 = 1
    · rw [if_pos e]
      simp only [adP]
      omega
    · rw [if_neg e]
      omega
theorem wo_cnt (hK : TK T) : (woP T i j dg s).1 ≤ s.1 + (1 + T 4 i j 0) := by
  have h := lt_cnt (T := T) (i := i) (j := j) (s := s) (u0 := s.2.2.2.1 s.1) (w0 := s.2.2.2.2 s.1) (T 4 i j 0).toNat
  have hl := TK_len hK i j
  have e : (woP T i j dg s).1 = (ltP T i j s (s.2.2.2.1 s.1) (s.2.2.2.2 s.1) (T 4 i j 0).toNat).1.1 + 1 := rfl
  omega
theorem pl_cnt (hK : TK T) : ∀ a : Nat, (plP T i v dg a).1 ≤ smZ (fun j => 1 + T 4 i j 0) 0 a
  | 0 => Int.le_refl 0
  | a + 1 => by
    have ih := pl_cnt hK a
    have hl := TK_len hK i (a : Int)
    have hw := wo_cnt (i := i) (j := (a : Int)) (dg := dg) (s := plP T i v dg a) hK
    rw [sm_s (fun j => 1 + T 4 i j 0) a]
    simp only [plP]
    split
    · omega
    · omega
theorem LC_cnt (hK : TK T) : LCz T v dg i ≤ wcB T i := by
  obtain ⟨hl, h1, h2⟩ := LCz_in (i := i) (v := v) (dg := dg) hK
  have up : ∀ k : Nat, (k : Int) ≤ LCz T v dg i → (k : Int) ≤ (lnC T i v dg k).1 := by
    intro k
    induction k with
    | zero => intro _; exact Int.le_refl 0
    | succ k ih =>
      intro hk
      have := ln_up (i := i) (v := v) (dg := dg) hK k (by omega)
      have := ih (by omega)
      omega
  have u := up (LCz T v dg i).toNat (by omega)
  have e : (tkP T i v dg).1 ≤ wcB T i := by
    unfold tkP
    split
    · exact pl_cnt hK _
    · exact wc_nn hK i
  rw [h2] at u
  omega
/-- kinds of blocks -/
def hcB (T : Nat → Int → Int → Int → Int) (i : Int) : Int := if T 1 i 0 0 = 1 then 1 else 0
def tbB (T : Nat → Int → Int → Int → Int) (i : Int) : Int := if T 1 i 0 0 = 3 then 1 else 0
def ccB (T : Nat → Int → Int → Int → Int) (i : Int) : Int := if T 1 i 0 0 = 5 then 1 else 0
def icB (T : Nat → Int → Int → Int → Int) (i : Int) : Int := if T 1 i 0 0 = 6 then 1 else 0
theorem kc_1 : (0 ≤ hcB T i ∧ 0 ≤ tbB T i ∧ 0 ≤ ccB T i ∧ 0 ≤ icB T i) ∧ hcB T i + tbB T i + ccB T i + icB T i ≤ 1 := by
  unfold hcB tbB ccB icB
  repeat' split
  all_goals omega
theorem nr_le (hK : TK T) (hl : 0 ≤ lc ∧ lc ≤ wcB T i) : nrZ T i lc hn tn ≤ wcB T i + (hcB T i + 4 * tbB T i) + (ccB T i * hn + icB T i * tn) := by
  have hk := TK_kind hK i
  have hr : 0 ≤ rcT T i ∧ rcT T i ≤ 4 := rcZ_in 12 (Nat.le_refl _)
  rcases (show T 1 i 0 0 = 0 ∨ T 1 i 0 0 = 1 ∨ T 1 i 0 0 = 2 ∨ T 1 i 0 0 = 3 ∨ T 1 i 0 0 = 4 ∨ T 1 i 0 0 = 5 ∨ T 1 i 0 0 = 6 by omega) with e | e | e | e | e | e | e
  all_goals
    unfold nrZ hcB tbB ccB icB
    rw [e]
    repeat' split
    all_goals omega
theorem ct_h : ∀ n : Nat, 0 ≤ (ctB T v n).1 ∧ (ctB T v n).1 ≤ smZ (hcB T) 0 n
  | 0 => ⟨Int.le_refl 0, Int.le_refl 0⟩
  | n + 1 => by
    have ih := ct_h n
    have eh : hcB T (n : Int) = (if T 1 (n : Int) 0 0 = 1 then 1 else 0) := rfl
    rw [sm_s (hcB T) n, eh]
    simp only [ctB]
    by_cases ht : thB T (n : Int) v
    · rw [if_pos ht]
      dsimp only
      split <;> omega
    · rw [if_neg ht]
      split <;> omega
theorem ctW_le : ∀ n : Nat, p.2 ≤ (ctW T v i p n).2 ∧ (ctW T v i p n).2 ≤ p.2 + smZ (fun j => if T 7 i j 3 = -1 then 0 else 1) 0 n
  | 0 => ⟨Int.le_refl _, by show p.2 ≤ p.2 + 0; omega⟩
  | n + 1 => by
    have ih := ctW_le n
    rw [sm_s (fun j => if T 7 i j 3 = -1 then 0 else 1) n]
    simp only [ctW]
    by_cases ht : thW T i (n : Int) v
    · rw [if_pos ht]
      simp only [ctN]
      by_cases e : T 7 i (n : Int) 3 = -1
      · rw [if_pos e, if_pos e]; omega
      · rw [if_neg e, if_neg e]
        split <;> omega
    · rw [if_neg ht]
      split <;> omega
theorem ct_t : ∀ n : Nat, 0 ≤ (ctB T v n).2.2 ∧ (ctB T v n).2.2 ≤ smZ (tcB T) 0 n
  | 0 => ⟨Int.le_refl 0, Int.le_refl 0⟩
  | n + 1 => by
    have ih := ct_t n
    have h1 := tc_nn (T := T) (n : Int)
    rw [sm_s (tcB T) n]
    simp only [ctB]
    by_cases ht : thB T (n : Int) v
    · rw [if_pos ht]
      have h2 := ctW_le (T := T) (v := v) (i := (n : Int)) (p := (ctB T v n).2) (T 3 (n : Int) 0 0).toNat
      have e : tcB T (n : Int) = smZ (fun j => if T 7 (n : Int) j 3 = -1 then 0 else 1) 0 (T 3 (n : Int) 0 0).toNat := rfl
      dsimp only
      omega
    · rw [if_neg ht]
      omega
/-- rows are the blocks' rows -/
theorem row_7 (hK : TK T) : ∀ k : Nat, (k : Int) < T 0 0 0 0 → moC T v dg 7 (k : Int) = smZ (moC T v dg 8) 0 k
  | 0, h => by
    obtain ⟨-, i4⟩ := rwA_in (v := v) hK (LcO_z (v := v) (dg := dg) hK)
    have p := (moC_78 (v := v) (dg := dg) hK (i := 0) (Int.le_refl 0) h).2.2.2.2.1
    show moC T v dg 7 0 = 0
    rw [p]
    exact i4.2.2.1 h
  | k + 1, h => by
    have ih := row_7 hK k (by omega)
    obtain ⟨-, i4⟩ := rwA_in (v := v) hK (LcO_z (v := v) (dg := dg) hK)
    have h4 := i4.2.1 (k : Int) (by omega) (by omega)
    rw [if_pos (by omega)] at h4
    obtain ⟨-, -, -, -, p5, p6⟩ := moC_78 (v := v) (dg := dg) hK (i := (k : Int)) (by omega) (by omega)
    obtain ⟨-, -, -, -, q5, -⟩ := moC_78 (v := v) (dg := dg) hK (i := (k : Int) + 1) (by omega) (by omega)
    rw [← p5, ← p6, ← q5] at h4
    rw [sm_s, show ((k + 1 : Nat) : Int) = (k : Int) + 1 by omega]
    omega
theorem row_0 (hK : TK T) : moC T v dg 0 0 = smZ (moC T v dg 8) 0 (Int.toNat (T 0 0 0 0)) := by
  have hn := TK_nb hK
  obtain ⟨-, i4⟩ := rwA_in (v := v) hK (LcO_z (v := v) (dg := dg) hK)
  by_cases e : T 0 0 0 0 ≤ 0
  · rw [mo_0, i4.2.2.2 e, show Int.toNat (T 0 0 0 0) = 0 by omega]
    rfl
  · have h4 := i4.2.1 (T 0 0 0 0 - 1) (by omega) (by omega)
    rw [if_neg (by omega)] at h4
    obtain ⟨-, -, -, -, p5, p6⟩ := moC_78 (v := v) (dg := dg) hK (i := T 0 0 0 0 - 1) (by omega) (by omega)
    rw [← p5, ← p6] at h4
    have h7 := row_7 (v := v) (dg := dg) hK (Int.toNat (T 0 0 0 0 - 1)) (by omega)
    rw [show ((Int.toNat (T 0 0 0 0 - 1) : Nat) : Int) = T 0 0 0 0 - 1 by omega] at h7
    rw [mo_0, ← h4, h7, show Int.toNat (T 0 0 0 0) = Int.toNat (T 0 0 0 0 - 1) + 1 by omega, sm_s, show ((Int.toNat (T 0 0 0 0 - 1) : Nat) : Int) = T 0 0 0 0 - 1 by omega]
theorem R_le (hK : TK T) : ∀ n : Nat, (n : Int) ≤ T 0 0 0 0 → smZ (moC T v dg 8) 0 n ≤ smZ (wcB T) 0 n + (smZ (hcB T) 0 n + 4 * smZ (tbB T) 0 n) + (smZ (ccB T) 0 n * (htB T v).1 + smZ (icB T) 0 n * (htB T v).2.2)
  | 0, _ => by
    show (0 : Int) ≤ 0 + (0 + 4 * 0) + (0 * _ + 0 * _)
    rw [Int.zero_mul, Int.zero_mul]
    omega
  | n + 1, h => by
    have ih := R_le hK n (by omega)
    have p := (moC_78 (v := v) (dg := dg) hK (i := (n : Int)) (by omega) (by omega)).2.2.2.1
    have hl := LCz_in (i := (n : Int)) (v := v) (dg := dg) hK
    have q := nr_le (i := (n : Int)) (lc := LCz T v dg (n : Int)) (hn := (htB T v).1) (tn := (htB T v).2.2) hK ⟨hl.1.1, LC_cnt hK⟩
    have h1 : 0 ≤ (htB T v).1 := (ct_h _).1
    have h2 : 0 ≤ (htB T v).2.2 := (ct_t _).1
    have hk := kc_1 (T := T) (i := (n : Int))
    have m1 := Int.mul_nonneg hk.1.2.2.1 h1
    have m2 := Int.mul_nonneg hk.1.2.2.2 h2
    have hw := wc_nn hK (n : Int)
    rw [sm_s, sm_s, sm_s, sm_s, sm_s, sm_s, Int.add_mul, Int.add_mul]
    by_cases e : thB T (n : Int) v
    · rw [if_pos e] at p
      omega
    · rw [if_neg e] at p
      omega
theorem kinds_le : ∀ n : Nat, smZ (hcB T) 0 n + smZ (tbB T) 0 n + smZ (ccB T) 0 n + smZ (icB T) 0 n ≤ n
  | 0 => Int.le_refl 0
  | n + 1 => by
    have ih := kinds_le n
    have hk := (kc_1 (T := T) (i := (n : Int))).2
    rw [sm_s, sm_s, sm_s, sm_s]
    omega
theorem bud_s : ∀ n : Nat, smZ (bdB T) 0 n = n + (smZ (wcB T) 0 n + smZ (ncB T) 0 n + smZ (tcB T) 0 n)
  | 0 => rfl
  | n + 1 => by
    have ih := bud_s n
    have hk := bdB_s (T := T) (i := (n : Int))
    rw [sm_s, sm_s, sm_s, sm_s]
    omega
/-- notes are the words' notes -/
theorem nt_W (hK : TK T) (R : Nat) (h : ∀ x, 0 ≤ Q 4 x) : ∀ n : Nat, (∀ x, 0 ≤ pwW T v Qb WL i Q n 4 x) ∧ smZ (pwW T v Qb WL i Q n 4) 0 R ≤ smZ (Q 4) 0 R + 5 * smZ (fun j => if T 7 i j 0 = -1 then 0 else 1) 0 n
  | 0 => ⟨h, by show smZ (Q 4) 0 R ≤ smZ (Q 4) 0 R + 5 * 0; omega⟩
  | n + 1 => by
    obtain ⟨i1, i2⟩ := nt_W hK R h n
    have hm := TK_note hK i (n : Int)
    rw [sm_s (fun j => if T 7 i j 0 = -1 then 0 else 1) n]
    simp only [pwW]
    by_cases ht : thW T i (n : Int) v
    · rw [if_pos ht]
      generalize hX : pwW T v Qb WL i Q n = X at *
      have e4 : (mkQ T (seP X 9 (uz (X 9) ((i * 12) + (n : Int)) (roZ T Qb WL i (n : Int)))) i (n : Int) (roZ T Qb WL i (n : Int)) ((i * 12) + (n : Int))) 4 = fun x => if T 7 i (n : Int) 0 = -1 then X 4 x else uz (X 4) (roZ T Qb WL i (n : Int)) (X 4 (roZ T Qb WL i (n : Int)) + T 7 i (n : Int) 0) x := rfl
      rw [e4]
      by_cases e : T 7 i (n : Int) 0 = -1
      · simp only [if_pos e]
        exact ⟨i1, by show smZ (X 4) 0 R ≤ _; omega⟩
      · simp only [if_neg e]
        have u := sm_uz (f := X 4) (a := roZ T Qb WL i (n : Int)) (w := X 4 (roZ T Qb WL i (n : Int)) + T 7 i (n : Int) 0) (by omega) R
        refine ⟨fun x => ?_, ?_⟩
        · by_cases ex : x = roZ T Qb WL i (n : Int)
          · rw [ex, uz_s]
            have := i1 (roZ T Qb WL i (n : Int))
            omega
          · rw [uz_n ex]; exact i1 x
        · show smZ (uz (X 4) (roZ T Qb WL i (n : Int)) (X 4 (roZ T Qb WL i (n : Int)) + T 7 i (n : Int) 0)) 0 R ≤ _
          omega
    · rw [if_neg ht]
      refine ⟨i1, ?_⟩
      split <;> omega
theorem nt_B (hK : TK T) (R : Nat) (h : ∀ x, 0 ≤ Qb 4 x) : ∀ n : Nat, (∀ x, 0 ≤ pwB T v Qb WL n 4 x) ∧ smZ (pwB T v Qb WL n 4) 0 R ≤ smZ (Qb 4) 0 R + 5 * smZ (ncB T) 0 n
  | 0 => ⟨h, by show smZ (Qb 4) 0 R ≤ smZ (Qb 4) 0 R + 5 * 0; omega⟩
  | n + 1 => by
    obtain ⟨i1, i2⟩ := nt_B hK R h n
    have h0 := nc_nn (T := T) (n : Int)
    rw [sm_s (ncB T) n]
    simp only [pwB]
    by_cases ht : 0 < Qb 8 (n : Int)
    · rw [if_pos ht]
      have k := nt_W (T := T) (v := v) (Qb := Qb) (WL := WL) (i := (n : Int)) (Q := pwB T v Qb WL n) hK R i1 (T 3 (n : Int) 0 0).toNat
      have e : ncB T (n : Int) = smZ (fun j => if T 7 (n : Int) j 0 = -1 then 0 else 1) 0 (T 3 (n : Int) 0 0).toNat := rfl
      exact ⟨k.1, by omega⟩
    · rw [if_neg ht]
      exact ⟨i1, by omega⟩
theorem nt_le (hK : TK T) (R : Nat) : smZ (moC T v dg 4) 0 R ≤ 5 * smZ (ncB T) 0 (Int.toNat (T 0 0 0 0)) := by
  obtain ⟨⟨-, r4, -⟩, -⟩ := rwA_in (v := v) hK (LcO_z (v := v) (dg := dg) hK)
  have k := nt_B (T := T) (v := v) (Qb := rwA T v (LCz T v dg)) (WL := WLz T v dg) hK R (fun x => by rw [r4 x]; omega) (Int.toNat (T 0 0 0 0))
  have z := sm_zr (f := rwA T v (LCz T v dg) 4) r4 R
  have l := sm_le (f := moC T v dg 4) (g := pwA T v (LCz T v dg) (WLz T v dg) 4) (fun x => by
    have e : moC T v dg 4 x = max 0 (min 1000 (pwA T v (LCz T v dg) (WLz T v dg) 4 x)) := rfl
    have := k.1 x
    rw [e]
    show max 0 (min 1000 (pwB T v (rwA T v (LCz T v dg)) (WLz T v dg) (Int.toNat (T 0 0 0 0)) 4 x)) ≤ pwB T v (rwA T v (LCz T v dg)) (WLz T v dg) (Int.toNat (T 0 0 0 0)) 4 x
    omega) R
  have l2 : smZ (moC T v dg 4) 0 R ≤ smZ (pwB T v (rwA T v (LCz T v dg)) (WLz T v dg) (Int.toNat (T 0 0 0 0)) 4) 0 R := l
  omega
end ROWS1
/-- a finite check -/
def allb : Nat → (Nat → Bool) → Bool
  | 0, _ => true
  | n + 1, f => f n && allb n f
theorem allb_at {f : Nat → Bool} : ∀ n : Nat, allb n f = true → ∀ k, k < n → f k = true
  | 0, _, k, hk => absurd hk (by omega)
  | n + 1, h, k, hk => by
    simp only [allb, Bool.and_eq_true] at h
    by_cases e : k = n
    · rw [e]; exact h.1
    · exact allb_at n h.2 k (by omega)
def ckA (h c : Nat) : Bool := Nat.blt 16 (h + c) || Nat.ble (h + c * h) ((h + c + 1) * (h + c + 1) / 4)
theorem ckA_ok : allb 17 (fun h => allb 17 (fun c => ckA h c)) = true := by decide +kernel
def ckR (b1 b2 t n : Nat) : Nat := (50 - b1 - b2 - n - t) + (b1 + 1) * (b1 + 1) / 4 + (4 + (t - 4)) * b2
def ckB (b1 b2 t n : Nat) : Bool := Nat.blt 16 (b1 + b2) || (Nat.blt (50 - b1 - b2 - n - t) n || (Nat.ble (ckR b1 b2 t n * (5 * n + 1) * 12) 131072 && Nat.ble (6 * ckR b1 b2 t n + 5 * n) 960))
theorem ckB_ok : allb 17 (fun b1 => allb 17 (fun b2 => allb 9 (fun t => allb 26 (fun n => ckB b1 b2 t n)))) = true := by decide +kernel
theorem ckA_at {h c : Nat} (h1 : h + c ≤ 16) : h + c * h ≤ (h + c + 1) * (h + c + 1) / 4 := by
  have k := allb_at 17 (allb_at 17 ckA_ok h (by omega)) c (by omega)
  unfold ckA at k
  rw [Bool.or_eq_true] at k
  rcases k with k | k
  · have : 16 < h + c := by simpa [Nat.blt_eq] using k
    omega
  · exact Nat.le_of_ble_eq_true k
theorem ckB_at {b1 b2 t n : Nat} (h1 : b1 + b2 ≤ 16) (h2 : t ≤ 8) (h3 : n ≤ 25) (h4 : n ≤ 50 - b1 - b2 - n - t) : ckR b1 b2 t n * (5 * n + 1) * 12 ≤ 131072 ∧ 6 * ckR b1 b2 t n + 5 * n ≤ 960 := by
  have k := allb_at 26 (allb_at 9 (allb_at 17 (allb_at 17 ckB_ok b1 (by omega)) b2 (by omega)) t (by omega)) n (by omega)
  unfold ckB at k
  rw [Bool.or_eq_true, Bool.or_eq_true, Bool.and_eq_true] at k
  rcases k with k | k | k
  · have : 16 < b1 + b2 := by simpa [Nat.blt_eq] using k
    omega
  · have : 50 - b1 - b2 - n - t < n := by simpa [Nat.blt_eq] using k
    omega
  · exact ⟨Nat.le_of_ble_eq_true k.1, Nat.le_of_ble_eq_true k.2⟩
section ROWS2
variable {T : Nat → Int → Int → Int → Int} {K : Nat → Int → Int} {v dg : Int}
theorem rows_ok (hK : TK T) (hKK : KK T K) (hb : BUD T K ≤ 50) : BND T (moC T v dg) ≤ 131072 ∧ 6 * moC T v dg 0 0 + smZ (moC T v dg 4) 0 (Int.toNat (moC T v dg 0 0)) ≤ 960 := by
  have hM := (moC_in (v := v) (dg := dg) hK).1
  have hm := MK_cnt hM
  have h17 := (show 0 ≤ moC T v dg 17 0 ∧ moC T v dg 17 0 ≤ 5 from hM.2.2.2.2.2.2.2.2.2.2.2.2.2.2.2.2.2)
  have h13 := (show 0 ≤ moC T v dg 13 0 ∧ moC T v dg 13 0 ≤ 8 from hM.2.2.2.2.2.2.2.2.2.2.2.2.2.2.2.2.1)
  have e13 : moC T v dg 13 0 = (htB T v).2.2 := rfl
  have hn := TK_nb hK
  have h0 := hKK.1
  have bs := bud_s (T := T) (Int.toNat (T 0 0 0 0))
  have ks := kinds_le (T := T) (Int.toNat (T 0 0 0 0))
  have rl := R_le (v := v) (dg := dg) hK (Int.toNat (T 0 0 0 0)) (by omega)
  rw [← row_0 hK] at rl
  have nl := nt_le (v := v) (dg := dg) hK (Int.toNat (moC T v dg 0 0))
  have nw := sm_le (f := ncB T) (g := wcB T) (nc_wc hK) (Int.toNat (T 0 0 0 0))
  have n0 := sm_nn (f := ncB T) nc_nn (Int.toNat (T 0 0 0 0))
  have w0 := sm_nn (f := wcB T) (wc_nn hK) (Int.toNat (T 0 0 0 0))
  have t0 := sm_nn (f := tcB T) tc_nn (Int.toNat (T 0 0 0 0))
  have g0 := sm_nn (f := hcB T) (fun j => (kc_1 (T := T) (i := j)).1.1) (Int.toNat (T 0 0 0 0))
  have g1 := sm_nn (f := tbB T) (fun j => (kc_1 (T := T) (i := j)).1.2.1) (Int.toNat (T 0 0 0 0))
  have g2 := sm_nn (f := ccB T) (fun j => (kc_1 (T := T) (i := j)).1.2.2.1) (Int.toNat (T 0 0 0 0))
  have g3 := sm_nn (f := icB T) (fun j => (kc_1 (T := T) (i := j)).1.2.2.2) (Int.toNat (T 0 0 0 0))
  have ch : 0 ≤ (htB T v).1 ∧ (htB T v).1 ≤ smZ (hcB T) 0 (Int.toNat (T 0 0 0 0)) := ct_h _
  have ct : 0 ≤ (htB T v).2.2 ∧ (htB T v).2.2 ≤ smZ (tcB T) 0 (Int.toNat (T 0 0 0 0)) := ct_t _
  have s0 := sm_nn (f := moC T v dg 4) (fun j => (MK_4 hM j).1) (Int.toNat (moC T v dg 0 0))
  have hbud : smZ (bdB T) 0 (Int.toNat (T 0 0 0 0)) ≤ 50 := by
    unfold BUD at hb
    split at hb <;> split at hb <;> omega
  have hc2 := cn_2 (T := T) (M := moC T v dg) hK (Int.toNat (moC T v dg 17 0))
  unfold BND
  rw [e13] at h13
  generalize hR : moC T v dg 0 0 = R at *
  generalize hS : smZ (moC T v dg 4) 0 (Int.toNat R) = S at *
  generalize hW : smZ (wcB T) 0 (Int.toNat (T 0 0 0 0)) = W at *
  generalize hN : smZ (ncB T) 0 (Int.toNat (T 0 0 0 0)) = N at *
  generalize hTT : smZ (tcB T) 0 (Int.toNat (T 0 0 0 0)) = TT at *
  generalize hH : smZ (hcB T) 0 (Int.toNat (T 0 0 0 0)) = H at *
  generalize hB : smZ (tbB T) 0 (Int.toNat (T 0 0 0 0)) = B at *
  generalize hC : smZ (ccB T) 0 (Int.toNat (T 0 0 0 0)) = C at *
  generalize hI : smZ (icB T) 0 (Int.toNat (T 0 0 0 0)) = I at *
  generalize (htB T v).1 = q at *
  generalize (htB T v).2.2 = t at *
  generalize cnK T (moC T v dg) 0 (Int.toNat (moC T v dg 17 0)) = a at *
  generalize cnK T (moC T v dg) 1 (Int.toNat (moC T v dg 17 0)) = b at *
  clear hR hS hW hN hTT hH hB hC hI
  obtain ⟨R, rfl⟩ := Int.eq_ofNat_of_zero_le hm.1
  obtain ⟨S, rfl⟩ := Int.eq_ofNat_of_zero_le s0
  obtain ⟨W, rfl⟩ := Int.eq_ofNat_of_zero_le w0
  obtain ⟨N, rfl⟩ := Int.eq_ofNat_of_zero_le n0
  obtain ⟨H, rfl⟩ := Int.eq_ofNat_of_zero_le g0
  obtain ⟨B, rfl⟩ := Int.eq_ofNat_of_zero_le g1
  obtain ⟨C, rfl⟩ := Int.eq_ofNat_of_zero_le g2
  obtain ⟨I, rfl⟩ := Int.eq_ofNat_of_zero_le g3
  obtain ⟨q, rfl⟩ := Int.eq_ofNat_of_zero_le ch.1
  obtain ⟨t, rfl⟩ := Int.eq_ofNat_of_zero_le ct.1
  rw [← Int.natCast_mul, ← Int.natCast_mul] at rl
  have k1 := ckA_at (h := H) (c := C) (by omega)
  have k2 := ckB_at (b1 := H + C) (b2 := B + I) (t := t) (n := N) (by omega) (by omega) (by omega) (by omega)
  have m1 : C * q ≤ C * H := Nat.mul_le_mul_left C (by omega)
  have m2 : I * t ≤ I * (4 + (t - 4)) := Nat.mul_le_mul_left I (by omega)
  have m3 : B * 4 ≤ B * (4 + (t - 4)) := Nat.mul_le_mul_left B (by omega)
  have m4 : (4 + (t - 4)) * (B + I) = B * (4 + (t - 4)) + I * (4 + (t - 4)) := by rw [Nat.mul_comm, Nat.add_mul]
  have hRc : R ≤ ckR (H + C) (B + I) t N := by
    unfold ckR
    rw [m4]
    omega
  have hab : (a + 1) * (b + 1) ≤ 12 := by
    have hA : a ≤ 5 := by omega
    have hBb : b ≤ 5 := by omega
    rcases (show a = 0 ∨ a = 1 ∨ a = 2 ∨ a = 3 ∨ a = 4 ∨ a = 5 by omega) with rfl | rfl | rfl | rfl | rfl | rfl <;> omega
  have hS5 : S + 1 ≤ 5 * N + 1 := by omega
  have p1 : R * (S + 1) ≤ ckR (H + C) (B + I) t N * (5 * N + 1) := Nat.mul_le_mul hRc hS5
  have p2 : R * (S + 1) * ((a + 1) * (b + 1)) ≤ ckR (H + C) (B + I) t N * (5 * N + 1) * 12 := Nat.mul_le_mul p1 hab
  rw [← Nat.mul_assoc] at p2
  rw [Int.toNat_natCast, Int.toNat_natCast]
  exact ⟨Nat.le_trans p2 k2.1, by omega⟩
end ROWS2

end
