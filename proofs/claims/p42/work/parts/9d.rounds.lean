section
/-- as many places as there are values, at most -/
theorem pig : ∀ (N : Nat) (f : Nat → Nat) (n : Nat), (∀ i, i < n → f i < N) → (∀ i j, i < j → j < n → f i ≠ f j) → n ≤ N
  | 0, f, n, h1, h2 => by
    apply Nat.le_of_not_lt
    intro h
    exact absurd (h1 0 h) (by omega)
  | N + 1, f, n, h1, h2 => by
    by_cases e : ∃ i, i < n ∧ f i = N
    · obtain ⟨i, hi, hf⟩ := e
      have ih := pig N (fun j => if j < i then f j else f (j + 1)) (n - 1) (fun j hj => ?_) (fun a b hab hb => ?_)
      · omega
      · show (if j < i then f j else f (j + 1)) < N
        split
        · have := h1 j (by omega)
          have := h2 j i (by omega) hi
          omega
        · have := h1 (j + 1) (by omega)
          have := h2 i (j + 1) (by omega) (by omega)
          omega
      · show (if a < i then f a else f (a + 1)) ≠ (if b < i then f b else f (b + 1))
        split
        · split
          · exact h2 a b hab (by omega)
          · exact h2 a (b + 1) (by omega) (by omega)
        · split
          · omega
          · exact h2 (a + 1) (b + 1) (by omega) (by omega)
    · have ih := pig N f n (fun i hi => by
        have := h1 i hi
        have : f i ≠ N := fun q => e ⟨i, hi, q⟩
        omega) h2
      omega
/-- digits of six labels, each 1, 2 or 3 -/
def VD (d : Int) : Prop := ∃ a0 a1 a2 a3 a4 a5 : Int, (1 ≤ a0 ∧ a0 ≤ 3) ∧ (1 ≤ a1 ∧ a1 ≤ 3) ∧ (1 ≤ a2 ∧ a2 ≤ 3) ∧ (1 ≤ a3 ∧ a3 ≤ 3) ∧ (1 ≤ a4 ∧ a4 ≤ 3) ∧ (1 ≤ a5 ∧ a5 ≤ 3) ∧ d = a0 + 4 * a1 + 16 * a2 + 64 * a3 + 256 * a4 + 1024 * a5
def dco (d : Int) : Nat := ((d % 4 - 1) + 3 * (d / 4 % 4 - 1) + 9 * (d / 16 % 4 - 1) + 27 * (d / 64 % 4 - 1) + 81 * (d / 256 % 4 - 1) + 243 * (d / 1024 % 4 - 1)).toNat
theorem dco_eq {a0 a1 a2 a3 a4 a5 : Int} (h0 : 1 ≤ a0 ∧ a0 ≤ 3) (h1 : 1 ≤ a1 ∧ a1 ≤ 3) (h2 : 1 ≤ a2 ∧ a2 ≤ 3) (h3 : 1 ≤ a3 ∧ a3 ≤ 3) (h4 : 1 ≤ a4 ∧ a4 ≤ 3) (h5 : 1 ≤ a5 ∧ a5 ≤ 3) : ((dco (a0 + 4 * a1 + 16 * a2 + 64 * a3 + 256 * a4 + 1024 * a5) : Nat) : Int) = (a0 - 1) + 3 * (a1 - 1) + 9 * (a2 - 1) + 27 * (a3 - 1) + 81 * (a4 - 1) + 243 * (a5 - 1) := by
  have e0 : (a0 + 4 * a1 + 16 * a2 + 64 * a3 + 256 * a4 + 1024 * a5) % 4 = a0 := by omega
  have e1 : (a0 + 4 * a1 + 16 * a2 + 64 * a3 + 256 * a4 + 1024 * a5) / 4 % 4 = a1 := by omega
  have e2 : (a0 + 4 * a1 + 16 * a2 + 64 * a3 + 256 * a4 + 1024 * a5) / 16 % 4 = a2 := by omega
  have e3 : (a0 + 4 * a1 + 16 * a2 + 64 * a3 + 256 * a4 + 1024 * a5) / 64 % 4 = a3 := by omega
  have e4 : (a0 + 4 * a1 + 16 * a2 + 64 * a3 + 256 * a4 + 1024 * a5) / 256 % 4 = a4 := by omega
  have e5 : (a0 + 4 * a1 + 16 * a2 + 64 * a3 + 256 * a4 + 1024 * a5) / 1024 % 4 = a5 := by omega
  unfold dco
  rw [e0, e1, e2, e3, e4, e5]
  omega
theorem VD_lt {d : Int} (h : VD d) : dco d < 729 := by
  obtain ⟨a0, a1, a2, a3, a4, a5, h0, h1, h2, h3, h4, h5, rfl⟩ := h
  have := dco_eq h0 h1 h2 h3 h4 h5
  omega
theorem VD_inj {d e : Int} (h : VD d) (g : VD e) (q : dco d = dco e) : d = e := by
  obtain ⟨a0, a1, a2, a3, a4, a5, h0, h1, h2, h3, h4, h5, rfl⟩ := h
  obtain ⟨b0, b1, b2, b3, b4, b5, g0, g1, g2, g3, g4, g5, rfl⟩ := g
  have x := dco_eq h0 h1 h2 h3 h4 h5
  have y := dco_eq g0 g1 g2 g3 g4 g5
  rw [q, y] at x
  have c0 : a0 = b0 := by omega
  have c1 : a1 = b1 := by omega
  have c2 : a2 = b2 := by omega
  have c3 : a3 = b3 := by omega
  have c4 : a4 = b4 := by omega
  have c5 : a5 = b5 := by omega
  rw [c0, c1, c2, c3, c4, c5]
theorem bOr_ad {x a k : Int} {n : Nat} (hk : k = n) (hx : 0 ≤ x ∧ x < ((2 ^ n : Nat) : Int)) (ha : 0 ≤ a) : bOr x (bShl a k) = x + a * ((2 ^ n : Nat) : Int) := by
  subst hk
  obtain ⟨y, rfl⟩ := Int.eq_ofNat_of_zero_le hx.1
  obtain ⟨b, rfl⟩ := Int.eq_ofNat_of_zero_le ha
  have e : bShl (b : Int) (n : Int) = ((2 ^ n * b : Nat) : Int) := by
    simp only [bShl, Int.toNat_natCast]
    rw [Nat.mul_comm, Int.natCast_mul]
  rw [e]
  unfold bOr
  rw [Int.toNat_natCast, Int.toNat_natCast, Nat.or_comm, ← Nat.two_pow_add_eq_or_of_lt (by omega) b, Int.natCast_add, Int.natCast_mul, Int.mul_comm]
  omega
theorem ddZ_in (p : Int) : 1 ≤ ddZ p ∧ ddZ p ≤ 3 := by
  unfold ddZ
  (repeat' split) <;> omega
theorem VD_dg (M P : Nat → Int → Int) : VD (dgF M P 6) := by
  have d0 := ddZ_in (lbZ M P 0)
  have d1 := ddZ_in (lbZ M P 1)
  have d2 := ddZ_in (lbZ M P 2)
  have d3 := ddZ_in (lbZ M P 3)
  have d4 := ddZ_in (lbZ M P 4)
  have d5 := ddZ_in (lbZ M P 5)
  refine ⟨_, _, _, _, _, _, d0, d1, d2, d3, d4, d5, ?_⟩
  have s1 : dgF M P 1 = ddZ (lbZ M P 0) := by
    show bOr 0 (bShl (ddZ (lbZ M P 0)) (2 * 0)) = _
    rw [bOr_ad (n := 0) (by omega) (by decide) (by omega)]
    omega
  have s2 : dgF M P 2 = ddZ (lbZ M P 0) + 4 * ddZ (lbZ M P 1) := by
    show bOr (dgF M P 1) (bShl (ddZ (lbZ M P 1)) (2 * 1)) = _
    rw [s1, bOr_ad (n := 2) (by omega) (by omega) (by omega)]
    omega
  have s3 : dgF M P 3 = ddZ (lbZ M P 0) + 4 * ddZ (lbZ M P 1) + 16 * ddZ (lbZ M P 2) := by
    show bOr (dgF M P 2) (bShl (ddZ (lbZ M P 2)) (2 * 2)) = _
    rw [s2, bOr_ad (n := 4) (by omega) (by omega) (by omega)]
    omega
  have s4 : dgF M P 4 = ddZ (lbZ M P 0) + 4 * ddZ (lbZ M P 1) + 16 * ddZ (lbZ M P 2) + 64 * ddZ (lbZ M P 3) := by
    show bOr (dgF M P 3) (bShl (ddZ (lbZ M P 3)) (2 * 3)) = _
    rw [s3, bOr_ad (n := 6) (by omega) (by omega) (by omega)]
    omega
  have s5 : dgF M P 5 = ddZ (lbZ M P 0) + 4 * ddZ (lbZ M P 1) + 16 * ddZ (lbZ M P 2) + 64 * ddZ (lbZ M P 3) + 256 * ddZ (lbZ M P 4) := by
    show bOr (dgF M P 4) (bShl (ddZ (lbZ M P 4)) (2 * 4)) = _
    rw [s4, bOr_ad (n := 8) (by omega) (by omega) (by omega)]
    omega
  show bOr (dgF M P 5) (bShl (ddZ (lbZ M P 5)) (2 * 5)) = _
  rw [s5, bOr_ad (n := 10) (by omega) (by omega) (by omega)]
  omega
theorem rwF_no {D : Int → Int} {gv : Int} : ∀ (f : Nat) (k : Int), 0 ≤ k → rwF D gv f k = -1 → ∀ j, k ≤ j → j < k + f → D j ≠ gv
  | 0, k, _, _, j, h1, h2 => by omega
  | f + 1, k, hk, h, j, h1, h2 => by
    simp only [rwF] at h
    by_cases e : D k = gv
    · rw [if_pos e] at h; omega
    · rw [if_neg e] at h
      by_cases e2 : j = k
      · rw [e2]; exact e
      · exact rwF_no f (k + 1) (by omega) h j (by omega) (by omega)
/-- all rounds of a text: settled, goes on, last round, digits, how many, digits of all -/
def rdS (T : Nat → Int → Int → Int → Int) (v : Int) : Nat → Int × Int × Int × Int × Int × (Int → Int)
  | 0 => (0, 1, 0, 1365, 0, fun _ => 0)
  | n + 1 => if (rdS T v n).2.1 = 0 then rdS T v n else
      ((rd1 T v (rdS T v n).2.2.2.2.2 (rdS T v n).2.2.1 (rdS T v n).1 (rdS T v n).2.2.2.1 (rdS T v n).2.2.2.2.1).1, (rd1 T v (rdS T v n).2.2.2.2.2 (rdS T v n).2.2.1 (rdS T v n).1 (rdS T v n).2.2.2.1 (rdS T v n).2.2.2.2.1).2.1,
       (rd1 T v (rdS T v n).2.2.2.2.2 (rdS T v n).2.2.1 (rdS T v n).1 (rdS T v n).2.2.2.1 (rdS T v n).2.2.2.2.1).2.2.1, (rd1 T v (rdS T v n).2.2.2.2.2 (rdS T v n).2.2.1 (rdS T v n).1 (rdS T v n).2.2.2.1 (rdS T v n).2.2.2.2.1).2.2.2,
       (rdS T v n).2.2.2.2.1 + 1, uz (rdS T v n).2.2.2.2.2 (rdS T v n).2.2.2.2.1 (rdS T v n).2.2.2.1)
def RdI (n : Int) (q : Int × Int × Int × Int × Int × (Int → Int)) : Prop :=
  q.2.1 = 1 ∧ q.2.2.2.2.1 = n ∧ (q.2.2.1 = 0 ∨ q.2.2.1 = 1) ∧ (∀ j, 0 ≤ j → j < n → VD (q.2.2.2.2.2 j)) ∧ (∀ i j, 0 ≤ i → i < j → j < n → q.2.2.2.2.2 i ≠ q.2.2.2.2.2 j) ∧ (q.2.2.1 = 0 → VD q.2.2.2.1 ∧ ∀ j, 0 ≤ j → j < n → q.2.2.2.2.2 j ≠ q.2.2.2.1)
theorem pigD {D : Int → Int} {n : Int} (hn : 0 ≤ n) (h1 : ∀ j, 0 ≤ j → j < n → VD (D j)) (h2 : ∀ i j, 0 ≤ i → i < j → j < n → D i ≠ D j) : n ≤ 729 := by
  have h := pig 729 (fun i : Nat => dco (D i)) n.toNat (fun i hi => VD_lt (h1 i (by omega) (by omega))) (fun i j hij hj q => h2 i j (by omega) (by omega) (by omega) (VD_inj (h1 i (by omega) (by omega)) (h1 j (by omega) (by omega)) q))
  omega
theorem pigE {D : Int → Int} {n d : Int} (hn : 0 ≤ n) (h1 : ∀ j, 0 ≤ j → j < n → VD (D j)) (h2 : ∀ i j, 0 ≤ i → i < j → j < n → D i ≠ D j) (h3 : VD d) (h4 : ∀ j, 0 ≤ j → j < n → D j ≠ d) : n ≤ 728 := by
  have h := pigD (D := uz D n d) (n := n + 1) (by omega) (fun j a b => by
    by_cases e : j = n
    · rw [e, uz_s]; exact h3
    · rw [uz_n e]; exact h1 j a (by omega)) (fun i j a b c => by
    rw [uz_n (show i ≠ n by omega)]
    by_cases e : j = n
    · rw [e, uz_s]; exact h4 i a (by omega)
    · rw [uz_n e]; exact h2 i j a b (by omega))
  omega
theorem RdI_in {n : Int} {q : Int × Int × Int × Int × Int × (Int → Int)} (hn : 0 ≤ n) (h : RdI n q) : n ≤ 729 ∧ (q.2.2.1 = 0 → n ≤ 728) := by
  obtain ⟨h1, h2, h3, h4, h5, h6⟩ := h
  exact ⟨pigD hn h4 h5, fun e => pigE hn h4 h5 (h6 e).1 (h6 e).2⟩
section RS1
variable {T : Nat → Int → Int → Int → Int} {v : Int}
theorem rdS_s {n : Nat} (h : (rdS T v n).2.1 ≠ 0) : rdS T v (n + 1) = ((rd1 T v (rdS T v n).2.2.2.2.2 (rdS T v n).2.2.1 (rdS T v n).1 (rdS T v n).2.2.2.1 (rdS T v n).2.2.2.2.1).1, (rd1 T v (rdS T v n).2.2.2.2.2 (rdS T v n).2.2.1 (rdS T v n).1 (rdS T v n).2.2.2.1 (rdS T v n).2.2.2.2.1).2.1,
       (rd1 T v (rdS T v n).2.2.2.2.2 (rdS T v n).2.2.1 (rdS T v n).1 (rdS T v n).2.2.2.1 (rdS T v n).2.2.2.2.1).2.2.1, (rd1 T v (rdS T v n).2.2.2.2.2 (rdS T v n).2.2.1 (rdS T v n).1 (rdS T v n).2.2.2.1 (rdS T v n).2.2.2.2.1).2.2.2,
       (rdS T v n).2.2.2.2.1 + 1, uz (rdS T v n).2.2.2.2.2 (rdS T v n).2.2.2.2.1 (rdS T v n).2.2.2.1) := by
  show (if (rdS T v n).2.1 = 0 then rdS T v n else _) = _
  rw [if_neg h]
theorem rdS_e {n : Nat} (h : (rdS T v n).2.1 = 0) : ∀ d : Nat, rdS T v (n + d) = rdS T v n
  | 0 => rfl
  | d + 1 => by
    have ih := rdS_e h d
    show (if (rdS T v (n + d)).2.1 = 0 then rdS T v (n + d) else _) = _
    rw [ih, if_pos h]
theorem cdZ_c {D : Int → Int} {gv dg nR : Int} : (cdZ D gv dg nR).2.1 = 0 ∨ (cdZ D gv dg nR).2.1 = 1 := by
  unfold cdZ
  (repeat' split) <;> simp
theorem rdS_I : ∀ n : Nat, (rdS T v n).2.1 ≠ 0 → RdI n (rdS T v n)
  | 0, _ => ⟨rfl, rfl, Or.inl rfl, fun j a b => by omega, fun i j a b c => by omega, fun _ => ⟨⟨1, 1, 1, 1, 1, 1, by omega, by omega, by omega, by omega, by omega, by omega, (show (1365 : Int) = 1 + 4 * 1 + 16 * 1 + 64 * 1 + 256 * 1 + 1024 * 1 by decide)⟩, fun j a b => by omega⟩⟩
  | n + 1, h => by
    have h0 : (rdS T v n).2.1 ≠ 0 := fun e => by
      have := rdS_e e 1
      rw [this] at h
      exact h e
    obtain ⟨i1, i2, i3, i4, i5, i6⟩ := rdS_I n h0
    have hb := RdI_in (n := (n : Int)) (by omega) ⟨i1, i2, i3, i4, i5, i6⟩
    rw [rdS_s h0] at h ⊢
    generalize rdS T v n = q at *
    obtain ⟨sT, gO, iL, dg, nR, D⟩ := q
    dsimp only at *
    subst i2
    unfold rd1 at h ⊢
    by_cases e : iL = 1
    · rw [if_pos e] at h; exact absurd rfl h
    · rw [if_neg e] at h ⊢
      have eL : iL = 0 := by omega
      obtain ⟨d1, d2⟩ := i6 eL
      have hb2 := hb.2 eL
      generalize hgv : dgF (moC T v dg) (mkZ T (moC T v dg)) 6 = gv at h ⊢
      have hV : VD gv := by rw [← hgv]; exact VD_dg _ _
      have hD1 : ∀ j, 0 ≤ j → j < ((n + 1 : Nat) : Int) → VD (uz D (n : Int) dg j) := fun j a b => by
        by_cases e2 : j = (n : Int)
        · rw [e2, uz_s]; exact d1
        · rw [uz_n e2]; exact i4 j a (by omega)
      have hD2 : ∀ i j, 0 ≤ i → i < j → j < ((n + 1 : Nat) : Int) → uz D (n : Int) dg i ≠ uz D (n : Int) dg j := fun i j a b c => by
        rw [uz_n (show i ≠ (n : Int) by omega)]
        by_cases e2 : j = (n : Int)
        · rw [e2, uz_s]; exact d2 i a (by omega)
        · rw [uz_n e2]; exact i5 i j a b (by omega)
      unfold cdZ at h ⊢
      by_cases e3 : gv = dg
      · rw [if_pos e3] at h; exact absurd rfl h
      · rw [if_neg e3] at h ⊢
        by_cases e4 : rwZ (uz D (n : Int) dg) gv ((n : Int) + 1) = -1
        · rw [if_pos e4]
          refine ⟨rfl, (show (n : Int) + 1 = ((n + 1 : Nat) : Int) by omega), Or.inl rfl, hD1, hD2, fun _ => ⟨hV, fun j a b => ?_⟩⟩
          exact rwF_no _ 0 (by omega) e4 j a (by omega)
        · rw [if_neg e4]
          exact ⟨rfl, (show (n : Int) + 1 = ((n + 1 : Nat) : Int) by omega), Or.inr rfl, hD1, hD2, fun q => absurd (show (1 : Int) = 0 from q) (by decide)⟩
theorem rdS_end : (rdS T v 731).2.1 = 0 := by
  apply Classical.byContradiction
  intro h
  have := RdI_in (by omega) (rdS_I 731 h)
  omega
theorem rdS_fin {n : Nat} (h : (rdS T v n).2.1 = 0) (hn : n ≤ 731) : rdS T v n = rdS T v 731 := by
  have := rdS_e h (731 - n)
  rw [show n + (731 - n) = 731 by omega] at this
  exact this.symm
/-- what there is when all rounds are made -/
def dgN (T : Nat → Int → Int → Int → Int) (v : Int) : Int := (rdS T v 731).2.2.2.1
def rnN (T : Nat → Int → Int → Int → Int) (v : Int) : Int := (rdS T v 731).2.2.2.2.1
def stN (T : Nat → Int → Int → Int → Int) (v : Int) : Int := (rdS T v 731).1
theorem rd1_dg {D : Int → Int} {iL sT dg nR : Int} (h : (rd1 T v D iL sT dg nR).2.1 = 0) : (rd1 T v D iL sT dg nR).2.2.2 = dg := by
  unfold rd1 cdZ at *
  split at h
  · rename_i e; rw [if_pos e]
  · rename_i e; rw [if_neg e]
    split at h
    · rename_i e2; rw [if_pos e2]
    · split at h
      · exact absurd (show (1 : Int) = 0 from h) (by decide)
      · exact absurd (show (1 : Int) = 0 from h) (by decide)
theorem rd1_sT {D : Int → Int} {iL sT dg nR : Int} (h : sT = 0 ∨ sT = 1) : (rd1 T v D iL sT dg nR).1 = 0 ∨ (rd1 T v D iL sT dg nR).1 = 1 := by
  unfold rd1 cdZ
  (repeat' split) <;> first | exact h | simp
theorem rdS_1 : ∀ n : Nat, ((rdS T v n).1 = 0 ∨ (rdS T v n).1 = 1) ∧ 0 ≤ (rdS T v n).2.2.2.2.1 ∧ (rdS T v n).2.2.2.2.1 ≤ n
  | 0 => ⟨Or.inl rfl, Int.le_refl 0, Int.le_refl 0⟩
  | n + 1 => by
    have ih := rdS_1 n
    by_cases h : (rdS T v n).2.1 = 0
    · rw [rdS_e h 1]; exact ⟨ih.1, ih.2.1, by omega⟩
    · rw [rdS_s h]
      exact ⟨rd1_sT ih.1, by show 0 ≤ (rdS T v n).2.2.2.2.1 + 1; omega, by show (rdS T v n).2.2.2.2.1 + 1 ≤ _; omega⟩
theorem stN_in : stN T v = 0 ∨ stN T v = 1 := (rdS_1 731).1
theorem rnN_in : 1 ≤ rnN T v ∧ rnN T v ≤ 731 := by
  have h := (rdS_1 (T := T) (v := v) 731).2
  have h1 : ∀ n m : Nat, m = n + 1 → 1 ≤ (rdS T v m).2.2.2.2.1 := by
    intro n m hm
    subst hm
    induction n with
    | zero =>
      rw [rdS_s (show (rdS T v 0).2.1 ≠ 0 from by show (1 : Int) ≠ 0; omega)]
      show (1 : Int) ≤ 0 + 1
      omega
    | succ n ih =>
      by_cases e : (rdS T v (n + 1)).2.1 = 0
      · rw [rdS_e e 1]; exact ih
      · rw [rdS_s e]
        show 1 ≤ (rdS T v (n + 1)).2.2.2.2.1 + 1
        omega
  exact ⟨h1 730 731 rfl, h.2⟩
end RS1

end
