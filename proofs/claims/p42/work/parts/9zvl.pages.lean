section
section PAGES1
variable {T : Nat → Int → Int → Int → Int} {M P S : Nat → Int → Int} {rb ro fr n no us x st w wt lf v dg r0 cz w0 u0 : Int} {g : Int → Int}
/-- what holds of a page -/
def PgA (M P : Nat → Int → Int) (j : Int) : Prop := (0 ≤ P 1 j ∧ 0 ≤ P 2 j ∧ P 1 j + P 2 j ≤ M 0 0) ∧ (0 ≤ P 3 j ∧ P 3 j ≤ 100000) ∧ (P 2 j + P 3 j + (if 0 < P 3 j then 1 else 0) ≤ P 4 j ∧ P 4 j ≤ 1000000) ∧ 0 < P 2 j + P 4 j
/-- pages so far, with their rows up to ro, of which those before rb know their page -/
def PV (M P : Nat → Int → Int) (rb ro : Int) : Prop := (∀ j, 0 ≤ j → j < P 0 0 → PgA M P j) ∧ (∀ r, 0 ≤ r → r < rb → 1 ≤ P 5 r ∧ P 5 r ≤ P 0 0 ∧ P 1 (P 5 r - 1) ≤ r ∧ r < P 1 (P 5 r - 1) + P 2 (P 5 r - 1)) ∧ (∀ j, 0 ≤ j → j < P 0 0 → 0 < P 2 j → P 1 j = smZ (P 2) 0 (Int.toNat j)) ∧ smZ (P 2) 0 (Int.toNat (P 0 0)) = ro ∧ 0 ≤ P 0 0 ∧ ∀ j, -1 ≤ P 6 j ∧ P 6 j ≤ 10000
theorem PV_pu (h : PV M P rb ro) (hc : P 0 0 < 965) (h1 : 0 ≤ fr ∧ 0 ≤ n ∧ fr + n ≤ M 0 0) (h2 : 0 ≤ no ∧ no ≤ 100000) (h3 : n + no + (if 0 < no then 1 else 0) ≤ us ∧ us ≤ 1000000) (h4 : 0 < n + us) (h5 : n = 0 ∨ fr = ro) : PV M (puP P fr n no us) rb (ro + n) := by
  obtain ⟨a, b, c, d, e, q⟩ := h
  rw [puP_y hc]
  have e0 : puQ P fr n no us 0 0 = P 0 0 + 1 := (show uz (P 0) 0 (P 0 0 + 1) 0 = P 0 0 + 1 from uz_s)
  have e1 : puQ P fr n no us 1 = uz (P 1) (P 0 0) fr := rfl
  have e2 : puQ P fr n no us 2 = uz (P 2) (P 0 0) n := rfl
  have e3 : puQ P fr n no us 3 = uz (P 3) (P 0 0) no := rfl
  have e4 : puQ P fr n no us 4 = uz (P 4) (P 0 0) us := rfl
  have e5 : puQ P fr n no us 5 = P 5 := rfl
  have e6 : puQ P fr n no us 6 = P 6 := rfl
  have s2 : ∀ k : Nat, (k : Int) ≤ P 0 0 → smZ (uz (P 2) (P 0 0) n) 0 k = smZ (P 2) 0 k := fun k hk => smc k (fun j a b => uz_n (by omega))
  refine ⟨fun j g1 g2 => ?_, fun r g1 g2 => ?_, fun j g1 g2 g3 => ?_, ?_, by rw [e0]; omega, fun j => by rw [e6]; exact q j⟩
  · rw [e0] at g2
    unfold PgA
    rw [e1, e2, e3, e4]
    by_cases ej : j = P 0 0
    · rw [ej, uz_s, uz_s, uz_s, uz_s]
      exact ⟨h1, h2, h3, h4⟩
    · rw [uz_n ej, uz_n ej, uz_n ej, uz_n ej]
      exact a j g1 (by omega)
  · have k := b r g1 g2
    rw [e5, e0, e1, e2, uz_n (by omega), uz_n (by omega)]
    omega
  · rw [e0] at g2
    rw [e2] at g3 ⊢
    rw [e1]
    by_cases ej : j = P 0 0
    · rw [ej, uz_s] at g3
      rw [ej, uz_s, s2 _ (by omega), d]
      omega
    · rw [uz_n ej] at g3
      rw [uz_n ej, s2 _ (by omega)]
      exact c j g1 (by omega) g3
  · rw [e0, e2, show (P 0 0 + 1).toNat = (P 0 0).toNat + 1 by omega, sm_s, s2 _ (by omega), show (((P 0 0).toNat : Nat) : Int) = P 0 0 by omega, uz_s, d]
theorem puP_c (hc : P 0 0 < 965) : puP P fr n no us 0 0 = P 0 0 + 1 := by rw [puP_y hc]; exact (show uz (P 0) 0 (P 0 0 + 1) 0 = P 0 0 + 1 from uz_s)
theorem PV_6 (h : PV M P rb ro) (hg : ∀ j, -1 ≤ g j ∧ g j ≤ 10000) : PV M (seP P 6 g) rb ro := ⟨h.1, h.2.1, h.2.2.1, h.2.2.2.1, h.2.2.2.2.1, hg⟩
theorem PV_0 (h : PV M P rb ro) : PV M (seP P 0 (uz (P 0) 1 x)) rb ro := by
  have e0 : seP P 0 (uz (P 0) 1 x) 0 0 = P 0 0 := (show uz (P 0) 1 x 0 = P 0 0 from uz_n (by decide))
  unfold PV
  rw [e0]
  exact h
theorem PV_5 (h : PV M P rb ro) (hn : 0 ≤ n) (hp : 1 ≤ P 0 0) (h1 : P 1 (P 0 0 - 1) = rb) (h2 : P 2 (P 0 0 - 1) = n) : PV M (seP P 5 (fil (P 5) rb n (P 0 0))) (rb + n) ro := by
  refine ⟨h.1, fun r a b => ?_, h.2.2.1, h.2.2.2.1, h.2.2.2.2.1, h.2.2.2.2.2⟩
  show 1 ≤ fil (P 5) rb n (P 0 0) r ∧ fil (P 5) rb n (P 0 0) r ≤ P 0 0 ∧ P 1 (fil (P 5) rb n (P 0 0) r - 1) ≤ r ∧ r < P 1 (fil (P 5) rb n (P 0 0) r - 1) + P 2 (fil (P 5) rb n (P 0 0) r - 1)
  simp only [fil]
  by_cases e : rb ≤ r ∧ r < rb + n
  · rw [if_pos e]
    omega
  · rw [if_neg e]
    exact h.2.1 r a (by omega)
theorem pl_6 (hg : ∀ j, -1 ≤ g j ∧ g j ≤ 10000) (hv : -1 ≤ v ∧ v ≤ 10000) : ∀ (k : Nat) (j : Int), -1 ≤ (plS T M st v g k).1 j ∧ (plS T M st v g k).1 j ≤ 10000
  | 0, j => hg j
  | k + 1, j => by
    have ih := pl_6 hg hv k
    simp only [plS]
    by_cases e : bAnd (bShr st (k : Int)) 1 = 1
    · rw [if_pos e]
      dsimp only
      by_cases ej : j = M 16 (k : Int)
      · rw [ej, uz_s]; exact hv
      · rw [uz_n ej]; exact ih j
    · rw [if_neg e]; exact ih j
theorem pl_low (hK : TK T) (q : Nat) (hq : bAnd (bShr st (q : Int)) 1 = 1) (h1 : 1 ≤ T 14 (M 16 (q : Int)) 0 0) : ∀ k : Nat, q < k → 1 ≤ (plS T M st v g k).2
  | 0, h => by omega
  | k + 1, h => by
    have f := TK_fh hK (M 16 (k : Int))
    have p0 := plS_in (M := M) (st := st) (v := v) (g := g) hK k
    simp only [plS]
    by_cases e : q = k
    · rw [← e, if_pos hq]
      rw [← e] at p0
      dsimp only
      omega
    · have ih := pl_low hK q hq h1 k (by omega)
      by_cases e2 : bAnd (bShr st (k : Int)) 1 = 1
      · rw [if_pos e2]; dsimp only; omega
      · rw [if_neg e2]; exact ih
/-- a page of figures -/
theorem PV_pf (hK : TK T) (hM : MK M) (h : PV M P rb ro) (hc : P 0 0 < 965) (q : Nat) (h1 : (q : Int) < M 17 0) (h2 : bAnd (bShr st (q : Int)) 1 = 1) (h3 : 1 ≤ T 14 (M 16 (q : Int)) 0 0) : PV M (pfZ T M P st) rb ro ∧ pfZ T M P st 0 0 = P 0 0 + 1 := by
  have h17 := (show 0 ≤ M 17 0 ∧ M 17 0 ≤ 5 from hM.2.2.2.2.2.2.2.2.2.2.2.2.2.2.2.2.2)
  have hm := MK_cnt hM
  have h0 := h.2.2.2.2.1
  have l : 1 ≤ (plZ T M st (10 * (P 0 0 + 1) + 2) (P 6)).2 := pl_low (v := 10 * (P 0 0 + 1) + 2) (g := P 6) hK q h2 h3 (Int.toNat (M 17 0)) (by omega)
  have u : 0 ≤ (plZ T M st (10 * (P 0 0 + 1) + 2) (P 6)).2 ∧ (plZ T M st (10 * (P 0 0 + 1) + 2) (P 6)).2 ≤ 40 * ((Int.toNat (M 17 0) : Nat) : Int) := plS_in (M := M) (st := st) (v := 10 * (P 0 0 + 1) + 2) (g := P 6) hK (Int.toNat (M 17 0))
  have g6 := pl_6 (T := T) (M := M) (st := st) (v := 10 * (P 0 0 + 1) + 2) h.2.2.2.2.2 (by omega) (Int.toNat (M 17 0))
  have e : pfQ T M P st = seP (puP P (M 0 0) 0 0 (plZ T M st (10 * (P 0 0 + 1) + 2) (P 6)).2) 6 (plZ T M st (10 * (P 0 0 + 1) + 2) (P 6)).1 := by
    rw [puP_y hc]
    funext c i
    by_cases c4 : c = 4
    · rw [c4]
      show uz (uz (P 4) (P 0 0) 0) (P 0 0) (plZ T M st (10 * (P 0 0 + 1) + 2) (P 6)).2 i = uz (P 4) (P 0 0) (plZ T M st (10 * (P 0 0 + 1) + 2) (P 6)).2 i
      by_cases ei : i = P 0 0
      · rw [ei, uz_s, uz_s]
      · rw [uz_n ei, uz_n ei, uz_n ei]
    · unfold pfQ
      simp only [seP, puQ]
      rw [if_neg c4, if_neg c4, if_neg c4]
  rw [pfZ_y hc]
  refine ⟨?_, pfQ_0⟩
  rw [e]
  have k := PV_pu (fr := M 0 0) (n := 0) (no := 0) (us := (plZ T M st (10 * (P 0 0 + 1) + 2) (P 6)).2) h hc (by omega) (by omega) (by rw [if_neg (by omega)]; omega) (by omega) (Or.inl rfl)
  rw [Int.add_zero] at k
  exact PV_6 k g6
theorem PV_pa (hK : TK T) (hM : MK M) (hF : ∀ q : Nat, (q : Int) < M 17 0 → 1 ≤ T 14 (M 16 (q : Int)) 0 0) (h : PV M P rb ro) : ∀ k : Nat, (k : Int) ≤ M 17 0 → P 0 0 + k ≤ 965 → PV M (paS T M st P k) rb ro ∧ paS T M st P k 0 0 ≤ P 0 0 + k
  | 0, _, _ => ⟨h, by show P 0 0 ≤ P 0 0 + ((0 : Nat) : Int); omega⟩
  | k + 1, hk, hc => by
    have h17 := (show 0 ≤ M 17 0 ∧ M 17 0 ≤ 5 from hM.2.2.2.2.2.2.2.2.2.2.2.2.2.2.2.2.2)
    obtain ⟨i1, i2⟩ := PV_pa hK hM hF h k (by omega) (by omega)
    simp only [paS]
    by_cases e : bAnd (bShr st (k : Int)) 1 = 1
    · rw [if_pos e]
      have b : bAnd (bShr (bShl 1 (k : Int)) (k : Int)) 1 = 1 := (tb_1 (shl_32 k (by omega)).1).mpr (by rw [tb_shl, decide_eq_true rfl])
      obtain ⟨j1, j2⟩ := PV_pf (st := bShl 1 (k : Int)) hK hM i1 (by omega) k (by omega) b (hF k (by omega))
      exact ⟨j1, by omega⟩
    · rw [if_neg e]
      exact ⟨i1, by omega⟩
theorem tb_sub {a b : Int} {k : Nat} (h : tb (bDif a b) k = true) : tb a k = true := by
  unfold tb bDif at h
  rw [Int.toNat_natCast, Nat.testBit_and, Bool.and_eq_true] at h
  exact h.1
theorem tb_ne (h0 : 0 ≤ w) (h : w ≠ 0) : ∃ q : Nat, tb w q = true := by
  refine Classical.byContradiction (fun hn => h (tb_ext h0 (Int.le_refl 0) (fun k => ?_)))
  rw [tb_z]
  cases hq : tb w k with
  | false => rfl
  | true => exact absurd ⟨k, hq⟩ hn
theorem fb_I (hw : 0 ≤ w) (hb : ∀ q : Nat, tb w q = true → (q : Int) < M 17 0) : ∀ (f k : Nat) (s hh : Int), 0 ≤ s → ((∃ q : Nat, (q : Int) < M 17 0 ∧ tb s q = true) ∨ (s = 0 ∧ ∃ q : Nat, k ≤ q ∧ q < k + f ∧ tb w q = true)) → 0 ≤ fbF T M w f (k : Int) s hh ∧ ∃ q : Nat, (q : Int) < M 17 0 ∧ tb (fbF T M w f (k : Int) s hh) q = true
  | 0, k, s, hh, h0, h => by
    rcases h with h | ⟨-, q, a, b, -⟩
    · exact ⟨h0, h⟩
    · omega
  | f + 1, k, s, hh, h0, h => by
    simp only [fbF]
    rw [show (k : Int) + 1 = ((k + 1 : Nat) : Int) by omega]
    by_cases e : bAnd (bShr w (k : Int)) 1 = 0
    · rw [if_pos e]
      have en := (tb_0 hw).mp e
      refine fb_I hw hb f (k + 1) s hh h0 ?_
      rcases h with h | ⟨a, q, b, c, d⟩
      · exact Or.inl h
      · refine Or.inr ⟨a, q, ?_, by omega, d⟩
        by_cases eq : q = k
        · rw [eq, en] at d; exact absurd d (by decide)
        · omega
    · rw [if_neg e]
      have en : tb w k = true := by
        cases hq : tb w k with
        | true => rfl
        | false => exact absurd ((tb_0 hw).mpr hq) e
      split
      · rename_i g2
        rcases h with h | ⟨a, -⟩
        · exact ⟨h0, h⟩
        · exact absurd a g2.1
      · refine fb_I hw hb f (k + 1) _ _ or_nn (Or.inl ⟨k, hb k en, ?_⟩)
        rw [tb_or, tb_shl, decide_eq_true rfl, Bool.or_true]
theorem PV_bh (hK : TK T) (hM : MK M) (hF : ∀ q : Nat, (q : Int) < M 17 0 → 1 ≤ T 14 (M 16 (q : Int)) 0 0) : ∀ (f : Nat) (w : Int) (P : Nat → Int → Int), PV M P rb ro → P 0 0 + f ≤ 965 → 0 ≤ w → (∀ q : Nat, tb w q = true → (q : Int) < M 17 0) → PV M (bhF T M f w P) rb ro ∧ bhF T M f w P 0 0 ≤ P 0 0 + f ∧ bhF T M f w P 0 1 = P 0 1
  | 0, w, P, h, hc, _, _ => ⟨h, by show P 0 0 ≤ P 0 0 + ((0 : Nat) : Int); omega, rfl⟩
  | f + 1, w, P, h, hc, hw, hb => by
    simp only [bhF]
    by_cases e : w = 0
    · rw [if_pos e]
      exact ⟨h, by omega, rfl⟩
    · rw [if_neg e]
      obtain ⟨q0, hq0⟩ := tb_ne hw e
      have hq1 := hb q0 hq0
      obtain ⟨a, q, b, c⟩ := fb_I (T := T) (M := M) hw hb (Int.toNat (M 17 0)) 0 0 0 (Int.le_refl 0) (Or.inr ⟨rfl, q0, by omega, by omega, hq0⟩)
      have b1 : bAnd (bShr (fbZ T M w) (q : Int)) 1 = 1 := (tb_1 a).mpr c
      obtain ⟨j1, j2⟩ := PV_pf (st := fbZ T M w) hK hM h (by omega) q b b1 (hF q b)
      obtain ⟨k1, k2, k3⟩ := PV_bh hK hM hF f (bDif w (fbZ T M w)) _ j1 (by omega) dif_nn (fun x hx => hb x (tb_sub hx))
      refine ⟨k1, by omega, ?_⟩
      rw [k3, pfZ_01]
theorem PV_bn (hK : TK T) (hM : MK M) : ∀ (f : Nat) (lf : Int) (P : Nat → Int → Int), PV M P rb ro → P 0 0 ≤ 965 → P 0 0 + lf ≤ 965 → PV M (bnF T M f lf P) rb ro ∧ bnF T M f lf P 0 0 ≤ 965 ∧ bnF T M f lf P 0 1 = P 0 1
  | 0, lf, P, h, hc, _ => ⟨h, hc, rfl⟩
  | f + 1, lf, P, h, hc, hl => by
    have hm := MK_cnt hM
    have hh := TK_hei hK
    simp only [bnF]
    by_cases e : lf ≤ 0
    · rw [if_pos e]
      exact ⟨h, hc, rfl⟩
    · rw [if_neg e]
      have k := PV_pu (fr := M 0 0) (n := 0) (no := min lf (T 17 0 0 0 - 1)) (us := min lf (T 17 0 0 0 - 1) + 1) h (by omega) (by omega) (by omega) (by split <;> omega) (by omega) (Or.inl rfl)
      have kc := puP_c (P := P) (fr := M 0 0) (n := 0) (no := min lf (T 17 0 0 0 - 1)) (us := min lf (T 17 0 0 0 - 1) + 1) (by omega)
      rw [Int.add_zero] at k
      obtain ⟨j1, j2, j3⟩ := PV_bn hK hM f (lf - min lf (T 17 0 0 0 - 1)) _ k (by omega) (by omega)
      refine ⟨j1, j2, ?_⟩
      rw [j3, puP_01]
/-- a page of rows -/
theorem PV_pp (h : PV M P ro ro) (hc : P 0 0 < 965) {ts bs : Int} (h1 : 0 ≤ ro ∧ 1 ≤ n ∧ ro + n ≤ M 0 0) (h2 : 0 ≤ no ∧ no ≤ 100000) (h3 : n + no + (if 0 < no then 1 else 0) ≤ us ∧ us ≤ 1000000) : PV M (ppZ T M P ro n no us ts bs) (ro + n) (ro + n) ∧ ppZ T M P ro n no us ts bs 0 0 = P 0 0 + 1 := by
  have h0 := h.2.2.2.2.1
  have k := PV_pu (fr := ro) (n := n) (no := no) (us := us) h hc (by omega) h2 h3 (by split at h3 <;> omega) (Or.inr rfl)
  have kc := puP_c (P := P) (fr := ro) (n := n) (no := no) (us := us) hc
  have e1 : puP P ro n no us 1 (puP P ro n no us 0 0 - 1) = ro := by
    rw [kc, show P 0 0 + 1 - 1 = P 0 0 by omega, puP_y hc]
    exact uz_s
  have e2 : puP P ro n no us 2 (puP P ro n no us 0 0 - 1) = n := by
    rw [kc, show P 0 0 + 1 - 1 = P 0 0 by omega, puP_y hc]
    exact uz_s
  have k5 := PV_5 k (by omega) (by omega) e1 e2
  rw [puP_5] at k5
  refine ⟨?_, by rw [ppZ_0]; exact kc⟩
  unfold ppZ
  refine PV_6 k5 (fun j => pl_6 (fun j => pl_6 h.2.2.2.2.2 (by omega) _ j) (by omega) _ j)
theorem bt_u (hK : TK T) : ∀ k : Nat, u0 ≤ (btS T M r0 cz w0 u0 k).2.2.2 ∧ (btS T M r0 cz w0 u0 k).2.2.2 ≤ u0 + 40 * k
  | 0 => ⟨Int.le_refl u0, by show u0 ≤ u0 + 40 * ((0 : Nat) : Int); omega⟩
  | k + 1 => by
    have ih := bt_u hK k
    have f := TK_fh hK (M 16 (k : Int))
    simp only [btS]
    by_cases e : bAnd (bShr (btS T M r0 cz w0 u0 k).2.2.1 (k : Int)) 1 = 1
    · rw [if_pos e]
      dsimp only
      omega
    · rw [if_neg e]
      split
      · split
        · dsimp only; omega
        · dsimp only; omega
      · omega
theorem sm_n1 (f : Int → Int) (c : Int) : ∀ n : Nat, (∀ j, c ≤ j → j < c + n → 1 ≤ f j) → (n : Int) ≤ smZ f c n
  | 0, _ => Int.le_refl 0
  | n + 1, h => by
    have ih := sm_n1 f c n (fun j a b => h j a (by omega))
    have := h (c + (n : Int)) (by omega) (by omega)
    simp only [smZ]
    omega
theorem PV_ly (hK : TK T) (hM : MK M) (h1r : ∀ r, 0 ≤ r → r < M 0 0 → 1 ≤ M 1 r) (h : PV M P ro ro) (hc : P 0 0 < 965) (hl : 0 ≤ lf) (hr : 0 ≤ ro ∧ 1 ≤ n ∧ ro + n ≤ M 0 0) (hg : n = 1 ∨ smZ (M 1) ro (Int.toNat n) ≤ 40) : PV M (lyP T M P ro wt lf n) (ro + n) (ro + n) ∧ lyP T M P ro wt lf n 0 0 = P 0 0 + 1 ∧ P 0 1 ≤ lyP T M P ro wt lf n 0 1 ∧ lyP T M P ro wt lf n 0 1 ≤ P 0 1 + 80000 := by
  have hm := MK_cnt hM
  have hh := TK_hei hK
  have h17 := (show 0 ≤ M 17 0 ∧ M 17 0 ≤ 5 from hM.2.2.2.2.2.2.2.2.2.2.2.2.2.2.2.2.2)
  have ph := pgH_low (wt := wt) hK hM hg
  have tp := tpS_in (M := M) (wt := wt) hK (Int.toNat (M 17 0))
  have s1 := sm_n1 (M 1) ro (Int.toNat n) (fun j a b => h1r j (by omega) (by omega))
  have hs := pgS_in (ro := ro) (n := n) hM (by omega)
  have pl : n ≤ pgH T M ro wt n := by
    have e : pgH T M ro wt n = (tpS T M wt (Int.toNat (M 17 0))).2.2 + smZ (M 1) ro (Int.toNat n) := rfl
    omega
  have cn : 0 ≤ pgN T M ro wt lf n ∧ pgN T M ro wt lf n ≤ 40 ∧ pgH T M ro wt n + pgN T M ro wt lf n + (if 0 < pgN T M ro wt lf n then 1 else 0) ≤ clU T (pgH T M ro wt n) lf (pgS M ro n) ∧ clU T (pgH T M ro wt n) lf (pgS M ro n) ≤ 441 := by
    have c0 : 0 ≤ clN T (pgH T M ro wt n) lf (pgS M ro n) ∧ clN T (pgH T M ro wt n) lf (pgS M ro n) ≤ 40 := by
      unfold clN
      split <;> omega
    unfold clU
    show 0 ≤ clN T (pgH T M ro wt n) lf (pgS M ro n) ∧ clN T (pgH T M ro wt n) lf (pgS M ro n) ≤ 40 ∧ pgH T M ro wt n + clN T (pgH T M ro wt n) lf (pgS M ro n) + (if 0 < clN T (pgH T M ro wt n) lf (pgS M ro n) then 1 else 0) ≤ _ ∧ _
    split <;> omega
  have bu := bt_u (M := M) (r0 := ro) (cz := n) (w0 := bDif wt (tpZ T M wt).2.1) (u0 := clU T (pgH T M ro wt n) lf (pgS M ro n)) hK (Int.toNat (M 17 0))
  have bu2 : clU T (pgH T M ro wt n) lf (pgS M ro n) ≤ (pgK T M ro wt lf n).2.2.2 ∧ (pgK T M ro wt lf n).2.2.2 ≤ clU T (pgH T M ro wt n) lf (pgS M ro n) + 40 * ((Int.toNat (M 17 0) : Nat) : Int) := bu
  have cs := csZ_in (M := M) (la := (ro + n) - 1) (us := (pgK T M ro wt lf n).2.2.2) (ly := pgY T M ro wt lf n) hK (by omega)
  have ep : seP P 0 (uz (P 0) 1 (P 0 1 + pgC T M ro wt lf n)) 0 0 = P 0 0 := (show uz (P 0) 1 (P 0 1 + pgC T M ro wt lf n) 0 = P 0 0 from uz_n (by decide))
  obtain ⟨k1, k2⟩ := PV_pp (T := T) (P := seP P 0 (uz (P 0) 1 (P 0 1 + pgC T M ro wt lf n))) (ro := ro) (n := n) (no := pgN T M ro wt lf n) (us := (pgK T M ro wt lf n).2.2.2) (ts := (tpZ T M wt).2.1) (bs := (pgK T M ro wt lf n).2.1) (PV_0 h) (by omega) hr (by omega) (by omega)
  refine ⟨k1, by rw [← ep]; exact k2, ?_⟩
  have e01 : lyP T M P ro wt lf n 0 1 = P 0 1 + pgC T M ro wt lf n := by
    unfold lyP
    rw [ppZ_01, seP_01]
  have ec : pgC T M ro wt lf n = csZ T M ((ro + n) - 1) (pgK T M ro wt lf n).2.2.2 (pgY T M ro wt lf n) := rfl
  omega
/-- all pages of rows -/
theorem PV_lyF (hK : TK T) (hM : MK M) (hS : SRT M) (hF : ∀ q : Nat, (q : Int) < M 17 0 → 1 ≤ T 14 (M 16 (q : Int)) 0 0) (h1r : ∀ r, 0 ≤ r → r < M 0 0 → 1 ≤ M 1 r) (hR : 6 * M 0 0 ≤ 960) (hst : ∀ ro wt lf, 0 ≤ ro → ro < M 0 0 → (1 ≤ S 5 (fnZ S ro wt lf) ∧ ro + S 5 (fnZ S ro wt lf) ≤ M 0 0) ∧ (S 5 (fnZ S ro wt lf) = 1 ∨ smZ (M 1) ro (Int.toNat (S 5 (fnZ S ro wt lf))) ≤ 40)) : ∀ (f : Nat) (ro wt lf : Int) (P : Nat → Int → Int), M 0 0 - ro ≤ f → 0 ≤ ro ∧ ro ≤ M 0 0 → SUF T M ro wt → (0 ≤ lf ∧ lf ≤ smZ (M 4) 0 (Int.toNat ro)) → PV M P ro ro → P 0 0 ≤ 6 * ro → (0 ≤ P 0 1 ∧ P 0 1 ≤ 80000 * ro) → PV M (lyF T M S f ro wt lf P).1 (M 0 0) (M 0 0) ∧ (lyF T M S f ro wt lf P).1 0 0 ≤ 6 * M 0 0 ∧ (0 ≤ (lyF T M S f ro wt lf P).1 0 1 ∧ (lyF T M S f ro wt lf P).1 0 1 ≤ 80000 * M 0 0) ∧ SUF T M (M 0 0) (lyF T M S f ro wt lf P).2.1 ∧ (lyF T M S f ro wt lf P).2.2 ≤ smZ (M 4) 0 (Int.toNat (M 0 0))
  | 0, ro, wt, lf, P, hf, hr, hw, hl, h, hc, h01 => by
    have e : ro = M 0 0 := by omega
    rw [← e]
    exact ⟨h, hc, h01, hw, hl.2⟩
  | f + 1, ro, wt, lf, P, hf, hr, hw, hl, h, hc, h01 => by
    have hm := MK_cnt hM
    have h17 := (show 0 ≤ M 17 0 ∧ M 17 0 ≤ 5 from hM.2.2.2.2.2.2.2.2.2.2.2.2.2.2.2.2.2)
    simp only [lyF]
    by_cases e : M 0 0 ≤ ro
    · have e2 : ro = M 0 0 := by omega
      rw [if_pos e, ← e2]
      exact ⟨h, hc, h01, hw, hl.2⟩
    · rw [if_neg e]
      obtain ⟨⟨n1, n2⟩, n3⟩ := hst ro wt lf hr.1 (by omega)
      generalize hn : S 5 (fnZ S ro wt lf) = n at *
      obtain ⟨k1, k2, k3, k4⟩ := PV_ly (wt := wt) hK hM h1r h (by omega) hl.1 ⟨hr.1, n1, n2⟩ n3
      have sx := SUF_x (lf := lf) hK hM hS hw (show 0 ≤ n by omega)
      have yx := pgY_in (T := T) (wt := wt) hM hr.1 (show 0 ≤ n ∧ n ≤ 768 by omega) hl
      by_cases e3 : ro + n < M 0 0
      · rw [if_pos e3]
        obtain ⟨a1, a2⟩ := PV_pa (st := bXor (pgX T M ro wt lf n) (waZ T M (pgX T M ro wt lf n))) hK hM hF k1 (Int.toNat (M 17 0)) (by omega) (by omega)
        have a3 : paZ T M (bXor (pgX T M ro wt lf n) (waZ T M (pgX T M ro wt lf n))) (lyP T M P ro wt lf n) 0 1 = lyP T M P ro wt lf n 0 1 := paZ_01
        exact PV_lyF hK hM hS hF h1r hR hst f (ro + n) _ _ _ (by omega) (by omega) (SUF_wa hM sx) yx a1 (by show paS T M _ _ (Int.toNat (M 17 0)) 0 0 ≤ _; omega) (by rw [a3]; omega)
      · rw [if_neg e3]
        exact PV_lyF hK hM hS hF h1r hR hst f (ro + n) _ _ _ (by omega) (by omega) sx yx k1 (by omega) (by omega)
theorem pages_ok (hK : TK T) (hM : MK M) (hS : SRT M) (hF : ∀ q : Nat, (q : Int) < M 17 0 → 1 ≤ T 14 (M 16 (q : Int)) 0 0) (h1r : ∀ r, 0 ≤ r → r < M 0 0 → 1 ≤ M 1 r) (hB : BND T M ≤ 131072) (hR : 6 * M 0 0 + smZ (M 4) 0 (Int.toNat (M 0 0)) ≤ 960) : PgI M (mkZ T M) := by
  have hm := MK_cnt hM
  have h17 := (show 0 ≤ M 17 0 ∧ M 17 0 ≤ 5 from hM.2.2.2.2.2.2.2.2.2.2.2.2.2.2.2.2.2)
  have s0 := sm_nn (f := M 4) (fun j => (MK_4 hM j).1) (Int.toNat (M 0 0))
  have c6 : ∀ j, -1 ≤ cP 6 j ∧ cP 6 j ≤ 10000 := fun j => by show -1 ≤ (-1 : Int) ∧ (-1 : Int) ≤ 10000; omega
  unfold mkZ
  by_cases e : M 0 0 = 0
  · rw [if_pos e]
    refine ⟨fun j a b => ?_, fun r a b => by omega, fun j a b => ?_, (show (0 : Int) ≤ 0 ∧ (0 : Int) ≤ 965 by omega), (show (0 : Int) ≤ 0 ∧ (0 : Int) ≤ 61440000 by omega), c6⟩
    · have b2 : j < 0 := b
      omega
    · have b2 : j < 0 := b
      omega
  · rw [if_neg e]
    obtain ⟨f1, f2⟩ := fwA_FI hK hM hS hB (by omega) (Int.toNat (M 0 0)) (by omega)
    obtain ⟨b1, b2, b3⟩ := bwA_all (M := M) hK f1.1 (SG_0 f1.2.2.2) (Int.toNat (M 0 0)) (by omega)
    have W := SW_SE f1.1 b2
    have hst : ∀ ro wt lf, 0 ≤ ro → ro < M 0 0 → (1 ≤ bwA T M (fwA T M (Int.toNat (M 0 0))) (Int.toNat (M 0 0)) 5 (fnZ (bwA T M (fwA T M (Int.toNat (M 0 0))) (Int.toNat (M 0 0))) ro wt lf) ∧ ro + bwA T M (fwA T M (Int.toNat (M 0 0))) (Int.toNat (M 0 0)) 5 (fnZ (bwA T M (fwA T M (Int.toNat (M 0 0))) (Int.toNat (M 0 0))) ro wt lf) ≤ M 0 0) ∧ (bwA T M (fwA T M (Int.toNat (M 0 0))) (Int.toNat (M 0 0)) 5 (fnZ (bwA T M (fwA T M (Int.toNat (M 0 0))) (Int.toNat (M 0 0))) ro wt lf) = 1 ∨ smZ (M 1) ro (Int.toNat (bwA T M (fwA T M (Int.toNat (M 0 0))) (Int.toNat (M 0 0)) 5 (fnZ (bwA T M (fwA T M (Int.toNat (M 0 0))) (Int.toNat (M 0 0))) ro wt lf))) ≤ 40) := by
      intro ro wt lf h1 h2
      have n1 : bwA T M (fwA T M (Int.toNat (M 0 0))) (Int.toNat (M 0 0)) 1 ro ≠ -1 := by
        rw [b2.1 1 (by omega) (by omega) (by omega)]
        exact f2 ro h1 (by omega) h2
      obtain ⟨z1, z2, z3⟩ := fnZ_in (ro := ro) (wt := wt) (lf := lf) W
      have z4 := z3 n1
      have z5 := z2 z4
      have q8 : fwA T M (Int.toNat (M 0 0)) 8 (fnZ (bwA T M (fwA T M (Int.toNat (M 0 0))) (Int.toNat (M 0 0))) ro wt lf) = ro := by
        rw [← b2.1 8 (by omega) (by omega) (by omega)]
        exact z5
      have q0 := SE_0 b2
      have ne := b3 (fnZ (bwA T M (fwA T M (Int.toNat (M 0 0))) (Int.toNat (M 0 0))) ro wt lf) (by omega) (by omega) (by omega) (by omega)
      obtain ⟨g1, g2, g3⟩ := b1 (fnZ (bwA T M (fwA T M (Int.toNat (M 0 0))) (Int.toNat (M 0 0))) ro wt lf) (by omega) z1.2 ne
      rw [z5] at g2
      have g4 := g3 (bwA T M (fwA T M (Int.toNat (M 0 0))) (Int.toNat (M 0 0)) 5 (fnZ (bwA T M (fwA T M (Int.toNat (M 0 0))) (Int.toNat (M 0 0))) ro wt lf) - 1) (by omega) (by omega)
      rw [z5] at g4
      have g5 : ¬ M 0 0 ≤ ro + (bwA T M (fwA T M (Int.toNat (M 0 0))) (Int.toNat (M 0 0)) 5 (fnZ (bwA T M (fwA T M (Int.toNat (M 0 0))) (Int.toNat (M 0 0))) ro wt lf) - 1) := fun q => g4 (Or.inl q)
      exact ⟨⟨g1, by omega⟩, g2⟩
    generalize bwA T M (fwA T M (Int.toNat (M 0 0))) (Int.toNat (M 0 0)) = S at *
    have p0 : PV M cP 0 0 := ⟨fun j a b => by have b2 : j < 0 := b; omega, fun r a b => by omega, fun j a b => by have b2 : j < 0 := b; omega, rfl, Int.le_refl 0, c6⟩
    obtain ⟨l1, l2, l3, l4, l5⟩ := PV_lyF (S := S) hK hM hS hF h1r (by omega) hst 768 0 0 0 cP (by omega) (by omega) SUF_0 ⟨Int.le_refl 0, Int.le_refl 0⟩ p0 (Int.le_refl 0) ⟨Int.le_refl 0, Int.le_refl 0⟩
    obtain ⟨h1, h2, h3⟩ := PV_bh hK hM hF 5 (lyF T M S 768 0 0 0 cP).2.1 (lyF T M S 768 0 0 0 cP).1 l1 (by omega) l4.1 (fun q hq => (l4.2.1 q hq).1)
    obtain ⟨n1, n2, n3⟩ := PV_bn hK hM 965 (lyF T M S 768 0 0 0 cP).2.2 _ h1 (by omega) (by omega)
    have e01 : lyZ T M S cP 0 1 = (lyF T M S 768 0 0 0 cP).1 0 1 := by
      unfold lyZ
      rw [n3, h3]
    refine ⟨n1.1, n1.2.1, n1.2.2.1, ⟨n1.2.2.2.2.1, n2⟩, ?_, n1.2.2.2.2.2⟩
    rw [e01]
    omega
end PAGES1

end
