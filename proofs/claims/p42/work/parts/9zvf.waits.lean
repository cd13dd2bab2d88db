section
section WAITS
variable {T : Nat → Int → Int → Int → Int} {M : Nat → Int → Int} {wz w0 u0 r0 cz : Int}
/-- kind, mention and height of a figure by its place in the order -/
def kdF (T : Nat → Int → Int → Int → Int) (M : Nat → Int → Int) (k : Nat) : Int := T 13 (M 16 (k : Int)) 0 0
def mnF (M : Nat → Int → Int) (k : Nat) : Int := M 14 (M 16 (k : Int))
theorem kd_nat (hK : TK T) (k : Nat) : ∃ q : Nat, q < 2 ∧ kdF T M k = (q : Int) := by
  have := TK_fk hK (M 16 (k : Int))
  exact ⟨(kdF T M k).toNat, by unfold kdF; omega, by unfold kdF; omega⟩
theorem blk_0 (hK : TK T) {x : Int} (k : Nat) : bAnd x (bShl 1 (T 13 (M 16 (k : Int)) 0 0)) = 0 ↔ tb x (kdF T M k).toNat = false := by
  obtain ⟨q, hq, e⟩ := kd_nat (M := M) hK k
  have e2 : T 13 (M 16 (k : Int)) 0 0 = (q : Int) := e
  rw [e2, and_shl, e, Int.toNat_natCast]
theorem blk_or (hK : TK T) {x : Int} (k j : Nat) : tb (bOr x (bShl 1 (T 13 (M 16 (k : Int)) 0 0))) (kdF T M j).toNat = (tb x (kdF T M j).toNat || decide (kdF T M k = kdF T M j)) := by
  obtain ⟨q, hq, e⟩ := kd_nat (M := M) hK k
  obtain ⟨q2, hq2, e2⟩ := kd_nat (M := M) hK j
  have e3 : T 13 (M 16 (k : Int)) 0 0 = (q : Int) := e
  rw [e3, tb_or, tb_shl, e, e2, Int.toNat_natCast]
  congr 1
  by_cases h : q = q2
  · rw [decide_eq_true h, decide_eq_true (by omega)]
  · rw [decide_eq_false h, decide_eq_false (by omega)]
theorem tp_I (hK : TK T) (hw : 0 ≤ wz) : ∀ n : Nat, 0 ≤ (tpS T M wz n).2.1 ∧ (∀ k, tb (tpS T M wz n).2.1 k = true → k < n ∧ tb wz k = true) ∧ (∀ k, k < n → tb wz k = true → tb (tpS T M wz n).2.1 k = false → tb (tpS T M wz n).1 (kdF T M k).toNat = true) ∧
    (∀ a b, a < b → b < n → kdF T M a = kdF T M b → tb wz a = true → tb (tpS T M wz n).2.1 a = false → tb (tpS T M wz n).2.1 b = false)
  | 0 => ⟨Int.le_refl 0, fun k h => by rw [show (tpS T M wz 0).2.1 = 0 from rfl, tb_z] at h; exact absurd h (by decide), fun k h => by omega, fun a b h1 h2 => by omega⟩
  | n + 1 => by
    obtain ⟨i0, i1, i2, i3⟩ := tp_I hK hw n
    simp only [tpS]
    by_cases g : bAnd (bShr wz (n : Int)) 1 = 0
    · rw [if_pos g]
      have gn := (tb_0 hw).mp g
      refine ⟨i0, fun k h => ⟨by have := (i1 k h).1; omega, (i1 k h).2⟩, fun k hk h h2 => ?_, fun a b hab hb e h h2 => ?_⟩
      · by_cases ek : k = n
        · rw [ek, gn] at h; exact absurd h (by decide)
        · exact i2 k (by omega) h h2
      · by_cases eb : b = n
        · rw [eb]
          cases hq : tb (tpS T M wz n).2.1 n with
          | false => rfl
          | true => exact absurd (i1 n hq).1 (by omega)
        · exact i3 a b hab (by omega) e h h2
    · rw [if_neg g]
      have gn : tb wz n = true := by
        cases hq : tb wz n with
        | true => rfl
        | false => exact absurd ((tb_0 hw).mpr hq) g
      by_cases g2 : bAnd (tpS T M wz n).1 (bShl 1 (T 13 (M 16 (n : Int)) 0 0)) = 0 ∧ (tpS T M wz n).2.2 + T 14 (M 16 (n : Int)) 0 0 ≤ T 17 0 0 0 / 2
      · rw [if_pos g2]
        have gb := (blk_0 (M := M) hK n).mp g2.1
        dsimp only
        refine ⟨or_nn, fun k h => ?_, fun k hk h h2 => ?_, fun a b hab hb e h h2 => ?_⟩
        · rw [tb_or, tb_shl] at h
          by_cases ek : n = k
          · exact ⟨by omega, by rw [← ek]; exact gn⟩
          · rw [decide_eq_false ek, Bool.or_false] at h
            exact ⟨by have := (i1 k h).1; omega, (i1 k h).2⟩
        · rw [tb_or, tb_shl] at h2
          by_cases ek : n = k
          · rw [decide_eq_true ek, Bool.or_true] at h2; exact absurd h2 (by decide)
          · rw [decide_eq_false ek, Bool.or_false] at h2
            exact i2 k (by omega) h h2
        · rw [tb_or, tb_shl] at h2 ⊢
          rw [decide_eq_false (by omega), Bool.or_false] at h2
          have hb2 := i2 a (by omega) h h2
          by_cases eb : n = b
          · rw [e, ← eb, gb] at hb2; exact absurd hb2 (by decide)
          · rw [decide_eq_false eb, Bool.or_false]
            exact i3 a b hab (by omega) e h h2
      · rw [if_neg g2]
        dsimp only
        refine ⟨i0, fun k h => ⟨by have := (i1 k h).1; omega, (i1 k h).2⟩, fun k hk h h2 => ?_, fun a b hab hb e h h2 => ?_⟩
        · rw [blk_or hK]
          by_cases ek : k = n
          · rw [ek, decide_eq_true rfl, Bool.or_true]
          · rw [i2 k (by omega) h h2, Bool.true_or]
        · by_cases eb : b = n
          · rw [eb]
            cases hq : tb (tpS T M wz n).2.1 n with
            | false => rfl
            | true => exact absurd (i1 n hq).1 (by omega)
          · exact i3 a b hab (by omega) e h h2
theorem bt_I (hK : TK T) (hw : 0 ≤ w0) : ∀ n : Nat, 0 ≤ (btS T M r0 cz w0 u0 n).2.2.1 ∧ (∀ k, tb w0 k = true → tb (btS T M r0 cz w0 u0 n).2.2.1 k = true) ∧ (∀ k, tb (btS T M r0 cz w0 u0 n).2.2.1 k = true → tb w0 k = true ∨ (k < n ∧ r0 ≤ mnF M k ∧ mnF M k < r0 + cz)) ∧
    (∀ k, k < n → tb (btS T M r0 cz w0 u0 n).2.2.1 k = true → tb (btS T M r0 cz w0 u0 n).1 (kdF T M k).toNat = true) ∧
    (∀ a b, a < b → b < n → kdF T M a = kdF T M b → r0 ≤ mnF M b → mnF M b < r0 + cz → tb (btS T M r0 cz w0 u0 n).2.2.1 a = true → tb (btS T M r0 cz w0 u0 n).2.2.1 b = true)
  | 0 => ⟨hw, fun k h => h, fun k h => Or.inl h, fun k h => by omega, fun a b h1 h2 => by omega⟩
  | n + 1 => by
    obtain ⟨i0, i1, i2, i3, i4⟩ := bt_I hK hw n
    simp only [btS]
    by_cases g : bAnd (bShr (btS T M r0 cz w0 u0 n).2.2.1 (n : Int)) 1 = 1
    · rw [if_pos g]
      have gn := (tb_1 i0).mp g
      dsimp only
      refine ⟨i0, i1, fun k h => ?_, fun k hk h => ?_, fun a b hab hb e h1 h2 h3 => ?_⟩
      · rcases i2 k h with q | q
        · exact Or.inl q
        · exact Or.inr ⟨by omega, q.2⟩
      · rw [blk_or hK]
        by_cases ek : k = n
        · rw [ek, decide_eq_true rfl, Bool.or_true]
        · rw [i3 k (by omega) h, Bool.true_or]
      · by_cases eb : b = n
        · rw [eb]; exact gn
        · exact i4 a b hab (by omega) e h1 h2 h3
    · rw [if_neg g]
      have gn : tb (btS T M r0 cz w0 u0 n).2.2.1 n = false := by
        cases hq : tb (btS T M r0 cz w0 u0 n).2.2.1 n with
        | false => rfl
        | true => exact absurd ((tb_1 i0).mpr hq) g
      by_cases g2 : r0 ≤ M 14 (M 16 (n : Int)) ∧ M 14 (M 16 (n : Int)) < r0 + cz
      · rw [if_pos g2]
        by_cases g3 : bAnd (btS T M r0 cz w0 u0 n).1 (bShl 1 (T 13 (M 16 (n : Int)) 0 0)) = 0 ∧ (btS T M r0 cz w0 u0 n).2.2.2 + T 14 (M 16 (n : Int)) 0 0 ≤ T 17 0 0 0
        · rw [if_pos g3]
          have gb := (blk_0 (M := M) hK n).mp g3.1
          dsimp only
          refine ⟨i0, i1, fun k h => ?_, fun k hk h => ?_, fun a b hab hb e h1 h2 h3 => ?_⟩
          · rcases i2 k h with q | q
            · exact Or.inl q
            · exact Or.inr ⟨by omega, q.2⟩
          · by_cases ek : k = n
            · rw [ek, gn] at h; exact absurd h (by decide)
            · exact i3 k (by omega) h
          · by_cases eb : b = n
            · have := i3 a (by omega) h3
              rw [e, eb, gb] at this
              exact absurd this (by decide)
            · exact i4 a b hab (by omega) e h1 h2 h3
        · rw [if_neg g3]
          dsimp only
          have tt : ∀ k, tb (bOr (btS T M r0 cz w0 u0 n).2.2.1 (bShl 1 (n : Int))) k = (tb (btS T M r0 cz w0 u0 n).2.2.1 k || decide (n = k)) := fun k => by rw [tb_or, tb_shl]
          refine ⟨or_nn, fun k h => by rw [tt, i1 k h, Bool.true_or], fun k h => ?_, fun k hk h => ?_, fun a b hab hb e h1 h2 h3 => ?_⟩
          · rw [tt] at h
            by_cases ek : n = k
            · exact Or.inr ⟨by omega, by rw [← ek]; exact g2.1, by rw [← ek]; exact g2.2⟩
            · rw [decide_eq_false ek, Bool.or_false] at h
              rcases i2 k h with q | q
              · exact Or.inl q
              · exact Or.inr ⟨by omega, q.2⟩
          · rw [blk_or hK]
            rw [tt] at h
            by_cases ek : n = k
            · rw [ek, decide_eq_true rfl, Bool.or_true]
            · rw [decide_eq_false ek, Bool.or_false] at h
              rw [i3 k (by omega) h, Bool.true_or]
          · rw [tt] at h3 ⊢
            rw [decide_eq_false (show ¬ n = a by omega), Bool.or_false] at h3
            by_cases eb : n = b
            · rw [decide_eq_true eb, Bool.or_true]
            · rw [i4 a b hab (by omega) e h1 h2 h3, Bool.true_or]
      · rw [if_neg g2]
        refine ⟨i0, i1, fun k h => ?_, fun k hk h => ?_, fun a b hab hb e h1 h2 h3 => ?_⟩
        · rcases i2 k h with q | q
          · exact Or.inl q
          · exact Or.inr ⟨by omega, q.2⟩
        · by_cases ek : k = n
          · rw [ek, gn] at h; exact absurd h (by decide)
          · exact i3 k (by omega) h
        · by_cases eb : b = n
          · exfalso
            apply g2
            rw [eb] at h1 h2
            exact ⟨h1, h2⟩
          · exact i4 a b hab (by omega) e h1 h2 h3
theorem wa_I : ∀ (f k : Nat) (w : Int), k + f ≤ 31 → 0 ≤ w → (∀ j, j < k → tb w j = false) → 0 ≤ waF T M f (k : Int) w ∧ (∀ j, j < 32 → tb (waF T M f (k : Int) w) j = true → tb w j = true) ∧ ∀ a b, a < b → b < 32 → tb (waF T M f (k : Int) w) a = true → tb w b = true → tb (waF T M f (k : Int) w) b = true
  | 0, k, w, _, h0, _ => ⟨h0, fun j _ h => h, fun a b _ _ _ h => h⟩
  | f + 1, k, w, hf, h0, hl => by
    simp only [waF]
    by_cases g : bAnd (bShr w (k : Int)) 1 = 1
    · rw [if_pos g]
      by_cases g2 : T 14 (M 16 (k : Int)) 0 0 ≤ T 17 0 0 0 / 2
      · rw [if_pos g2]
        exact ⟨h0, fun j _ h => h, fun a b _ _ _ h => h⟩
      · rw [if_neg g2]
        have tt : ∀ j, j < 32 → tb (bDif w (bShl 1 (k : Int))) j = (tb w j && !decide (k = j)) := fun j hj => by rw [tb_dif hj (shl_32 k (by omega)).2, tb_shl]
        obtain ⟨j0, j1, j2⟩ := wa_I f (k + 1) (bDif w (bShl 1 (k : Int))) (by omega) dif_nn (fun j hj => by
          rw [tt j (by omega)]
          by_cases e : k = j
          · rw [decide_eq_true e, Bool.not_true, Bool.and_false]
          · rw [hl j (by omega), Bool.false_and])
        rw [show ((k + 1 : Nat) : Int) = (k : Int) + 1 by omega] at j0 j1 j2
        refine ⟨j0, fun j hj h => ?_, fun a b hab hb h h2 => ?_⟩
        · have := j1 j hj h
          rw [tt j hj, Bool.and_eq_true] at this
          exact this.1
        · by_cases e : k = b
          · have h3 := j1 a (by omega) h
            rw [tt a (by omega), hl a (by omega), Bool.false_and] at h3
            exact absurd h3 (by decide)
          · refine j2 a b hab hb h ?_
            rw [tt b hb, h2, decide_eq_false e]
            rfl
    · rw [if_neg g]
      have gn : tb w k = false := by
        cases hq : tb w k with
        | false => rfl
        | true => exact absurd ((tb_1 h0).mpr hq) g
      have ih := wa_I f (k + 1) w (by omega) h0 (fun j hj => by
        by_cases e : j = k
        · rw [e]; exact gn
        · exact hl j (by omega))
      rw [show ((k + 1 : Nat) : Int) = (k : Int) + 1 by omega] at ih
      exact ih
/-- which sets can wait at a row -/
def SUF (T : Nat → Int → Int → Int → Int) (M : Nat → Int → Int) (r w : Int) : Prop := 0 ≤ w ∧ (∀ k : Nat, tb w k = true → (k : Int) < M 17 0 ∧ mnF M k < r) ∧ ∀ a b : Nat, a < b → (b : Int) < M 17 0 → kdF T M a = kdF T M b → mnF M b < r → tb w a = true → tb w b = true
theorem SUF_0 {r : Int} : SUF T M r 0 := ⟨Int.le_refl 0, fun k h => by rw [tb_z] at h; exact absurd h (by decide), fun a b _ _ _ _ h => by rw [tb_z] at h; exact absurd h (by decide)⟩
theorem SUF_32 {r w : Int} (hM : MK M) (h : SUF T M r w) : w < 32 := by
  have h17 := (show 0 ≤ M 17 0 ∧ M 17 0 ≤ 5 from hM.2.2.2.2.2.2.2.2.2.2.2.2.2.2.2.2.2)
  have := tb_lt (m := 5) h.1 (fun k hk => by
    cases hq : tb w k with
    | false => rfl
    | true => have := (h.2.1 k hq).1; omega)
  exact this
/-- figures are in the order of their mentions -/
def SRT (M : Nat → Int → Int) : Prop := ∀ a b : Nat, a < b → (b : Int) < M 17 0 → mnF M a ≤ mnF M b
theorem SUF_x (hK : TK T) (hM : MK M) (hS : SRT M) {ro wt lf n : Int} (h : SUF T M ro wt) (hn : 0 ≤ n) : SUF T M (ro + n) (pgX T M ro wt lf n) := by
  have h17 := (show 0 ≤ M 17 0 ∧ M 17 0 ≤ 5 from hM.2.2.2.2.2.2.2.2.2.2.2.2.2.2.2.2.2)
  have hw32 := SUF_32 hM h
  obtain ⟨t0, t1, t2, t3⟩ := tp_I (M := M) hK h.1 (Int.toNat (M 17 0))
  have htl : (tpZ T M wt).2.1 < 32 := tb_lt (m := 5) t0 (fun k hk => by
    cases hq : tb (tpZ T M wt).2.1 k with
    | false => rfl
    | true => have := (t1 k hq).1; omega)
  have hd : ∀ k, k < 32 → tb (bDif wt (tpZ T M wt).2.1) k = (tb wt k && !tb (tpZ T M wt).2.1 k) := fun k hk => tb_dif hk (by omega)
  have hd2 : ∀ k, 32 ≤ k → tb (bDif wt (tpZ T M wt).2.1) k = false := fun k hk => by
    refine tb_hi (m := 5) dif_nn ?_ (by omega)
    have := bDif_le (a := wt) (b := (tpZ T M wt).2.1) h.1
    have e : ((2 ^ 5 : Nat) : Int) = 32 := by decide
    omega
  obtain ⟨b0, b1, b2, b3, b4⟩ := bt_I (T := T) (M := M) (r0 := ro) (cz := n) (w0 := bDif wt (tpZ T M wt).2.1) (u0 := clU T (pgH T M ro wt n) lf (pgS M ro n)) hK dif_nn (Int.toNat (M 17 0))
  have hwd : ∀ k, tb (bDif wt (tpZ T M wt).2.1) k = true → k < 32 ∧ tb wt k = true ∧ tb (tpZ T M wt).2.1 k = false := fun k hk => by
    by_cases e : k < 32
    · rw [hd k e, Bool.and_eq_true, Bool.not_eq_true'] at hk
      exact ⟨e, hk.1, hk.2⟩
    · rw [hd2 k (by omega)] at hk; exact absurd hk (by decide)
  refine ⟨b0, fun k hk => ?_, fun a b hab hb hkd hmn hka => ?_⟩
  · rcases b2 k hk with q | ⟨q1, q2, q3⟩
    · have := h.2.1 k (hwd k q).2.1
      omega
    · omega
  · by_cases hr : ro ≤ mnF M b
    · exact b4 a b hab (by omega) hkd hr hmn hka
    · rcases b2 a hka with q | ⟨q1, q2, q3⟩
      · obtain ⟨w1, w2, w3⟩ := hwd a q
        have hb2 := h.2.2 a b hab hb hkd (by omega) w2
        have hb3 := t3 a b hab (by omega) hkd w2 w3
        refine b1 b ?_
        rw [hd b (by omega), hb2, hb3]
        rfl
      · have := hS a b hab hb
        omega
theorem SUF_wa (hM : MK M) {r w : Int} (h : SUF T M r w) : SUF T M r (waZ T M w) := by
  have h17 := (show 0 ≤ M 17 0 ∧ M 17 0 ≤ 5 from hM.2.2.2.2.2.2.2.2.2.2.2.2.2.2.2.2.2)
  have hw32 := SUF_32 hM h
  obtain ⟨a0, a1, a2⟩ := wa_I (T := T) (M := M) (Int.toNat (M 17 0)) 0 w (by omega) h.1 (fun j hj => by omega)
  have hle : waZ T M w ≤ w ∨ True := Or.inr trivial
  have hk32 : ∀ (f k : Nat) (w : Int), 0 ≤ w → w < 32 → 0 ≤ waF T M f (k : Int) w ∧ waF T M f (k : Int) w < 32 := by
    intro f
    induction f with
    | zero => intro k w h1 h2; exact ⟨h1, h2⟩
    | succ f ih =>
      intro k w h1 h2
      simp only [waF]
      have e : (k : Int) + 1 = ((k + 1 : Nat) : Int) := by omega
      split
      · split
        · exact ⟨h1, h2⟩
        · rw [e]
          exact ih (k + 1) _ dif_nn (by have := bDif_le (a := w) (b := bShl 1 (k : Int)) h1; omega)
      · rw [e]; exact ih (k + 1) w h1 h2
  have hx := hk32 (Int.toNat (M 17 0)) 0 w h.1 hw32
  have hxk : ∀ k, tb (waZ T M w) k = true → k < 32 := fun k hk => by
    by_cases e : k < 32
    · exact e
    · have e9 : ((2 ^ 5 : Nat) : Int) = 32 := by decide
      have := tb_hi (w := waZ T M w) (m := 5) (k := k) hx.1 (by rw [e9]; exact hx.2) (by omega)
      rw [hk] at this
      exact absurd this (by decide)
  refine ⟨hx.1, fun k hk => h.2.1 k (a1 k (hxk k hk) hk), fun a b hab hb hkd hmn hka => ?_⟩
  have ha := a1 a (hxk a hka) hka
  exact a2 a b hab (by omega) hka (h.2.2 a b hab hb hkd hmn ha)
end WAITS

end
