section
/-- a line's hyphen -/
def hyZ (g : Int) : Int := if 0 < g then 2 else 0
/-- places in order: words, gaps, widths -/
def POK (T : Nat → Int → Int → Int → Int) (i j : Int) (s : P5) : Prop :=
  0 ≤ s.1 ∧ (∀ p, 1 ≤ p → p ≤ s.1 → (0 ≤ s.2.1 p ∧ s.2.1 p < j) ∧ (0 ≤ s.2.2.1 p ∧ s.2.2.1 p ≤ 5) ∧ (s.2.2.1 p ≠ 0 → bAnd (bShr (T 8 i (s.2.1 p) 0) (s.2.2.1 p)) 1 = 1)) ∧
  (∀ p, 1 ≤ p → p < s.1 → s.2.1 p < s.2.1 (p + 1) ∨ (s.2.1 p = s.2.1 (p + 1) ∧ 0 < s.2.2.1 p ∧ (s.2.2.1 (p + 1) = 0 ∨ s.2.2.1 p < s.2.2.1 (p + 1)))) ∧
  (∀ p, 0 ≤ p → p < s.1 → s.2.2.2.1 p + hyZ (s.2.2.1 p) ≤ s.2.2.2.1 (p + 1) + hyZ (s.2.2.1 (p + 1)) ∧ s.2.2.2.1 p ≤ s.2.2.2.1 (p + 1) ∧ s.2.2.2.2 p ≤ s.2.2.2.2 (p + 1)) ∧ s.2.2.1 0 = 0
section POK1
variable {T : Nat → Int → Int → Int → Int} {i j v dg : Int} {s : P5}
theorem POK_mono {j' : Int} (h : POK T i j s) (hj : j ≤ j') : POK T i j' s := ⟨h.1, fun p a b => ⟨⟨(h.2.1 p a b).1.1, by have := (h.2.1 p a b).1.2; omega⟩, (h.2.1 p a b).2⟩, h.2.2⟩
theorem POK_ad {a g u w : Int} (h : POK T i j s) (ha : 0 ≤ a ∧ a < j) (hg : 0 ≤ g ∧ g ≤ 5) (hb : g ≠ 0 → bAnd (bShr (T 8 i a 0) g) 1 = 1)
    (hl : s.1 = 0 ∨ s.2.1 s.1 < a ∨ (s.2.1 s.1 = a ∧ 0 < s.2.2.1 s.1 ∧ (g = 0 ∨ s.2.2.1 s.1 < g))) (hu : s.2.2.2.1 s.1 + hyZ (s.2.2.1 s.1) ≤ u + hyZ g ∧ s.2.2.2.1 s.1 ≤ u) (hw : s.2.2.2.2 s.1 ≤ w) : POK T i j (adP s a g u w) := by
  obtain ⟨h0, h1, h2, h3, h4⟩ := h
  have e1 : (adP s a g u w).1 = s.1 + 1 := rfl
  have w_s : (adP s a g u w).2.1 (s.1 + 1) = a := uz_s
  have w_n : ∀ p, p ≠ s.1 + 1 → (adP s a g u w).2.1 p = s.2.1 p := fun p hp => uz_n hp
  have g_s : (adP s a g u w).2.2.1 (s.1 + 1) = g := uz_s
  have g_n : ∀ p, p ≠ s.1 + 1 → (adP s a g u w).2.2.1 p = s.2.2.1 p := fun p hp => uz_n hp
  have u_s : (adP s a g u w).2.2.2.1 (s.1 + 1) = u := uz_s
  have u_n : ∀ p, p ≠ s.1 + 1 → (adP s a g u w).2.2.2.1 p = s.2.2.2.1 p := fun p hp => uz_n hp
  have o_s : (adP s a g u w).2.2.2.2 (s.1 + 1) = w := uz_s
  have o_n : ∀ p, p ≠ s.1 + 1 → (adP s a g u w).2.2.2.2 p = s.2.2.2.2 p := fun p hp => uz_n hp
  refine ⟨by omega, fun p a1 a2 => ?_, fun p a1 a2 => ?_, fun p a1 a2 => ?_, ?_⟩
  · by_cases e : p = s.1 + 1
    · rw [e, w_s, g_s]; exact ⟨ha, hg, hb⟩
    · rw [w_n p e, g_n p e]; exact h1 p a1 (by omega)
  · rw [e1] at a2
    rw [w_n p (by omega), g_n p (by omega)]
    by_cases e : p = s.1
    · rw [e, w_s, g_s]
      rcases hl with q | q | q
      · omega
      · exact Or.inl q
      · exact Or.inr q
    · rw [w_n (p + 1) (by omega), g_n (p + 1) (by omega)]
      exact h2 p a1 (by omega)
  · rw [e1] at a2
    rw [g_n p (by omega), u_n p (by omega), o_n p (by omega)]
    by_cases e : p = s.1
    · rw [e, g_s, u_s, o_s]; exact ⟨hu.1, hu.2, hw⟩
    · rw [g_n (p + 1) (by omega), u_n (p + 1) (by omega), o_n (p + 1) (by omega)]
      exact h3 p a1 (by omega)
  · rw [g_n 0 (by omega)]; exact h4
theorem LWz_2 (x : Int) : 2 ≤ LWz x := (LWz_in x).1
/-- within a word: letters so far, the last place's gap -/
theorem ltP_O (hK : TK T) (hj : 0 ≤ j) (h : POK T i j s) (hl : s.2.2.1 s.1 = 0) (hP : 0 ≤ s.1) : ∀ q : Nat, (q : Int) ≤ 6 → POK T i (j + 1) (ltP T i j s (s.2.2.2.1 s.1) (s.2.2.2.2 s.1) q).1 ∧
    ((ltP T i j s (s.2.2.2.1 s.1) (s.2.2.2.2 s.1) q).1 = s ∧ s.2.2.2.1 s.1 ≤ (ltP T i j s (s.2.2.2.1 s.1) (s.2.2.2.2 s.1) q).2 ∨
      ∃ s' : P5, (ltP T i j s (s.2.2.2.1 s.1) (s.2.2.2.2 s.1) q).1 = s' ∧ 1 ≤ s'.1 ∧ s'.2.1 s'.1 = j ∧ 0 < s'.2.2.1 s'.1 ∧ s'.2.2.1 s'.1 < q ∧ s'.2.2.1 s'.1 + 2 ≤ T 4 i j 0 ∧ s'.2.2.2.1 s'.1 + 2 * ((q : Int) - s'.2.2.1 s'.1) ≤ (ltP T i j s (s.2.2.2.1 s.1) (s.2.2.2.2 s.1) q).2 ∧ s'.2.2.2.2 s'.1 = s.2.2.2.2 s.1)
  | 0, _ => ⟨POK_mono h (by omega), Or.inl ⟨rfl, Int.le_refl _⟩⟩
  | q + 1, hq => by
    obtain ⟨ih1, ih2⟩ := ltP_O hK hj h hl hP q (by omega)
    have hw := LWz_2 (T 5 i j (q : Int))
    have h0 : 0 ≤ s.1 := h.1
    by_cases g : bAnd (bShr (T 8 i j 0) (q : Int)) 1 = 1
    · have hg := TK_gapb hK i j (q : Int) (by omega) g
      have e1 : (ltP T i j s (s.2.2.2.1 s.1) (s.2.2.2.2 s.1) (q + 1)).1 = adP (ltP T i j s (s.2.2.2.1 s.1) (s.2.2.2.2 s.1) q).1 j (q : Int) (ltP T i j s (s.2.2.2.1 s.1) (s.2.2.2.2 s.1) q).2 (s.2.2.2.2 s.1) := by simp only [ltP]; rw [if_pos g]
      have e2 : (ltP T i j s (s.2.2.2.1 s.1) (s.2.2.2.2 s.1) (q + 1)).2 = (ltP T i j s (s.2.2.2.1 s.1) (s.2.2.2.2 s.1) q).2 + LWz (T 5 i j (q : Int)) := rfl
      have key : POK T i (j + 1) (adP (ltP T i j s (s.2.2.2.1 s.1) (s.2.2.2.2 s.1) q).1 j (q : Int) (ltP T i j s (s.2.2.2.1 s.1) (s.2.2.2.2 s.1) q).2 (s.2.2.2.2 s.1)) := by
        rcases ih2 with ⟨e, hu⟩ | ⟨s', e, b1, b2, b3, b4, b5, b6, b7⟩
        · rw [e] at ih1 ⊢
          refine POK_ad ih1 (by omega) (by omega) (fun _ => g) ?_ ?_ (Int.le_refl _)
          · by_cases e0 : s.1 = 0
            · exact Or.inl e0
            · exact Or.inr (Or.inl (h.2.1 s.1 (by omega) (Int.le_refl _)).1.2)
          · rw [hl]
            unfold hyZ
            rw [if_neg (by omega)]
            split <;> omega
        · rw [e] at ih1 ⊢
          refine POK_ad ih1 (by omega) (by omega) (fun _ => g) ?_ ?_ (by omega)
          · exact Or.inr (Or.inr ⟨b2, b3, Or.inr b4⟩)
          · unfold hyZ
            rw [if_pos b3, if_pos (by omega)]
            omega
      rw [e1, e2]
      refine ⟨key, Or.inr ⟨_, rfl, ?_⟩⟩
      have f1 : (adP (ltP T i j s (s.2.2.2.1 s.1) (s.2.2.2.2 s.1) q).1 j (q : Int) (ltP T i j s (s.2.2.2.1 s.1) (s.2.2.2.2 s.1) q).2 (s.2.2.2.2 s.1)).1 = (ltP T i j s (s.2.2.2.1 s.1) (s.2.2.2.2 s.1) q).1.1 + 1 := rfl
      rw [f1]
      have f2 : (adP (ltP T i j s (s.2.2.2.1 s.1) (s.2.2.2.2 s.1) q).1 j (q : Int) (ltP T i j s (s.2.2.2.1 s.1) (s.2.2.2.2 s.1) q).2 (s.2.2.2.2 s.1)).2.1 ((ltP T i j s (s.2.2.2.1 s.1) (s.2.2.2.2 s.1) q).1.1 + 1) = j := uz_s
      have f3 : (adP (ltP T i j s (s.2.2.2.1 s.1) (s.2.2.2.2 s.1) q).1 j (q : Int) (ltP T i j s (s.2.2.2.1 s.1) (s.2.2.2.2 s.1) q).2 (s.2.2.2.2 s.1)).2.2.1 ((ltP T i j s (s.2.2.2.1 s.1) (s.2.2.2.2 s.1) q).1.1 + 1) = (q : Int) := uz_s
      have f4 : (adP (ltP T i j s (s.2.2.2.1 s.1) (s.2.2.2.2 s.1) q).1 j (q : Int) (ltP T i j s (s.2.2.2.1 s.1) (s.2.2.2.2 s.1) q).2 (s.2.2.2.2 s.1)).2.2.2.1 ((ltP T i j s (s.2.2.2.1 s.1) (s.2.2.2.2 s.1) q).1.1 + 1) = (ltP T i j s (s.2.2.2.1 s.1) (s.2.2.2.2 s.1) q).2 := uz_s
      have f5 : (adP (ltP T i j s (s.2.2.2.1 s.1) (s.2.2.2.2 s.1) q).1 j (q : Int) (ltP T i j s (s.2.2.2.1 s.1) (s.2.2.2.2 s.1) q).2 (s.2.2.2.2 s.1)).2.2.2.2 ((ltP T i j s (s.2.2.2.1 s.1) (s.2.2.2.2 s.1) q).1.1 + 1) = s.2.2.2.2 s.1 := uz_s
      rw [f2, f3, f4, f5]
      have := ih1.1
      refine ⟨by omega, rfl, by omega, by omega, by omega, by omega, rfl⟩
    · have e1 : (ltP T i j s (s.2.2.2.1 s.1) (s.2.2.2.2 s.1) (q + 1)).1 = (ltP T i j s (s.2.2.2.1 s.1) (s.2.2.2.2 s.1) q).1 := by simp only [ltP]; rw [if_neg g]
      have e2 : (ltP T i j s (s.2.2.2.1 s.1) (s.2.2.2.2 s.1) (q + 1)).2 = (ltP T i j s (s.2.2.2.1 s.1) (s.2.2.2.2 s.1) q).2 + LWz (T 5 i j (q : Int)) := rfl
      rw [e1, e2]
      refine ⟨ih1, ?_⟩
      rcases ih2 with ⟨e, hu⟩ | ⟨s', e, b1, b2, b3, b4, b5, b6, b7⟩
      · exact Or.inl ⟨e, by omega⟩
      · exact Or.inr ⟨s', e, b1, b2, b3, by omega, b5, by omega, b7⟩
theorem woP_O (hK : TK T) (hj : 0 ≤ j) (h : POK T i j s) (hl : s.2.2.1 s.1 = 0) : POK T i (j + 1) (woP T i j dg s) ∧ (woP T i j dg s).2.2.1 (woP T i j dg s).1 = 0 := by
  have hlen := TK_len hK i j
  obtain ⟨k1, k2⟩ := ltP_O hK hj h hl h.1 (T 4 i j 0).toNat (by omega)
  have hwl := TK_wl hK i j
  have hb : 0 ≤ bAnd (bShr dg (2 * T 6 i j 0)) 3 := by unfold bAnd; omega
  refine ⟨?_, ?_⟩
  · unfold woP
    rcases k2 with ⟨e, hu⟩ | ⟨s', e, b1, b2, b3, b4, b5, b6, b7⟩
    · rw [e] at k1
      rw [e]
      refine POK_ad k1 (by omega) (by omega) (fun q => absurd rfl q) ?_ ?_ (by omega)
      · by_cases e0 : s.1 = 0
        · exact Or.inl e0
        · exact Or.inr (Or.inl (h.2.1 s.1 (by have := h.1; omega) (Int.le_refl _)).1.2)
      · rw [hl]
        split <;> omega
    · rw [e] at k1
      rw [e]
      refine POK_ad k1 (by omega) (by omega) (fun q => absurd rfl q) ?_ ?_ (by omega)
      · exact Or.inr (Or.inr ⟨b2, b3, Or.inl rfl⟩)
      · have e9 : hyZ (s'.2.2.1 s'.1) = 2 := by unfold hyZ; rw [if_pos b3]
        have e8 : hyZ 0 = 0 := rfl
        rw [e9, e8]
        split <;> omega
  · unfold woP
    exact uz_s
theorem plP_O (hK : TK T) : ∀ a : Nat, POK T i (a : Int) (plP T i v dg a) ∧ (plP T i v dg a).2.2.1 (plP T i v dg a).1 = 0
  | 0 => ⟨⟨Int.le_refl 0, fun p a b => by have h : p ≤ 0 := b; omega, fun p a b => by have h : p < 0 := b; omega, fun p a b => by have h : p < 0 := b; omega, rfl⟩, rfl⟩
  | a + 1 => by
    obtain ⟨ih1, ih2⟩ := plP_O hK a
    simp only [plP]
    split
    · exact woP_O hK (by omega) ih1 ih2
    · exact ⟨POK_mono ih1 (by omega), ih2⟩
theorem tkP_O (hK : TK T) : POK T i (T 3 i 0 0) (tkP T i v dg) ∧ (tkP T i v dg).2.2.1 (tkP T i v dg).1 = 0 := by
  have hn := TK_nw hK i
  unfold tkP
  split
  · have := plP_O (i := i) (v := v) (dg := dg) hK (T 3 i 0 0).toNat
    rw [show ((T 3 i 0 0).toNat : Int) = T 3 i 0 0 by omega] at this
    exact this
  · exact ⟨⟨Int.le_refl 0, fun p a b => by have h : p ≤ 0 := b; omega, fun p a b => by have h : p < 0 := b; omega, fun p a b => by have h : p < 0 := b; omega, rfl⟩, rfl⟩
/-- places farther on -/
theorem POK_lt (h : POK T i j s) : ∀ (d : Nat) (p : Int), 1 ≤ p → p + (d : Int) + 1 ≤ s.1 → s.2.1 p < s.2.1 (p + d + 1) ∨ (s.2.1 p = s.2.1 (p + d + 1) ∧ 0 < s.2.2.1 p ∧ (s.2.2.1 (p + d + 1) = 0 ∨ s.2.2.1 p < s.2.2.1 (p + d + 1)))
  | 0, p, h1, h2 => by
    have := h.2.2.1 p h1 (by omega)
    rw [show p + ((0 : Nat) : Int) + 1 = p + 1 by omega]
    exact this
  | d + 1, p, h1, h2 => by
    have ih := POK_lt h d p h1 (by omega)
    have k := h.2.2.1 (p + d + 1) (by omega) (by omega)
    rw [show p + ((d + 1 : Nat) : Int) + 1 = p + d + 1 + 1 by omega]
    omega
theorem POK_w (h : POK T i j s) : ∀ (d : Nat) (p : Int), 0 ≤ p → p + (d : Int) ≤ s.1 → s.2.2.2.1 p + hyZ (s.2.2.1 p) ≤ s.2.2.2.1 (p + d) + hyZ (s.2.2.1 (p + d)) ∧ s.2.2.2.1 p ≤ s.2.2.2.1 (p + d) ∧ s.2.2.2.2 p ≤ s.2.2.2.2 (p + d)
  | 0, p, h1, h2 => by
    rw [show p + ((0 : Nat) : Int) = p by omega]
    omega
  | d + 1, p, h1, h2 => by
    have ih := POK_w h d p h1 (by omega)
    have k := h.2.2.2.1 (p + d) (by omega) (by omega)
    rw [show p + ((d + 1 : Nat) : Int) = p + d + 1 by omega]
    omega
/-- where a line is too long, a longer one is -/
theorem ok_off (h : POK T i j s) {fr to to' wz : Int} (h0 : 0 ≤ fr) (h1 : fr < to) (h2 : to ≤ to') (h3 : to' ≤ s.1) (ho : okZ s.2.2.1 s.2.2.2.1 s.2.2.2.2 wz fr to') : okZ s.2.2.1 s.2.2.2.1 s.2.2.2.2 wz fr to := by
  have k1 := POK_w h (Int.toNat (to' - to)) to (by omega) (by omega)
  have k2 := POK_w h (Int.toNat (to' - to)) (to - 1) (by omega) (by omega)
  have k3 := POK_w h (Int.toNat (to - 1 - fr)) fr h0 (by omega)
  rw [show to + ((Int.toNat (to' - to) : Nat) : Int) = to' by omega] at k1
  rw [show to - 1 + ((Int.toNat (to' - to) : Nat) : Int) = to' - 1 by omega] at k2
  rw [show fr + ((Int.toNat (to - 1 - fr) : Nat) : Int) = to - 1 by omega] at k3
  have hy : ∀ x, (if 0 < s.2.2.1 x then (2 : Int) else 0) = hyZ (s.2.2.1 x) := fun x => rfl
  unfold okZ jOk jLk at *
  rw [hy] at *
  omega
end POK1

end
