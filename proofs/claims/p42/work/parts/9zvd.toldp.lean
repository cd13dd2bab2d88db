section
section TOLDP
variable {T : Nat → Int → Int → Int → Int} {K : Nat → Int → Int} {v dg i : Int} {M P : Nat → Int → Int} {f : Int → Int}
theorem jCl_in2 (lk sp t m : Int) : 0 ≤ jCl lk sp t m ∧ jCl lk sp t m ≤ 3 := by
  unfold jCl
  repeat' split
  all_goals omega
theorem ln_up (hK : TK T) (k : Nat) (h : (k : Int) < LCz T v dg i) : (lnC T i v dg k).1 < (lnC T i v dg (k + 1)).1 := by
  obtain ⟨hl, h1, h2⟩ := LCz_in (i := i) (v := v) (dg := dg) hK
  have a := lnC_in (i := i) (v := v) (dg := dg) hK k (fun j hj => h1 j (by omega))
  have b := h1 k h
  have hd := wd_in (i := i) hK
  have e : (lnC T i v dg (k + 1)).1 = (bwc T i v dg (lnC T i v dg k).1 (min (k : Int) (dpZ T i)) (if (k : Int) = 0 then 4 else (lnC T i v dg k).2)).2.2 := rfl
  rw [e]
  exact ((bwc_in (i := i) (v := v) (dg := dg) hK (fr := (lnC T i v dg k).1) (la := min (k : Int) (dpZ T i)) (by omega) (by omega)).2 b).1
theorem ln_at (hK : TK T) (k : Nat) (h : (k : Int) < LCz T v dg i) : 1 ≤ (lnC T i v dg (k + 1)).1 ∧ (lnC T i v dg (k + 1)).1 ≤ (tkP T i v dg).1 := by
  obtain ⟨hl, h1, h2⟩ := LCz_in (i := i) (v := v) (dg := dg) hK
  have a := lnC_in (i := i) (v := v) (dg := dg) hK (k + 1) (fun j hj => h1 j (by omega))
  omega
theorem le_in (hK : TK T) (li : Int) (h0 : 0 ≤ li) (h : li < LCz T v dg i) : (0 ≤ LEz T v dg i li ∧ LEz T v dg i li ≤ 120) ∧ (0 ≤ LKz T v dg i li ∧ LKz T v dg i li ≤ 3) ∧ (LEz T v dg i li % 10 ≠ 0 → LEz T v dg i li / 10 < T 3 i 0 0 ∧ bAnd (bShr (T 8 i (LEz T v dg i li / 10) 0) (LEz T v dg i li % 10)) 1 = 1) := by
  obtain ⟨hO, -⟩ := tkP_O (i := i) (v := v) (dg := dg) hK
  have hn := TK_nw hK i
  obtain ⟨a1, a2⟩ := ln_at (i := i) (v := v) (dg := dg) hK li.toNat (by omega)
  have e1 : Int.toNat (li + 1) = li.toNat + 1 := by omega
  have eL : LEz T v dg i li = 10 * (tkP T i v dg).2.1 (lnC T i v dg (li.toNat + 1)).1 + (tkP T i v dg).2.2.1 (lnC T i v dg (li.toNat + 1)).1 := by unfold LEz; rw [e1]
  obtain ⟨b1, b2, b3⟩ := hO.2.1 _ a1 a2
  refine ⟨by omega, ?_, fun hg => ?_⟩
  · have eK : LKz T v dg i li = clc T i v dg (li.toNat : Int) (lnC T i v dg li.toNat).1 (bwc T i v dg (lnC T i v dg li.toNat).1 (min (li.toNat : Int) (dpZ T i)) (if (li.toNat : Int) = 0 then 4 else (lnC T i v dg li.toNat).2)).2.2 := by unfold LKz; rw [e1]; rfl
    rw [eK]
    exact jCl_in2 _ _ _ _
  · have q1 : LEz T v dg i li / 10 = (tkP T i v dg).2.1 (lnC T i v dg (li.toNat + 1)).1 := by omega
    have q2 : LEz T v dg i li % 10 = (tkP T i v dg).2.2.1 (lnC T i v dg (li.toNat + 1)).1 := by omega
    rw [q1, q2]
    exact ⟨b1.2, b3 (by omega)⟩
theorem le_lt (hK : TK T) (li : Int) (h0 : 0 < li) (h : li < LCz T v dg i) : (0 ≤ LEz T v dg i (li - 1) ∧ LEz T v dg i (li - 1) ≤ 120) ∧ (LEz T v dg i (li - 1) / 10 < LEz T v dg i li / 10 ∨ (LEz T v dg i li / 10 = LEz T v dg i (li - 1) / 10 ∧ 0 < LEz T v dg i (li - 1) % 10 ∧ (LEz T v dg i li % 10 = 0 ∨ LEz T v dg i (li - 1) % 10 < LEz T v dg i li % 10))) := by
  obtain ⟨hO, -⟩ := tkP_O (i := i) (v := v) (dg := dg) hK
  have hn := TK_nw hK i
  have up := ln_up (i := i) (v := v) (dg := dg) hK li.toNat (by omega)
  obtain ⟨a1, a2⟩ := ln_at (i := i) (v := v) (dg := dg) hK li.toNat (by omega)
  obtain ⟨c1, c2⟩ := ln_at (i := i) (v := v) (dg := dg) hK (li.toNat - 1) (by omega)
  rw [show li.toNat - 1 + 1 = li.toNat by omega] at c1 c2
  have eL : LEz T v dg i li = 10 * (tkP T i v dg).2.1 (lnC T i v dg (li.toNat + 1)).1 + (tkP T i v dg).2.2.1 (lnC T i v dg (li.toNat + 1)).1 := by unfold LEz; rw [show Int.toNat (li + 1) = li.toNat + 1 by omega]
  have eM : LEz T v dg i (li - 1) = 10 * (tkP T i v dg).2.1 (lnC T i v dg li.toNat).1 + (tkP T i v dg).2.2.1 (lnC T i v dg li.toNat).1 := by unfold LEz; rw [show Int.toNat (li - 1 + 1) = li.toNat by omega]
  obtain ⟨b1, b2, -⟩ := hO.2.1 _ a1 a2
  obtain ⟨d1, d2, -⟩ := hO.2.1 _ c1 c2
  have k := POK_lt hO ((lnC T i v dg (li.toNat + 1)).1 - (lnC T i v dg li.toNat).1 - 1).toNat (lnC T i v dg li.toNat).1 c1 (by omega)
  rw [show (lnC T i v dg li.toNat).1 + ((((lnC T i v dg (li.toNat + 1)).1 - (lnC T i v dg li.toNat).1 - 1).toNat : Nat) : Int) + 1 = (lnC T i v dg (li.toNat + 1)).1 by omega] at k
  rw [eL, eM]
  omega
theorem le_last (hK : TK T) (h : 0 < LCz T v dg i) : LEz T v dg i (LCz T v dg i - 1) % 10 = 0 := by
  obtain ⟨hO, hg⟩ := tkP_O (i := i) (v := v) (dg := dg) hK
  obtain ⟨hl, h1, h2⟩ := LCz_in (i := i) (v := v) (dg := dg) hK
  have eL : LEz T v dg i (LCz T v dg i - 1) = 10 * (tkP T i v dg).2.1 (lnC T i v dg (Int.toNat (LCz T v dg i))).1 + (tkP T i v dg).2.2.1 (lnC T i v dg (Int.toNat (LCz T v dg i))).1 := by unfold LEz; rw [show LCz T v dg i - 1 + 1 = LCz T v dg i by omega]
  rw [eL, h2, hg]
  omega
theorem lc_0 (hK : TK T) : (LCz T v dg i = 0 ∧ (tkP T i v dg).1 = 0) ∨ (0 < LCz T v dg i ∧ 0 < (tkP T i v dg).1) := by
  obtain ⟨hl, h1, h2⟩ := LCz_in (i := i) (v := v) (dg := dg) hK
  have e0 : (lnC T i v dg 0).1 = 0 := rfl
  by_cases e : LCz T v dg i = 0
  · left
    rw [e] at h2
    exact ⟨e, by rw [← h2]; exact e0⟩
  · right
    have := h1 0 (by omega)
    omega
/-- blocks' rows lie one behind another -/
theorem mo_lt (hK : TK T) {x y : Int} (h1 : 0 ≤ y) (h2 : y < x) (h3 : x < T 0 0 0 0) : moC T v dg 7 y + moC T v dg 8 y ≤ moC T v dg 7 x := by
  have key : ∀ n : Nat, y + n + 1 < T 0 0 0 0 → moC T v dg 7 y + moC T v dg 8 y ≤ moC T v dg 7 (y + n + 1) := by
    intro n
    induction n with
    | zero =>
      intro g
      have hn := TK_nb hK
      obtain ⟨⟨i1, i2, i3⟩, i4⟩ := rwA_in (v := v) hK (LcO_z (v := v) (dg := dg) hK)
      have h4 := i4.2.1 y h1 (by omega)
      rw [if_pos (by omega)] at h4
      obtain ⟨-, p2, p3, -, p5, p6⟩ := moC_78 (v := v) (dg := dg) hK (i := y) h1 (by omega)
      obtain ⟨-, q2, q3, -, q5, q6⟩ := moC_78 (v := v) (dg := dg) hK (i := y + 1) (by omega) (by omega)
      rw [← p5, ← p6, ← q5] at h4
      rw [show y + ((0 : Nat) : Int) + 1 = y + 1 by omega]
      omega
    | succ n ih =>
      intro g
      have ih := ih (by omega)
      have hn := TK_nb hK
      obtain ⟨⟨i1, i2, i3⟩, i4⟩ := rwA_in (v := v) hK (LcO_z (v := v) (dg := dg) hK)
      have h4 := i4.2.1 (y + n + 1) (by omega) (by omega)
      rw [if_pos (by omega)] at h4
      obtain ⟨-, p2, p3, -, p5, p6⟩ := moC_78 (v := v) (dg := dg) hK (i := y + n + 1) (by omega) (by omega)
      obtain ⟨-, q2, q3, -, q5, q6⟩ := moC_78 (v := v) (dg := dg) hK (i := y + n + 1 + 1) (by omega) (by omega)
      rw [← p5, ← p6, ← q5] at h4
      rw [show y + ((n + 1 : Nat) : Int) + 1 = y + n + 1 + 1 by omega]
      omega
  have := key (Int.toNat (x - y - 1)) (by omega)
  rw [show y + ((Int.toNat (x - y - 1) : Nat) : Int) + 1 = x by omega] at this
  exact this
theorem mo_2 (hK : TK T) {x r : Int} (h1 : 0 ≤ x) (h2 : x < T 0 0 0 0) (h3 : moC T v dg 7 x ≤ r) (h4 : r < moC T v dg 7 x + moC T v dg 8 x) (h5 : r < moC T v dg 0 0) : moC T v dg 2 r = x := by
  have h0 := (moC_78 (v := v) (dg := dg) hK h1 h2).1
  obtain ⟨y, a1, a2, a3, a4, a5, a6, -⟩ := moC_at (v := v) (dg := dg) hK (r := r) (by omega) h5
  rcases Int.lt_trichotomy y x with h | h | h
  · have := mo_lt (v := v) (dg := dg) hK a1 h h2
    omega
  · omega
  · have := mo_lt (v := v) (dg := dg) hK h1 h a2
    omega
theorem wh_in (hQ : OKT T K) (hv : 0 ≤ v ∧ v ≤ 1) {pl at_ : Int} (h1 : 0 ≤ pl) (h2 : pl < T 0 0 0 0) (h3 : 0 ≤ at_) (h4 : at_ < T 3 pl 0 0) : whZ T v pl at_ = -1 ∨ ((0 ≤ whZ T v pl at_ ∧ whZ T v pl at_ ≤ 966000) ∧ (1 ≤ (whZ T v pl at_) / 1000 ∧ (whZ T v pl at_) / 1000 ≤ mkZ T (moC T v (dgN T v)) 0 0) ∧ (0 ≤ (whZ T v pl at_) % 1000 ∧ (whZ T v pl at_) % 1000 < mkZ T (moC T v (dgN T v)) 2 ((whZ T v pl at_) / 1000 - 1)) ∧ (0 ≤ txZ T v ((whZ T v pl at_) / 1000) ((whZ T v pl at_) % 1000) ∧ txZ T v ((whZ T v pl at_) / 1000) ((whZ T v pl at_) % 1000) ≤ 15047) ∧ (txZ T v ((whZ T v pl at_) / 1000) ((whZ T v pl at_) % 1000)) / 1000 = pl) := by
  have hP := hQ.2.2.2.2 v hv.1 hv.2
  have hK := hQ.1
  have hM := (moC_in (v := v) (dg := dgN T v) hK).1
  have hm := MK_cnt hM
  by_cases e : moC T v (dgN T v) 9 ((pl * 12) + at_) = -1
  · left
    unfold whZ
    rw [if_pos e]
  · right
    obtain ⟨b1, b2, b3, b4⟩ := moC_9w (v := v) (dg := dgN T v) hK h1 h2 h3 h4 e
    have hp := hP.2.1 _ b1 b2
    have hp0 := hP.2.2.2.1
    have hp1 := (hP.1 (mkZ T (moC T v (dgN T v)) 5 (moC T v (dgN T v) 9 ((pl * 12) + at_)) - 1) (by omega) (by omega)).1
    have ew : whZ T v pl at_ = (1000 * mkZ T (moC T v (dgN T v)) 5 (moC T v (dgN T v) 9 ((pl * 12) + at_)) + moC T v (dgN T v) 9 ((pl * 12) + at_)) - mkZ T (moC T v (dgN T v)) 1 (mkZ T (moC T v (dgN T v)) 5 (moC T v (dgN T v) 9 ((pl * 12) + at_)) - 1) := by
      unfold whZ
      rw [if_neg e]
    have e2 := mo_2 (v := v) (dg := dgN T v) hK h1 h2 b3 b4 b2
    have g2 := MK_2 hM (moC T v (dgN T v) 9 ((pl * 12) + at_))
    have g3 := MK_3 hM (moC T v (dgN T v) 9 ((pl * 12) + at_))
    generalize hr : moC T v (dgN T v) 9 ((pl * 12) + at_) = r at *
    generalize hpg : mkZ T (moC T v (dgN T v)) 5 r = pg at *
    have q1 : whZ T v pl at_ / 1000 = pg := by omega
    have q2 : whZ T v pl at_ % 1000 = r - mkZ T (moC T v (dgN T v)) 1 (pg - 1) := by omega
    have et : txZ T v (whZ T v pl at_ / 1000) (whZ T v pl at_ % 1000) = 1000 * moC T v (dgN T v) 2 r + moC T v (dgN T v) 3 r := by
      rw [q1, q2]
      unfold txZ
      rw [show mkZ T (moC T v (dgN T v)) 1 (pg - 1) + (r - mkZ T (moC T v (dgN T v)) 1 (pg - 1)) = r by omega]
    rw [et, q1, q2, e2]
    refine ⟨by omega, by omega, by omega, by omega, by omega⟩
theorem lb_in (hQ : OKT T K) (hv : 0 ≤ v ∧ v ≤ 1) {b_ : Int} (h1 : 0 ≤ b_) (h2 : b_ ≤ 5) : lbZ (moC T v (dgN T v)) (mkZ T (moC T v (dgN T v))) b_ = -1 ∨ (1 ≤ lbZ (moC T v (dgN T v)) (mkZ T (moC T v (dgN T v))) b_ ∧ lbZ (moC T v (dgN T v)) (mkZ T (moC T v (dgN T v))) b_ ≤ mkZ T (moC T v (dgN T v)) 0 0) := by
  have hP := hQ.2.2.2.2 v hv.1 hv.2
  have h10 := moC_10 (v := v) (dg := dgN T v) hQ.1 b_ h1 (by omega)
  have hL := MK_10 (moC_in (v := v) (dg := dgN T v) hQ.1).1 b_
  unfold lbZ
  split
  · exact Or.inl rfl
  · rename_i e
    have := hP.2.1 (moC T v (dgN T v) 10 b_) (by omega) (by omega)
    exact Or.inr ⟨this.1, this.2.1⟩
/-- ranges: the next one -/
theorem rg_one {ix : Int} : ∀ (n : Nat) (p fi : Int), (f (p - 1) ≠ 0 → fi < p) → rgF f ix n p ix fi = -1 ∨ ∃ x y : Int, rgF f ix n p ix fi = 1000 * x + y ∧ x ≤ y ∧ p ≤ y ∧ y < p + n ∧ ((p ≤ x ∧ (f p = 0 → p < x)) ∨ (f (p - 1) ≠ 0 ∧ f p ≠ 0 ∧ x = fi))
  | 0, p, fi, _ => Or.inl rfl
  | n + 1, p, fi, hf => by
    simp only [rgF]
    split
    · rename_i g
      rcases rg_one (ix := ix) n (p + 1) fi (fun q => by rw [show p + 1 - 1 = p by omega] at q; exact absurd g q) with h | ⟨x, y, h1, h2, h3, h4, h5⟩
      · exact Or.inl h
      · rw [show p + 1 - 1 = p by omega] at h5
        exact Or.inr ⟨x, y, h1, h2, by omega, by omega, Or.inl ⟨by omega, fun _ => by omega⟩⟩
    · rename_i g
      split
      · rename_i g2
        by_cases e : f (p - 1) = 0
        · rw [if_pos e]
          exact Or.inr ⟨p, p, rfl, Int.le_refl _, Int.le_refl _, by omega, Or.inl ⟨Int.le_refl _, fun q => absurd q g⟩⟩
        · rw [if_neg e]
          have := hf e
          exact Or.inr ⟨fi, p, rfl, by omega, Int.le_refl _, by omega, Or.inr ⟨e, g, rfl⟩⟩
      · rename_i g2
        rcases rg_one (ix := ix) n (p + 1) (if f (p - 1) = 0 then p else fi) (fun q => by
          by_cases e : f (p - 1) = 0
          · rw [if_pos e]; omega
          · rw [if_neg e]; have := hf e; omega) with h | ⟨x, y, h1, h2, h3, h4, h5⟩
        · exact Or.inl h
        · refine Or.inr ⟨x, y, h1, h2, by omega, by omega, ?_⟩
          rcases h5 with h5 | ⟨-, -, h5⟩
          · exact Or.inl ⟨by omega, fun q => absurd q g⟩
          · by_cases e : f (p - 1) = 0
            · rw [if_pos e] at h5
              exact Or.inl ⟨by omega, fun q => absurd q g⟩
            · rw [if_neg e] at h5
              exact Or.inr ⟨e, g, h5⟩
/-- a range and the one behind it -/
theorem rg_two {ix : Int} : ∀ (n : Nat) (p fi : Int), (f (p - 1) ≠ 0 → fi < p) → (rgF f ix n p ix fi = -1 ∧ rgF f (ix + 1) n p ix fi = -1) ∨ ∃ x y : Int, rgF f ix n p ix fi = 1000 * x + y ∧ x ≤ y ∧ p ≤ y ∧ y < p + n ∧ (p ≤ x ∨ (f (p - 1) ≠ 0 ∧ x = fi)) ∧ (rgF f (ix + 1) n p ix fi = -1 ∨ ∃ x1 y1 : Int, rgF f (ix + 1) n p ix fi = 1000 * x1 + y1 ∧ y + 1 < x1 ∧ x1 ≤ y1 ∧ y1 < p + n)
  | 0, p, fi, _ => Or.inl ⟨rfl, rfl⟩
  | n + 1, p, fi, hf => by
    simp only [rgF]
    by_cases g : f p = 0
    · rw [if_pos g, if_pos g]
      rcases rg_two (ix := ix) n (p + 1) fi (fun q => by rw [show p + 1 - 1 = p by omega] at q; exact absurd g q) with h | ⟨x, y, h1, h2, h3, h4, h5, h6⟩
      · exact Or.inl h
      · rw [show p + 1 - 1 = p by omega] at h5
        refine Or.inr ⟨x, y, h1, h2, by omega, by omega, Or.inl ?_, ?_⟩
        · rcases h5 with h5 | ⟨h5, -⟩
          · omega
          · exact absurd g h5
        · rcases h6 with h6 | ⟨x1, y1, k1, k2, k3, k4⟩
          · exact Or.inl h6
          · exact Or.inr ⟨x1, y1, k1, k2, k3, by omega⟩
    · rw [if_neg g, if_neg g]
      have hfi : f (p + 1 - 1) ≠ 0 → (if f (p - 1) = 0 then p else fi) < p + 1 := fun q => by
        by_cases e : f (p - 1) = 0
        · rw [if_pos e]; omega
        · rw [if_neg e]; have := hf e; omega
      by_cases g2 : f (p + 1) = 0
      · rw [if_pos g2, if_pos g2, if_neg (show ¬ ix = ix + 1 by omega)]
        right
        refine ⟨if f (p - 1) = 0 then p else fi, p, rfl, ?_, Int.le_refl _, by omega, ?_, ?_⟩
        · by_cases e : f (p - 1) = 0
          · rw [if_pos e]; exact Int.le_refl _
          · rw [if_neg e]; have := hf e; omega
        · by_cases e : f (p - 1) = 0
          · rw [if_pos e]; exact Or.inl (Int.le_refl _)
          · rw [if_neg e]; exact Or.inr ⟨e, rfl⟩
        · rcases rg_one (f := f) (ix := ix + 1) n (p + 1) (if f (p - 1) = 0 then p else fi) hfi with h | ⟨x, y, h1, h2, h3, h4, h5⟩
          · exact Or.inl h
          · refine Or.inr ⟨x, y, h1, ?_, h2, by omega⟩
            rcases h5 with h5 | ⟨-, h5, -⟩
            · have := h5.2 g2
              omega
            · exact absurd g2 h5
      · rw [if_neg g2, if_neg g2]
        rcases rg_two (ix := ix) n (p + 1) (if f (p - 1) = 0 then p else fi) hfi with h | ⟨x, y, h1, h2, h3, h4, h5, h6⟩
        · exact Or.inl h
        · refine Or.inr ⟨x, y, h1, h2, by omega, by omega, ?_, ?_⟩
          · rcases h5 with h5 | ⟨-, h5⟩
            · exact Or.inl (by omega)
            · by_cases e : f (p - 1) = 0
              · rw [if_pos e] at h5
                exact Or.inl (by omega)
              · rw [if_neg e] at h5
                exact Or.inr ⟨e, h5⟩
          · rcases h6 with h6 | ⟨x1, y1, k1, k2, k3, k4⟩
            · exact Or.inl h6
            · exact Or.inr ⟨x1, y1, k1, k2, k3, by omega⟩
theorem fp_0 (hQ : OKT T K) (hv : 0 ≤ v ∧ v ≤ 1) {t : Int} : fpZ T (moC T v (dgN T v)) (mkZ T (moC T v (dgN T v))) t 0 = 0 := by
  have hP := hQ.2.2.2.2 v hv.1 hv.2
  have hK := hQ.1
  have hn := TK_nb hK
  have kw : ∀ (i : Nat) (g : Int → Int), (i : Int) < T 0 0 0 0 → g 0 = 0 → ∀ j : Nat, (j : Int) ≤ T 3 (i : Int) 0 0 → fpW T (moC T v (dgN T v)) (mkZ T (moC T v (dgN T v))) t (i : Int) g j 0 = 0 := by
    intro i g hi hg j
    induction j with
    | zero => intro _; exact hg
    | succ j ih =>
      intro hj
      simp only [fpW]
      split
      · rename_i q
        obtain ⟨b1, b2, -, -⟩ := moC_9w (v := v) (dg := dgN T v) hK (i := (i : Int)) (j := (j : Int)) (by omega) hi (by omega) (by omega) q.1
        have := hP.2.1 _ b1 b2
        rw [uz_n (by omega)]
        exact ih (by omega)
      · exact ih (by omega)
  have kb : ∀ i : Nat, (i : Int) ≤ T 0 0 0 0 → fpB T (moC T v (dgN T v)) (mkZ T (moC T v (dgN T v))) t i 0 = 0 := by
    intro i
    induction i with
    | zero => intro _; rfl
    | succ i ih =>
      intro hi
      have hw := TK_nw hK (i : Int)
      simp only [fpB]
      exact kw i _ (by omega) (ih (by omega)) _ (by omega)
  exact kb _ (by omega)
theorem rg_in (hQ : OKT T K) (hv : 0 ≤ v ∧ v ≤ 1) {t : Int} : (-1 ≤ rgZ (fpZ T (moC T v (dgN T v)) (mkZ T (moC T v (dgN T v))) t) 0 (mkZ T (moC T v (dgN T v)) 0 0) ∧ rgZ (fpZ T (moC T v (dgN T v)) (mkZ T (moC T v (dgN T v))) t) 0 (mkZ T (moC T v (dgN T v)) 0 0) ≤ 966000) ∧ (-1 ≤ rgZ (fpZ T (moC T v (dgN T v)) (mkZ T (moC T v (dgN T v))) t) 1 (mkZ T (moC T v (dgN T v)) 0 0) ∧ rgZ (fpZ T (moC T v (dgN T v)) (mkZ T (moC T v (dgN T v))) t) 1 (mkZ T (moC T v (dgN T v)) 0 0) ≤ 966000) ∧ (0 ≤ rgZ (fpZ T (moC T v (dgN T v)) (mkZ T (moC T v (dgN T v))) t) 0 (mkZ T (moC T v (dgN T v)) 0 0) → (rgZ (fpZ T (moC T v (dgN T v)) (mkZ T (moC T v (dgN T v))) t) 0 (mkZ T (moC T v (dgN T v)) 0 0)) / 1000 ≤ (rgZ (fpZ T (moC T v (dgN T v)) (mkZ T (moC T v (dgN T v))) t) 0 (mkZ T (moC T v (dgN T v)) 0 0)) % 1000) ∧ (0 ≤ rgZ (fpZ T (moC T v (dgN T v)) (mkZ T (moC T v (dgN T v))) t) 1 (mkZ T (moC T v (dgN T v)) 0 0) → 0 ≤ rgZ (fpZ T (moC T v (dgN T v)) (mkZ T (moC T v (dgN T v))) t) 0 (mkZ T (moC T v (dgN T v)) 0 0) ∧ (rgZ (fpZ T (moC T v (dgN T v)) (mkZ T (moC T v (dgN T v))) t) 0 (mkZ T (moC T v (dgN T v)) 0 0)) % 1000 + 1 < (rgZ (fpZ T (moC T v (dgN T v)) (mkZ T (moC T v (dgN T v))) t) 1 (mkZ T (moC T v (dgN T v)) 0 0)) / 1000) := by
  have hP := hQ.2.2.2.2 v hv.1 hv.2
  have hp0 := hP.2.2.2.1
  have h0 := fp_0 hQ hv (t := t)
  unfold rgZ
  have k := rg_two (f := fpZ T (moC T v (dgN T v)) (mkZ T (moC T v (dgN T v))) t) (ix := 0) (Int.toNat (mkZ T (moC T v (dgN T v)) 0 0)) 1 0 (fun q => absurd h0 q)
  rw [show (0 : Int) + 1 = 1 by omega] at k
  rcases k with ⟨e1, e2⟩ | ⟨x, y, e1, a2, a3, a4, a5, a6⟩
  · rw [e1, e2]; omega
  · have hx : 1 ≤ x := by
      rcases a5 with a5 | ⟨a5, -⟩
      · exact a5
      · exact absurd h0 a5
    rcases a6 with e2 | ⟨x1, y1, e2, b2, b3, b4⟩
    · rw [e1, e2]; omega
    · rw [e1, e2]; omega
theorem told_ok (hQ : OKT T K) (hv : 0 ≤ v ∧ v ≤ 1) : TOLD T v := by
  have hK := hQ.1
  refine ⟨fun pl h1 h2 => ⟨(LCz_in (i := pl) (v := v) (dg := dgN T v) hK).1, fun li h3 h4 => ?_, ?_, ?_, ?_, ?_⟩, fun pl at_ h1 h2 h3 h4 => wh_in hQ hv h1 h2 h3 h4, fun b_ h1 h2 => lb_in hQ hv h1 h2, fun t _ _ => rg_in hQ hv⟩
  · obtain ⟨a, b, c⟩ := le_in (i := pl) (v := v) (dg := dgN T v) hK li h3 h4
    exact ⟨a, b, c, fun h5 => le_lt hK li h5 h4⟩
  · exact fun h => le_last hK h
  · rcases by_all (i := pl) (v := v) (dg := dgN T v) hK with h | ⟨h, h3⟩
    · exact Or.inl h
    · right
      rcases lc_0 (i := pl) (v := v) (dg := dgN T v) hK with g | g
      · omega
      · exact ⟨h, g.1⟩
  · rcases lc_0 (i := pl) (v := v) (dg := dgN T v) hK with g | g
    · left
      refine ⟨g.1, ?_⟩
      unfold LDz
      rw [if_pos g.2]
    · exact Or.inr ⟨g.1, ld_pos hK g.2⟩
  · have := (LDz_in (v := v) (dg := dgN T v) (i := pl) hK).2
    omega
end TOLDP

end
