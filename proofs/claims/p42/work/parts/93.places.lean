section
section PL1
variable {T : Nat → Int → Int → Int → Int} {i j v dg : Int} {s s' : P5}
def PB (s : P5) (w o : Int) : Prop := ∀ x, (0 ≤ s.2.1 x ∧ s.2.1 x ≤ 11) ∧ (0 ≤ s.2.2.1 x ∧ s.2.2.1 x ≤ 5) ∧ (0 ≤ s.2.2.2.1 x ∧ s.2.2.2.1 x ≤ w) ∧ (0 ≤ s.2.2.2.2 x ∧ s.2.2.2.2 x ≤ o)
theorem uz_bd {f : Int → Int} {lo hi z a x : Int} (h : lo ≤ f x ∧ f x ≤ hi) (ha : lo ≤ a ∧ a ≤ hi) : lo ≤ uz f z a x ∧ uz f z a x ≤ hi := by
  by_cases e : x = z
  · rw [e, uz_s]; exact ha
  · rw [uz_n e]; exact h
theorem adP_B {w o a g u h' : Int} (h : PB s w o) (ha : 0 ≤ a ∧ a ≤ 11) (hg : 0 ≤ g ∧ g ≤ 5) (hu : 0 ≤ u ∧ u ≤ w) (hh : 0 ≤ h' ∧ h' ≤ o) : PB (adP s a g u h') w o := fun x =>
  ⟨uz_bd (h x).1 ha, uz_bd (h x).2.1 hg, uz_bd (h x).2.2.1 hu, uz_bd (h x).2.2.2 hh⟩
theorem PB_mono {w o w' o' : Int} (h : PB s w o) (h1 : w ≤ w') (h2 : o ≤ o') : PB s w' o' := fun x => by
  have := h x
  omega
theorem ltP_B (hK : TK T) {w o u0 w0 : Int} (h : PB s w o) (hu : 0 ≤ u0 ∧ u0 ≤ w) (hw : 0 ≤ w0 ∧ w0 ≤ o) (hj : 0 ≤ j ∧ j ≤ 11) : ∀ q : Nat, q ≤ 6 → PB (ltP T i j s u0 w0 q).1 (w + 36) o ∧ 0 ≤ (ltP T i j s u0 w0 q).2 ∧ (ltP T i j s u0 w0 q).2 ≤ w + 6 * q
  | 0, _ => ⟨PB_mono h (by omega) (by omega), hu.1, by simp only [ltP]; omega⟩
  | q + 1, hq => by
    obtain ⟨h1, h2, h3⟩ := ltP_B hK h hu hw hj q (by omega)
    have hl := LWz_in (T 5 i j (q : Int))
    simp only [ltP]
    refine ⟨?_, by omega, by omega⟩
    split
    · exact adP_B h1 hj (by omega) (by omega) hw
    · exact h1
theorem woP_B (hK : TK T) {w o : Int} (h : PB s w o) (hj : 0 ≤ j ∧ j ≤ 11) : PB (woP T i j dg s) (w + 36) (o + 1) := by
  have hl := TK_len hK i j
  have hw := TK_wl hK i j
  have h1 := h s.1
  obtain ⟨b1, b2, b3⟩ := ltP_B (i := i) (j := j) hK h h1.2.2.1 h1.2.2.2 hj (T 4 i j 0).toNat (by omega)
  have h0 : (T 4 i j 0).toNat = 0 → (ltP T i j s (s.2.2.2.1 s.1) (s.2.2.2.2 s.1) (T 4 i j 0).toNat).2 = s.2.2.2.1 s.1 := fun e => by rw [e]; rfl
  have hd := bAnd_le' (a := bShr dg (2 * T 6 i j 0)) (b := 3) (by omega)
  unfold woP
  refine adP_B (PB_mono b1 (by omega) (by omega)) hj (by omega) ?_ (by omega)
  split
  · omega
  · have := h0 (by omega)
    omega
theorem plP_B (hK : TK T) : ∀ a : Nat, a ≤ 12 → PB (plP T i v dg a) (36 * a) a
  | 0, _ => fun x => by show (0 ≤ (0 : Int) ∧ (0 : Int) ≤ 11) ∧ (0 ≤ (0 : Int) ∧ (0 : Int) ≤ 5) ∧ (0 ≤ (0 : Int) ∧ (0 : Int) ≤ 36 * ((0 : Nat) : Int)) ∧ (0 ≤ (0 : Int) ∧ (0 : Int) ≤ ((0 : Nat) : Int)); omega
  | a + 1, ha => by
    have ih := plP_B hK a (by omega)
    simp only [plP]
    split
    · exact PB_mono (woP_B hK ih (by omega)) (by omega) (by omega)
    · exact PB_mono ih (by omega) (by omega)
theorem tkP_B (hK : TK T) : PB (tkP T i v dg) 432 12 := by
  have hn := TK_nw hK i
  unfold tkP
  split
  · exact PB_mono (plP_B hK (T 3 i 0 0).toNat (by omega)) (by omega) (by omega)
  · exact PB_mono (plP_B (v := v) (dg := dg) (i := i) hK 0 (by omega)) (by omega) (by omega)
theorem jLk_tk (hK : TK T) {wz fr to : Int} (h : 0 ≤ wz ∧ wz ≤ 200) : -3000 ≤ jLk (tkP T i v dg).2.2.2.1 (tkP T i v dg).2.2.2.2 (tkP T i v dg).2.2.1 fr to wz :=
  jLk_in (fun x => by have := (tkP_B (i := i) (v := v) (dg := dg) hK x).2.2.1; omega) (fun x => by have := (tkP_B (i := i) (v := v) (dg := dg) hK x).2.2.2; omega) h
theorem bwc_in (hK : TK T) {fr la a : Int} (h1 : 0 ≤ fr ∧ fr ≤ (tkP T i v dg).1) (h2 : 0 ≤ la ∧ la ≤ dpZ T i) : (0 ≤ (bwc T i v dg fr la a).1 ∧ (bwc T i v dg fr la a).1 ≤ 41736600 * ((tkP T i v dg).1 - fr)) ∧ (fr < (tkP T i v dg).1 → fr < (bwc T i v dg fr la a).2.2 ∧ (bwc T i v dg fr la a).2.2 ≤ (tkP T i v dg).1) := by
  have hw := wd_in (i := i) hK
  have q := BW_in (fg := (tkP T i v dg).2.2.1) (fw := (tkP T i v dg).2.2.2.1) (fo := (tkP T i v dg).2.2.2.2) (n := (tkP T i v dg).1) (wd := wdZ T i (T 16 0 0 0)) (nw := nwZ T i (T 16 0 0 0)) (dp := dpZ T i)
    (fun wz f1 t1 hz => by have := jLk_tk (i := i) (v := v) (dg := dg) hK (wz := wz) (fr := f1) (to := t1) (by omega); omega) (by omega) ((tkP T i v dg).1 - fr).toNat fr la a (by omega) h2.1 h2.2
  exact ⟨q.1, q.2.2⟩
/-- one word's places: behind those ahead, all of this word; the last at no gap -/
def LtU (s s' : P5) (j : Int) : Prop := s.1 ≤ s'.1 ∧ (∀ x, x ≤ s.1 → s'.2.1 x = s.2.1 x ∧ s'.2.2.1 x = s.2.2.1 x) ∧ ∀ x, s.1 < x → x ≤ s'.1 → s'.2.1 x = j
theorem LtU_ad {g u w : Int} (h : LtU s s' j) : LtU s (adP s' j g u w) j := by
  refine ⟨by show s.1 ≤ s'.1 + 1; have := h.1; omega, fun x a => ?_, fun x a b => ?_⟩
  · have h1 := h.1
    show uz s'.2.1 (s'.1 + 1) j x = s.2.1 x ∧ uz s'.2.2.1 (s'.1 + 1) g x = s.2.2.1 x
    rw [uz_n (by omega), uz_n (by omega)]
    exact h.2.1 x a
  · have b' : x ≤ s'.1 + 1 := b
    show uz s'.2.1 (s'.1 + 1) j x = j
    by_cases e : x = s'.1 + 1
    · rw [e, uz_s]
    · rw [uz_n e]; exact h.2.2 x a (by omega)
theorem ltP_U {u0 w0 : Int} : ∀ q : Nat, LtU s (ltP T i j s u0 w0 q).1 j
  | 0 => ⟨Int.le_refl _, fun _ _ => ⟨rfl, rfl⟩, fun x a b => by simp only [ltP] at b; omega⟩
  | q + 1 => by
    simp only [ltP]
    split
    · exact LtU_ad (ltP_U q)
    · exact ltP_U q
theorem ltP_n (hK : TK T) {u0 w0 : Int} : ∀ q : Nat, (q : Int) ≤ 6 → (ltP T i j s u0 w0 q).1.1 ≤ s.1 + max 0 (min (q : Int) 5 - 2)
  | 0, _ => by simp only [ltP]; omega
  | q + 1, hq => by
    have ih := ltP_n hK (u0 := u0) (w0 := w0) q (by omega)
    simp only [ltP]
    split
    · rename_i h
      have := TK_gapb hK i j (q : Int) (by omega) h
      show (ltP T i j s u0 w0 q).1.1 + 1 ≤ _
      omega
    · show (ltP T i j s u0 w0 q).1.1 ≤ _
      omega
theorem woP_U (hK : TK T) : LtU s (woP T i j dg s) j ∧ s.1 < (woP T i j dg s).1 ∧ (woP T i j dg s).1 ≤ s.1 + 4 ∧ (woP T i j dg s).2.2.1 (woP T i j dg s).1 = 0 := by
  have hl := TK_len hK i j
  have h1 := ltP_U (T := T) (i := i) (j := j) (s := s) (u0 := s.2.2.2.1 s.1) (w0 := s.2.2.2.2 s.1) (T 4 i j 0).toNat
  have h2 := ltP_n (i := i) (j := j) hK (s := s) (u0 := s.2.2.2.1 s.1) (w0 := s.2.2.2.2 s.1) (T 4 i j 0).toNat (by omega)
  unfold woP
  refine ⟨LtU_ad h1, ?_, ?_, uz_s⟩
  · show s.1 < (ltP T i j s (s.2.2.2.1 s.1) (s.2.2.2.2 s.1) (T 4 i j 0).toNat).1.1 + 1
    have := h1.1
    omega
  · show (ltP T i j s (s.2.2.2.1 s.1) (s.2.2.2.2 s.1) (T 4 i j 0).toNat).1.1 + 1 ≤ s.1 + 4
    omega
theorem plP_w (hK : TK T) : ∀ a : Nat, (0 ≤ (plP T i v dg a).1 ∧ (plP T i v dg a).1 ≤ 4 * a) ∧ (plP T i v dg a).2.2.1 (plP T i v dg a).1 = 0 ∧ ∀ j : Int, 0 ≤ j → j < a → thW T i j v → ∃ k : Int, 0 ≤ k ∧ k < (plP T i v dg a).1 ∧ (plP T i v dg a).2.2.1 k = 0 ∧ (plP T i v dg a).2.1 (k + 1) = j
  | 0 => ⟨⟨Int.le_refl 0, Int.le_refl 0⟩, rfl, fun j a b => by omega⟩
  | a + 1 => by
    obtain ⟨h1, h2, h3⟩ := plP_w hK a
    simp only [plP]
    split
    · rename_i ht
      obtain ⟨⟨u1, u2, u3⟩, u4, u5, u6⟩ := woP_U (T := T) (i := i) (j := (a : Int)) (dg := dg) (s := plP T i v dg a) hK
      refine ⟨by omega, u6, fun j g1 g2 g3 => ?_⟩
      by_cases e : j = (a : Int)
      · refine ⟨(plP T i v dg a).1, h1.1, u4, ?_, ?_⟩
        · rw [(u2 _ (Int.le_refl _)).2]; exact h2
        · rw [u3 _ (by omega) (by omega)]; exact e.symm
      · obtain ⟨k, k1, k2, k3, k4⟩ := h3 j g1 (by omega) g3
        refine ⟨k, k1, by omega, ?_, ?_⟩
        · rw [(u2 k (by omega)).2]; exact k3
        · rw [(u2 (k + 1) (by omega)).1]; exact k4
    · rename_i ht
      refine ⟨by omega, h2, fun j g1 g2 g3 => ?_⟩
      by_cases e : j = (a : Int)
      · exact absurd (e ▸ g3) ht
      · exact h3 j g1 (by omega) g3
theorem tkP_w (hK : TK T) : (0 ≤ (tkP T i v dg).1 ∧ (tkP T i v dg).1 ≤ 48) ∧ ((T 1 i 0 0 = 0 ∨ T 1 i 0 0 = 2) ∧ thB T i v → ∀ j : Int, 0 ≤ j → j < T 3 i 0 0 → thW T i j v → ∃ k : Int, 0 ≤ k ∧ k < (tkP T i v dg).1 ∧ (tkP T i v dg).2.2.1 k = 0 ∧ (tkP T i v dg).2.1 (k + 1) = j) := by
  have hn := TK_nw hK i
  have h := plP_w (i := i) (v := v) (dg := dg) hK (T 3 i 0 0).toNat
  unfold tkP
  split
  · exact ⟨by omega, fun _ j a b c => h.2.2 j a (by omega) c⟩
  · rename_i q
    exact ⟨by show 0 ≤ (0 : Int) ∧ (0 : Int) ≤ 48; omega, fun z => absurd z q⟩
/-- the lines go on to the end -/
theorem lnC_in (hK : TK T) : ∀ k : Nat, (∀ j : Nat, j < k → (lnC T i v dg j).1 < (tkP T i v dg).1) → (k : Int) ≤ (lnC T i v dg k).1 ∧ (lnC T i v dg k).1 ≤ (tkP T i v dg).1
  | 0, _ => ⟨Int.le_refl 0, (tkP_w (i := i) (v := v) (dg := dg) hK).1.1⟩
  | k + 1, h => by
    have ih := lnC_in hK k (fun j a => h j (by omega))
    have hd := wd_in (i := i) hK
    have q := (bwc_in (i := i) (v := v) (dg := dg) hK (fr := (lnC T i v dg k).1) (la := min (k : Int) (dpZ T i)) (a := if (k : Int) = 0 then 4 else (lnC T i v dg k).2) (by omega) (by omega)).2 (h k (by omega))
    simp only [lnC]
    omega
theorem lcF_in : ∀ (f k : Nat), (k : Int) ≤ lcF T i v dg f k ∧ lcF T i v dg f k ≤ k + f ∧ (∀ j : Nat, k ≤ j → (j : Int) < lcF T i v dg f k → (lnC T i v dg j).1 < (tkP T i v dg).1) ∧ (lcF T i v dg f k = k + f ∨ ¬ (lnC T i v dg (Int.toNat (lcF T i v dg f k))).1 < (tkP T i v dg).1)
  | 0, k => by
    simp only [lcF]
    exact ⟨by omega, by omega, fun j a b => by omega, Or.inl (by omega)⟩
  | f + 1, k => by
    simp only [lcF]
    by_cases e : (lnC T i v dg k).1 < (tkP T i v dg).1
    · rw [if_pos e]
      obtain ⟨h1, h2, h3, h4⟩ := lcF_in f (k + 1)
      refine ⟨by omega, by omega, fun j a b => ?_, ?_⟩
      · by_cases e2 : j = k
        · rw [e2]; exact e
        · exact h3 j (by omega) b
      · rcases h4 with h4 | h4
        · exact Or.inl (by omega)
        · exact Or.inr h4
    · rw [if_neg e]
      exact ⟨by omega, by omega, fun j a b => by omega, Or.inr (by rw [show Int.toNat ((k : Nat) : Int) = k by omega]; exact e)⟩
theorem LCz_in (hK : TK T) : (0 ≤ LCz T v dg i ∧ LCz T v dg i ≤ 48) ∧ (∀ j : Nat, (j : Int) < LCz T v dg i → (lnC T i v dg j).1 < (tkP T i v dg).1) ∧ (lnC T i v dg (Int.toNat (LCz T v dg i))).1 = (tkP T i v dg).1 := by
  obtain ⟨h1, h2, h3, h4⟩ := lcF_in (T := T) (i := i) (v := v) (dg := dg) 48 0
  have hn := (tkP_w (i := i) (v := v) (dg := dg) hK).1
  have e : LCz T v dg i = lcF T i v dg 48 0 := rfl
  rw [e]
  have hl := lnC_in (i := i) (v := v) (dg := dg) hK (Int.toNat (lcF T i v dg 48 0)) (fun j a => h3 j (by omega) (by omega))
  refine ⟨by omega, fun j b => h3 j (by omega) b, ?_⟩
  rcases h4 with h4 | h4
  · omega
  · omega
end PL1

section PL2
variable {T : Nat → Int → Int → Int → Int} {i v dg li : Int} {s : P5} {f f' : Int → Int}
/-- words that begin ahead of a place have their lines, whatever stood there -/
def WlA (s : P5) (i fr li : Int) (f g : Int → Int) : Prop := ∀ k, 0 ≤ k → k < fr → s.2.2.1 k = 0 → f ((i * 12) + s.2.1 (k + 1)) = g ((i * 12) + s.2.1 (k + 1)) ∧ 0 ≤ g ((i * 12) + s.2.1 (k + 1)) ∧ g ((i * 12) + s.2.1 (k + 1)) < li
theorem wlI_A {fr : Int} (h0 : 0 ≤ fr) (hl : 0 ≤ li) (h : WlA s i fr li f f') : ∀ d : Nat, WlA s i (fr + d) (li + 1) (wlI s i li fr f d) (wlI s i li fr f' d)
  | 0 => fun k a b c => by
    have := h k a (by omega) c
    simp only [wlI]
    omega
  | d + 1 => fun k a b c => by
    have ih := wlI_A h0 hl h d
    simp only [wlI]
    by_cases e0 : s.2.2.1 (fr + (d : Int)) = 0
    · rw [if_pos e0, if_pos e0]
      by_cases e : ((i * 12) + s.2.1 (k + 1)) = ((i * 12) + s.2.1 ((fr + (d : Int)) + 1))
      · rw [e, uz_s, uz_s]; omega
      · rw [uz_n e, uz_n e]
        refine ih k a ?_ c
        by_cases e2 : k = fr + (d : Int)
        · exact absurd (by rw [e2]) e
        · omega
    · rw [if_neg e0, if_neg e0]
      refine ih k a ?_ c
      by_cases e2 : k = fr + (d : Int)
      · exact absurd (e2 ▸ c) e0
      · omega
theorem wlS_A (hK : TK T) : ∀ n : Nat, (∀ j : Nat, j < n → (lnC T i v dg j).1 < (tkP T i v dg).1) → WlA (tkP T i v dg) i (lnC T i v dg n).1 n (wlS T i v dg f n) (wlS T i v dg f' n)
  | 0, _ => fun k a b c => by
    have b' : k < 0 := b
    omega
  | n + 1, h => by
    have ih := wlS_A hK n (fun j a => h j (by omega))
    have h1 := lnC_in (i := i) (v := v) (dg := dg) hK n (fun j a => h j (by omega))
    have h2 := lnC_in (i := i) (v := v) (dg := dg) hK (n + 1) h
    have hd := wd_in (i := i) hK
    have h3 := (bwc_in (i := i) (v := v) (dg := dg) hK (fr := (lnC T i v dg n).1) (la := min (n : Int) (dpZ T i)) (a := if (n : Int) = 0 then 4 else (lnC T i v dg n).2) (by omega) (by omega)).2 (h n (by omega))
    have e : (lnC T i v dg (n + 1)).1 = (bwc T i v dg (lnC T i v dg n).1 (min (n : Int) (dpZ T i)) (if (n : Int) = 0 then 4 else (lnC T i v dg n).2)).2.2 := rfl
    have q := wlI_A (li := (n : Int)) (by omega) (by omega) ih (Int.toNat ((lnC T i v dg (n + 1)).1 - (lnC T i v dg n).1))
    rw [show (lnC T i v dg n).1 + ((Int.toNat ((lnC T i v dg (n + 1)).1 - (lnC T i v dg n).1) : Nat) : Int) = (lnC T i v dg (n + 1)).1 by omega] at q
    exact q
/-- outside its own block nothing is told of words -/
theorem wlI_o (hs : ∀ x, 0 ≤ s.2.1 x ∧ s.2.1 x ≤ 11) {fr x : Int} (hx : x < i * 12 ∨ i * 12 + 12 ≤ x) : ∀ d : Nat, wlI s i li fr f d x = f x
  | 0 => rfl
  | d + 1 => by
    have := hs ((fr + (d : Int)) + 1)
    simp only [wlI]
    split
    · rw [uz_n (by omega)]; exact wlI_o hs hx d
    · exact wlI_o hs hx d
theorem wlS_o (hK : TK T) {x : Int} (hx : x < i * 12 ∨ i * 12 + 12 ≤ x) : ∀ n : Nat, wlS T i v dg f n x = f x
  | 0 => rfl
  | n + 1 => by
    show wlI _ i _ _ (wlS T i v dg f n) _ x = f x
    rw [wlI_o (fun y => (tkP_B (i := i) (v := v) (dg := dg) hK y).1) hx]
    exact wlS_o hK hx n
theorem leS_o {x : Int} (hx : x < i * 48 ∨ i * 48 + 48 ≤ x) : ∀ n : Nat, (n : Int) ≤ 48 → leS T i v dg f n x = f x
  | 0, _ => rfl
  | n + 1, h => by
    show uz (leS T i v dg f n) _ _ x = f x
    rw [uz_n (by omega)]
    exact leS_o hx n (by omega)
theorem lkS_o {x : Int} (hx : x < i * 48 ∨ i * 48 + 48 ≤ x) : ∀ n : Nat, (n : Int) ≤ 48 → lkS T i v dg f n x = f x
  | 0, _ => rfl
  | n + 1, h => by
    show uz (lkS T i v dg f n) _ _ x = f x
    rw [uz_n (by omega)]
    exact lkS_o hx n (by omega)
/-- what is told of a line -/
def LEz (T : Nat → Int → Int → Int → Int) (v dg i l : Int) : Int := 10 * (tkP T i v dg).2.1 (lnC T i v dg (Int.toNat (l + 1))).1 + (tkP T i v dg).2.2.1 (lnC T i v dg (Int.toNat (l + 1))).1
def LKz (T : Nat → Int → Int → Int → Int) (v dg i l : Int) : Int := (lnC T i v dg (Int.toNat (l + 1))).2
def WLz (T : Nat → Int → Int → Int → Int) (v dg : Int) (x : Int) : Int := wlS T (x / 12) v dg (fun _ => 0) (Int.toNat (LCz T v dg (x / 12))) x
theorem leS_at : ∀ (n : Nat) (l : Int), 0 ≤ l → l < n → leS T i v dg f n ((i * 48) + l) = LEz T v dg i l ∧ lkS T i v dg f' n ((i * 48) + l) = LKz T v dg i l
  | 0, l, a, b => by omega
  | n + 1, l, a, b => by
    show uz (leS T i v dg f n) ((i * 48) + (n : Int)) _ ((i * 48) + l) = _ ∧ uz (lkS T i v dg f' n) ((i * 48) + (n : Int)) _ ((i * 48) + l) = _
    by_cases e : l = (n : Int)
    · rw [e, uz_s, uz_s]
      unfold LEz LKz
      rw [show Int.toNat ((n : Int) + 1) = n + 1 by omega]
      exact ⟨rfl, rfl⟩
    · rw [uz_n (by omega), uz_n (by omega)]
      exact leS_at n l a (by omega)
end PL2

end
