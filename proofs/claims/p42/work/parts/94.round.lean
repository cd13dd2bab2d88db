section
section RO1
variable {T : Nat → Int → Int → Int → Int} {v dg : Int} {LC WL : Int → Int} {M V : Nat → Int → Int} {nb : Int}
theorem ctW_n (hK : TK T) {i : Int} {s : (Int → Int) × Int} (h : s.2 = cnF s.1 8) : ∀ j : Nat, (ctW T v i s j).2 = cnF (ctW T v i s j).1 8
  | 0 => h
  | j + 1 => by
    have ih := ctW_n hK (i := i) h j
    have hm := TK_mrk hK i (j : Int) 3
    simp only [ctW]
    split
    · exact ct_cn (by omega) ih
    · exact ih
theorem ctB_in (hK : TK T) : ∀ i : Nat, (0 ≤ (ctB T v i).1 ∧ (ctB T v i).1 ≤ i) ∧ (ctB T v i).2.2 = cnF (ctB T v i).2.1 8
  | 0 => ⟨⟨Int.le_refl 0, Int.le_refl 0⟩, rfl⟩
  | i + 1 => by
    obtain ⟨h1, h2⟩ := ctB_in hK i
    simp only [ctB]
    split
    · refine ⟨?_, ctW_n hK h2 _⟩
      show 0 ≤ (ctB T v i).1 + _ ∧ (ctB T v i).1 + _ ≤ _
      split <;> omega
    · exact ⟨by omega, h2⟩
theorem htB_in (hK : TK T) : (0 ≤ (htB T v).1 ∧ (htB T v).1 ≤ 16) ∧ (0 ≤ (htB T v).2.2 ∧ (htB T v).2.2 ≤ 8) := by
  have hn := TK_nb hK
  obtain ⟨h1, h2⟩ := ctB_in (v := v) hK (Int.toNat (T 0 0 0 0))
  have h3 := cnF_in (f := (ctB T v (Int.toNat (T 0 0 0 0))).2.1) 8
  show (0 ≤ (ctB T v (Int.toNat (T 0 0 0 0))).1 ∧ (ctB T v (Int.toNat (T 0 0 0 0))).1 ≤ 16) ∧ (0 ≤ (ctB T v (Int.toNat (T 0 0 0 0))).2.2 ∧ (ctB T v (Int.toNat (T 0 0 0 0))).2.2 ≤ 8)
  omega
theorem FXQ_tr {Q Q1 Q2 : Nat → Int → Int} (h : FXQ Q Q1) (h2 : FXQ Q1 Q2) : FXQ Q Q2 := fun c a b d e f g => (h2 c a b d e f g).trans (h c a b d e f g)
theorem pwW_fx {Qb Q : Nat → Int → Int} {i : Int} : ∀ j : Nat, FXQ Q (pwW T v Qb WL i Q j)
  | 0 => fun _ _ _ _ _ _ _ => rfl
  | j + 1 => by
    simp only [pwW]
    split
    · exact FXQ_mk (pwW_fx j)
    · exact pwW_fx j
theorem pwB_fx {Qb : Nat → Int → Int} : ∀ i : Nat, FXQ Qb (pwB T v Qb WL i)
  | 0 => FXQ_0
  | i + 1 => by
    simp only [pwB]
    split
    · exact FXQ_tr (pwB_fx i) (pwW_fx _)
    · exact pwB_fx i
theorem ofF_in {Q : Nat → Int → Int} : ∀ k : Nat, 0 ≤ (ofF Q k).2 ∧ (ofF Q k).2 ≤ k
  | 0 => ⟨Int.le_refl 0, Int.le_refl 0⟩
  | k + 1 => by
    have := ofF_in (Q := Q) k
    simp only [ofF]
    split
    · omega
    · show 0 ≤ (ofF Q k).2 + 1 ∧ (ofF Q k).2 + 1 ≤ _
      omega
theorem mo_c {c : Nat} (h4 : c ≠ 4) (h5 : c ≠ 5) (h9 : c ≠ 9) (h10 : c ≠ 10) (h14 : c ≠ 14) (h15 : c ≠ 15) (h11 : c ≠ 11) (h12 : c ≠ 12) (h13 : c ≠ 13) (h16 : c ≠ 16) (h17 : c ≠ 17) : moZ T v LC WL c = rwA T v LC c := by
  funext x
  simp only [moZ]
  rw [if_neg h11, if_neg h12, if_neg h13, if_neg h16, if_neg h17]
  have := pwB_fx (T := T) (v := v) (WL := WL) (Qb := rwA T v LC) (Int.toNat (T 0 0 0 0)) c h4 h5 h9 h10 h14 h15
  rw [show pwA T v LC WL c = rwA T v LC c from this]
def LcO (T : Nat → Int → Int → Int → Int) (LC : Int → Int) : Prop := ∀ x, 0 ≤ x → x < T 0 0 0 0 → 0 ≤ LC x ∧ LC x ≤ 48
theorem rwA_in (hK : TK T) (hl : LcO T LC) : RwI T v LC (htB T v).1 (htB T v).2.2 (rwA T v LC) (T 0 0 0 0) ∧ RwS (rwA T v LC) (T 0 0 0 0) := by
  have hn := TK_nb hK
  have hh := htB_in (v := v) hK
  have h1 := rwB_in (T := T) (v := v) (LC := LC) (hn := (htB T v).1) (tn := (htB T v).2.2) hl hh.1 hh.2 (Int.toNat (T 0 0 0 0)) (by omega)
  have h2 := rwB_st (T := T) (v := v) (LC := LC) (hn := (htB T v).1) (tn := (htB T v).2.2) hl hh.1 hh.2 (Int.toNat (T 0 0 0 0)) (by omega)
  rw [show ((Int.toNat (T 0 0 0 0) : Nat) : Int) = T 0 0 0 0 by omega] at h1 h2
  exact ⟨h1, h2⟩
/-- the rows' numbers, within their bounds everywhere -/
def loT (c : Nat) : Int := if c = 9 ∨ c = 10 ∨ c = 14 then -1 else 0
def hiT (c : Nat) : Int := if c = 1 then 200 else if c = 2 then 15 else if c = 3 then 47 else if c = 4 then 1000 else if c = 5 then 5 else if c = 6 then 1 else if c = 7 then 768 else if c = 8 then 48 else if c = 9 then 767 else if c = 10 then 767 else if c = 11 then 1 else if c = 14 then 767 else if c = 15 then 191 else 4
def clM (M : Nat → Int → Int) : Nat → Int → Int := fun c x => if c = 0 ∨ c = 12 ∨ c = 13 ∨ c = 17 then M c x else max (loT c) (min (hiT c) (M c x))
theorem clM_bd {c : Nat} (h : ¬ (c = 0 ∨ c = 12 ∨ c = 13 ∨ c = 17)) (hl : loT c ≤ hiT c) (x : Int) : loT c ≤ clM M c x ∧ clM M c x ≤ hiT c := by
  simp only [clM]
  rw [if_neg h]
  omega
theorem clM_at {c : Nat} {x : Int} (h : loT c ≤ M c x ∧ M c x ≤ hiT c) : clM M c x = M c x := by
  simp only [clM]
  split
  · rfl
  · omega
theorem clM_MK (h0 : 0 ≤ M 0 0 ∧ M 0 0 ≤ 768) (h12 : 0 ≤ M 12 0 ∧ M 12 0 ≤ 16) (h13 : 0 ≤ M 13 0 ∧ M 13 0 ≤ 8) (h17 : 0 ≤ M 17 0 ∧ M 17 0 ≤ 5) : MK (clM M) :=
  ⟨h0, fun x => clM_bd (c := 1) (by omega) (by decide) x, fun x => clM_bd (c := 2) (by omega) (by decide) x, fun x => clM_bd (c := 3) (by omega) (by decide) x, fun x => clM_bd (c := 4) (by omega) (by decide) x, fun x => clM_bd (c := 5) (by omega) (by decide) x, fun x => clM_bd (c := 6) (by omega) (by decide) x, fun x => clM_bd (c := 7) (by omega) (by decide) x, fun x => clM_bd (c := 8) (by omega) (by decide) x, fun x => clM_bd (c := 9) (by omega) (by decide) x, fun x => clM_bd (c := 10) (by omega) (by decide) x, fun x => clM_bd (c := 11) (by omega) (by decide) x, fun x => clM_bd (c := 14) (by omega) (by decide) x, fun x => clM_bd (c := 15) (by omega) (by decide) x, fun x => clM_bd (c := 16) (by omega) (by decide) x, h12, h13, h17⟩
theorem clM_RA (h : RA nb M V) (hb : ∀ c x, ¬ (c = 0 ∨ c = 12 ∨ c = 13 ∨ c = 17) → loT c ≤ V c x ∧ V c x ≤ hiT c) : RA nb (clM M) V := by
  have k : ∀ (c : Nat) (x : Int), ¬ (c = 0 ∨ c = 12 ∨ c = 13 ∨ c = 17) → V c x = M c x → V c x = clM M c x := fun c x hc e => by rw [clM_at (by rw [← e]; exact hb c x hc)]; exact e
  refine ⟨fun j a b => k 1 j (by omega) (RA_1 h j a b), fun j a b => k 2 j (by omega) (RA_2 h j a b), fun j a b => k 3 j (by omega) (RA_3 h j a b), fun j a b => k 4 j (by omega) (RA_4 h j a b), fun j a b => k 5 j (by omega) (RA_5 h j a b), fun j a b => k 6 j (by omega) (RA_6 h j a b), fun j a b => k 7 j (by omega) (RA_7 h j a b), fun j a b => k 8 j (by omega) (RA_8 h j a b), fun j a b => k 9 j (by omega) (RA_9 h j a b), fun j a b => k 10 j (by omega) (RA_10 h j a b), fun j a b => k 11 j (by omega) (RA_11 h j a b), fun j a b => k 14 j (by omega) (RA_14 h j a b), fun j a b c => ?_, fun j a b => k 16 j (by omega) (RA_16 h j a b)⟩
  have e := k 14 j (by omega) (RA_14 h j a b)
  rw [← e, RA_14 h j a b] at c
  exact k 15 j (by omega) (RA_15 h j a b c)
abbrev moC (T : Nat → Int → Int → Int → Int) (v dg : Int) : Nat → Int → Int := clM (moZ T v (LCz T v dg) (WLz T v dg))
theorem LcO_z (hK : TK T) : LcO T (LCz T v dg) := fun x _ _ => (LCz_in (i := x) (v := v) (dg := dg) hK).1
theorem moC_in (hK : TK T) : MK (moC T v dg) ∧ (∀ j, 0 ≤ j → j < moC T v dg 0 0 → moC T v dg 2 j < T 0 0 0 0) := by
  have hn := TK_nb hK
  have hf := TK_fc hK
  obtain ⟨⟨h1, h2, h3⟩, h4⟩ := rwA_in (v := v) hK (LcO_z (v := v) (dg := dg) hK)
  have hh := htB_in (v := v) hK
  have e0 : moZ T v (LCz T v dg) (WLz T v dg) 0 0 = rwA T v (LCz T v dg) 0 0 := by rw [mo_c (by omega) (by omega) (by omega) (by omega) (by omega) (by omega) (by omega) (by omega) (by omega) (by omega) (by omega)]
  have ho := ofF_in (Q := pwA T v (LCz T v dg) (WLz T v dg)) (Int.toNat (T 12 0 0 0))
  have h0 : 0 ≤ moZ T v (LCz T v dg) (WLz T v dg) 0 0 ∧ moZ T v (LCz T v dg) (WLz T v dg) 0 0 ≤ 768 := by rw [e0]; omega
  refine ⟨clM_MK h0 hh.1 hh.2 (by show 0 ≤ (ofF (pwA T v (LCz T v dg) (WLz T v dg)) (Int.toNat (T 12 0 0 0))).2 ∧ (ofF (pwA T v (LCz T v dg) (WLz T v dg)) (Int.toNat (T 12 0 0 0))).2 ≤ 5; omega), fun j a b => ?_⟩
  have b' : j < rwA T v (LCz T v dg) 0 0 := by
    have : moC T v dg 0 0 = moZ T v (LCz T v dg) (WLz T v dg) 0 0 := rfl
    rw [this, e0] at b
    exact b
  obtain ⟨x, x1, x2, x3, x4, x5, -⟩ := RwS_at h4 (fun x a b => (h3 x a b).2.1) a b'
  have e2 : moZ T v (LCz T v dg) (WLz T v dg) 2 j = x := by rw [mo_c (by omega) (by omega) (by omega) (by omega) (by omega) (by omega) (by omega) (by omega) (by omega) (by omega) (by omega)]; exact x5
  rw [show moC T v dg 2 j = x from by rw [show moC T v dg 2 j = clM (moZ T v (LCz T v dg) (WLz T v dg)) 2 j from rfl, clM_at (by rw [e2]; show (0 : Int) ≤ x ∧ x ≤ 15; omega)]; exact e2]
  exact x2
/-- lines and words of the first blocks, as the text has them -/
def LyA (T : Nat → Int → Int → Int → Int) (v dg pl : Int) (u1 u2 u3 u4 u5 : Int → Int) : Prop :=
  (∀ x, 0 ≤ x → x < pl → u1 x = LCz T v dg x ∧ u4 x = LDz T v dg x) ∧ (∀ x l, 0 ≤ x → x < pl → 0 ≤ l → l < LCz T v dg x → u2 ((x * 48) + l) = LEz T v dg x l ∧ u3 ((x * 48) + l) = LKz T v dg x l) ∧
  (∀ x j, 0 ≤ x → x < pl → 0 ≤ j → j < T 3 x 0 0 → T 1 x 0 0 ≠ 1 → thB T x v → thW T x j v → u5 ((x * 12) + j) = WLz T v dg ((x * 12) + j) ∧ 0 ≤ WLz T v dg ((x * 12) + j) ∧ WLz T v dg ((x * 12) + j) < LCz T v dg x)
theorem LyA_0 {u1 u2 u3 u4 u5 : Int → Int} : LyA T v dg 0 u1 u2 u3 u4 u5 := ⟨fun x a b => by omega, fun x l a b => by omega, fun x j a b => by omega⟩
theorem LyA_s (hK : TK T) {pl : Int} {u1 u2 u3 u4 u5 : Int → Int} (hp : 0 ≤ pl) (h : LyA T v dg pl u1 u2 u3 u4 u5) : LyA T v dg (pl + 1) (uz u1 pl (LCz T v dg pl)) (leS T pl v dg u2 (Int.toNat (LCz T v dg pl))) (lkS T pl v dg u3 (Int.toNat (LCz T v dg pl))) (uz u4 pl (LDz T v dg pl)) (wlS T pl v dg u5 (Int.toNat (LCz T v dg pl))) := by
  obtain ⟨h1, h2, h3⟩ := h
  obtain ⟨c1, c2, c3⟩ := LCz_in (i := pl) (v := v) (dg := dg) hK
  refine ⟨fun x a b => ?_, fun x l a b c d => ?_, fun x j a b c d e f g => ?_⟩
  · by_cases e : x = pl
    · rw [e, uz_s, uz_s]; exact ⟨rfl, rfl⟩
    · rw [uz_n e, uz_n e]; exact h1 x a (by omega)
  · have hx := (LCz_in (i := x) (v := v) (dg := dg) hK).1
    by_cases e : x = pl
    · subst e
      exact leS_at _ l c (by omega)
    · rw [leS_o (by omega) _ (by omega), lkS_o (by omega) _ (by omega)]
      exact h2 x l a (by omega) c d
  · have hw := TK_nw hK x
    by_cases e9 : x = pl
    · subst e9
      have hk := TK_hasw hK x (by omega)
      have hk2 := TK_kind hK x
      obtain ⟨k, k1, k2, k3, k4⟩ := (tkP_w (i := x) (v := v) (dg := dg) hK).2 ⟨by omega, f⟩ j c d g
      have q := wlS_A (f := u5) (f' := fun _ => 0) (i := x) (v := v) (dg := dg) hK (Int.toNat (LCz T v dg x)) (fun y hy => c2 y (by omega)) k k1 (by rw [c3]; exact k2) k3
      rw [k4] at q
      have ew : WLz T v dg ((x * 12) + j) = wlS T x v dg (fun _ => 0) (Int.toNat (LCz T v dg x)) ((x * 12) + j) := by
        unfold WLz
        rw [show ((x * 12) + j) / 12 = x by omega]
      rw [ew]
      exact ⟨q.1, q.2.1, by omega⟩
    · rw [wlS_o (i := pl) (v := v) (dg := dg) hK (by omega)]
      exact h3 x j a (by omega) c d e f g
end RO1

end
