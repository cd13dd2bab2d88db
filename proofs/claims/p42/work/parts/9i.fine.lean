section
/-- what holds of all pages of these rows -/
def PgI (M P : Nat → Int → Int) : Prop :=
  (∀ j, 0 ≤ j → j < P 0 0 → (0 ≤ P 1 j ∧ 0 ≤ P 2 j ∧ P 1 j + P 2 j ≤ M 0 0) ∧ (0 ≤ P 3 j ∧ P 3 j ≤ 100000) ∧ (P 2 j + P 3 j + (if 0 < P 3 j then 1 else 0) ≤ P 4 j ∧ P 4 j ≤ 1000000) ∧ 0 < P 2 j + P 4 j) ∧
  (∀ r, 0 ≤ r → r < M 0 0 → 1 ≤ P 5 r ∧ P 5 r ≤ P 0 0 ∧ P 1 (P 5 r - 1) ≤ r ∧ r < P 1 (P 5 r - 1) + P 2 (P 5 r - 1)) ∧
  (∀ j, 0 ≤ j → j < P 0 0 → 0 < P 2 j → P 1 j = smZ (P 2) 0 (Int.toNat j)) ∧ (0 ≤ P 0 0 ∧ P 0 0 ≤ 965) ∧ (0 ≤ P 0 1 ∧ P 0 1 ≤ 61440000) ∧ (∀ j, -1 ≤ P 6 j ∧ P 6 j ≤ 10000)
/-- texts of which all goes well -/
def FINE (T : Nat → Int → Int → Int → Int) : Prop := CAP T ∧ ∀ v, 0 ≤ v → v ≤ 1 → PgI (moC T v (dgN T v)) (mkZ T (moC T v (dgN T v)))
section FI1
variable {T : Nat → Int → Int → Int → Int} {v dg : Int}
theorem mo_0 : moC T v dg 0 0 = rwA T v (LCz T v dg) 0 0 := by
  show moZ T v (LCz T v dg) (WLz T v dg) 0 0 = _
  rw [mo_c (by omega) (by omega) (by omega) (by omega) (by omega) (by omega) (by omega) (by omega) (by omega) (by omega) (by omega)]
theorem mo_q {c : Nat} (h : c = 1 ∨ c = 2 ∨ c = 3 ∨ c = 7 ∨ c = 8) (x : Int) : moC T v dg c x = max (loT c) (min (hiT c) (rwA T v (LCz T v dg) c x)) := by
  show clM (moZ T v (LCz T v dg) (WLz T v dg)) c x = _
  simp only [clM]
  rw [if_neg (by omega), mo_c (by omega) (by omega) (by omega) (by omega) (by omega) (by omega) (by omega) (by omega) (by omega) (by omega) (by omega)]
/-- each row lies in its block -/
theorem moC_at (hK : TK T) {r : Int} (h1 : 0 ≤ r) (h2 : r < moC T v dg 0 0) : ∃ x : Int, 0 ≤ x ∧ x < T 0 0 0 0 ∧ moC T v dg 7 x ≤ r ∧ r < moC T v dg 7 x + moC T v dg 8 x ∧ moC T v dg 2 r = x ∧ moC T v dg 3 r = r - moC T v dg 7 x ∧ 1 ≤ moC T v dg 1 r := by
  have hn := TK_nb hK
  obtain ⟨⟨i1, i2, i3⟩, i4⟩ := rwA_in (v := v) hK (LcO_z (v := v) (dg := dg) hK)
  rw [mo_0] at h2
  obtain ⟨x, a, b, c, d, e, f, g⟩ := RwS_at i4 (fun x a b => (i3 x a b).2.1) h1 h2
  have q := i3 x a b
  refine ⟨x, a, b, ?_⟩
  rw [mo_q (by omega), mo_q (by omega), mo_q (by omega), mo_q (by omega), mo_q (by omega), e, f, show loT 7 = 0 from rfl, show hiT 7 = 768 from rfl, show loT 8 = 0 from rfl, show hiT 8 = 48 from rfl, show loT 2 = 0 from rfl, show hiT 2 = 15 from rfl, show loT 3 = 0 from rfl, show hiT 3 = 47 from rfl, show loT 1 = 0 from rfl, show hiT 1 = 200 from rfl]
  omega
/-- the rows of a block -/
theorem moC_78 (hK : TK T) {i : Int} (h1 : 0 ≤ i) (h2 : i < T 0 0 0 0) : 0 ≤ moC T v dg 7 i ∧ 0 ≤ moC T v dg 8 i ∧ moC T v dg 7 i + moC T v dg 8 i ≤ moC T v dg 0 0 ∧ moC T v dg 8 i = (if thB T i v then nrZ T i (LCz T v dg i) (htB T v).1 (htB T v).2.2 else 0) ∧ moC T v dg 7 i = rwA T v (LCz T v dg) 7 i ∧ moC T v dg 8 i = rwA T v (LCz T v dg) 8 i := by
  have hn := TK_nb hK
  obtain ⟨⟨i1, i2, i3⟩, i4⟩ := rwA_in (v := v) hK (LcO_z (v := v) (dg := dg) hK)
  have q := i3 i h1 h2
  have e7 : moC T v dg 7 i = rwA T v (LCz T v dg) 7 i := by
    rw [mo_q (by omega), show loT 7 = 0 from rfl, show hiT 7 = 768 from rfl]
    omega
  have e8 : moC T v dg 8 i = rwA T v (LCz T v dg) 8 i := by
    rw [mo_q (by omega), show loT 8 = 0 from rfl, show hiT 8 = 48 from rfl]
    omega
  rw [e7, e8, mo_0]
  exact ⟨q.1, q.2.1, q.2.2.2.1, q.2.2.2.2, rfl, rfl⟩
theorem moC_7h (hK : TK T) : ∀ i, 0 ≤ i → i < T 0 0 0 0 → hdP T v i → 0 ≤ moC T v dg 7 i ∧ moC T v dg 7 i < moC T v dg 0 0 := by
  intro i h1 h2 h
  obtain ⟨a, b, c, d, -⟩ := moC_78 (v := v) (dg := dg) hK h1 h2
  rw [if_pos h.2] at d
  have : nrZ T i (LCz T v dg i) (htB T v).1 (htB T v).2.2 = 1 := by
    unfold nrZ
    rw [if_neg (by have := h.1; omega), if_pos h.1]
  omega
/-- rows of words are rows, of their block -/
theorem moC_9 (hK : TK T) (x : Int) : moC T v dg 9 x = -1 ∨ ∃ i j : Int, 0 ≤ i ∧ i < T 0 0 0 0 ∧ 0 ≤ j ∧ j < T 3 i 0 0 ∧ x = (i * 12) + j ∧ moC T v dg 7 i ≤ moC T v dg 9 x ∧ moC T v dg 9 x < moC T v dg 7 i + moC T v dg 8 i ∧ moC T v dg 9 x < moC T v dg 0 0 ∧ 0 ≤ moC T v dg 9 x := by
  have hn := TK_nb hK
  have e9 : moZ T v (LCz T v dg) (WLz T v dg) 9 x = pwA T v (LCz T v dg) (WLz T v dg) 9 x := rfl
  have em : moC T v dg 9 x = max (-1) (min 767 (pwA T v (LCz T v dg) (WLz T v dg) 9 x)) := by
    show clM (moZ T v (LCz T v dg) (WLz T v dg)) 9 x = _
    simp only [clM]
    rw [if_neg (by omega), e9]
    rfl
  obtain ⟨⟨i1, -⟩, -⟩ := rwA_in (v := v) hK (LcO_z (v := v) (dg := dg) hK)
  rcases (pwA_I (v := v) (dg := dg) hK).1 x with h | ⟨i, j, a, b, c, d, e, f, g, h⟩
  · exact Or.inl (by rw [em, h]; omega)
  · have ro := RoI_z (v := v) (dg := dg) hK i j a b c d f g
    obtain ⟨-, -, -, -, e7, e8⟩ := moC_78 (v := v) (dg := dg) hK a b
    refine Or.inr ⟨i, j, a, b, c, d, e, ?_⟩
    rw [em, h, e7, e8, mo_0]
    omega
theorem moC_9l (hK : TK T) : ∀ x, 0 ≤ x → x < 192 → moC T v dg 9 x < moC T v dg 0 0 := by
  intro x _ _
  have h0 := MK_cnt (moC_in (v := v) (dg := dg) hK).1
  rcases moC_9 (v := v) (dg := dg) hK x with h | ⟨i, j, h⟩
  · omega
  · omega
/-- a word's row is in its block -/
theorem moC_9w (hK : TK T) {i j : Int} (h1 : 0 ≤ i) (h2 : i < T 0 0 0 0) (h3 : 0 ≤ j) (h4 : j < T 3 i 0 0) (h : moC T v dg 9 ((i * 12) + j) ≠ -1) : 0 ≤ moC T v dg 9 ((i * 12) + j) ∧ moC T v dg 9 ((i * 12) + j) < moC T v dg 0 0 ∧ moC T v dg 7 i ≤ moC T v dg 9 ((i * 12) + j) ∧ moC T v dg 9 ((i * 12) + j) < moC T v dg 7 i + moC T v dg 8 i := by
  have hw := TK_nw hK i
  rcases moC_9 (v := v) (dg := dg) hK ((i * 12) + j) with e | ⟨a, b, c, d, e, f, g, q⟩
  · exact absurd e h
  · have hw2 := TK_nw hK a
    have e1 : a = i := by omega
    subst e1
    omega
theorem mdI_in {x m : Int} (hm : 0 ≤ m ∧ m < 4096) : ∀ b : Nat, b ≤ 6 → 0 ≤ mdI x m b ∧ mdI x m b < 4096
  | 0, _ => hm
  | b + 1, h => by
    have ih := mdI_in (x := x) hm b (by omega)
    have hs := bShl_dd (a := 3) (q := (b : Int)) (by omega) (by omega)
    have h1 := bDif_le (a := mdI x m b) (b := bShl 3 (2 * (b : Int))) ih.1
    have h2 := bAnd_le' (a := x) (b := bShl 3 (2 * (b : Int))) (by omega)
    simp only [mdI]
    split
    · exact bOr_lt 12 (by omega) (by omega)
    · exact ih
theorem mdF_in {D : Int → Int} {r0 : Int} : ∀ k : Nat, 0 ≤ mdF D r0 k ∧ mdF D r0 k < 4096
  | 0 => ⟨(by decide : (0 : Int) ≤ 1365), (by decide : (1365 : Int) < 4096)⟩
  | k + 1 => mdI_in (mdF_in k) 6 (by omega)
theorem dgN_in : 0 ≤ dgN T v ∧ dgN T v < 4096 := by
  have key : ∀ n : Nat, 0 ≤ (rdS T v n).2.2.2.1 ∧ (rdS T v n).2.2.2.1 < 4096 := by
    intro n
    induction n with
    | zero => exact ⟨by show (0 : Int) ≤ 1365; omega, by show (1365 : Int) < 4096; omega⟩
    | succ n ih =>
      by_cases e : (rdS T v n).2.1 = 0
      · rw [rdS_e e 1]; exact ih
      · rw [rdS_s e]
        dsimp only
        unfold rd1 cdZ
        split
        · exact ih
        · split
          · exact ih
          · split
            · obtain ⟨a0, a1, a2, a3, a4, a5, h0, h1, h2, h3, h4, h5, h6⟩ := VD_dg (moC T v (rdS T v n).2.2.2.1) (mkZ T (moC T v (rdS T v n).2.2.2.1))
              dsimp only
              omega
            · exact mdF_in _
  exact key 731
end FI1

end
