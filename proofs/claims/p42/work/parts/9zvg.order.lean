section
section ORDER
variable {Q : Nat → Int → Int} {fg : Int} {T : Nat → Int → Int → Int → Int} {v dg : Int}
theorem insF_I : ∀ (a : Nat) (od : Int → Int), (∀ x y : Int, 0 ≤ x → x < y → y < a → Q 14 (od x) ≤ Q 14 (od y)) → (∀ x : Int, (a : Int) < x → insF Q fg a od x = od x) ∧ (∀ x : Int, 0 ≤ x → x ≤ a → insF Q fg a od x = fg ∨ ∃ y : Int, 0 ≤ y ∧ y < a ∧ insF Q fg a od x = od y) ∧ (∀ x y : Int, 0 ≤ x → x < y → y ≤ a → Q 14 (insF Q fg a od x) ≤ Q 14 (insF Q fg a od y))
  | 0, od, _ => by
    refine ⟨fun x hx => uz_n (by omega), fun x h1 h2 => ?_, fun x y h1 h2 h3 => by omega⟩
    rw [show x = 0 by omega]
    exact Or.inl uz_s
  | a + 1, od, h => by
    by_cases g : iaP Q fg (od (a : Int))
    · have e : insF Q fg (a + 1) od = insF Q fg a (uz od ((a : Int) + 1) (od (a : Int))) := by simp only [insF]; rw [if_pos g]
      rw [e]
      have hu : ∀ x : Int, x ≤ a → uz od ((a : Int) + 1) (od (a : Int)) x = od x := fun x hx => uz_n (by omega)
      obtain ⟨i1, i2, i3⟩ := insF_I a (uz od ((a : Int) + 1) (od (a : Int))) (fun x y h1 h2 h3 => by rw [hu x (by omega), hu y (by omega)]; exact h x y h1 h2 (by omega))
      have i2' : ∀ x : Int, 0 ≤ x → x ≤ a → insF Q fg a (uz od ((a : Int) + 1) (od (a : Int))) x = fg ∨ ∃ y : Int, 0 ≤ y ∧ y < a ∧ insF Q fg a (uz od ((a : Int) + 1) (od (a : Int))) x = od y := by
        intro x h1 h2
        rcases i2 x h1 h2 with q | ⟨y, q1, q2, q3⟩
        · exact Or.inl q
        · exact Or.inr ⟨y, q1, q2, by rw [q3, hu y (by omega)]⟩
      have ea : insF Q fg a (uz od ((a : Int) + 1) (od (a : Int))) ((a : Int) + 1) = od (a : Int) := by rw [i1 _ (by omega)]; exact uz_s
      refine ⟨fun x hx => ?_, fun x h1 h2 => ?_, fun x y h1 h2 h3 => ?_⟩
      · rw [i1 x (by omega)]; exact uz_n (by omega)
      · by_cases ex : x = (a : Int) + 1
        · rw [ex, ea]
          exact Or.inr ⟨(a : Int), by omega, by omega, rfl⟩
        · rcases i2' x h1 (by omega) with q | ⟨y, q1, q2, q3⟩
          · exact Or.inl q
          · exact Or.inr ⟨y, q1, by omega, q3⟩
      · by_cases ey : y = (a : Int) + 1
        · rw [ey, ea]
          rcases i2' x h1 (by omega) with q | ⟨z, q1, q2, q3⟩
          · rw [q]
            rcases g with g | g
            · omega
            · omega
          · rw [q3]
            exact h z (a : Int) q1 q2 (by omega)
        · exact i3 x y h1 h2 (by omega)
    · have e : insF Q fg (a + 1) od = uz od ((a : Int) + 1) fg := by simp only [insF]; rw [if_neg g]
      rw [e]
      refine ⟨fun x hx => uz_n (by omega), fun x h1 h2 => ?_, fun x y h1 h2 h3 => ?_⟩
      · by_cases ex : x = (a : Int) + 1
        · rw [ex]; exact Or.inl uz_s
        · exact Or.inr ⟨x, h1, by omega, uz_n ex⟩
      · rw [uz_n (show x ≠ (a : Int) + 1 by omega)]
        by_cases ey : y = (a : Int) + 1
        · rw [ey, uz_s]
          have hg : Q 14 (od (a : Int)) ≤ Q 14 fg := by
            by_cases q : Q 14 fg < Q 14 (od (a : Int))
            · exact absurd (Or.inl q) g
            · omega
          by_cases ex : x = (a : Int)
          · rw [ex]; exact hg
          · have := h x (a : Int) h1 (by omega) (by omega)
            omega
        · rw [uz_n ey]
          exact h x y h1 h2 (by omega)
theorem ofF_I : ∀ k : Nat, (0 ≤ (ofF Q k).2 ∧ (ofF Q k).2 ≤ k) ∧ (∀ x : Int, 0 ≤ x → x < (ofF Q k).2 → 0 ≤ (ofF Q k).1 x ∧ (ofF Q k).1 x < k) ∧ (∀ x y : Int, 0 ≤ x → x < y → y < (ofF Q k).2 → Q 14 ((ofF Q k).1 x) ≤ Q 14 ((ofF Q k).1 y))
  | 0 => ⟨⟨Int.le_refl 0, Int.le_refl 0⟩, fun x h1 h2 => by have h3 : x < 0 := h2; omega, fun x y h1 h2 h3 => by have h4 : y < 0 := h3; omega⟩
  | k + 1 => by
    obtain ⟨i1, i2, i3⟩ := ofF_I k
    simp only [ofF]
    split
    · exact ⟨by omega, fun x h1 h2 => by have := i2 x h1 h2; omega, i3⟩
    · obtain ⟨j1, j2, j3⟩ := insF_I (Q := Q) (fg := (k : Int)) (Int.toNat (ofF Q k).2) (ofF Q k).1 (fun x y h1 h2 h3 => i3 x y h1 h2 (by omega))
      dsimp only
      refine ⟨by omega, fun x h1 h2 => ?_, fun x y h1 h2 h3 => j3 x y h1 h2 (by omega)⟩
      rcases j2 x h1 (by omega) with q | ⟨y, q1, q2, q3⟩
      · rw [q]; omega
      · rw [q3]
        have := i2 y q1 (by omega)
        omega
theorem mo_17 : moC T v dg 17 0 = (ofF (pwA T v (LCz T v dg) (WLz T v dg)) (Int.toNat (T 12 0 0 0))).2 := rfl
theorem mo_16 (hK : TK T) {x : Int} (h1 : 0 ≤ x) (h2 : x < moC T v dg 17 0) : moC T v dg 16 x = (ofF (pwA T v (LCz T v dg) (WLz T v dg)) (Int.toNat (T 12 0 0 0))).1 x ∧ 0 ≤ moC T v dg 16 x ∧ moC T v dg 16 x < T 12 0 0 0 := by
  have hf := TK_fc hK
  obtain ⟨-, i2, -⟩ := ofF_I (Q := pwA T v (LCz T v dg) (WLz T v dg)) (Int.toNat (T 12 0 0 0))
  have k := i2 x h1 h2
  have e : moC T v dg 16 x = max 0 (min 4 ((ofF (pwA T v (LCz T v dg) (WLz T v dg)) (Int.toNat (T 12 0 0 0))).1 x)) := rfl
  rw [e]
  omega
theorem SRT_mo (hK : TK T) : SRT (moC T v dg) := by
  intro a b hab hb
  obtain ⟨-, -, i3⟩ := ofF_I (Q := pwA T v (LCz T v dg) (WLz T v dg)) (Int.toNat (T 12 0 0 0))
  have k := i3 (a : Int) (b : Int) (by omega) (by omega) hb
  have e : ∀ x : Int, moC T v dg 14 x = max (-1) (min 767 (pwA T v (LCz T v dg) (WLz T v dg) 14 x)) := fun x => by
    show clM (moZ T v (LCz T v dg) (WLz T v dg)) 14 x = _
    rfl
  unfold mnF
  rw [(mo_16 hK (x := (a : Int)) (by omega) (by omega)).1, (mo_16 hK (x := (b : Int)) (by omega) hb).1, e, e]
  omega
end ORDER

end
