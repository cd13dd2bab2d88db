section
section WR1
variable {T : Nat → Int → Int → Int → Int} {v dg : Int} {WL : Int → Int} {Qb Q : Nat → Int → Int} {n : Int}
def PwI (T : Nat → Int → Int → Int → Int) (v : Int) (WL : Int → Int) (Qb : Nat → Int → Int) (n : Int) (Q : Nat → Int → Int) : Prop :=
  (∀ x, Q 9 x = -1 ∨ ∃ i j : Int, 0 ≤ i ∧ i < n ∧ 0 ≤ j ∧ j < T 3 i 0 0 ∧ x = (i * 12) + j ∧ 0 < Qb 8 i ∧ thW T i j v ∧ Q 9 x = roZ T Qb WL i j) ∧ (∀ x, Q 10 x = -1 ∨ (0 ≤ Q 10 x ∧ Q 10 x < Qb 0 0)) ∧ (∀ x, Q 14 x = -1 ∨ (0 ≤ Q 14 x ∧ Q 14 x < Qb 0 0))
def RoI (T : Nat → Int → Int → Int → Int) (v : Int) (WL : Int → Int) (Qb : Nat → Int → Int) : Prop := ∀ i j : Int, 0 ≤ i → i < T 0 0 0 0 → 0 ≤ j → j < T 3 i 0 0 → 0 < Qb 8 i → thW T i j v → 0 ≤ roZ T Qb WL i j ∧ roZ T Qb WL i j < Qb 0 0 ∧ Qb 7 i ≤ roZ T Qb WL i j ∧ roZ T Qb WL i j < Qb 7 i + Qb 8 i
theorem PwI_mono {m : Int} (h : PwI T v WL Qb n Q) (hm : n ≤ m) : PwI T v WL Qb m Q := by
  refine ⟨fun x => ?_, h.2⟩
  rcases h.1 x with e | ⟨i, j, a, b, r⟩
  · exact Or.inl e
  · exact Or.inr ⟨i, j, a, by omega, r⟩
theorem pwW_I (hr : RoI T v WL Qb) (h0 : 0 ≤ n ∧ n < T 0 0 0 0) (h8 : 0 < Qb 8 n) (h : PwI T v WL Qb (n + 1) Q) : ∀ a : Nat, (a : Int) ≤ T 3 n 0 0 → PwI T v WL Qb (n + 1) (pwW T v Qb WL n Q a)
  | 0, _ => h
  | a + 1, ha => by
    have ih := pwW_I hr h0 h8 h a (by omega)
    simp only [pwW]
    split
    · rename_i ht
      have ro := hr n (a : Int) h0.1 h0.2 (by omega) (by omega) h8 ht
      generalize pwW T v Qb WL n Q a = Q1 at ih
      obtain ⟨i1, i2, i3⟩ := ih
      refine ⟨fun x => ?_, fun x => ?_, fun x => ?_⟩
      · show uz (Q1 9) ((n * 12) + (a : Int)) (roZ T Qb WL n (a : Int)) x = -1 ∨ _
        have e9 : mkQ T (seP Q1 9 (uz (Q1 9) ((n * 12) + (a : Int)) (roZ T Qb WL n (a : Int)))) n (a : Int) (roZ T Qb WL n (a : Int)) ((n * 12) + (a : Int)) 9 x = uz (Q1 9) ((n * 12) + (a : Int)) (roZ T Qb WL n (a : Int)) x := rfl
        by_cases e : x = (n * 12) + (a : Int)
        · exact Or.inr ⟨n, (a : Int), h0.1, by omega, by omega, by omega, e, h8, ht, by rw [e9, e]; exact uz_s⟩
        · rw [e9, uz_n e]; exact i1 x
      · show (if mkP T (seP Q1 9 (uz (Q1 9) ((n * 12) + (a : Int)) (roZ T Qb WL n (a : Int)))) n (a : Int) (roZ T Qb WL n (a : Int)) 10 2 then uz (Q1 10) (T 7 n (a : Int) 2) (roZ T Qb WL n (a : Int)) x else Q1 10 x) = -1 ∨ (0 ≤ (if mkP T (seP Q1 9 (uz (Q1 9) ((n * 12) + (a : Int)) (roZ T Qb WL n (a : Int)))) n (a : Int) (roZ T Qb WL n (a : Int)) 10 2 then uz (Q1 10) (T 7 n (a : Int) 2) (roZ T Qb WL n (a : Int)) x else Q1 10 x) ∧ (if mkP T (seP Q1 9 (uz (Q1 9) ((n * 12) + (a : Int)) (roZ T Qb WL n (a : Int)))) n (a : Int) (roZ T Qb WL n (a : Int)) 10 2 then uz (Q1 10) (T 7 n (a : Int) 2) (roZ T Qb WL n (a : Int)) x else Q1 10 x) < Qb 0 0)
        have ix := i2 x
        split
        · by_cases e : x = T 7 n (a : Int) 2
          · rw [e, uz_s]; omega
          · rw [uz_n e]; exact ix
        · exact ix
      · show (if mkP T (seP Q1 9 (uz (Q1 9) ((n * 12) + (a : Int)) (roZ T Qb WL n (a : Int)))) n (a : Int) (roZ T Qb WL n (a : Int)) 14 1 then uz (Q1 14) (T 7 n (a : Int) 1) (roZ T Qb WL n (a : Int)) x else Q1 14 x) = -1 ∨ (0 ≤ (if mkP T (seP Q1 9 (uz (Q1 9) ((n * 12) + (a : Int)) (roZ T Qb WL n (a : Int)))) n (a : Int) (roZ T Qb WL n (a : Int)) 14 1 then uz (Q1 14) (T 7 n (a : Int) 1) (roZ T Qb WL n (a : Int)) x else Q1 14 x) ∧ (if mkP T (seP Q1 9 (uz (Q1 9) ((n * 12) + (a : Int)) (roZ T Qb WL n (a : Int)))) n (a : Int) (roZ T Qb WL n (a : Int)) 14 1 then uz (Q1 14) (T 7 n (a : Int) 1) (roZ T Qb WL n (a : Int)) x else Q1 14 x) < Qb 0 0)
        have ix := i3 x
        split
        · by_cases e : x = T 7 n (a : Int) 1
          · rw [e, uz_s]; omega
          · rw [uz_n e]; exact ix
        · exact ix
    · exact ih
theorem pwB_I (hK : TK T) (hr : RoI T v WL Qb) : ∀ a : Nat, (a : Int) ≤ T 0 0 0 0 → PwI T v WL Qb a (pwB T v Qb WL a)
  | 0, _ => ⟨fun _ => Or.inl rfl, fun _ => Or.inl rfl, fun _ => Or.inl rfl⟩
  | a + 1, ha => by
    have ih := pwB_I hK hr a (by omega)
    have hn := TK_nw hK (a : Int)
    have e : ((a + 1 : Nat) : Int) = (a : Int) + 1 := by omega
    rw [e]
    simp only [pwB]
    split
    · rename_i h8
      exact pwW_I hr (by omega) h8 (PwI_mono ih (by omega)) _ (by omega)
    · exact PwI_mono ih (by omega)
/-- words' rows lie in their blocks -/
theorem RoI_z (hK : TK T) : RoI T v (WLz T v dg) (rwA T v (LCz T v dg)) := by
  intro i j a b c d e f
  obtain ⟨⟨h1, h2, h3⟩, h4⟩ := rwA_in (v := v) hK (LcO_z (v := v) (dg := dg) hK)
  have q := h3 i a b
  refine roZ_in ⟨q.1, e, q.2.2.2.1⟩ (fun hk => ?_)
  have hw := TK_hasw hK i (by omega)
  have hk2 := TK_kind hK i
  have hnw := TK_nw hK i
  have h8 := q.2.2.2.2
  by_cases eth : thB T i v
  · rw [if_pos eth] at h8
    obtain ⟨c1, c2, c3⟩ := LCz_in (i := i) (v := v) (dg := dg) hK
    obtain ⟨k, k1, k2, k3, k4⟩ := (tkP_w (i := i) (v := v) (dg := dg) hK).2 ⟨by omega, eth⟩ j c d f
    have qw := wlS_A (f := fun _ => 0) (f' := fun _ => 0) (i := i) (v := v) (dg := dg) hK (Int.toNat (LCz T v dg i)) (fun y hy => c2 y (by omega)) k k1 (by rw [c3]; exact k2) k3
    rw [k4] at qw
    have ew : WLz T v dg ((i * 12) + j) = wlS T i v dg (fun _ => 0) (Int.toNat (LCz T v dg i)) ((i * 12) + j) := by
      unfold WLz
      rw [show ((i * 12) + j) / 12 = i by omega]
    rw [ew]
    have hz : nrZ T i (LCz T v dg i) (htB T v).1 (htB T v).2.2 = LCz T v dg i ∨ (nrZ T i (LCz T v dg i) (htB T v).1 (htB T v).2.2 = (LCz T v dg i + 1) / 2) := by
      unfold nrZ
      rcases (show T 1 i 0 0 = 0 ∨ T 1 i 0 0 = 2 by omega) with e0 | e0
      · rw [if_pos e0]; exact Or.inl rfl
      · rw [if_neg (by omega), if_neg (by omega), if_pos e0]; exact Or.inr rfl
    omega
  · rw [if_neg eth] at h8
    omega
theorem pwA_I (hK : TK T) : PwI T v (WLz T v dg) (rwA T v (LCz T v dg)) (T 0 0 0 0) (pwA T v (LCz T v dg) (WLz T v dg)) := by
  have hn := TK_nb hK
  have h := pwB_I (v := v) hK (RoI_z (v := v) (dg := dg) hK) (Int.toNat (T 0 0 0 0)) (by omega)
  rw [show ((Int.toNat (T 0 0 0 0) : Nat) : Int) = T 0 0 0 0 by omega] at h
  exact h
/-- rows of labels are rows -/
theorem moC_10 (hK : TK T) : ∀ j, 0 ≤ j → j < 6 → moC T v dg 10 j < moC T v dg 0 0 := by
  intro j _ _
  obtain ⟨⟨h1, -⟩, -⟩ := rwA_in (v := v) hK (LcO_z (v := v) (dg := dg) hK)
  have hn := TK_nb hK
  have h := (pwA_I (v := v) (dg := dg) hK).2.1 j
  have e0 : moC T v dg 0 0 = rwA T v (LCz T v dg) 0 0 := by
    show moZ T v (LCz T v dg) (WLz T v dg) 0 0 = _
    rw [mo_c (by omega) (by omega) (by omega) (by omega) (by omega) (by omega) (by omega) (by omega) (by omega) (by omega) (by omega)]
  have e10 : moZ T v (LCz T v dg) (WLz T v dg) 10 j = pwA T v (LCz T v dg) (WLz T v dg) 10 j := rfl
  rw [e0, show moC T v dg 10 j = clM (moZ T v (LCz T v dg) (WLz T v dg)) 10 j from rfl, clM_at (by rw [e10]; show (-1 : Int) ≤ _ ∧ _ ≤ (767 : Int); omega), e10]
  omega
end WR1

end
