section
noncomputable def z_spells (T : Nat → Int → Int → Int → Int) (K : Nat → Int → Int) (le : Int) : (Nat → Int → Int → Int → Int) × (Nat → Int → Int) × Int := if ((0 ≤ le ∧ le ≤ 3) ∧ K 0 0 < 6) then (T, (KKn (K 0 0 + 1) (uz (K 1) (K 0 0) le) (K 2)), (K 0 0 + 1)) else (if (¬ (0 ≤ le ∧ le ≤ 3)) then (T, K, (-2000000001)) else (T, K, (-2000000003)))
theorem fz_spells (l : Launch) (dC : Nat → ClassId) (dI : Nat → Nat → Nat) (k : Nat → ClassId) (hl0 : l.stackTraces = false) (T : Nat → Int → Int → Int → Int) (K : Nat → Int → Int) (qa : Nat) (cp : Nat) (tl : va_W) (le : Int) (hPS : PS dI k T K qa cp tl) (hQ : OKT T K) (hrle : -2147483648 ≤ le ∧ le < 2147483648) : Kn l dC dI k yL_spells (.codeWith yL_spells cL_spells 3 (some .int) [(0, 5, 6, 13), (0, 5, 10, 16)]) ({ frames := 7, cells := 1, slots := 6, locals := 103 } : Room) [.ref qa, .int (iI le)] ([] ++ tl) (fun r w gc gs => (∃ (tl2 : va_W), (PS dI k ((z_spells T K le).1) ((z_spells T K le).2.1) qa cp tl2) ∧ r = some (.int (iI ((z_spells T K le).2.2))) ∧ w = ([] ++ tl2) ∧ gc = 1 ∧ gs = 6)) := by
  have K0 := w_spells l dC dI k hl0 T K qa cp tl le hPS hQ hrle
  refine kn_post K0 ?_
  rintro r w gc gs (⟨tl2, q0, q1, hr, hw, hgc, hgs⟩ | ⟨tl2, q0, q1, hr, hw, hgc, hgs⟩ | ⟨tl2, q0, q1, hr, hw, hgc, hgs⟩)
  · have e9 : (z_spells T K le) = (T, (KKn (K 0 0 + 1) (uz (K 1) (K 0 0) le) (K 2)), (K 0 0 + 1)) := by unfold z_spells; rw [if_pos q1]
    rw [e9]
    exact ⟨w, List.Perm.refl _, tl2, q0, hr, hw, hgc, hgs⟩
  · have e9 : (z_spells T K le) = (T, K, (-2000000001)) := by unfold z_spells; rw [if_neg (by omega), if_pos (by omega)]
    rw [e9]
    exact ⟨w, List.Perm.refl _, tl2, q0, hr, hw, hgc, hgs⟩
  · have e9 : (z_spells T K le) = (T, K, (-2000000003)) := by unfold z_spells; rw [if_neg (by omega), if_neg (by omega)]
    rw [e9]
    exact ⟨w, List.Perm.refl _, tl2, q0, hr, hw, hgc, hgs⟩


noncomputable def z_marks (T : Nat → Int → Int → Int → Int) (K : Nat → Int → Int) (wt va : Int) : (Nat → Int → Int → Int → Int) × (Nat → Int → Int) × Int := if ((0 ≤ wt ∧ wt ≤ 4) ∧ (va = -1 ∨ (lmZ wt ≤ va ∧ va ≤ mmZ T wt))) then (T, (KKn (K 0 0) (K 1) (uz (K 2) wt va)), (K 2 wt)) else (if (¬ (0 ≤ wt ∧ wt ≤ 4)) then (T, K, (-2000000001)) else (T, K, (-2000000002)))
theorem fz_marks (l : Launch) (dC : Nat → ClassId) (dI : Nat → Nat → Nat) (k : Nat → ClassId) (hl0 : l.stackTraces = false) (T : Nat → Int → Int → Int → Int) (K : Nat → Int → Int) (qa : Nat) (cp : Nat) (tl : va_W) (wt : Int) (va : Int) (hPS : PS dI k T K qa cp tl) (hQ : OKT T K) (hrwt : -2147483648 ≤ wt ∧ wt < 2147483648) (hrva : -2147483648 ≤ va ∧ va < 2147483648) : Kn l dC dI k yL_marks (.codeWith yL_marks cL_marks 4 (some .int) [(0, 6, 7, 13), (0, 6, 11, 23)]) ({ frames := 7, cells := 1, slots := 6, locals := 105 } : Room) [.ref qa, .int (iI wt), .int (iI va)] ([] ++ tl) (fun r w gc gs => (∃ (tl2 : va_W), (PS dI k ((z_marks T K wt va).1) ((z_marks T K wt va).2.1) qa cp tl2) ∧ r = some (.int (iI ((z_marks T K wt va).2.2))) ∧ w = ([] ++ tl2) ∧ gc = 1 ∧ gs = 6)) := by
  have K0 := w_marks l dC dI k hl0 T K qa cp tl wt va hPS hQ hrwt hrva
  refine kn_post K0 ?_
  rintro r w gc gs (⟨tl2, q0, q1, hr, hw, hgc, hgs⟩ | ⟨tl2, q0, q1, hr, hw, hgc, hgs⟩ | ⟨tl2, q0, q1, hr, hw, hgc, hgs⟩)
  · have e9 : (z_marks T K wt va) = (T, (KKn (K 0 0) (K 1) (uz (K 2) wt va)), (K 2 wt)) := by unfold z_marks; rw [if_pos q1]
    rw [e9]
    exact ⟨w, List.Perm.refl _, tl2, q0, hr, hw, hgc, hgs⟩
  · have e9 : (z_marks T K wt va) = (T, K, (-2000000001)) := by unfold z_marks; rw [if_neg (by omega), if_pos (by omega)]
    rw [e9]
    exact ⟨w, List.Perm.refl _, tl2, q0, hr, hw, hgc, hgs⟩
  · have e9 : (z_marks T K wt va) = (T, K, (-2000000002)) := by unfold z_marks; rw [if_neg (by omega), if_neg (by omega)]
    rw [e9]
    exact ⟨w, List.Perm.refl _, tl2, q0, hr, hw, hgc, hgs⟩


noncomputable def z_patterns (T : Nat → Int → Int → Int → Int) (K : Nat → Int → Int) (gp lv_ : Int) : (Nat → Int → Int → Int → Int) × (Nat → Int → Int) × Int := if (((0 ≤ gp ∧ gp ≤ K 0 0) ∧ 1 ≤ lv_ ∧ lv_ ≤ 5) ∧ ((0 < K 0 0 ∧ K 0 0 ≤ 3) ∧ T 18 0 0 0 < 8)) then ((gpT (apT T (Int.toNat (K 0 0)) (spF K) gp lv_) (T 0 0 0 0) 0), (KKn 0 (K 1) (K 2)), (T 18 0 0 0 + 1)) else (if (¬ ((0 ≤ gp ∧ gp ≤ K 0 0) ∧ 1 ≤ lv_ ∧ lv_ ≤ 5)) then (T, K, (-2000000002)) else (T, K, (-2000000003)))
theorem fz_patterns (l : Launch) (dC : Nat → ClassId) (dI : Nat → Nat → Nat) (k : Nat → ClassId) (hl0 : l.stackTraces = false) (T : Nat → Int → Int → Int → Int) (K : Nat → Int → Int) (qa : Nat) (cp : Nat) (tl : va_W) (gp : Int) (lv_ : Int) (hPS : PS dI k T K qa cp tl) (hQ : OKT T K) (hrgp : -2147483648 ≤ gp ∧ gp < 2147483648) (hrlv_ : -2147483648 ≤ lv_ ∧ lv_ < 2147483648) : Kn l dC dI k yL_patterns (.codeWith yL_patterns cL_patterns 4 (some .int) [(0, 6, 7, 23), (0, 6, 11, 16)]) ({ frames := 15, cells := 3, slots := 50, locals := 468 } : Room) [.ref qa, .int (iI gp), .int (iI lv_)] ([] ++ tl) (fun r w gc gs => (∃ (tl2 : va_W), (PS dI k ((z_patterns T K gp lv_).1) ((z_patterns T K gp lv_).2.1) qa cp tl2) ∧ r = some (.int (iI ((z_patterns T K gp lv_).2.2))) ∧ w = ([] ++ tl2) ∧ gc = 3 ∧ gs = 50)) := by
  have K0 := w_patterns l dC dI k hl0 T K qa cp tl gp lv_ hPS hQ hrgp hrlv_
  refine kn_post K0 ?_
  rintro r w gc gs (⟨tl2, q0, q1, hr, hw, hgc, hgs⟩ | ⟨tl2, q0, q1, hr, hw, hgc, hgs⟩ | ⟨tl2, q0, q1, hr, hw, hgc, hgs⟩)
  · have e9 : (z_patterns T K gp lv_) = ((gpT (apT T (Int.toNat (K 0 0)) (spF K) gp lv_) (T 0 0 0 0) 0), (KKn 0 (K 1) (K 2)), (T 18 0 0 0 + 1)) := by unfold z_patterns; rw [if_pos q1]
    rw [e9]
    exact ⟨w, List.Perm.refl _, tl2, q0, hr, hw, hgc, hgs⟩
  · have e9 : (z_patterns T K gp lv_) = (T, K, (-2000000002)) := by unfold z_patterns; rw [if_neg (by omega), if_pos (by omega)]
    rw [e9]
    exact ⟨w, List.Perm.refl _, tl2, q0, hr, hw, hgc, hgs⟩
  · have e9 : (z_patterns T K gp lv_) = (T, K, (-2000000003)) := by unfold z_patterns; rw [if_neg (by omega), if_neg (by omega)]
    rw [e9]
    exact ⟨w, List.Perm.refl _, tl2, q0, hr, hw, hgc, hgs⟩


noncomputable def z_words (T : Nat → Int → Int → Int → Int) (K : Nat → Int → Int) (pl at_ : Int) : (Nat → Int → Int → Int → Int) × (Nat → Int → Int) × Int := if (((0 ≤ pl ∧ pl < T 0 0 0 0) ∧ 0 ≤ at_ ∧ at_ ≤ T 3 pl 0 0) ∧ (T 1 pl 0 0 ≤ 2 ∧ T 3 pl 0 0 < 12) ∧ 0 < K 0 0) then ((puT T pl at_ (Int.toNat (K 0 0)) (spF K) (-1) (K 2) (gsZ T (spF K) ((Int.toNat (K 0 0) : Nat) : Int))), (KKn 0 (K 1) (fun _ : Int => (-1))), (T 3 pl 0 0 + 1)) else (if (¬ ((0 ≤ pl ∧ pl < T 0 0 0 0) ∧ 0 ≤ at_ ∧ at_ ≤ T 3 pl 0 0)) then (T, K, (-2000000001)) else (T, K, (-2000000003)))
theorem fz_words (l : Launch) (dC : Nat → ClassId) (dI : Nat → Nat → Nat) (k : Nat → ClassId) (hl0 : l.stackTraces = false) (T : Nat → Int → Int → Int → Int) (K : Nat → Int → Int) (qa : Nat) (cp : Nat) (tl : va_W) (pl : Int) (at_ : Int) (hPS : PS dI k T K qa cp tl) (hQ : OKT T K) (hrpl : -2147483648 ≤ pl ∧ pl < 2147483648) (hrat_ : -2147483648 ≤ at_ ∧ at_ < 2147483648) : Kn l dC dI k yL_words (.codeWith yL_words cL_words 4 (some .int) [(0, 6, 7, 13), (0, 6, 11, 16)]) ({ frames := 15, cells := 4, slots := 60, locals := 471 } : Room) [.ref qa, .int (iI pl), .int (iI at_)] ([] ++ tl) (fun r w gc gs => (∃ (tl2 : va_W), (PS dI k ((z_words T K pl at_).1) ((z_words T K pl at_).2.1) qa cp tl2) ∧ r = some (.int (iI ((z_words T K pl at_).2.2))) ∧ w = ([] ++ tl2) ∧ gc = 4 ∧ gs = 60)) := by
  have K0 := w_words l dC dI k hl0 T K qa cp tl pl at_ hPS hQ hrpl hrat_
  refine kn_post K0 ?_
  rintro r w gc gs (⟨tl2, q0, q1, hr, hw, hgc, hgs⟩ | ⟨tl2, q0, q1, hr, hw, hgc, hgs⟩ | ⟨tl2, q0, q1, hr, hw, hgc, hgs⟩)
  · have e9 : (z_words T K pl at_) = ((puT T pl at_ (Int.toNat (K 0 0)) (spF K) (-1) (K 2) (gsZ T (spF K) ((Int.toNat (K 0 0) : Nat) : Int))), (KKn 0 (K 1) (fun _ : Int => (-1))), (T 3 pl 0 0 + 1)) := by unfold z_words; rw [if_pos q1]
    rw [e9]
    exact ⟨w, List.Perm.refl _, tl2, q0, hr, hw, hgc, hgs⟩
  · have e9 : (z_words T K pl at_) = (T, K, (-2000000001)) := by unfold z_words; rw [if_neg (by omega), if_pos (by omega)]
    rw [e9]
    exact ⟨w, List.Perm.refl _, tl2, q0, hr, hw, hgc, hgs⟩
  · have e9 : (z_words T K pl at_) = (T, K, (-2000000003)) := by unfold z_words; rw [if_neg (by omega), if_neg (by omega)]
    rw [e9]
    exact ⟨w, List.Perm.refl _, tl2, q0, hr, hw, hgc, hgs⟩


noncomputable def z_refers (T : Nat → Int → Int → Int → Int) (K : Nat → Int → Int) (pl at_ lab : Int) : (Nat → Int → Int → Int → Int) × (Nat → Int → Int) × Int := if ((((0 ≤ pl ∧ pl < T 0 0 0 0) ∧ 0 ≤ at_ ∧ at_ ≤ T 3 pl 0 0) ∧ (0 ≤ lab ∧ lab ≤ 5)) ∧ (T 1 pl 0 0 ≤ 2 ∧ T 3 pl 0 0 < 12)) then ((puT T pl at_ 0 (fun _ : Int => (0 : Int)) lab (K 2) (gsZ T (fun _ : Int => (0 : Int)) ((0 : Nat) : Int))), (KKn (K 0 0) (K 1) (fun _ : Int => (-1))), (T 3 pl 0 0 + 1)) else (if (¬ (((0 ≤ pl ∧ pl < T 0 0 0 0) ∧ 0 ≤ at_ ∧ at_ ≤ T 3 pl 0 0) ∧ (0 ≤ lab ∧ lab ≤ 5))) then (T, K, (-2000000001)) else (T, K, (-2000000003)))
theorem fz_refers (l : Launch) (dC : Nat → ClassId) (dI : Nat → Nat → Nat) (k : Nat → ClassId) (hl0 : l.stackTraces = false) (T : Nat → Int → Int → Int → Int) (K : Nat → Int → Int) (qa : Nat) (cp : Nat) (tl : va_W) (pl : Int) (at_ : Int) (lab : Int) (hPS : PS dI k T K qa cp tl) (hQ : OKT T K) (hrpl : -2147483648 ≤ pl ∧ pl < 2147483648) (hrat_ : -2147483648 ≤ at_ ∧ at_ < 2147483648) (hrlab : -2147483648 ≤ lab ∧ lab < 2147483648) : Kn l dC dI k yL_refers (.codeWith yL_refers cL_refers 5 (some .int) [(0, 7, 8, 13), (0, 7, 13, 16)]) ({ frames := 15, cells := 4, slots := 60, locals := 471 } : Room) [.ref qa, .int (iI pl), .int (iI at_), .int (iI lab)] ([] ++ tl) (fun r w gc gs => (∃ (tl2 : va_W), (PS dI k ((z_refers T K pl at_ lab).1) ((z_refers T K pl at_ lab).2.1) qa cp tl2) ∧ r = some (.int (iI ((z_refers T K pl at_ lab).2.2))) ∧ w = ([] ++ tl2) ∧ gc = 4 ∧ gs = 60)) := by
  have K0 := w_refers l dC dI k hl0 T K qa cp tl pl at_ lab hPS hQ hrpl hrat_ hrlab
  refine kn_post K0 ?_
  rintro r w gc gs (⟨tl2, q0, q1, hr, hw, hgc, hgs⟩ | ⟨tl2, q0, q1, hr, hw, hgc, hgs⟩ | ⟨tl2, q0, q1, hr, hw, hgc, hgs⟩)
  · have e9 : (z_refers T K pl at_ lab) = ((puT T pl at_ 0 (fun _ : Int => (0 : Int)) lab (K 2) (gsZ T (fun _ : Int => (0 : Int)) ((0 : Nat) : Int))), (KKn (K 0 0) (K 1) (fun _ : Int => (-1))), (T 3 pl 0 0 + 1)) := by unfold z_refers; rw [if_pos q1]
    rw [e9]
    exact ⟨w, List.Perm.refl _, tl2, q0, hr, hw, hgc, hgs⟩
  · have e9 : (z_refers T K pl at_ lab) = (T, K, (-2000000001)) := by unfold z_refers; rw [if_neg (by omega), if_pos (by omega)]
    rw [e9]
    exact ⟨w, List.Perm.refl _, tl2, q0, hr, hw, hgc, hgs⟩
  · have e9 : (z_refers T K pl at_ lab) = (T, K, (-2000000003)) := by unfold z_refers; rw [if_neg (by omega), if_neg (by omega)]
    rw [e9]
    exact ⟨w, List.Perm.refl _, tl2, q0, hr, hw, hgc, hgs⟩


noncomputable def z_takes (T : Nat → Int → Int → Int → Int) (K : Nat → Int → Int) (pl at_ : Int) : (Nat → Int → Int → Int → Int) × (Nat → Int → Int) × Int := if ((0 ≤ pl ∧ pl < T 0 0 0 0) ∧ 0 ≤ at_ ∧ at_ < T 3 pl 0 0) then ((tkT T pl at_), K, (T 3 pl 0 0 - 1)) else (T, K, (-2000000001))
theorem fz_takes (l : Launch) (dC : Nat → ClassId) (dI : Nat → Nat → Nat) (k : Nat → ClassId) (hl0 : l.stackTraces = false) (T : Nat → Int → Int → Int → Int) (K : Nat → Int → Int) (qa : Nat) (cp : Nat) (tl : va_W) (pl : Int) (at_ : Int) (hPS : PS dI k T K qa cp tl) (hQ : OKT T K) (hrpl : -2147483648 ≤ pl ∧ pl < 2147483648) (hrat_ : -2147483648 ≤ at_ ∧ at_ < 2147483648) : Kn l dC dI k yL_takes (.codeWith yL_takes cL_takes 4 (some .int) [(0, 6, 7, 13)]) ({ frames := 14, cells := 1, slots := 40, locals := 446 } : Room) [.ref qa, .int (iI pl), .int (iI at_)] ([] ++ tl) (fun r w gc gs => (∃ (tl2 : va_W), (PS dI k ((z_takes T K pl at_).1) ((z_takes T K pl at_).2.1) qa cp tl2) ∧ r = some (.int (iI ((z_takes T K pl at_).2.2))) ∧ w = ([] ++ tl2) ∧ gc = 1 ∧ gs = 40)) := by
  have K0 := w_takes l dC dI k hl0 T K qa cp tl pl at_ hPS hQ hrpl hrat_
  refine kn_post K0 ?_
  rintro r w gc gs (⟨tl2, q0, q1, hr, hw, hgc, hgs⟩ | ⟨tl2, q0, q1, hr, hw, hgc, hgs⟩)
  · have e9 : (z_takes T K pl at_) = ((tkT T pl at_), K, (T 3 pl 0 0 - 1)) := by unfold z_takes; rw [if_pos q1]
    rw [e9]
    exact ⟨w, List.Perm.refl _, tl2, q0, hr, hw, hgc, hgs⟩
  · have e9 : (z_takes T K pl at_) = (T, K, (-2000000001)) := by unfold z_takes; rw [if_neg (by omega)]
    rw [e9]
    exact ⟨w, List.Perm.refl _, tl2, q0, hr, hw, hgc, hgs⟩


noncomputable def z_blocks (T : Nat → Int → Int → Int → Int) (K : Nat → Int → Int) (pl kd : Int) : (Nat → Int → Int → Int → Int) × (Nat → Int → Int) × Int := if ((0 ≤ pl ∧ pl ≤ T 0 0 0 0) ∧ (0 ≤ kd ∧ kd ≤ 6) ∧ T 0 0 0 0 < 16) then ((ibT T pl kd), K, (T 0 0 0 0 + 1)) else (if (¬ (0 ≤ pl ∧ pl ≤ T 0 0 0 0)) then (T, K, (-2000000001)) else (if ((0 ≤ pl ∧ pl ≤ T 0 0 0 0) ∧ ¬ (0 ≤ kd ∧ kd ≤ 6)) then (T, K, (-2000000002)) else (T, K, (-2000000003))))
theorem fz_blocks (l : Launch) (dC : Nat → ClassId) (dI : Nat → Nat → Nat) (k : Nat → ClassId) (hl0 : l.stackTraces = false) (T : Nat → Int → Int → Int → Int) (K : Nat → Int → Int) (qa : Nat) (cp : Nat) (tl : va_W) (pl : Int) (kd : Int) (hPS : PS dI k T K qa cp tl) (hQ : OKT T K) (hrpl : -2147483648 ≤ pl ∧ pl < 2147483648) (hrkd : -2147483648 ≤ kd ∧ kd < 2147483648) : Kn l dC dI k yL_blocks (.codeWith yL_blocks cL_blocks 4 (some .int) [(0, 6, 7, 13), (0, 6, 11, 23), (0, 6, 15, 16)]) ({ frames := 14, cells := 12, slots := 110, locals := 446 } : Room) [.ref qa, .int (iI pl), .int (iI kd)] ([] ++ tl) (fun r w gc gs => (∃ (tl2 : va_W), (PS dI k ((z_blocks T K pl kd).1) ((z_blocks T K pl kd).2.1) qa cp tl2) ∧ r = some (.int (iI ((z_blocks T K pl kd).2.2))) ∧ w = ([] ++ tl2) ∧ gc = 12 ∧ gs = 110)) := by
  have K0 := w_blocks l dC dI k hl0 T K qa cp tl pl kd hPS hQ hrpl hrkd
  refine kn_post K0 ?_
  rintro r w gc gs (⟨tl2, q0, q1, hr, hw, hgc, hgs⟩ | ⟨tl2, q0, q1, hr, hw, hgc, hgs⟩ | ⟨tl2, q0, q1, hr, hw, hgc, hgs⟩ | ⟨tl2, q0, q1, hr, hw, hgc, hgs⟩)
  · have e9 : (z_blocks T K pl kd) = ((ibT T pl kd), K, (T 0 0 0 0 + 1)) := by unfold z_blocks; rw [if_pos q1]
    rw [e9]
    exact ⟨w, List.Perm.refl _, tl2, q0, hr, hw, hgc, hgs⟩
  · have e9 : (z_blocks T K pl kd) = (T, K, (-2000000001)) := by unfold z_blocks; rw [if_neg (by omega), if_pos (by omega)]
    rw [e9]
    exact ⟨w, List.Perm.refl _, tl2, q0, hr, hw, hgc, hgs⟩
  · have e9 : (z_blocks T K pl kd) = (T, K, (-2000000002)) := by unfold z_blocks; rw [if_neg (by omega), if_neg (by omega), if_pos (by omega)]
    rw [e9]
    exact ⟨w, List.Perm.refl _, tl2, q0, hr, hw, hgc, hgs⟩
  · have e9 : (z_blocks T K pl kd) = (T, K, (-2000000003)) := by unfold z_blocks; rw [if_neg (by omega), if_neg (by omega), if_neg (by omega)]
    rw [e9]
    exact ⟨w, List.Perm.refl _, tl2, q0, hr, hw, hgc, hgs⟩


noncomputable def z_removes (T : Nat → Int → Int → Int → Int) (K : Nat → Int → Int) (pl : Int) : (Nat → Int → Int → Int → Int) × (Nat → Int → Int) × Int := if ((0 ≤ pl ∧ pl < T 0 0 0 0)) then ((rbT T pl), K, (T 0 0 0 0 - 1)) else (T, K, (-2000000001))
theorem fz_removes (l : Launch) (dC : Nat → ClassId) (dI : Nat → Nat → Nat) (k : Nat → ClassId) (hl0 : l.stackTraces = false) (T : Nat → Int → Int → Int → Int) (K : Nat → Int → Int) (qa : Nat) (cp : Nat) (tl : va_W) (pl : Int) (hPS : PS dI k T K qa cp tl) (hQ : OKT T K) (hrpl : -2147483648 ≤ pl ∧ pl < 2147483648) : Kn l dC dI k yL_removes (.codeWith yL_removes cL_removes 3 (some .int) [(0, 5, 6, 13)]) ({ frames := 14, cells := 1, slots := 40, locals := 444 } : Room) [.ref qa, .int (iI pl)] ([] ++ tl) (fun r w gc gs => (∃ (tl2 : va_W), (PS dI k ((z_removes T K pl).1) ((z_removes T K pl).2.1) qa cp tl2) ∧ r = some (.int (iI ((z_removes T K pl).2.2))) ∧ w = ([] ++ tl2) ∧ gc = 1 ∧ gs = 40)) := by
  have K0 := w_removes l dC dI k hl0 T K qa cp tl pl hPS hQ hrpl
  refine kn_post K0 ?_
  rintro r w gc gs (⟨tl2, q0, q1, hr, hw, hgc, hgs⟩ | ⟨tl2, q0, q1, hr, hw, hgc, hgs⟩)
  · have e9 : (z_removes T K pl) = ((rbT T pl), K, (T 0 0 0 0 - 1)) := by unfold z_removes; rw [if_pos q1]
    rw [e9]
    exact ⟨w, List.Perm.refl _, tl2, q0, hr, hw, hgc, hgs⟩
  · have e9 : (z_removes T K pl) = (T, K, (-2000000001)) := by unfold z_removes; rw [if_neg (by omega)]
    rw [e9]
    exact ⟨w, List.Perm.refl _, tl2, q0, hr, hw, hgc, hgs⟩


noncomputable def z_styles (T : Nat → Int → Int → Int → Int) (K : Nat → Int → Int) (pl st_ va : Int) : (Nat → Int → Int → Int → Int) × (Nat → Int → Int) × Int := if ((0 ≤ pl ∧ pl < T 0 0 0 0) ∧ (0 ≤ st_ ∧ st_ ≤ 6) ∧ (lsZ st_ ≤ va ∧ va ≤ msZ st_)) then ((stT T pl st_ va), K, (T 2 pl st_ 0)) else (if (¬ ((0 ≤ pl ∧ pl < T 0 0 0 0) ∧ (0 ≤ st_ ∧ st_ ≤ 6))) then (T, K, (-2000000001)) else (T, K, (-2000000002)))
theorem fz_styles (l : Launch) (dC : Nat → ClassId) (dI : Nat → Nat → Nat) (k : Nat → ClassId) (hl0 : l.stackTraces = false) (T : Nat → Int → Int → Int → Int) (K : Nat → Int → Int) (qa : Nat) (cp : Nat) (tl : va_W) (pl : Int) (st_ : Int) (va : Int) (hPS : PS dI k T K qa cp tl) (hQ : OKT T K) (hrpl : -2147483648 ≤ pl ∧ pl < 2147483648) (hrst_ : -2147483648 ≤ st_ ∧ st_ < 2147483648) (hrva : -2147483648 ≤ va ∧ va < 2147483648) : Kn l dC dI k yL_styles (.codeWith yL_styles cL_styles 5 (some .int) [(0, 7, 8, 13), (0, 7, 13, 23)]) ({ frames := 9, cells := 1, slots := 6, locals := 149 } : Room) [.ref qa, .int (iI pl), .int (iI st_), .int (iI va)] ([] ++ tl) (fun r w gc gs => (∃ (tl2 : va_W), (PS dI k ((z_styles T K pl st_ va).1) ((z_styles T K pl st_ va).2.1) qa cp tl2) ∧ r = some (.int (iI ((z_styles T K pl st_ va).2.2))) ∧ w = ([] ++ tl2) ∧ gc = 1 ∧ gs = 6)) := by
  have K0 := w_styles l dC dI k hl0 T K qa cp tl pl st_ va hPS hQ hrpl hrst_ hrva
  refine kn_post K0 ?_
  rintro r w gc gs (⟨tl2, q0, q1, hr, hw, hgc, hgs⟩ | ⟨tl2, q0, q1, hr, hw, hgc, hgs⟩ | ⟨tl2, q0, q1, hr, hw, hgc, hgs⟩)
  · have e9 : (z_styles T K pl st_ va) = ((stT T pl st_ va), K, (T 2 pl st_ 0)) := by unfold z_styles; rw [if_pos q1]
    rw [e9]
    exact ⟨w, List.Perm.refl _, tl2, q0, hr, hw, hgc, hgs⟩
  · have e9 : (z_styles T K pl st_ va) = (T, K, (-2000000001)) := by unfold z_styles; rw [if_neg (by omega), if_pos (by omega)]
    rw [e9]
    exact ⟨w, List.Perm.refl _, tl2, q0, hr, hw, hgc, hgs⟩
  · have e9 : (z_styles T K pl st_ va) = (T, K, (-2000000002)) := by unfold z_styles; rw [if_neg (by omega), if_neg (by omega)]
    rw [e9]
    exact ⟨w, List.Perm.refl _, tl2, q0, hr, hw, hgc, hgs⟩


noncomputable def z_cells (T : Nat → Int → Int → Int → Int) (K : Nat → Int → Int) (pl ro co sn le be : Int) : (Nat → Int → Int → Int → Int) × (Nat → Int → Int) × Int := if ((0 ≤ pl ∧ pl < T 0 0 0 0) ∧ ((0 ≤ ro ∧ ro ≤ 3) ∧ (0 ≤ co ∧ co ≤ 2) ∧ 1 ≤ sn ∧ sn ≤ 3 - co) ∧ ((0 ≤ le ∧ le ≤ 60) ∧ le ≤ be ∧ be ≤ 200) ∧ T 1 pl 0 0 = 3) then ((teT T pl ((ro * 3) + co) sn le be), K, (rcT (teT T pl ((ro * 3) + co) sn le be) pl)) else (if (¬ (0 ≤ pl ∧ pl < T 0 0 0 0)) then (T, K, (-2000000001)) else (if ((0 ≤ pl ∧ pl < T 0 0 0 0) ∧ ¬ (((0 ≤ ro ∧ ro ≤ 3) ∧ (0 ≤ co ∧ co ≤ 2) ∧ 1 ≤ sn ∧ sn ≤ 3 - co) ∧ ((0 ≤ le ∧ le ≤ 60) ∧ le ≤ be ∧ be ≤ 200))) then (T, K, (-2000000002)) else (T, K, (-2000000003))))
theorem fz_cells (l : Launch) (dC : Nat → ClassId) (dI : Nat → Nat → Nat) (k : Nat → ClassId) (hl0 : l.stackTraces = false) (T : Nat → Int → Int → Int → Int) (K : Nat → Int → Int) (qa : Nat) (cp : Nat) (tl : va_W) (pl : Int) (ro : Int) (co : Int) (sn : Int) (le : Int) (be : Int) (hPS : PS dI k T K qa cp tl) (hQ : OKT T K) (hrpl : -2147483648 ≤ pl ∧ pl < 2147483648) (hrro : -2147483648 ≤ ro ∧ ro < 2147483648) (hrco : -2147483648 ≤ co ∧ co < 2147483648) (hrsn : -2147483648 ≤ sn ∧ sn < 2147483648) (hrle : -2147483648 ≤ le ∧ le < 2147483648) (hrbe : -2147483648 ≤ be ∧ be < 2147483648) : Kn l dC dI k yL_cells (.codeWith yL_cells cL_cells 8 (some .int) [(0, 13, 14, 13), (0, 13, 19, 23), (0, 13, 24, 16)]) ({ frames := 9, cells := 1, slots := 6, locals := 151 } : Room) [.ref qa, .int (iI pl), .int (iI ro), .int (iI co), .int (iI sn), .int (iI le), .int (iI be)] ([] ++ tl) (fun r w gc gs => (∃ (tl2 : va_W), (PS dI k ((z_cells T K pl ro co sn le be).1) ((z_cells T K pl ro co sn le be).2.1) qa cp tl2) ∧ r = some (.int (iI ((z_cells T K pl ro co sn le be).2.2))) ∧ w = ([] ++ tl2) ∧ gc = 1 ∧ gs = 6)) := by
  have K0 := w_cells l dC dI k hl0 T K qa cp tl pl ro co sn le be hPS hQ hrpl hrro hrco hrsn hrle hrbe
  refine kn_post K0 ?_
  rintro r w gc gs (⟨tl2, q0, q1, hr, hw, hgc, hgs⟩ | ⟨tl2, q0, q1, hr, hw, hgc, hgs⟩ | ⟨tl2, q0, q1, hr, hw, hgc, hgs⟩ | ⟨tl2, q0, q1, hr, hw, hgc, hgs⟩)
  · have e9 : (z_cells T K pl ro co sn le be) = ((teT T pl ((ro * 3) + co) sn le be), K, (rcT (teT T pl ((ro * 3) + co) sn le be) pl)) := by unfold z_cells; rw [if_pos q1]
    rw [e9]
    exact ⟨w, List.Perm.refl _, tl2, q0, hr, hw, hgc, hgs⟩
  · have e9 : (z_cells T K pl ro co sn le be) = (T, K, (-2000000001)) := by unfold z_cells; rw [if_neg (by omega), if_pos (by omega)]
    rw [e9]
    exact ⟨w, List.Perm.refl _, tl2, q0, hr, hw, hgc, hgs⟩
  · have e9 : (z_cells T K pl ro co sn le be) = (T, K, (-2000000002)) := by unfold z_cells; rw [if_neg (by omega), if_neg (by omega), if_pos (by omega)]
    rw [e9]
    exact ⟨w, List.Perm.refl _, tl2, q0, hr, hw, hgc, hgs⟩
  · have e9 : (z_cells T K pl ro co sn le be) = (T, K, (-2000000003)) := by unfold z_cells; rw [if_neg (by omega), if_neg (by omega), if_neg (by omega)]
    rw [e9]
    exact ⟨w, List.Perm.refl _, tl2, q0, hr, hw, hgc, hgs⟩


noncomputable def z_figures (T : Nat → Int → Int → Int → Int) (K : Nat → Int → Int) (ki he_ : Int) : (Nat → Int → Int → Int → Int) × (Nat → Int → Int) × Int := if (((0 ≤ ki ∧ ki ≤ 1) ∧ 1 ≤ he_ ∧ he_ ≤ 40) ∧ T 12 0 0 0 < 5) then ((fiT T ki he_), K, (T 12 0 0 0)) else (if (¬ ((0 ≤ ki ∧ ki ≤ 1) ∧ 1 ≤ he_ ∧ he_ ≤ 40)) then (T, K, (-2000000002)) else (T, K, (-2000000003)))
theorem fz_figures (l : Launch) (dC : Nat → ClassId) (dI : Nat → Nat → Nat) (k : Nat → ClassId) (hl0 : l.stackTraces = false) (T : Nat → Int → Int → Int → Int) (K : Nat → Int → Int) (qa : Nat) (cp : Nat) (tl : va_W) (ki : Int) (he_ : Int) (hPS : PS dI k T K qa cp tl) (hQ : OKT T K) (hrki : -2147483648 ≤ ki ∧ ki < 2147483648) (hrhe_ : -2147483648 ≤ he_ ∧ he_ < 2147483648) : Kn l dC dI k yL_figures (.codeWith yL_figures cL_figures 4 (some .int) [(0, 6, 7, 23), (0, 6, 11, 16)]) ({ frames := 7, cells := 1, slots := 6, locals := 105 } : Room) [.ref qa, .int (iI ki), .int (iI he_)] ([] ++ tl) (fun r w gc gs => (∃ (tl2 : va_W), (PS dI k ((z_figures T K ki he_).1) ((z_figures T K ki he_).2.1) qa cp tl2) ∧ r = some (.int (iI ((z_figures T K ki he_).2.2))) ∧ w = ([] ++ tl2) ∧ gc = 1 ∧ gs = 6)) := by
  have K0 := w_figures l dC dI k hl0 T K qa cp tl ki he_ hPS hQ hrki hrhe_
  refine kn_post K0 ?_
  rintro r w gc gs (⟨tl2, q0, q1, hr, hw, hgc, hgs⟩ | ⟨tl2, q0, q1, hr, hw, hgc, hgs⟩ | ⟨tl2, q0, q1, hr, hw, hgc, hgs⟩)
  · have e9 : (z_figures T K ki he_) = ((fiT T ki he_), K, (T 12 0 0 0)) := by unfold z_figures; rw [if_pos q1]
    rw [e9]
    exact ⟨w, List.Perm.refl _, tl2, q0, hr, hw, hgc, hgs⟩
  · have e9 : (z_figures T K ki he_) = (T, K, (-2000000002)) := by unfold z_figures; rw [if_neg (by omega), if_pos (by omega)]
    rw [e9]
    exact ⟨w, List.Perm.refl _, tl2, q0, hr, hw, hgc, hgs⟩
  · have e9 : (z_figures T K ki he_) = (T, K, (-2000000003)) := by unfold z_figures; rw [if_neg (by omega), if_neg (by omega)]
    rw [e9]
    exact ⟨w, List.Perm.refl _, tl2, q0, hr, hw, hgc, hgs⟩


noncomputable def z_papers (T : Nat → Int → Int → Int → Int) (K : Nat → Int → Int) (wi he_ : Int) : (Nat → Int → Int → Int → Int) × (Nat → Int → Int) × Int := if ((30 ≤ wi ∧ wi ≤ 120) ∧ 6 ≤ he_ ∧ he_ ≤ 40) then ((paT T wi he_), K, (T 16 0 0 0)) else (T, K, (-2000000002))
theorem fz_papers (l : Launch) (dC : Nat → ClassId) (dI : Nat → Nat → Nat) (k : Nat → ClassId) (hl0 : l.stackTraces = false) (T : Nat → Int → Int → Int → Int) (K : Nat → Int → Int) (qa : Nat) (cp : Nat) (tl : va_W) (wi : Int) (he_ : Int) (hPS : PS dI k T K qa cp tl) (hQ : OKT T K) (hrwi : -2147483648 ≤ wi ∧ wi < 2147483648) (hrhe_ : -2147483648 ≤ he_ ∧ he_ < 2147483648) : Kn l dC dI k yL_papers (.codeWith yL_papers cL_papers 4 (some .int) [(0, 6, 7, 23)]) ({ frames := 7, cells := 1, slots := 6, locals := 105 } : Room) [.ref qa, .int (iI wi), .int (iI he_)] ([] ++ tl) (fun r w gc gs => (∃ (tl2 : va_W), (PS dI k ((z_papers T K wi he_).1) ((z_papers T K wi he_).2.1) qa cp tl2) ∧ r = some (.int (iI ((z_papers T K wi he_).2.2))) ∧ w = ([] ++ tl2) ∧ gc = 1 ∧ gs = 6)) := by
  have K0 := w_papers l dC dI k hl0 T K qa cp tl wi he_ hPS hQ hrwi hrhe_
  refine kn_post K0 ?_
  rintro r w gc gs (⟨tl2, q0, q1, hr, hw, hgc, hgs⟩ | ⟨tl2, q0, q1, hr, hw, hgc, hgs⟩)
  · have e9 : (z_papers T K wi he_) = ((paT T wi he_), K, (T 16 0 0 0)) := by unfold z_papers; rw [if_pos q1]
    rw [e9]
    exact ⟨w, List.Perm.refl _, tl2, q0, hr, hw, hgc, hgs⟩
  · have e9 : (z_papers T K wi he_) = (T, K, (-2000000002)) := by unfold z_papers; rw [if_neg (by omega)]
    rw [e9]
    exact ⟨w, List.Perm.refl _, tl2, q0, hr, hw, hgc, hgs⟩


noncomputable def z_keys (T : Nat → Int → Int → Int → Int) (K : Nat → Int → Int) (te ky_ : Int) : (Nat → Int → Int → Int → Int) × (Nat → Int → Int) × Int := if ((0 ≤ te ∧ te ≤ 7) ∧ 0 ≤ ky_ ∧ ky_ ≤ 999) then ((kyT T te ky_), K, (T 15 te 0 0)) else (if (¬ (0 ≤ te ∧ te ≤ 7)) then (T, K, (-2000000001)) else (T, K, (-2000000002)))
theorem fz_keys (l : Launch) (dC : Nat → ClassId) (dI : Nat → Nat → Nat) (k : Nat → ClassId) (hl0 : l.stackTraces = false) (T : Nat → Int → Int → Int → Int) (K : Nat → Int → Int) (qa : Nat) (cp : Nat) (tl : va_W) (te : Int) (ky_ : Int) (hPS : PS dI k T K qa cp tl) (hQ : OKT T K) (hrte : -2147483648 ≤ te ∧ te < 2147483648) (hrky_ : -2147483648 ≤ ky_ ∧ ky_ < 2147483648) : Kn l dC dI k yL_keys (.codeWith yL_keys cL_keys 4 (some .int) [(0, 6, 7, 13), (0, 6, 11, 23)]) ({ frames := 8, cells := 1, slots := 6, locals := 125 } : Room) [.ref qa, .int (iI te), .int (iI ky_)] ([] ++ tl) (fun r w gc gs => (∃ (tl2 : va_W), (PS dI k ((z_keys T K te ky_).1) ((z_keys T K te ky_).2.1) qa cp tl2) ∧ r = some (.int (iI ((z_keys T K te ky_).2.2))) ∧ w = ([] ++ tl2) ∧ gc = 1 ∧ gs = 6)) := by
  have K0 := w_keys l dC dI k hl0 T K qa cp tl te ky_ hPS hQ hrte hrky_
  refine kn_post K0 ?_
  rintro r w gc gs (⟨tl2, q0, q1, hr, hw, hgc, hgs⟩ | ⟨tl2, q0, q1, hr, hw, hgc, hgs⟩ | ⟨tl2, q0, q1, hr, hw, hgc, hgs⟩)
  · have e9 : (z_keys T K te ky_) = ((kyT T te ky_), K, (T 15 te 0 0)) := by unfold z_keys; rw [if_pos q1]
    rw [e9]
    exact ⟨w, List.Perm.refl _, tl2, q0, hr, hw, hgc, hgs⟩
  · have e9 : (z_keys T K te ky_) = (T, K, (-2000000001)) := by unfold z_keys; rw [if_neg (by omega), if_pos (by omega)]
    rw [e9]
    exact ⟨w, List.Perm.refl _, tl2, q0, hr, hw, hgc, hgs⟩
  · have e9 : (z_keys T K te ky_) = (T, K, (-2000000002)) := by unfold z_keys; rw [if_neg (by omega), if_neg (by omega)]
    rw [e9]
    exact ⟨w, List.Perm.refl _, tl2, q0, hr, hw, hgc, hgs⟩


def plcZ (T : Nat → Int → Int → Int → Int) (xx : Int) : Int := if T 0 0 0 0 = 0 then 0 else (xx / 16) % (T 0 0 0 0)
theorem plcZ_in {T : Nat → Int → Int → Int → Int} {xx : Int} (hK : TK T) : 0 ≤ plcZ T xx ∧ plcZ T xx ≤ 15 ∧ (0 < T 0 0 0 0 → plcZ T xx < T 0 0 0 0) := by
  have hn := TK_nb hK
  unfold plcZ
  split
  · omega
  · have h1 := Int.emod_nonneg (xx / 16) (b := T 0 0 0 0) (by omega)
    have h2 := Int.emod_lt_of_pos (xx / 16) (b := T 0 0 0 0) (by omega)
    omega
/-- an act: the text, what is spelled and drafted, and the answer -/
noncomputable def acZ (T : Nat → Int → Int → Int → Int) (K : Nat → Int → Int) (xx : Int) : (Nat → Int → Int → Int → Int) × (Nat → Int → Int) × Int :=
  if xx % 16 = 0 then (if ((xx / 16) / 17) % 9 < 4 then z_blocks T K ((xx / 16) % ((T 0 0 0 0) + 1)) 0 else z_blocks T K ((xx / 16) % ((T 0 0 0 0) + 1)) ((((xx / 16) / 17) % 9) - 3))
  else if xx % 16 = 1 then (if (xx / 16) % 3 = 0 then z_blocks T K (T 0 0 0 0) 0 else if (xx / 16) % 11 = 0 then z_removes T K (plcZ T xx) else z_removes T K (T 0 0 0 0))
  else if xx % 16 < 6 then z_spells T K ((xx / 16) % 4)
  else if xx % 16 < 9 then (if T 0 0 0 0 = 0 then z_words T K (plcZ T xx) 0 else z_words T K (plcZ T xx) (v_count T (plcZ T xx)))
  else if xx % 16 = 9 then z_refers T K (plcZ T xx) 0 (((xx / 16) / 17) % 6)
  else if xx % 16 = 10 then z_marks T K ((xx / 16) % 5) ((((xx / 16) / 5) % 7) - 1)
  else if xx % 16 = 11 then (if (xx / 16) % 2 = 0 then z_patterns T K (((xx / 16) / 2) % 3) (1 + (((xx / 16) / 6) % 5)) else z_styles T K (plcZ T xx) (((xx / 16) / 17) % 7) (((xx / 16) / 119) % 3))
  else if xx % 16 = 12 then z_cells T K (plcZ T xx) (((xx / 16) / 17) % 4) (((xx / 16) / 68) % 3) (1 + (((xx / 16) / 204) % 2)) (((xx / 16) / 408) % 20) (20 + (((xx / 16) / 816) % 60))
  else if xx % 16 = 13 then (if (xx / 16) % 3 = 0 then z_figures T K (((xx / 16) / 3) % 2) (1 + (((xx / 16) / 6) % 12)) else z_takes T K (plcZ T xx) 0)
  else if xx % 16 = 14 then (if (xx / 16) % 3 = 0 then z_papers T K (30 + (((xx / 16) / 3) % 40)) (6 + (((xx / 16) / 120) % 10)) else z_keys T K (((xx / 16) / 3) % 8) (((xx / 16) / 24) % 10))
  else if (xx / 16) % 4 = 0 then (T, KKn 0 (K 1) (K 2), K 0 0) else z_styles T K (plcZ T xx) (((xx / 16) / 17) % 4) (((xx / 16) / 119) % 2)
theorem vcount_in {T : Nat → Int → Int → Int → Int} {pl : Int} (hK : TK T) : -2000000001 ≤ v_count T pl ∧ v_count T pl ≤ 12 := by
  have := TK_nw hK pl
  unfold v_count
  split <;> omega

theorem mw_1863 : (Jvm.Cond.methodLink "GalleyforgeLaw" (241 : Nat) ({ cls := "Galleyforge", name := "unspell", desc := "()I" } : Jvm.MethodName)) ∈ gt := gt_at 1933 (by decide +kernel) (by decide +kernel)
theorem mw_1864 : (Jvm.Cond.instanceMethod ({ cls := "Galleyforge", name := "unspell", desc := "()I" } : Jvm.MethodName)) ∈ gt := gt_at 1934 (by decide +kernel) (by decide +kernel)
theorem mw_1865 : (Jvm.Cond.selects "Galleyforge" ({ cls := "Galleyforge", name := "unspell", desc := "()I" } : Jvm.MethodName) ({ cls := "Galleyforge", name := "unspell", desc := "()I" } : Jvm.MethodName)) ∈ gt := gt_at 1935 (by decide +kernel) (by decide +kernel)
theorem mw_1866 : (Jvm.Cond.code ({ cls := "Galleyforge", name := "unspell", desc := "()I" } : Jvm.MethodName) prog_1_method_3_code (2 : Nat) (Option.some Jvm.ClassFile.FieldType.int)) ∈ gt := gt_at 1936 (by decide +kernel) (by decide +kernel)
theorem mV_X11_unspell : mV yX11_unspell cX11_unspell 2 (some .int) 0 := ⟨⟨mw_1866, mw_1, by decide, by decide, by decide +kernel⟩, mw_1864, mw_1865⟩
theorem dL_act_0 : decode cL_act 0 = .ok (.iload_n 2, 1) := by decide +kernel
theorem dL_act_1 : decode cL_act 1 = .ok (.bipush 16, 2) := by decide +kernel
theorem dL_act_3 : decode cL_act 3 = .ok (.idiv, 1) := by decide +kernel
theorem dL_act_4 : decode cL_act 4 = .ok (.istore_n 3, 1) := by decide +kernel
theorem dL_act_5 : decode cL_act 5 = .ok (.aload_n 1, 1) := by decide +kernel
theorem dL_act_6 : decode cL_act 6 = .ok (.iconst 0, 1) := by decide +kernel
theorem dL_act_7 : decode cL_act 7 = .ok (.iaload, 1) := by decide +kernel
theorem dL_act_8 : decode cL_act 8 = .ok (.ifCond .ne 7, 3) := by decide +kernel
theorem dL_act_11 : decode cL_act 11 = .ok (.iconst 0, 1) := by decide +kernel
theorem dL_act_12 : decode cL_act 12 = .ok (.goto 8, 3) := by decide +kernel
theorem dL_act_15 : decode cL_act 15 = .ok (.iload_n 3, 1) := by decide +kernel
theorem dL_act_16 : decode cL_act 16 = .ok (.aload_n 1, 1) := by decide +kernel
theorem dL_act_17 : decode cL_act 17 = .ok (.iconst 0, 1) := by decide +kernel
theorem dL_act_18 : decode cL_act 18 = .ok (.iaload, 1) := by decide +kernel
theorem dL_act_19 : decode cL_act 19 = .ok (.irem, 1) := by decide +kernel
theorem dL_act_20 : decode cL_act 20 = .ok (.istore 4, 2) := by decide +kernel
theorem dL_act_22 : decode cL_act 22 = .ok (.iload_n 2, 1) := by decide +kernel
theorem dL_act_23 : decode cL_act 23 = .ok (.bipush 16, 2) := by decide +kernel
theorem dL_act_25 : decode cL_act 25 = .ok (.irem, 1) := by decide +kernel
theorem dL_act_26 : decode cL_act 26 = .ok (.tableswitch 387 0 14 #[74, 110, 147, 147, 147, 147, 155, 155, 155, 178, 193, 209, 255, 302, 337], 74) := by decide +kernel
theorem dL_act_100 : decode cL_act 100 = .ok (.aload_n 0, 1) := by decide +kernel
theorem dL_act_101 : decode cL_act 101 = .ok (.iload_n 3, 1) := by decide +kernel
theorem dL_act_102 : decode cL_act 102 = .ok (.aload_n 1, 1) := by decide +kernel
theorem dL_act_103 : decode cL_act 103 = .ok (.iconst 0, 1) := by decide +kernel
theorem dL_act_104 : decode cL_act 104 = .ok (.iaload, 1) := by decide +kernel
theorem dL_act_105 : decode cL_act 105 = .ok (.iconst 1, 1) := by decide +kernel
theorem dL_act_106 : decode cL_act 106 = .ok (.iadd, 1) := by decide +kernel
theorem dL_act_107 : decode cL_act 107 = .ok (.irem, 1) := by decide +kernel
theorem dL_act_108 : decode cL_act 108 = .ok (.iload_n 3, 1) := by decide +kernel
theorem dL_act_109 : decode cL_act 109 = .ok (.bipush 17, 2) := by decide +kernel
theorem dL_act_111 : decode cL_act 111 = .ok (.idiv, 1) := by decide +kernel
theorem dL_act_112 : decode cL_act 112 = .ok (.bipush 9, 2) := by decide +kernel
theorem dL_act_114 : decode cL_act 114 = .ok (.irem, 1) := by decide +kernel
theorem dL_act_115 : decode cL_act 115 = .ok (.iconst 4, 1) := by decide +kernel
theorem dL_act_116 : decode cL_act 116 = .ok (.if_icmp .ge 7, 3) := by decide +kernel
theorem dL_act_119 : decode cL_act 119 = .ok (.iconst 0, 1) := by decide +kernel
theorem dL_act_120 : decode cL_act 120 = .ok (.goto 12, 3) := by decide +kernel
theorem dL_act_123 : decode cL_act 123 = .ok (.iload_n 3, 1) := by decide +kernel
theorem dL_act_124 : decode cL_act 124 = .ok (.bipush 17, 2) := by decide +kernel
theorem dL_act_126 : decode cL_act 126 = .ok (.idiv, 1) := by decide +kernel
theorem dL_act_127 : decode cL_act 127 = .ok (.bipush 9, 2) := by decide +kernel
theorem dL_act_129 : decode cL_act 129 = .ok (.irem, 1) := by decide +kernel
theorem dL_act_130 : decode cL_act 130 = .ok (.iconst 3, 1) := by decide +kernel
theorem dL_act_131 : decode cL_act 131 = .ok (.isub, 1) := by decide +kernel
theorem dL_act_132 : decode cL_act 132 = .ok (.invokestatic 161, 3) := by decide +kernel
theorem dL_act_135 : decode cL_act 135 = .ok (.ireturn, 1) := by decide +kernel
theorem dL_act_136 : decode cL_act 136 = .ok (.iload_n 3, 1) := by decide +kernel
theorem dL_act_137 : decode cL_act 137 = .ok (.iconst 3, 1) := by decide +kernel
theorem dL_act_138 : decode cL_act 138 = .ok (.irem, 1) := by decide +kernel
theorem dL_act_139 : decode cL_act 139 = .ok (.ifCond .ne 14, 3) := by decide +kernel
theorem dL_act_142 : decode cL_act 142 = .ok (.aload_n 0, 1) := by decide +kernel
theorem dL_act_143 : decode cL_act 143 = .ok (.aload_n 1, 1) := by decide +kernel
theorem dL_act_144 : decode cL_act 144 = .ok (.iconst 0, 1) := by decide +kernel
theorem dL_act_145 : decode cL_act 145 = .ok (.iaload, 1) := by decide +kernel
theorem dL_act_146 : decode cL_act 146 = .ok (.iconst 0, 1) := by decide +kernel
theorem dL_act_147 : decode cL_act 147 = .ok (.invokestatic 161, 3) := by decide +kernel
theorem dL_act_150 : decode cL_act 150 = .ok (.goto 22, 3) := by decide +kernel
theorem dL_act_153 : decode cL_act 153 = .ok (.aload_n 0, 1) := by decide +kernel
theorem dL_act_154 : decode cL_act 154 = .ok (.iload_n 3, 1) := by decide +kernel
theorem dL_act_155 : decode cL_act 155 = .ok (.bipush 11, 2) := by decide +kernel
theorem dL_act_157 : decode cL_act 157 = .ok (.irem, 1) := by decide +kernel
theorem dL_act_158 : decode cL_act 158 = .ok (.ifCond .ne 8, 3) := by decide +kernel
theorem dL_act_161 : decode cL_act 161 = .ok (.iload 4, 2) := by decide +kernel
theorem dL_act_163 : decode cL_act 163 = .ok (.goto 6, 3) := by decide +kernel
theorem dL_act_166 : decode cL_act 166 = .ok (.aload_n 1, 1) := by decide +kernel
theorem dL_act_167 : decode cL_act 167 = .ok (.iconst 0, 1) := by decide +kernel
theorem dL_act_168 : decode cL_act 168 = .ok (.iaload, 1) := by decide +kernel
theorem dL_act_169 : decode cL_act 169 = .ok (.invokestatic 164, 3) := by decide +kernel
theorem dL_act_172 : decode cL_act 172 = .ok (.ireturn, 1) := by decide +kernel
theorem dL_act_173 : decode cL_act 173 = .ok (.aload_n 0, 1) := by decide +kernel
theorem dL_act_174 : decode cL_act 174 = .ok (.iload_n 3, 1) := by decide +kernel
theorem dL_act_175 : decode cL_act 175 = .ok (.iconst 4, 1) := by decide +kernel
theorem dL_act_176 : decode cL_act 176 = .ok (.irem, 1) := by decide +kernel
theorem dL_act_177 : decode cL_act 177 = .ok (.invokestatic 139, 3) := by decide +kernel
theorem dL_act_180 : decode cL_act 180 = .ok (.ireturn, 1) := by decide +kernel
theorem dL_act_181 : decode cL_act 181 = .ok (.aload_n 0, 1) := by decide +kernel
theorem dL_act_182 : decode cL_act 182 = .ok (.iload 4, 2) := by decide +kernel
theorem dL_act_184 : decode cL_act 184 = .ok (.aload_n 1, 1) := by decide +kernel
theorem dL_act_185 : decode cL_act 185 = .ok (.iconst 0, 1) := by decide +kernel
theorem dL_act_186 : decode cL_act 186 = .ok (.iaload, 1) := by decide +kernel
theorem dL_act_187 : decode cL_act 187 = .ok (.ifCond .ne 7, 3) := by decide +kernel
theorem dL_act_190 : decode cL_act 190 = .ok (.iconst 0, 1) := by decide +kernel
theorem dL_act_191 : decode cL_act 191 = .ok (.goto 9, 3) := by decide +kernel
theorem dL_act_194 : decode cL_act 194 = .ok (.aload_n 0, 1) := by decide +kernel
theorem dL_act_195 : decode cL_act 195 = .ok (.iload 4, 2) := by decide +kernel
theorem dL_act_197 : decode cL_act 197 = .ok (.invokestatic 183, 3) := by decide +kernel
theorem dL_act_200 : decode cL_act 200 = .ok (.invokestatic 152, 3) := by decide +kernel
theorem dL_act_203 : decode cL_act 203 = .ok (.ireturn, 1) := by decide +kernel
theorem dL_act_204 : decode cL_act 204 = .ok (.aload_n 0, 1) := by decide +kernel
theorem dL_act_205 : decode cL_act 205 = .ok (.iload 4, 2) := by decide +kernel
theorem dL_act_207 : decode cL_act 207 = .ok (.iconst 0, 1) := by decide +kernel
theorem dL_act_208 : decode cL_act 208 = .ok (.iload_n 3, 1) := by decide +kernel
theorem dL_act_209 : decode cL_act 209 = .ok (.bipush 17, 2) := by decide +kernel
theorem dL_act_211 : decode cL_act 211 = .ok (.idiv, 1) := by decide +kernel
theorem dL_act_212 : decode cL_act 212 = .ok (.bipush 6, 2) := by decide +kernel
theorem dL_act_214 : decode cL_act 214 = .ok (.irem, 1) := by decide +kernel
theorem dL_act_215 : decode cL_act 215 = .ok (.invokestatic 154, 3) := by decide +kernel
theorem dL_act_218 : decode cL_act 218 = .ok (.ireturn, 1) := by decide +kernel
theorem dL_act_219 : decode cL_act 219 = .ok (.aload_n 0, 1) := by decide +kernel
theorem dL_act_220 : decode cL_act 220 = .ok (.iload_n 3, 1) := by decide +kernel
theorem dL_act_221 : decode cL_act 221 = .ok (.iconst 5, 1) := by decide +kernel
theorem dL_act_222 : decode cL_act 222 = .ok (.irem, 1) := by decide +kernel
theorem dL_act_223 : decode cL_act 223 = .ok (.iload_n 3, 1) := by decide +kernel
theorem dL_act_224 : decode cL_act 224 = .ok (.iconst 5, 1) := by decide +kernel
theorem dL_act_225 : decode cL_act 225 = .ok (.idiv, 1) := by decide +kernel
theorem dL_act_226 : decode cL_act 226 = .ok (.bipush 7, 2) := by decide +kernel
theorem dL_act_228 : decode cL_act 228 = .ok (.irem, 1) := by decide +kernel
theorem dL_act_229 : decode cL_act 229 = .ok (.iconst 1, 1) := by decide +kernel
theorem dL_act_230 : decode cL_act 230 = .ok (.isub, 1) := by decide +kernel
theorem dL_act_231 : decode cL_act 231 = .ok (.invokestatic 145, 3) := by decide +kernel
theorem dL_act_234 : decode cL_act 234 = .ok (.ireturn, 1) := by decide +kernel
theorem dL_act_235 : decode cL_act 235 = .ok (.iload_n 3, 1) := by decide +kernel
theorem dL_act_236 : decode cL_act 236 = .ok (.iconst 2, 1) := by decide +kernel
theorem dL_act_237 : decode cL_act 237 = .ok (.irem, 1) := by decide +kernel
theorem dL_act_238 : decode cL_act 238 = .ok (.ifCond .ne 23, 3) := by decide +kernel
theorem dL_act_241 : decode cL_act 241 = .ok (.aload_n 0, 1) := by decide +kernel
theorem dL_act_242 : decode cL_act 242 = .ok (.iload_n 3, 1) := by decide +kernel
theorem dL_act_243 : decode cL_act 243 = .ok (.iconst 2, 1) := by decide +kernel
theorem dL_act_244 : decode cL_act 244 = .ok (.idiv, 1) := by decide +kernel
theorem dL_act_245 : decode cL_act 245 = .ok (.iconst 3, 1) := by decide +kernel
theorem dL_act_246 : decode cL_act 246 = .ok (.irem, 1) := by decide +kernel
theorem dL_act_247 : decode cL_act 247 = .ok (.iconst 1, 1) := by decide +kernel
theorem dL_act_248 : decode cL_act 248 = .ok (.iload_n 3, 1) := by decide +kernel
theorem dL_act_249 : decode cL_act 249 = .ok (.bipush 6, 2) := by decide +kernel
theorem dL_act_251 : decode cL_act 251 = .ok (.idiv, 1) := by decide +kernel
theorem dL_act_252 : decode cL_act 252 = .ok (.iconst 5, 1) := by decide +kernel
theorem dL_act_253 : decode cL_act 253 = .ok (.irem, 1) := by decide +kernel
theorem dL_act_254 : decode cL_act 254 = .ok (.iadd, 1) := by decide +kernel
theorem dL_act_255 : decode cL_act 255 = .ok (.invokestatic 149, 3) := by decide +kernel
theorem dL_act_258 : decode cL_act 258 = .ok (.goto 22, 3) := by decide +kernel
theorem dL_act_261 : decode cL_act 261 = .ok (.aload_n 0, 1) := by decide +kernel
theorem dL_act_262 : decode cL_act 262 = .ok (.iload 4, 2) := by decide +kernel
theorem dL_act_264 : decode cL_act 264 = .ok (.iload_n 3, 1) := by decide +kernel
theorem dL_act_265 : decode cL_act 265 = .ok (.bipush 17, 2) := by decide +kernel
theorem dL_act_267 : decode cL_act 267 = .ok (.idiv, 1) := by decide +kernel
theorem dL_act_268 : decode cL_act 268 = .ok (.bipush 7, 2) := by decide +kernel
theorem dL_act_270 : decode cL_act 270 = .ok (.irem, 1) := by decide +kernel
theorem dL_act_271 : decode cL_act 271 = .ok (.iload_n 3, 1) := by decide +kernel
theorem dL_act_272 : decode cL_act 272 = .ok (.bipush 119, 2) := by decide +kernel
theorem dL_act_274 : decode cL_act 274 = .ok (.idiv, 1) := by decide +kernel
theorem dL_act_275 : decode cL_act 275 = .ok (.iconst 3, 1) := by decide +kernel
theorem dL_act_276 : decode cL_act 276 = .ok (.irem, 1) := by decide +kernel
theorem dL_act_277 : decode cL_act 277 = .ok (.invokestatic 167, 3) := by decide +kernel
theorem dL_act_280 : decode cL_act 280 = .ok (.ireturn, 1) := by decide +kernel
theorem dL_act_281 : decode cL_act 281 = .ok (.aload_n 0, 1) := by decide +kernel
theorem dL_act_282 : decode cL_act 282 = .ok (.iload 4, 2) := by decide +kernel
theorem dL_act_284 : decode cL_act 284 = .ok (.iload_n 3, 1) := by decide +kernel
theorem dL_act_285 : decode cL_act 285 = .ok (.bipush 17, 2) := by decide +kernel
theorem dL_act_287 : decode cL_act 287 = .ok (.idiv, 1) := by decide +kernel
theorem dL_act_288 : decode cL_act 288 = .ok (.iconst 4, 1) := by decide +kernel
theorem dL_act_289 : decode cL_act 289 = .ok (.irem, 1) := by decide +kernel
theorem dL_act_290 : decode cL_act 290 = .ok (.iload_n 3, 1) := by decide +kernel
theorem dL_act_291 : decode cL_act 291 = .ok (.bipush 68, 2) := by decide +kernel
theorem dL_act_293 : decode cL_act 293 = .ok (.idiv, 1) := by decide +kernel
theorem dL_act_294 : decode cL_act 294 = .ok (.iconst 3, 1) := by decide +kernel
theorem dL_act_295 : decode cL_act 295 = .ok (.irem, 1) := by decide +kernel
theorem dL_act_296 : decode cL_act 296 = .ok (.iconst 1, 1) := by decide +kernel
theorem dL_act_297 : decode cL_act 297 = .ok (.iload_n 3, 1) := by decide +kernel
theorem dL_act_298 : decode cL_act 298 = .ok (.sipush 204, 3) := by decide +kernel
theorem dL_act_301 : decode cL_act 301 = .ok (.idiv, 1) := by decide +kernel
theorem dL_act_302 : decode cL_act 302 = .ok (.iconst 2, 1) := by decide +kernel
theorem dL_act_303 : decode cL_act 303 = .ok (.irem, 1) := by decide +kernel
theorem dL_act_304 : decode cL_act 304 = .ok (.iadd, 1) := by decide +kernel
theorem dL_act_305 : decode cL_act 305 = .ok (.iload_n 3, 1) := by decide +kernel
theorem dL_act_306 : decode cL_act 306 = .ok (.sipush 408, 3) := by decide +kernel
theorem dL_act_309 : decode cL_act 309 = .ok (.idiv, 1) := by decide +kernel
theorem dL_act_310 : decode cL_act 310 = .ok (.bipush 20, 2) := by decide +kernel
theorem dL_act_312 : decode cL_act 312 = .ok (.irem, 1) := by decide +kernel
theorem dL_act_313 : decode cL_act 313 = .ok (.bipush 20, 2) := by decide +kernel
theorem dL_act_315 : decode cL_act 315 = .ok (.iload_n 3, 1) := by decide +kernel
theorem dL_act_316 : decode cL_act 316 = .ok (.sipush 816, 3) := by decide +kernel
theorem dL_act_319 : decode cL_act 319 = .ok (.idiv, 1) := by decide +kernel
theorem dL_act_320 : decode cL_act 320 = .ok (.bipush 60, 2) := by decide +kernel
theorem dL_act_322 : decode cL_act 322 = .ok (.irem, 1) := by decide +kernel
theorem dL_act_323 : decode cL_act 323 = .ok (.iadd, 1) := by decide +kernel
theorem dL_act_324 : decode cL_act 324 = .ok (.invokestatic 170, 3) := by decide +kernel
theorem dL_act_327 : decode cL_act 327 = .ok (.ireturn, 1) := by decide +kernel
theorem dL_act_328 : decode cL_act 328 = .ok (.iload_n 3, 1) := by decide +kernel
theorem dL_act_329 : decode cL_act 329 = .ok (.iconst 3, 1) := by decide +kernel
theorem dL_act_330 : decode cL_act 330 = .ok (.irem, 1) := by decide +kernel
theorem dL_act_331 : decode cL_act 331 = .ok (.ifCond .ne 24, 3) := by decide +kernel
theorem dL_act_334 : decode cL_act 334 = .ok (.aload_n 0, 1) := by decide +kernel
theorem dL_act_335 : decode cL_act 335 = .ok (.iload_n 3, 1) := by decide +kernel
theorem dL_act_336 : decode cL_act 336 = .ok (.iconst 3, 1) := by decide +kernel
theorem dL_act_337 : decode cL_act 337 = .ok (.idiv, 1) := by decide +kernel
theorem dL_act_338 : decode cL_act 338 = .ok (.iconst 2, 1) := by decide +kernel
theorem dL_act_339 : decode cL_act 339 = .ok (.irem, 1) := by decide +kernel
theorem dL_act_340 : decode cL_act 340 = .ok (.iconst 1, 1) := by decide +kernel
theorem dL_act_341 : decode cL_act 341 = .ok (.iload_n 3, 1) := by decide +kernel
theorem dL_act_342 : decode cL_act 342 = .ok (.bipush 6, 2) := by decide +kernel
theorem dL_act_344 : decode cL_act 344 = .ok (.idiv, 1) := by decide +kernel
theorem dL_act_345 : decode cL_act 345 = .ok (.bipush 12, 2) := by decide +kernel
theorem dL_act_347 : decode cL_act 347 = .ok (.irem, 1) := by decide +kernel
theorem dL_act_348 : decode cL_act 348 = .ok (.iadd, 1) := by decide +kernel
theorem dL_act_349 : decode cL_act 349 = .ok (.invokestatic 174, 3) := by decide +kernel
theorem dL_act_352 : decode cL_act 352 = .ok (.goto 10, 3) := by decide +kernel
theorem dL_act_355 : decode cL_act 355 = .ok (.aload_n 0, 1) := by decide +kernel
theorem dL_act_356 : decode cL_act 356 = .ok (.iload 4, 2) := by decide +kernel
theorem dL_act_358 : decode cL_act 358 = .ok (.iconst 0, 1) := by decide +kernel
theorem dL_act_359 : decode cL_act 359 = .ok (.invokestatic 158, 3) := by decide +kernel
theorem dL_act_362 : decode cL_act 362 = .ok (.ireturn, 1) := by decide +kernel
theorem dL_act_363 : decode cL_act 363 = .ok (.iload_n 3, 1) := by decide +kernel
theorem dL_act_364 : decode cL_act 364 = .ok (.iconst 3, 1) := by decide +kernel
theorem dL_act_365 : decode cL_act 365 = .ok (.irem, 1) := by decide +kernel
theorem dL_act_366 : decode cL_act 366 = .ok (.ifCond .ne 29, 3) := by decide +kernel
theorem dL_act_369 : decode cL_act 369 = .ok (.aload_n 0, 1) := by decide +kernel
theorem dL_act_370 : decode cL_act 370 = .ok (.bipush 30, 2) := by decide +kernel
theorem dL_act_372 : decode cL_act 372 = .ok (.iload_n 3, 1) := by decide +kernel
theorem dL_act_373 : decode cL_act 373 = .ok (.iconst 3, 1) := by decide +kernel
theorem dL_act_374 : decode cL_act 374 = .ok (.idiv, 1) := by decide +kernel
theorem dL_act_375 : decode cL_act 375 = .ok (.bipush 40, 2) := by decide +kernel
theorem dL_act_377 : decode cL_act 377 = .ok (.irem, 1) := by decide +kernel
theorem dL_act_378 : decode cL_act 378 = .ok (.iadd, 1) := by decide +kernel
theorem dL_act_379 : decode cL_act 379 = .ok (.bipush 6, 2) := by decide +kernel
theorem dL_act_381 : decode cL_act 381 = .ok (.iload_n 3, 1) := by decide +kernel
theorem dL_act_382 : decode cL_act 382 = .ok (.bipush 120, 2) := by decide +kernel
theorem dL_act_384 : decode cL_act 384 = .ok (.idiv, 1) := by decide +kernel
theorem dL_act_385 : decode cL_act 385 = .ok (.bipush 10, 2) := by decide +kernel
theorem dL_act_387 : decode cL_act 387 = .ok (.irem, 1) := by decide +kernel
theorem dL_act_388 : decode cL_act 388 = .ok (.iadd, 1) := by decide +kernel
theorem dL_act_389 : decode cL_act 389 = .ok (.invokestatic 177, 3) := by decide +kernel
theorem dL_act_392 : decode cL_act 392 = .ok (.goto 20, 3) := by decide +kernel
theorem dL_act_395 : decode cL_act 395 = .ok (.aload_n 0, 1) := by decide +kernel
theorem dL_act_396 : decode cL_act 396 = .ok (.iload_n 3, 1) := by decide +kernel
theorem dL_act_397 : decode cL_act 397 = .ok (.iconst 3, 1) := by decide +kernel
theorem dL_act_398 : decode cL_act 398 = .ok (.idiv, 1) := by decide +kernel
theorem dL_act_399 : decode cL_act 399 = .ok (.bipush 8, 2) := by decide +kernel
theorem dL_act_401 : decode cL_act 401 = .ok (.irem, 1) := by decide +kernel
theorem dL_act_402 : decode cL_act 402 = .ok (.iload_n 3, 1) := by decide +kernel
theorem dL_act_403 : decode cL_act 403 = .ok (.bipush 24, 2) := by decide +kernel
theorem dL_act_405 : decode cL_act 405 = .ok (.idiv, 1) := by decide +kernel
theorem dL_act_406 : decode cL_act 406 = .ok (.bipush 10, 2) := by decide +kernel
theorem dL_act_408 : decode cL_act 408 = .ok (.irem, 1) := by decide +kernel
theorem dL_act_409 : decode cL_act 409 = .ok (.invokestatic 180, 3) := by decide +kernel
theorem dL_act_412 : decode cL_act 412 = .ok (.ireturn, 1) := by decide +kernel
theorem dL_act_413 : decode cL_act 413 = .ok (.iload_n 3, 1) := by decide +kernel
theorem dL_act_414 : decode cL_act 414 = .ok (.iconst 4, 1) := by decide +kernel
theorem dL_act_415 : decode cL_act 415 = .ok (.irem, 1) := by decide +kernel
theorem dL_act_416 : decode cL_act 416 = .ok (.ifCond .ne 10, 3) := by decide +kernel
theorem dL_act_419 : decode cL_act 419 = .ok (.aload_n 0, 1) := by decide +kernel
theorem dL_act_420 : decode cL_act 420 = .ok (.invokevirtual 241, 3) := by decide +kernel
theorem dL_act_423 : decode cL_act 423 = .ok (.goto 21, 3) := by decide +kernel
theorem dL_act_426 : decode cL_act 426 = .ok (.aload_n 0, 1) := by decide +kernel
theorem dL_act_427 : decode cL_act 427 = .ok (.iload 4, 2) := by decide +kernel
theorem dL_act_429 : decode cL_act 429 = .ok (.iload_n 3, 1) := by decide +kernel
theorem dL_act_430 : decode cL_act 430 = .ok (.bipush 17, 2) := by decide +kernel
theorem dL_act_432 : decode cL_act 432 = .ok (.idiv, 1) := by decide +kernel
theorem dL_act_433 : decode cL_act 433 = .ok (.iconst 4, 1) := by decide +kernel
theorem dL_act_434 : decode cL_act 434 = .ok (.irem, 1) := by decide +kernel
theorem dL_act_435 : decode cL_act 435 = .ok (.iload_n 3, 1) := by decide +kernel
theorem dL_act_436 : decode cL_act 436 = .ok (.bipush 119, 2) := by decide +kernel
theorem dL_act_438 : decode cL_act 438 = .ok (.idiv, 1) := by decide +kernel
theorem dL_act_439 : decode cL_act 439 = .ok (.iconst 2, 1) := by decide +kernel
theorem dL_act_440 : decode cL_act 440 = .ok (.irem, 1) := by decide +kernel
theorem dL_act_441 : decode cL_act 441 = .ok (.invokestatic 167, 3) := by decide +kernel
theorem dL_act_444 : decode cL_act 444 = .ok (.ireturn, 1) := by decide +kernel
set_option maxHeartbeats 4000000 in
set_option maxRecDepth 100000 in
theorem w_act (l : Launch) (dC : Nat → ClassId) (dI : Nat → Nat → Nat) (k : Nat → ClassId) (hl0 : l.stackTraces = false) (T : Nat → Int → Int → Int → Int) (K : Nat → Int → Int) (qa : Nat) (cp : Nat) (tl : va_W) (na : Nat) (nf : Int → Int) (xx : Int) (hPS : PS dI k T K qa cp tl) (hQ : OKT T K) (hx9 : 0 ≤ xx ∧ xx ≤ 2147483647) (hn9 : nf 0 = T 0 0 0 0 ∧ nf 1 = K 0 0 ∧ nf 2 = T 12 0 0 0 ∧ nf 3 = T 18 0 0 0) : Kn l dC dI k yL_act (.code yL_act cL_act 5 (some .int)) ({ frames := 16, cells := ((131072 - cp) + 14), slots := ((12 * (131072 - cp)) + 122), locals := 495 } : Room) [.ref qa, .ref na, .int (iI xx)] ([(na, .inl (k 0, 4, .inl (fun i9 : Nat => iI (nf i9))))] ++ tl) (fun r w gc gs => (∃ (cp2 : Nat) (tl2 : va_W), (PS dI k ((acZ T K xx).1) ((acZ T K xx).2.1) qa cp2 tl2) ∧ (cp ≤ cp2 ∧ cp2 ≤ 131072) ∧ r = some (.int (iI ((acZ T K xx).2.2))) ∧ w = ([(na, .inl (k 0, 4, .inl (fun i9 : Nat => iI (nf i9))))] ++ tl2) ∧ gc = ((cp2 - cp) + 13) ∧ gs = ((12 * (cp2 - cp)) + 116))) := by
  refine kn_of (by decide) (Nat.le_of_ble_eq_true rfl) ?_
  intro p e s m args below meth c H locs B hr hnm ls hl
  have hx := B.1.1
  have hb := B.1.2.1
  have hl : lv_has ls 5 [(0, .ref qa), (1, .ref na), (2, .int (iI xx))] := hl
  have hcp9 := PS_cp hPS
  have hn0 := TK_nb hQ.1
  have hk0 := hQ.2.1.1
  have hf0 := TK_fc hQ.1
  have hp0 := TK_np hQ.1
  have hpl9 := plcZ_in (xx := xx) hQ.1
  refine lv_iload_n hx hb dL_act_0 rfl (lv_at hl 2 rfl) ?_
  refine lv_bipush (v := iI 16) hx hb dL_act_1 (by decide) ?_
  refine y_div hx hb (a := xx) (b := 16) (by omega) (by omega) dL_act_3 ?_
  refine lv_istore_n (lv' := [(3, .int (iI (xx / 16))), (0, .ref qa), (1, .ref na), (2, .int (iI xx))]) hx hb dL_act_4 rfl hl (by decide) rfl (fun ls hl => ?_)
  refine k_join (σ := Int) B 20 (fun g9 : Int => (g9 = plcZ T xx)) (fun g9 : Int => [(3, .int (iI (xx / 16))), (0, .ref qa), (1, .ref na), (2, .int (iI xx))]) (fun g9 : Int => ([(na, .inl (k 0, 4, .inl (fun i9 : Nat => iI (nf i9))))] ++ tl)) (fun g9 : Int => [.int (iI g9)]) ?_ (fun J_1 => ?_)
  · clear hl B
    rintro w1 hw1 ls H locs hl B
    have hl : lv_has ls 5 [(3, .int (iI (xx / 16))), (0, .ref qa), (1, .ref na), (2, .int (iI xx))] := hl
    have B := bd_to (ws' := ([(na, .inl (k 0, 4, .inl (fun i9 : Nat => iI (nf i9))))] ++ tl)) rfl B
    refine lv_istore (lv' := [(4, .int (iI w1)), (3, .int (iI (xx / 16))), (0, .ref qa), (1, .ref na), (2, .int (iI xx))]) hx hb dL_act_20 hl (by decide) rfl (fun ls hl => ?_)
    refine lv_iload_n hx hb dL_act_22 rfl (lv_at hl 4 rfl) ?_
    refine lv_bipush (v := iI 16) hx hb dL_act_23 (by decide) ?_
    refine y_rem hx hb (a := xx) (b := 16) (by omega) (by omega) dL_act_25 ?_
    have zc_2 : (xx % 16) = 0 ∨ (xx % 16) = 1 ∨ (xx % 16) = 2 ∨ (xx % 16) = 3 ∨ (xx % 16) = 4 ∨ (xx % 16) = 5 ∨ (xx % 16) = 6 ∨ (xx % 16) = 7 ∨ (xx % 16) = 8 ∨ (xx % 16) = 9 ∨ (xx % 16) = 10 ∨ (xx % 16) = 11 ∨ (xx % 16) = 12 ∨ (xx % 16) = 13 ∨ (xx % 16) = 14 ∨ (xx % 16) = 15 := by omega
    rcases zc_2 with zc_2 | zc_2 | zc_2 | zc_2 | zc_2 | zc_2 | zc_2 | zc_2 | zc_2 | zc_2 | zc_2 | zc_2 | zc_2 | zc_2 | zc_2 | zc_2
    · refine lv_seti (y := iI 0) (congrArg iI zc_2) ?_
      refine lv_tableIn (off := 74) (tgt := 100) hx hb dL_act_26 (by decide) (by decide) (by decide) (by decide) ?_
      refine lv_aload_n hx hb dL_act_100 rfl (lv_at hl 2 rfl) ?_
      refine lv_iload_n hx hb dL_act_101 rfl (lv_at hl 1 rfl) ?_
      refine lv_aload_n hx hb dL_act_102 rfl (lv_at hl 3 rfl) ?_
      refine lv_iconst (v := iI 0) hx hb dL_act_103 (by decide) ?_
      refine x_iald' (f := nf) (z := 0) B 0 rfl (by omega) dL_act_104 ?_
      refine lv_seti (y := iI (T 0 0 0 0)) (congrArg iI (show nf 0 = T 0 0 0 0 from hn9.1)) ?_
      refine lv_iconst (v := iI 1) hx hb dL_act_105 (by decide) ?_
      refine y_add hx hb dL_act_106 ?_
      refine y_rem hx hb (a := (xx / 16)) (b := ((T 0 0 0 0) + 1)) (by omega) (by omega) dL_act_107 ?_
      have z_3 : 0 ≤ ((xx / 16) % ((T 0 0 0 0) + 1)) ∧ ((xx / 16) % ((T 0 0 0 0) + 1)) < ((T 0 0 0 0) + 1) := ⟨Int.emod_nonneg _ (by omega), Int.emod_lt_of_pos _ (by omega)⟩
      refine lv_iload_n hx hb dL_act_108 rfl (lv_at hl 1 rfl) ?_
      refine lv_bipush (v := iI 17) hx hb dL_act_109 (by decide) ?_
      refine y_div hx hb (a := (xx / 16)) (b := 17) (by omega) (by omega) dL_act_111 ?_
      refine lv_bipush (v := iI 9) hx hb dL_act_112 (by decide) ?_
      refine y_rem hx hb (a := ((xx / 16) / 17)) (b := 9) (by omega) (by omega) dL_act_114 ?_
      refine lv_iconst (v := iI 4) hx hb dL_act_115 (by decide) ?_
      refine lv_icmp_ge (tgt := 123) hx hb dL_act_116 (by decide) (fun c_4 => ?_) (fun c_4 => ?_)
      · have zc_4 : 4 ≤ (((xx / 16) / 17) % 9) := jle (a := 4) (b := (((xx / 16) / 17) % 9)) (by omega) (by omega) c_4
        refine lv_iload_n hx hb dL_act_123 rfl (lv_at hl 1 rfl) ?_
        refine lv_bipush (v := iI 17) hx hb dL_act_124 (by decide) ?_
        refine y_div hx hb (a := (xx / 16)) (b := 17) (by omega) (by omega) dL_act_126 ?_
        refine lv_bipush (v := iI 9) hx hb dL_act_127 (by decide) ?_
        refine y_rem hx hb (a := ((xx / 16) / 17)) (b := 9) (by omega) (by omega) dL_act_129 ?_
        refine lv_iconst (v := iI 3) hx hb dL_act_130 (by decide) ?_
        refine y_sub hx hb dL_act_131 ?_
        have B := bd_swap (a := []) (b := [(na, .inl (k 0, 4, .inl (fun i9 : Nat => iI (nf i9))))]) (d := tl) (bd_to rfl B)
        refine k_W (rest := []) (wc := ([] ++ tl)) (wr := [(na, .inl (k 0, 4, .inl (fun i9 : Nat => iI (nf i9))))]) (fz_blocks l dC dI k hl0 T K qa cp tl ((xx / 16) % ((T 0 0 0 0) + 1)) ((((xx / 16) / 17) % 9) - 3) hPS hQ (by omega) (by omega)) B mW_L_blocks mw_1120 hl ⟨Nat.le_of_ble_eq_true rfl, Nat.le_of_ble_eq_true rfl⟩ (Nat.le_of_ble_eq_true rfl) rfl dL_act_132 ⟨by dsimp only; omega, by dsimp only; omega⟩ (fun r w gc gs H locs hp B => ?_)
        obtain ⟨tl2_5, z_6, rfl, hw9, rfl, rfl⟩ := hp
        rw [hw9] at B; clear hw9
        have B := bd_to (ws' := ([(na, .inl (k 0, 4, .inl (fun i9 : Nat => iI (nf i9))))] ++ tl2_5)) rfl B
        have hPS : PS dI k ((z_blocks T K ((xx / 16) % ((T 0 0 0 0) + 1)) ((((xx / 16) / 17) % 9) - 3)).1) ((z_blocks T K ((xx / 16) % ((T 0 0 0 0) + 1)) ((((xx / 16) / 17) % 9) - 3)).2.1) qa cp tl2_5 := z_6
        have hac : acZ T K xx = z_blocks T K ((xx / 16) % ((T 0 0 0 0) + 1)) ((((xx / 16) / 17) % 9) - 3) := by (try rw [hw1]); unfold acZ; repeat (first | rw [if_pos (by omega)] | rw [if_neg (by omega)])
        have hPS : PS dI k ((acZ T K xx).1) ((acZ T K xx).2.1) qa cp tl2_5 := by rw [hac]; exact hPS
        refine W.widen (k := ((cp - cp) + 13)) (n := ((12 * (cp - cp)) + 116)) (by omega) (by omega) ?_
        have e_7 : ((acZ T K xx).2.2) = ((z_blocks T K ((xx / 16) % ((T 0 0 0 0) + 1)) ((((xx / 16) / 17) % 9) - 3)).2.2) := (by rw [hac])
        skip
        exact k_iret B hr (⟨cp, tl2_5, hPS, (by omega), (by rw [e_7]), rfl, rfl, rfl⟩) ⟨(by first | omega | (dsimp only; omega)), (by first | omega | (dsimp only; omega))⟩ ⟨(by first | omega | (dsimp only; omega)), (by first | omega | (dsimp only; omega))⟩ dL_act_135
      · have zc_4 : (((xx / 16) / 17) % 9) < 4 := jnle (a := 4) (b := (((xx / 16) / 17) % 9)) (by omega) (by omega) c_4
        refine lv_iconst (v := iI 0) hx hb dL_act_119 (by decide) ?_
        refine lv_goto (tgt := 132) hx hb dL_act_120 (by decide) ?_
        have B := bd_swap (a := []) (b := [(na, .inl (k 0, 4, .inl (fun i9 : Nat => iI (nf i9))))]) (d := tl) (bd_to rfl B)
        refine k_W (rest := []) (wc := ([] ++ tl)) (wr := [(na, .inl (k 0, 4, .inl (fun i9 : Nat => iI (nf i9))))]) (fz_blocks l dC dI k hl0 T K qa cp tl ((xx / 16) % ((T 0 0 0 0) + 1)) 0 hPS hQ (by omega) (by omega)) B mW_L_blocks mw_1120 hl ⟨Nat.le_of_ble_eq_true rfl, Nat.le_of_ble_eq_true rfl⟩ (Nat.le_of_ble_eq_true rfl) rfl dL_act_132 ⟨by dsimp only; omega, by dsimp only; omega⟩ (fun r w gc gs H locs hp B => ?_)
        obtain ⟨tl2_8, z_9, rfl, hw9, rfl, rfl⟩ := hp
        rw [hw9] at B; clear hw9
        have B := bd_to (ws' := ([(na, .inl (k 0, 4, .inl (fun i9 : Nat => iI (nf i9))))] ++ tl2_8)) rfl B
        have hPS : PS dI k ((z_blocks T K ((xx / 16) % ((T 0 0 0 0) + 1)) 0).1) ((z_blocks T K ((xx / 16) % ((T 0 0 0 0) + 1)) 0).2.1) qa cp tl2_8 := z_9
        have hac : acZ T K xx = z_blocks T K ((xx / 16) % ((T 0 0 0 0) + 1)) 0 := by (try rw [hw1]); unfold acZ; repeat (first | rw [if_pos (by omega)] | rw [if_neg (by omega)])
        have hPS : PS dI k ((acZ T K xx).1) ((acZ T K xx).2.1) qa cp tl2_8 := by rw [hac]; exact hPS
        refine W.widen (k := ((cp - cp) + 13)) (n := ((12 * (cp - cp)) + 116)) (by omega) (by omega) ?_
        have e_10 : ((acZ T K xx).2.2) = ((z_blocks T K ((xx / 16) % ((T 0 0 0 0) + 1)) 0).2.2) := (by rw [hac])
        skip
        exact k_iret B hr (⟨cp, tl2_8, hPS, (by omega), (by rw [e_10]), rfl, rfl, rfl⟩) ⟨(by first | omega | (dsimp only; omega)), (by first | omega | (dsimp only; omega))⟩ ⟨(by first | omega | (dsimp only; omega)), (by first | omega | (dsimp only; omega))⟩ dL_act_135
    · refine lv_seti (y := iI 1) (congrArg iI zc_2) ?_
      refine lv_tableIn (off := 110) (tgt := 136) hx hb dL_act_26 (by decide) (by decide) (by decide) (by decide) ?_
      refine lv_iload_n hx hb dL_act_136 rfl (lv_at hl 1 rfl) ?_
      refine lv_iconst (v := iI 3) hx hb dL_act_137 (by decide) ?_
      refine y_rem hx hb (a := (xx / 16)) (b := 3) (by omega) (by omega) dL_act_138 ?_
      refine lv_if_ne (tgt := 153) hx hb dL_act_139 (by decide) (fun c_11 => ?_) (fun c_11 => ?_)
      · have zc_11 : ((xx / 16) % 3) ≠ 0 := jne (a := ((xx / 16) % 3)) (b := 0) (by omega) (by omega) c_11
        refine lv_aload_n hx hb dL_act_153 rfl (lv_at hl 2 rfl) ?_
        refine lv_iload_n hx hb dL_act_154 rfl (lv_at hl 1 rfl) ?_
        refine lv_bipush (v := iI 11) hx hb dL_act_155 (by decide) ?_
        refine y_rem hx hb (a := (xx / 16)) (b := 11) (by omega) (by omega) dL_act_157 ?_
        refine lv_if_ne (tgt := 166) hx hb dL_act_158 (by decide) (fun c_12 => ?_) (fun c_12 => ?_)
        · have zc_12 : ((xx / 16) % 11) ≠ 0 := jne (a := ((xx / 16) % 11)) (b := 0) (by omega) (by omega) c_12
          refine lv_aload_n hx hb dL_act_166 rfl (lv_at hl 3 rfl) ?_
          refine lv_iconst (v := iI 0) hx hb dL_act_167 (by decide) ?_
          refine x_iald' (f := nf) (z := 0) B 0 rfl (by omega) dL_act_168 ?_
          refine lv_seti (y := iI (T 0 0 0 0)) (congrArg iI (show nf 0 = T 0 0 0 0 from hn9.1)) ?_
          have B := bd_swap (a := []) (b := [(na, .inl (k 0, 4, .inl (fun i9 : Nat => iI (nf i9))))]) (d := tl) (bd_to rfl B)
          refine k_W (rest := []) (wc := ([] ++ tl)) (wr := [(na, .inl (k 0, 4, .inl (fun i9 : Nat => iI (nf i9))))]) (fz_removes l dC dI k hl0 T K qa cp tl (T 0 0 0 0) hPS hQ (by omega)) B mW_L_removes mw_1197 hl ⟨Nat.le_of_ble_eq_true rfl, Nat.le_of_ble_eq_true rfl⟩ (Nat.le_of_ble_eq_true rfl) rfl dL_act_169 ⟨by dsimp only; omega, by dsimp only; omega⟩ (fun r w gc gs H locs hp B => ?_)
          obtain ⟨tl2_13, z_14, rfl, hw9, rfl, rfl⟩ := hp
          rw [hw9] at B; clear hw9
          have B := bd_to (ws' := ([(na, .inl (k 0, 4, .inl (fun i9 : Nat => iI (nf i9))))] ++ tl2_13)) rfl B
          have hPS : PS dI k ((z_removes T K (T 0 0 0 0)).1) ((z_removes T K (T 0 0 0 0)).2.1) qa cp tl2_13 := z_14
          have hac : acZ T K xx = z_removes T K (T 0 0 0 0) := by (try rw [hw1]); unfold acZ; repeat (first | rw [if_pos (by omega)] | rw [if_neg (by omega)])
          have hPS : PS dI k ((acZ T K xx).1) ((acZ T K xx).2.1) qa cp tl2_13 := by rw [hac]; exact hPS
          refine W.widen (k := ((cp - cp) + 13)) (n := ((12 * (cp - cp)) + 116)) (by omega) (by omega) ?_
          have e_15 : ((acZ T K xx).2.2) = ((z_removes T K (T 0 0 0 0)).2.2) := (by rw [hac])
          skip
          exact k_iret B hr (⟨cp, tl2_13, hPS, (by omega), (by rw [e_15]), rfl, rfl, rfl⟩) ⟨(by first | omega | (dsimp only; omega)), (by first | omega | (dsimp only; omega))⟩ ⟨(by first | omega | (dsimp only; omega)), (by first | omega | (dsimp only; omega))⟩ dL_act_172
        · have zc_12 : ((xx / 16) % 11) = 0 := jeq (a := ((xx / 16) % 11)) (b := 0) (by omega) (by omega) c_12
          refine lv_iload hx hb dL_act_161 (lv_at hl 0 rfl) ?_
          refine lv_goto (tgt := 169) hx hb dL_act_163 (by decide) ?_
          have B := bd_swap (a := []) (b := [(na, .inl (k 0, 4, .inl (fun i9 : Nat => iI (nf i9))))]) (d := tl) (bd_to rfl B)
          refine k_W (rest := []) (wc := ([] ++ tl)) (wr := [(na, .inl (k 0, 4, .inl (fun i9 : Nat => iI (nf i9))))]) (fz_removes l dC dI k hl0 T K qa cp tl w1 hPS hQ (by omega)) B mW_L_removes mw_1197 hl ⟨Nat.le_of_ble_eq_true rfl, Nat.le_of_ble_eq_true rfl⟩ (Nat.le_of_ble_eq_true rfl) rfl dL_act_169 ⟨by dsimp only; omega, by dsimp only; omega⟩ (fun r w gc gs H locs hp B => ?_)
          obtain ⟨tl2_16, z_17, rfl, hw9, rfl, rfl⟩ := hp
          rw [hw9] at B; clear hw9
          have B := bd_to (ws' := ([(na, .inl (k 0, 4, .inl (fun i9 : Nat => iI (nf i9))))] ++ tl2_16)) rfl B
          have hPS : PS dI k ((z_removes T K w1).1) ((z_removes T K w1).2.1) qa cp tl2_16 := z_17
          have hac : acZ T K xx = z_removes T K w1 := by (try rw [hw1]); unfold acZ; repeat (first | rw [if_pos (by omega)] | rw [if_neg (by omega)])
          have hPS : PS dI k ((acZ T K xx).1) ((acZ T K xx).2.1) qa cp tl2_16 := by rw [hac]; exact hPS
          refine W.widen (k := ((cp - cp) + 13)) (n := ((12 * (cp - cp)) + 116)) (by omega) (by omega) ?_
          have e_18 : ((acZ T K xx).2.2) = ((z_removes T K w1).2.2) := (by rw [hac])
          skip
          exact k_iret B hr (⟨cp, tl2_16, hPS, (by omega), (by rw [e_18]), rfl, rfl, rfl⟩) ⟨(by first | omega | (dsimp only; omega)), (by first | omega | (dsimp only; omega))⟩ ⟨(by first | omega | (dsimp only; omega)), (by first | omega | (dsimp only; omega))⟩ dL_act_172
      · have zc_11 : ((xx / 16) % 3) = 0 := jeq (a := ((xx / 16) % 3)) (b := 0) (by omega) (by omega) c_11
        refine lv_aload_n hx hb dL_act_142 rfl (lv_at hl 2 rfl) ?_
        refine lv_aload_n hx hb dL_act_143 rfl (lv_at hl 3 rfl) ?_
        refine lv_iconst (v := iI 0) hx hb dL_act_144 (by decide) ?_
        refine x_iald' (f := nf) (z := 0) B 0 rfl (by omega) dL_act_145 ?_
        refine lv_seti (y := iI (T 0 0 0 0)) (congrArg iI (show nf 0 = T 0 0 0 0 from hn9.1)) ?_
        refine lv_iconst (v := iI 0) hx hb dL_act_146 (by decide) ?_
        have B := bd_swap (a := []) (b := [(na, .inl (k 0, 4, .inl (fun i9 : Nat => iI (nf i9))))]) (d := tl) (bd_to rfl B)
        refine k_W (rest := []) (wc := ([] ++ tl)) (wr := [(na, .inl (k 0, 4, .inl (fun i9 : Nat => iI (nf i9))))]) (fz_blocks l dC dI k hl0 T K qa cp tl (T 0 0 0 0) 0 hPS hQ (by omega) (by omega)) B mW_L_blocks mw_1120 hl ⟨Nat.le_of_ble_eq_true rfl, Nat.le_of_ble_eq_true rfl⟩ (Nat.le_of_ble_eq_true rfl) rfl dL_act_147 ⟨by dsimp only; omega, by dsimp only; omega⟩ (fun r w gc gs H locs hp B => ?_)
        obtain ⟨tl2_19, z_20, rfl, hw9, rfl, rfl⟩ := hp
        rw [hw9] at B; clear hw9
        have B := bd_to (ws' := ([(na, .inl (k 0, 4, .inl (fun i9 : Nat => iI (nf i9))))] ++ tl2_19)) rfl B
        have hPS : PS dI k ((z_blocks T K (T 0 0 0 0) 0).1) ((z_blocks T K (T 0 0 0 0) 0).2.1) qa cp tl2_19 := z_20
        have hac : acZ T K xx = z_blocks T K (T 0 0 0 0) 0 := by (try rw [hw1]); unfold acZ; repeat (first | rw [if_pos (by omega)] | rw [if_neg (by omega)])
        have hPS : PS dI k ((acZ T K xx).1) ((acZ T K xx).2.1) qa cp tl2_19 := by rw [hac]; exact hPS
        refine W.widen (k := ((cp - cp) + 13)) (n := ((12 * (cp - cp)) + 116)) (by omega) (by omega) ?_
        refine lv_goto (tgt := 172) hx hb dL_act_150 (by decide) ?_
        have e_21 : ((acZ T K xx).2.2) = ((z_blocks T K (T 0 0 0 0) 0).2.2) := (by rw [hac])
        skip
        exact k_iret B hr (⟨cp, tl2_19, hPS, (by omega), (by rw [e_21]), rfl, rfl, rfl⟩) ⟨(by first | omega | (dsimp only; omega)), (by first | omega | (dsimp only; omega))⟩ ⟨(by first | omega | (dsimp only; omega)), (by first | omega | (dsimp only; omega))⟩ dL_act_172
    · refine lv_seti (y := iI 2) (congrArg iI zc_2) ?_
      refine lv_tableIn (off := 147) (tgt := 173) hx hb dL_act_26 (by decide) (by decide) (by decide) (by decide) ?_
      refine lv_aload_n hx hb dL_act_173 rfl (lv_at hl 2 rfl) ?_
      refine lv_iload_n hx hb dL_act_174 rfl (lv_at hl 1 rfl) ?_
      refine lv_iconst (v := iI 4) hx hb dL_act_175 (by decide) ?_
      refine y_rem hx hb (a := (xx / 16)) (b := 4) (by omega) (by omega) dL_act_176 ?_
      have B := bd_swap (a := []) (b := [(na, .inl (k 0, 4, .inl (fun i9 : Nat => iI (nf i9))))]) (d := tl) (bd_to rfl B)
      refine k_W (rest := []) (wc := ([] ++ tl)) (wr := [(na, .inl (k 0, 4, .inl (fun i9 : Nat => iI (nf i9))))]) (fz_spells l dC dI k hl0 T K qa cp tl ((xx / 16) % 4) hPS hQ (by omega)) B mW_L_spells mw_498 hl ⟨Nat.le_of_ble_eq_true rfl, Nat.le_of_ble_eq_true rfl⟩ (Nat.le_of_ble_eq_true rfl) rfl dL_act_177 ⟨by dsimp only; omega, by dsimp only; omega⟩ (fun r w gc gs H locs hp B => ?_)
      obtain ⟨tl2_22, z_23, rfl, hw9, rfl, rfl⟩ := hp
      rw [hw9] at B; clear hw9
      have B := bd_to (ws' := ([(na, .inl (k 0, 4, .inl (fun i9 : Nat => iI (nf i9))))] ++ tl2_22)) rfl B
      have hPS : PS dI k ((z_spells T K ((xx / 16) % 4)).1) ((z_spells T K ((xx / 16) % 4)).2.1) qa cp tl2_22 := z_23
      have hac : acZ T K xx = z_spells T K ((xx / 16) % 4) := by (try rw [hw1]); unfold acZ; repeat (first | rw [if_pos (by omega)] | rw [if_neg (by omega)])
      have hPS : PS dI k ((acZ T K xx).1) ((acZ T K xx).2.1) qa cp tl2_22 := by rw [hac]; exact hPS
      refine W.widen (k := ((cp - cp) + 13)) (n := ((12 * (cp - cp)) + 116)) (by omega) (by omega) ?_
      have e_24 : ((acZ T K xx).2.2) = ((z_spells T K ((xx / 16) % 4)).2.2) := (by rw [hac])
      skip
      exact k_iret B hr (⟨cp, tl2_22, hPS, (by omega), (by rw [e_24]), rfl, rfl, rfl⟩) ⟨(by first | omega | (dsimp only; omega)), (by first | omega | (dsimp only; omega))⟩ ⟨(by first | omega | (dsimp only; omega)), (by first | omega | (dsimp only; omega))⟩ dL_act_180
    · refine lv_seti (y := iI 3) (congrArg iI zc_2) ?_
      refine lv_tableIn (off := 147) (tgt := 173) hx hb dL_act_26 (by decide) (by decide) (by decide) (by decide) ?_
      refine lv_aload_n hx hb dL_act_173 rfl (lv_at hl 2 rfl) ?_
      refine lv_iload_n hx hb dL_act_174 rfl (lv_at hl 1 rfl) ?_
      refine lv_iconst (v := iI 4) hx hb dL_act_175 (by decide) ?_
      refine y_rem hx hb (a := (xx / 16)) (b := 4) (by omega) (by omega) dL_act_176 ?_
      have B := bd_swap (a := []) (b := [(na, .inl (k 0, 4, .inl (fun i9 : Nat => iI (nf i9))))]) (d := tl) (bd_to rfl B)
      refine k_W (rest := []) (wc := ([] ++ tl)) (wr := [(na, .inl (k 0, 4, .inl (fun i9 : Nat => iI (nf i9))))]) (fz_spells l dC dI k hl0 T K qa cp tl ((xx / 16) % 4) hPS hQ (by omega)) B mW_L_spells mw_498 hl ⟨Nat.le_of_ble_eq_true rfl, Nat.le_of_ble_eq_true rfl⟩ (Nat.le_of_ble_eq_true rfl) rfl dL_act_177 ⟨by dsimp only; omega, by dsimp only; omega⟩ (fun r w gc gs H locs hp B => ?_)
      obtain ⟨tl2_25, z_26, rfl, hw9, rfl, rfl⟩ := hp
      rw [hw9] at B; clear hw9
      have B := bd_to (ws' := ([(na, .inl (k 0, 4, .inl (fun i9 : Nat => iI (nf i9))))] ++ tl2_25)) rfl B
      have hPS : PS dI k ((z_spells T K ((xx / 16) % 4)).1) ((z_spells T K ((xx / 16) % 4)).2.1) qa cp tl2_25 := z_26
      have hac : acZ T K xx = z_spells T K ((xx / 16) % 4) := by (try rw [hw1]); unfold acZ; repeat (first | rw [if_pos (by omega)] | rw [if_neg (by omega)])
      have hPS : PS dI k ((acZ T K xx).1) ((acZ T K xx).2.1) qa cp tl2_25 := by rw [hac]; exact hPS
      refine W.widen (k := ((cp - cp) + 13)) (n := ((12 * (cp - cp)) + 116)) (by omega) (by omega) ?_
      have e_27 : ((acZ T K xx).2.2) = ((z_spells T K ((xx / 16) % 4)).2.2) := (by rw [hac])
      skip
      exact k_iret B hr (⟨cp, tl2_25, hPS, (by omega), (by rw [e_27]), rfl, rfl, rfl⟩) ⟨(by first | omega | (dsimp only; omega)), (by first | omega | (dsimp only; omega))⟩ ⟨(by first | omega | (dsimp only; omega)), (by first | omega | (dsimp only; omega))⟩ dL_act_180
    · refine lv_seti (y := iI 4) (congrArg iI zc_2) ?_
      refine lv_tableIn (off := 147) (tgt := 173) hx hb dL_act_26 (by decide) (by decide) (by decide) (by decide) ?_
      refine lv_aload_n hx hb dL_act_173 rfl (lv_at hl 2 rfl) ?_
      refine lv_iload_n hx hb dL_act_174 rfl (lv_at hl 1 rfl) ?_
      refine lv_iconst (v := iI 4) hx hb dL_act_175 (by decide) ?_
      refine y_rem hx hb (a := (xx / 16)) (b := 4) (by omega) (by omega) dL_act_176 ?_
      have B := bd_swap (a := []) (b := [(na, .inl (k 0, 4, .inl (fun i9 : Nat => iI (nf i9))))]) (d := tl) (bd_to rfl B)
      refine k_W (rest := []) (wc := ([] ++ tl)) (wr := [(na, .inl (k 0, 4, .inl (fun i9 : Nat => iI (nf i9))))]) (fz_spells l dC dI k hl0 T K qa cp tl ((xx / 16) % 4) hPS hQ (by omega)) B mW_L_spells mw_498 hl ⟨Nat.le_of_ble_eq_true rfl, Nat.le_of_ble_eq_true rfl⟩ (Nat.le_of_ble_eq_true rfl) rfl dL_act_177 ⟨by dsimp only; omega, by dsimp only; omega⟩ (fun r w gc gs H locs hp B => ?_)
      obtain ⟨tl2_28, z_29, rfl, hw9, rfl, rfl⟩ := hp
      rw [hw9] at B; clear hw9
      have B := bd_to (ws' := ([(na, .inl (k 0, 4, .inl (fun i9 : Nat => iI (nf i9))))] ++ tl2_28)) rfl B
      have hPS : PS dI k ((z_spells T K ((xx / 16) % 4)).1) ((z_spells T K ((xx / 16) % 4)).2.1) qa cp tl2_28 := z_29
      have hac : acZ T K xx = z_spells T K ((xx / 16) % 4) := by (try rw [hw1]); unfold acZ; repeat (first | rw [if_pos (by omega)] | rw [if_neg (by omega)])
      have hPS : PS dI k ((acZ T K xx).1) ((acZ T K xx).2.1) qa cp tl2_28 := by rw [hac]; exact hPS
      refine W.widen (k := ((cp - cp) + 13)) (n := ((12 * (cp - cp)) + 116)) (by omega) (by omega) ?_
      have e_30 : ((acZ T K xx).2.2) = ((z_spells T K ((xx / 16) % 4)).2.2) := (by rw [hac])
      skip
      exact k_iret B hr (⟨cp, tl2_28, hPS, (by omega), (by rw [e_30]), rfl, rfl, rfl⟩) ⟨(by first | omega | (dsimp only; omega)), (by first | omega | (dsimp only; omega))⟩ ⟨(by first | omega | (dsimp only; omega)), (by first | omega | (dsimp only; omega))⟩ dL_act_180
    · refine lv_seti (y := iI 5) (congrArg iI zc_2) ?_
      refine lv_tableIn (off := 147) (tgt := 173) hx hb dL_act_26 (by decide) (by decide) (by decide) (by decide) ?_
      refine lv_aload_n hx hb dL_act_173 rfl (lv_at hl 2 rfl) ?_
      refine lv_iload_n hx hb dL_act_174 rfl (lv_at hl 1 rfl) ?_
      refine lv_iconst (v := iI 4) hx hb dL_act_175 (by decide) ?_
      refine y_rem hx hb (a := (xx / 16)) (b := 4) (by omega) (by omega) dL_act_176 ?_
      have B := bd_swap (a := []) (b := [(na, .inl (k 0, 4, .inl (fun i9 : Nat => iI (nf i9))))]) (d := tl) (bd_to rfl B)
      refine k_W (rest := []) (wc := ([] ++ tl)) (wr := [(na, .inl (k 0, 4, .inl (fun i9 : Nat => iI (nf i9))))]) (fz_spells l dC dI k hl0 T K qa cp tl ((xx / 16) % 4) hPS hQ (by omega)) B mW_L_spells mw_498 hl ⟨Nat.le_of_ble_eq_true rfl, Nat.le_of_ble_eq_true rfl⟩ (Nat.le_of_ble_eq_true rfl) rfl dL_act_177 ⟨by dsimp only; omega, by dsimp only; omega⟩ (fun r w gc gs H locs hp B => ?_)
      obtain ⟨tl2_31, z_32, rfl, hw9, rfl, rfl⟩ := hp
      rw [hw9] at B; clear hw9
      have B := bd_to (ws' := ([(na, .inl (k 0, 4, .inl (fun i9 : Nat => iI (nf i9))))] ++ tl2_31)) rfl B
      have hPS : PS dI k ((z_spells T K ((xx / 16) % 4)).1) ((z_spells T K ((xx / 16) % 4)).2.1) qa cp tl2_31 := z_32
      have hac : acZ T K xx = z_spells T K ((xx / 16) % 4) := by (try rw [hw1]); unfold acZ; repeat (first | rw [if_pos (by omega)] | rw [if_neg (by omega)])
      have hPS : PS dI k ((acZ T K xx).1) ((acZ T K xx).2.1) qa cp tl2_31 := by rw [hac]; exact hPS
      refine W.widen (k := ((cp - cp) + 13)) (n := ((12 * (cp - cp)) + 116)) (by omega) (by omega) ?_
      have e_33 : ((acZ T K xx).2.2) = ((z_spells T K ((xx / 16) % 4)).2.2) := (by rw [hac])
      skip
      exact k_iret B hr (⟨cp, tl2_31, hPS, (by omega), (by rw [e_33]), rfl, rfl, rfl⟩) ⟨(by first | omega | (dsimp only; omega)), (by first | omega | (dsimp only; omega))⟩ ⟨(by first | omega | (dsimp only; omega)), (by first | omega | (dsimp only; omega))⟩ dL_act_180
    · refine lv_seti (y := iI 6) (congrArg iI zc_2) ?_
      refine lv_tableIn (off := 155) (tgt := 181) hx hb dL_act_26 (by decide) (by decide) (by decide) (by decide) ?_
      refine lv_aload_n hx hb dL_act_181 rfl (lv_at hl 2 rfl) ?_
      refine lv_iload hx hb dL_act_182 (lv_at hl 0 rfl) ?_
      refine lv_aload_n hx hb dL_act_184 rfl (lv_at hl 3 rfl) ?_
      refine lv_iconst (v := iI 0) hx hb dL_act_185 (by decide) ?_
      refine x_iald' (f := nf) (z := 0) B 0 rfl (by omega) dL_act_186 ?_
      refine lv_seti (y := iI (T 0 0 0 0)) (congrArg iI (show nf 0 = T 0 0 0 0 from hn9.1)) ?_
      refine lv_if_ne (tgt := 194) hx hb dL_act_187 (by decide) (fun c_34 => ?_) (fun c_34 => ?_)
      · have zc_34 : (T 0 0 0 0) ≠ 0 := jne (a := (T 0 0 0 0)) (b := 0) (by omega) (by omega) c_34
        refine lv_aload_n hx hb dL_act_194 rfl (lv_at hl 2 rfl) ?_
        refine lv_iload hx hb dL_act_195 (lv_at hl 0 rfl) ?_
        have z_35 : -2000000001 ≤ v_count T w1 ∧ v_count T w1 ≤ 12 := vcount_in hQ.1
        have B := bd_swap (a := []) (b := [(na, .inl (k 0, 4, .inl (fun i9 : Nat => iI (nf i9))))]) (d := tl) (bd_to rfl B)
        refine k_W (rest := [.int (iI w1), .ref qa]) (wc := ([] ++ tl)) (wr := [(na, .inl (k 0, 4, .inl (fun i9 : Nat => iI (nf i9))))]) (f_count l dC dI k hl0 T K qa cp tl w1 hPS hQ (by omega)) B mW_L_count mw_1266 hl ⟨Nat.le_of_ble_eq_true rfl, Nat.le_of_ble_eq_true rfl⟩ (Nat.le_of_ble_eq_true rfl) rfl dL_act_197 ⟨by dsimp only; omega, by dsimp only; omega⟩ (fun r w gc gs H locs hp B => ?_)
        obtain ⟨cp2_36, tl2_37, z_38, z_39, rfl, hw9, rfl, rfl⟩ := hp
        rw [hw9] at B; clear hw9
        have B := bd_to (ws' := ([(na, .inl (k 0, 4, .inl (fun i9 : Nat => iI (nf i9))))] ++ tl2_37)) rfl B
        have hPS : PS dI k T K qa cp2_36 tl2_37 := z_38
        refine W.widen (k := ((cp2_36 - cp) + 1)) (n := ((12 * (cp2_36 - cp)) + 6)) (by omega) (by omega) ?_
        have B := bd_swap (a := []) (b := [(na, .inl (k 0, 4, .inl (fun i9 : Nat => iI (nf i9))))]) (d := tl2_37) (bd_to rfl B)
        refine k_W (rest := []) (wc := ([] ++ tl2_37)) (wr := [(na, .inl (k 0, 4, .inl (fun i9 : Nat => iI (nf i9))))]) (fz_words l dC dI k hl0 T K qa cp2_36 tl2_37 w1 (v_count T w1) z_38 hQ (by omega) (by omega)) B mW_L_words mw_777 hl ⟨Nat.le_of_ble_eq_true rfl, Nat.le_of_ble_eq_true rfl⟩ (Nat.le_of_ble_eq_true rfl) rfl dL_act_200 ⟨by dsimp only; omega, by dsimp only; omega⟩ (fun r w gc gs H locs hp B => ?_)
        obtain ⟨tl2_40, z_41, rfl, hw9, rfl, rfl⟩ := hp
        rw [hw9] at B; clear hw9
        have B := bd_to (ws' := ([(na, .inl (k 0, 4, .inl (fun i9 : Nat => iI (nf i9))))] ++ tl2_40)) rfl B
        have hPS : PS dI k ((z_words T K w1 (v_count T w1)).1) ((z_words T K w1 (v_count T w1)).2.1) qa cp2_36 tl2_40 := z_41
        have hac : acZ T K xx = z_words T K w1 (v_count T w1) := by (try rw [hw1]); unfold acZ; repeat (first | rw [if_pos (by omega)] | rw [if_neg (by omega)])
        have hPS : PS dI k ((acZ T K xx).1) ((acZ T K xx).2.1) qa cp2_36 tl2_40 := by rw [hac]; exact hPS
        refine W.widen (k := ((cp2_36 - cp) + 13)) (n := ((12 * (cp2_36 - cp)) + 116)) (by omega) (by omega) ?_
        have e_42 : ((acZ T K xx).2.2) = ((z_words T K w1 (v_count T w1)).2.2) := (by rw [hac])
        skip
        exact k_iret B hr (⟨cp2_36, tl2_40, hPS, z_39, (by rw [e_42]), rfl, rfl, rfl⟩) ⟨(by first | omega | (dsimp only; omega)), (by first | omega | (dsimp only; omega))⟩ ⟨(by first | omega | (dsimp only; omega)), (by first | omega | (dsimp only; omega))⟩ dL_act_203
      · have zc_34 : (T 0 0 0 0) = 0 := jeq (a := (T 0 0 0 0)) (b := 0) (by omega) (by omega) c_34
        refine lv_iconst (v := iI 0) hx hb dL_act_190 (by decide) ?_
        refine lv_goto (tgt := 200) hx hb dL_act_191 (by decide) ?_
        have B := bd_swap (a := []) (b := [(na, .inl (k 0, 4, .inl (fun i9 : Nat => iI (nf i9))))]) (d := tl) (bd_to rfl B)
        refine k_W (rest := []) (wc := ([] ++ tl)) (wr := [(na, .inl (k 0, 4, .inl (fun i9 : Nat => iI (nf i9))))]) (fz_words l dC dI k hl0 T K qa cp tl w1 0 hPS hQ (by omega) (by omega)) B mW_L_words mw_777 hl ⟨Nat.le_of_ble_eq_true rfl, Nat.le_of_ble_eq_true rfl⟩ (Nat.le_of_ble_eq_true rfl) rfl dL_act_200 ⟨by dsimp only; omega, by dsimp only; omega⟩ (fun r w gc gs H locs hp B => ?_)
        obtain ⟨tl2_43, z_44, rfl, hw9, rfl, rfl⟩ := hp
        rw [hw9] at B; clear hw9
        have B := bd_to (ws' := ([(na, .inl (k 0, 4, .inl (fun i9 : Nat => iI (nf i9))))] ++ tl2_43)) rfl B
        have hPS : PS dI k ((z_words T K w1 0).1) ((z_words T K w1 0).2.1) qa cp tl2_43 := z_44
        have hac : acZ T K xx = z_words T K w1 0 := by (try rw [hw1]); unfold acZ; repeat (first | rw [if_pos (by omega)] | rw [if_neg (by omega)])
        have hPS : PS dI k ((acZ T K xx).1) ((acZ T K xx).2.1) qa cp tl2_43 := by rw [hac]; exact hPS
        refine W.widen (k := ((cp - cp) + 13)) (n := ((12 * (cp - cp)) + 116)) (by omega) (by omega) ?_
        have e_45 : ((acZ T K xx).2.2) = ((z_words T K w1 0).2.2) := (by rw [hac])
        skip
        exact k_iret B hr (⟨cp, tl2_43, hPS, (by omega), (by rw [e_45]), rfl, rfl, rfl⟩) ⟨(by first | omega | (dsimp only; omega)), (by first | omega | (dsimp only; omega))⟩ ⟨(by first | omega | (dsimp only; omega)), (by first | omega | (dsimp only; omega))⟩ dL_act_203
    · refine lv_seti (y := iI 7) (congrArg iI zc_2) ?_
      refine lv_tableIn (off := 155) (tgt := 181) hx hb dL_act_26 (by decide) (by decide) (by decide) (by decide) ?_
      refine lv_aload_n hx hb dL_act_181 rfl (lv_at hl 2 rfl) ?_
      refine lv_iload hx hb dL_act_182 (lv_at hl 0 rfl) ?_
      refine lv_aload_n hx hb dL_act_184 rfl (lv_at hl 3 rfl) ?_
      refine lv_iconst (v := iI 0) hx hb dL_act_185 (by decide) ?_
      refine x_iald' (f := nf) (z := 0) B 0 rfl (by omega) dL_act_186 ?_
      refine lv_seti (y := iI (T 0 0 0 0)) (congrArg iI (show nf 0 = T 0 0 0 0 from hn9.1)) ?_
      refine lv_if_ne (tgt := 194) hx hb dL_act_187 (by decide) (fun c_46 => ?_) (fun c_46 => ?_)
      · have zc_46 : (T 0 0 0 0) ≠ 0 := jne (a := (T 0 0 0 0)) (b := 0) (by omega) (by omega) c_46
        refine lv_aload_n hx hb dL_act_194 rfl (lv_at hl 2 rfl) ?_
        refine lv_iload hx hb dL_act_195 (lv_at hl 0 rfl) ?_
        have z_47 : -2000000001 ≤ v_count T w1 ∧ v_count T w1 ≤ 12 := vcount_in hQ.1
        have B := bd_swap (a := []) (b := [(na, .inl (k 0, 4, .inl (fun i9 : Nat => iI (nf i9))))]) (d := tl) (bd_to rfl B)
        refine k_W (rest := [.int (iI w1), .ref qa]) (wc := ([] ++ tl)) (wr := [(na, .inl (k 0, 4, .inl (fun i9 : Nat => iI (nf i9))))]) (f_count l dC dI k hl0 T K qa cp tl w1 hPS hQ (by omega)) B mW_L_count mw_1266 hl ⟨Nat.le_of_ble_eq_true rfl, Nat.le_of_ble_eq_true rfl⟩ (Nat.le_of_ble_eq_true rfl) rfl dL_act_197 ⟨by dsimp only; omega, by dsimp only; omega⟩ (fun r w gc gs H locs hp B => ?_)
        obtain ⟨cp2_48, tl2_49, z_50, z_51, rfl, hw9, rfl, rfl⟩ := hp
        rw [hw9] at B; clear hw9
        have B := bd_to (ws' := ([(na, .inl (k 0, 4, .inl (fun i9 : Nat => iI (nf i9))))] ++ tl2_49)) rfl B
        have hPS : PS dI k T K qa cp2_48 tl2_49 := z_50
        refine W.widen (k := ((cp2_48 - cp) + 1)) (n := ((12 * (cp2_48 - cp)) + 6)) (by omega) (by omega) ?_
        have B := bd_swap (a := []) (b := [(na, .inl (k 0, 4, .inl (fun i9 : Nat => iI (nf i9))))]) (d := tl2_49) (bd_to rfl B)
        refine k_W (rest := []) (wc := ([] ++ tl2_49)) (wr := [(na, .inl (k 0, 4, .inl (fun i9 : Nat => iI (nf i9))))]) (fz_words l dC dI k hl0 T K qa cp2_48 tl2_49 w1 (v_count T w1) z_50 hQ (by omega) (by omega)) B mW_L_words mw_777 hl ⟨Nat.le_of_ble_eq_true rfl, Nat.le_of_ble_eq_true rfl⟩ (Nat.le_of_ble_eq_true rfl) rfl dL_act_200 ⟨by dsimp only; omega, by dsimp only; omega⟩ (fun r w gc gs H locs hp B => ?_)
        obtain ⟨tl2_52, z_53, rfl, hw9, rfl, rfl⟩ := hp
        rw [hw9] at B; clear hw9
        have B := bd_to (ws' := ([(na, .inl (k 0, 4, .inl (fun i9 : Nat => iI (nf i9))))] ++ tl2_52)) rfl B
        have hPS : PS dI k ((z_words T K w1 (v_count T w1)).1) ((z_words T K w1 (v_count T w1)).2.1) qa cp2_48 tl2_52 := z_53
        have hac : acZ T K xx = z_words T K w1 (v_count T w1) := by (try rw [hw1]); unfold acZ; repeat (first | rw [if_pos (by omega)] | rw [if_neg (by omega)])
        have hPS : PS dI k ((acZ T K xx).1) ((acZ T K xx).2.1) qa cp2_48 tl2_52 := by rw [hac]; exact hPS
        refine W.widen (k := ((cp2_48 - cp) + 13)) (n := ((12 * (cp2_48 - cp)) + 116)) (by omega) (by omega) ?_
        have e_54 : ((acZ T K xx).2.2) = ((z_words T K w1 (v_count T w1)).2.2) := (by rw [hac])
        skip
        exact k_iret B hr (⟨cp2_48, tl2_52, hPS, z_51, (by rw [e_54]), rfl, rfl, rfl⟩) ⟨(by first | omega | (dsimp only; omega)), (by first | omega | (dsimp only; omega))⟩ ⟨(by first | omega | (dsimp only; omega)), (by first | omega | (dsimp only; omega))⟩ dL_act_203
      · have zc_46 : (T 0 0 0 0) = 0 := jeq (a := (T 0 0 0 0)) (b := 0) (by omega) (by omega) c_46
        refine lv_iconst (v := iI 0) hx hb dL_act_190 (by decide) ?_
        refine lv_goto (tgt := 200) hx hb dL_act_191 (by decide) ?_
        have B := bd_swap (a := []) (b := [(na, .inl (k 0, 4, .inl (fun i9 : Nat => iI (nf i9))))]) (d := tl) (bd_to rfl B)
        refine k_W (rest := []) (wc := ([] ++ tl)) (wr := [(na, .inl (k 0, 4, .inl (fun i9 : Nat => iI (nf i9))))]) (fz_words l dC dI k hl0 T K qa cp tl w1 0 hPS hQ (by omega) (by omega)) B mW_L_words mw_777 hl ⟨Nat.le_of_ble_eq_true rfl, Nat.le_of_ble_eq_true rfl⟩ (Nat.le_of_ble_eq_true rfl) rfl dL_act_200 ⟨by dsimp only; omega, by dsimp only; omega⟩ (fun r w gc gs H locs hp B => ?_)
        obtain ⟨tl2_55, z_56, rfl, hw9, rfl, rfl⟩ := hp
        rw [hw9] at B; clear hw9
        have B := bd_to (ws' := ([(na, .inl (k 0, 4, .inl (fun i9 : Nat => iI (nf i9))))] ++ tl2_55)) rfl B
        have hPS : PS dI k ((z_words T K w1 0).1) ((z_words T K w1 0).2.1) qa cp tl2_55 := z_56
        have hac : acZ T K xx = z_words T K w1 0 := by (try rw [hw1]); unfold acZ; repeat (first | rw [if_pos (by omega)] | rw [if_neg (by omega)])
        have hPS : PS dI k ((acZ T K xx).1) ((acZ T K xx).2.1) qa cp tl2_55 := by rw [hac]; exact hPS
        refine W.widen (k := ((cp - cp) + 13)) (n := ((12 * (cp - cp)) + 116)) (by omega) (by omega) ?_
        have e_57 : ((acZ T K xx).2.2) = ((z_words T K w1 0).2.2) := (by rw [hac])
        skip
        exact k_iret B hr (⟨cp, tl2_55, hPS, (by omega), (by rw [e_57]), rfl, rfl, rfl⟩) ⟨(by first | omega | (dsimp only; omega)), (by first | omega | (dsimp only; omega))⟩ ⟨(by first | omega | (dsimp only; omega)), (by first | omega | (dsimp only; omega))⟩ dL_act_203
    · refine lv_seti (y := iI 8) (congrArg iI zc_2) ?_
      refine lv_tableIn (off := 155) (tgt := 181) hx hb dL_act_26 (by decide) (by decide) (by decide) (by decide) ?_
      refine lv_aload_n hx hb dL_act_181 rfl (lv_at hl 2 rfl) ?_
      refine lv_iload hx hb dL_act_182 (lv_at hl 0 rfl) ?_
      refine lv_aload_n hx hb dL_act_184 rfl (lv_at hl 3 rfl) ?_
      refine lv_iconst (v := iI 0) hx hb dL_act_185 (by decide) ?_
      refine x_iald' (f := nf) (z := 0) B 0 rfl (by omega) dL_act_186 ?_
      refine lv_seti (y := iI (T 0 0 0 0)) (congrArg iI (show nf 0 = T 0 0 0 0 from hn9.1)) ?_
      refine lv_if_ne (tgt := 194) hx hb dL_act_187 (by decide) (fun c_58 => ?_) (fun c_58 => ?_)
      · have zc_58 : (T 0 0 0 0) ≠ 0 := jne (a := (T 0 0 0 0)) (b := 0) (by omega) (by omega) c_58
        refine lv_aload_n hx hb dL_act_194 rfl (lv_at hl 2 rfl) ?_
        refine lv_iload hx hb dL_act_195 (lv_at hl 0 rfl) ?_
        have z_59 : -2000000001 ≤ v_count T w1 ∧ v_count T w1 ≤ 12 := vcount_in hQ.1
        have B := bd_swap (a := []) (b := [(na, .inl (k 0, 4, .inl (fun i9 : Nat => iI (nf i9))))]) (d := tl) (bd_to rfl B)
        refine k_W (rest := [.int (iI w1), .ref qa]) (wc := ([] ++ tl)) (wr := [(na, .inl (k 0, 4, .inl (fun i9 : Nat => iI (nf i9))))]) (f_count l dC dI k hl0 T K qa cp tl w1 hPS hQ (by omega)) B mW_L_count mw_1266 hl ⟨Nat.le_of_ble_eq_true rfl, Nat.le_of_ble_eq_true rfl⟩ (Nat.le_of_ble_eq_true rfl) rfl dL_act_197 ⟨by dsimp only; omega, by dsimp only; omega⟩ (fun r w gc gs H locs hp B => ?_)
        obtain ⟨cp2_60, tl2_61, z_62, z_63, rfl, hw9, rfl, rfl⟩ := hp
        rw [hw9] at B; clear hw9
        have B := bd_to (ws' := ([(na, .inl (k 0, 4, .inl (fun i9 : Nat => iI (nf i9))))] ++ tl2_61)) rfl B
        have hPS : PS dI k T K qa cp2_60 tl2_61 := z_62
        refine W.widen (k := ((cp2_60 - cp) + 1)) (n := ((12 * (cp2_60 - cp)) + 6)) (by omega) (by omega) ?_
        have B := bd_swap (a := []) (b := [(na, .inl (k 0, 4, .inl (fun i9 : Nat => iI (nf i9))))]) (d := tl2_61) (bd_to rfl B)
        refine k_W (rest := []) (wc := ([] ++ tl2_61)) (wr := [(na, .inl (k 0, 4, .inl (fun i9 : Nat => iI (nf i9))))]) (fz_words l dC dI k hl0 T K qa cp2_60 tl2_61 w1 (v_count T w1) z_62 hQ (by omega) (by omega)) B mW_L_words mw_777 hl ⟨Nat.le_of_ble_eq_true rfl, Nat.le_of_ble_eq_true rfl⟩ (Nat.le_of_ble_eq_true rfl) rfl dL_act_200 ⟨by dsimp only; omega, by dsimp only; omega⟩ (fun r w gc gs H locs hp B => ?_)
        obtain ⟨tl2_64, z_65, rfl, hw9, rfl, rfl⟩ := hp
        rw [hw9] at B; clear hw9
        have B := bd_to (ws' := ([(na, .inl (k 0, 4, .inl (fun i9 : Nat => iI (nf i9))))] ++ tl2_64)) rfl B
        have hPS : PS dI k ((z_words T K w1 (v_count T w1)).1) ((z_words T K w1 (v_count T w1)).2.1) qa cp2_60 tl2_64 := z_65
        have hac : acZ T K xx = z_words T K w1 (v_count T w1) := by (try rw [hw1]); unfold acZ; repeat (first | rw [if_pos (by omega)] | rw [if_neg (by omega)])
        have hPS : PS dI k ((acZ T K xx).1) ((acZ T K xx).2.1) qa cp2_60 tl2_64 := by rw [hac]; exact hPS
        refine W.widen (k := ((cp2_60 - cp) + 13)) (n := ((12 * (cp2_60 - cp)) + 116)) (by omega) (by omega) ?_
        have e_66 : ((acZ T K xx).2.2) = ((z_words T K w1 (v_count T w1)).2.2) := (by rw [hac])
        skip
        exact k_iret B hr (⟨cp2_60, tl2_64, hPS, z_63, (by rw [e_66]), rfl, rfl, rfl⟩) ⟨(by first | omega | (dsimp only; omega)), (by first | omega | (dsimp only; omega))⟩ ⟨(by first | omega | (dsimp only; omega)), (by first | omega | (dsimp only; omega))⟩ dL_act_203
      · have zc_58 : (T 0 0 0 0) = 0 := jeq (a := (T 0 0 0 0)) (b := 0) (by omega) (by omega) c_58
        refine lv_iconst (v := iI 0) hx hb dL_act_190 (by decide) ?_
        refine lv_goto (tgt := 200) hx hb dL_act_191 (by decide) ?_
        have B := bd_swap (a := []) (b := [(na, .inl (k 0, 4, .inl (fun i9 : Nat => iI (nf i9))))]) (d := tl) (bd_to rfl B)
        refine k_W (rest := []) (wc := ([] ++ tl)) (wr := [(na, .inl (k 0, 4, .inl (fun i9 : Nat => iI (nf i9))))]) (fz_words l dC dI k hl0 T K qa cp tl w1 0 hPS hQ (by omega) (by omega)) B mW_L_words mw_777 hl ⟨Nat.le_of_ble_eq_true rfl, Nat.le_of_ble_eq_true rfl⟩ (Nat.le_of_ble_eq_true rfl) rfl dL_act_200 ⟨by dsimp only; omega, by dsimp only; omega⟩ (fun r w gc gs H locs hp B => ?_)
        obtain ⟨tl2_67, z_68, rfl, hw9, rfl, rfl⟩ := hp
        rw [hw9] at B; clear hw9
        have B := bd_to (ws' := ([(na, .inl (k 0, 4, .inl (fun i9 : Nat => iI (nf i9))))] ++ tl2_67)) rfl B
        have hPS : PS dI k ((z_words T K w1 0).1) ((z_words T K w1 0).2.1) qa cp tl2_67 := z_68
        have hac : acZ T K xx = z_words T K w1 0 := by (try rw [hw1]); unfold acZ; repeat (first | rw [if_pos (by omega)] | rw [if_neg (by omega)])
        have hPS : PS dI k ((acZ T K xx).1) ((acZ T K xx).2.1) qa cp tl2_67 := by rw [hac]; exact hPS
        refine W.widen (k := ((cp - cp) + 13)) (n := ((12 * (cp - cp)) + 116)) (by omega) (by omega) ?_
        have e_69 : ((acZ T K xx).2.2) = ((z_words T K w1 0).2.2) := (by rw [hac])
        skip
        exact k_iret B hr (⟨cp, tl2_67, hPS, (by omega), (by rw [e_69]), rfl, rfl, rfl⟩) ⟨(by first | omega | (dsimp only; omega)), (by first | omega | (dsimp only; omega))⟩ ⟨(by first | omega | (dsimp only; omega)), (by first | omega | (dsimp only; omega))⟩ dL_act_203
    · refine lv_seti (y := iI 9) (congrArg iI zc_2) ?_
      refine lv_tableIn (off := 178) (tgt := 204) hx hb dL_act_26 (by decide) (by decide) (by decide) (by decide) ?_
      refine lv_aload_n hx hb dL_act_204 rfl (lv_at hl 2 rfl) ?_
      refine lv_iload hx hb dL_act_205 (lv_at hl 0 rfl) ?_
      refine lv_iconst (v := iI 0) hx hb dL_act_207 (by decide) ?_
      refine lv_iload_n hx hb dL_act_208 rfl (lv_at hl 1 rfl) ?_
      refine lv_bipush (v := iI 17) hx hb dL_act_209 (by decide) ?_
      refine y_div hx hb (a := (xx / 16)) (b := 17) (by omega) (by omega) dL_act_211 ?_
      refine lv_bipush (v := iI 6) hx hb dL_act_212 (by decide) ?_
      refine y_rem hx hb (a := ((xx / 16) / 17)) (b := 6) (by omega) (by omega) dL_act_214 ?_
      have B := bd_swap (a := []) (b := [(na, .inl (k 0, 4, .inl (fun i9 : Nat => iI (nf i9))))]) (d := tl) (bd_to rfl B)
      refine k_W (rest := []) (wc := ([] ++ tl)) (wr := [(na, .inl (k 0, 4, .inl (fun i9 : Nat => iI (nf i9))))]) (fz_refers l dC dI k hl0 T K qa cp tl w1 0 (((xx / 16) / 17) % 6) hPS hQ (by omega) (by omega) (by omega)) B mW_L_refers mw_1090 hl ⟨Nat.le_of_ble_eq_true rfl, Nat.le_of_ble_eq_true rfl⟩ (Nat.le_of_ble_eq_true rfl) rfl dL_act_215 ⟨by dsimp only; omega, by dsimp only; omega⟩ (fun r w gc gs H locs hp B => ?_)
      obtain ⟨tl2_70, z_71, rfl, hw9, rfl, rfl⟩ := hp
      rw [hw9] at B; clear hw9
      have B := bd_to (ws' := ([(na, .inl (k 0, 4, .inl (fun i9 : Nat => iI (nf i9))))] ++ tl2_70)) rfl B
      have hPS : PS dI k ((z_refers T K w1 0 (((xx / 16) / 17) % 6)).1) ((z_refers T K w1 0 (((xx / 16) / 17) % 6)).2.1) qa cp tl2_70 := z_71
      have hac : acZ T K xx = z_refers T K w1 0 (((xx / 16) / 17) % 6) := by (try rw [hw1]); unfold acZ; repeat (first | rw [if_pos (by omega)] | rw [if_neg (by omega)])
      have hPS : PS dI k ((acZ T K xx).1) ((acZ T K xx).2.1) qa cp tl2_70 := by rw [hac]; exact hPS
      refine W.widen (k := ((cp - cp) + 13)) (n := ((12 * (cp - cp)) + 116)) (by omega) (by omega) ?_
      have e_72 : ((acZ T K xx).2.2) = ((z_refers T K w1 0 (((xx / 16) / 17) % 6)).2.2) := (by rw [hac])
      skip
      exact k_iret B hr (⟨cp, tl2_70, hPS, (by omega), (by rw [e_72]), rfl, rfl, rfl⟩) ⟨(by first | omega | (dsimp only; omega)), (by first | omega | (dsimp only; omega))⟩ ⟨(by first | omega | (dsimp only; omega)), (by first | omega | (dsimp only; omega))⟩ dL_act_218
    · refine lv_seti (y := iI 10) (congrArg iI zc_2) ?_
      refine lv_tableIn (off := 193) (tgt := 219) hx hb dL_act_26 (by decide) (by decide) (by decide) (by decide) ?_
      refine lv_aload_n hx hb dL_act_219 rfl (lv_at hl 2 rfl) ?_
      refine lv_iload_n hx hb dL_act_220 rfl (lv_at hl 1 rfl) ?_
      refine lv_iconst (v := iI 5) hx hb dL_act_221 (by decide) ?_
      refine y_rem hx hb (a := (xx / 16)) (b := 5) (by omega) (by omega) dL_act_222 ?_
      refine lv_iload_n hx hb dL_act_223 rfl (lv_at hl 1 rfl) ?_
      refine lv_iconst (v := iI 5) hx hb dL_act_224 (by decide) ?_
      refine y_div hx hb (a := (xx / 16)) (b := 5) (by omega) (by omega) dL_act_225 ?_
      refine lv_bipush (v := iI 7) hx hb dL_act_226 (by decide) ?_
      refine y_rem hx hb (a := ((xx / 16) / 5)) (b := 7) (by omega) (by omega) dL_act_228 ?_
      refine lv_iconst (v := iI 1) hx hb dL_act_229 (by decide) ?_
      refine y_sub hx hb dL_act_230 ?_
      have B := bd_swap (a := []) (b := [(na, .inl (k 0, 4, .inl (fun i9 : Nat => iI (nf i9))))]) (d := tl) (bd_to rfl B)
      refine k_W (rest := []) (wc := ([] ++ tl)) (wr := [(na, .inl (k 0, 4, .inl (fun i9 : Nat => iI (nf i9))))]) (fz_marks l dC dI k hl0 T K qa cp tl ((xx / 16) % 5) ((((xx / 16) / 5) % 7) - 1) hPS hQ (by omega) (by omega)) B mW_L_marks mw_595 hl ⟨Nat.le_of_ble_eq_true rfl, Nat.le_of_ble_eq_true rfl⟩ (Nat.le_of_ble_eq_true rfl) rfl dL_act_231 ⟨by dsimp only; omega, by dsimp only; omega⟩ (fun r w gc gs H locs hp B => ?_)
      obtain ⟨tl2_73, z_74, rfl, hw9, rfl, rfl⟩ := hp
      rw [hw9] at B; clear hw9
      have B := bd_to (ws' := ([(na, .inl (k 0, 4, .inl (fun i9 : Nat => iI (nf i9))))] ++ tl2_73)) rfl B
      have hPS : PS dI k ((z_marks T K ((xx / 16) % 5) ((((xx / 16) / 5) % 7) - 1)).1) ((z_marks T K ((xx / 16) % 5) ((((xx / 16) / 5) % 7) - 1)).2.1) qa cp tl2_73 := z_74
      have hac : acZ T K xx = z_marks T K ((xx / 16) % 5) ((((xx / 16) / 5) % 7) - 1) := by (try rw [hw1]); unfold acZ; repeat (first | rw [if_pos (by omega)] | rw [if_neg (by omega)])
      have hPS : PS dI k ((acZ T K xx).1) ((acZ T K xx).2.1) qa cp tl2_73 := by rw [hac]; exact hPS
      refine W.widen (k := ((cp - cp) + 13)) (n := ((12 * (cp - cp)) + 116)) (by omega) (by omega) ?_
      have e_75 : ((acZ T K xx).2.2) = ((z_marks T K ((xx / 16) % 5) ((((xx / 16) / 5) % 7) - 1)).2.2) := (by rw [hac])
      skip
      exact k_iret B hr (⟨cp, tl2_73, hPS, (by omega), (by rw [e_75]), rfl, rfl, rfl⟩) ⟨(by first | omega | (dsimp only; omega)), (by first | omega | (dsimp only; omega))⟩ ⟨(by first | omega | (dsimp only; omega)), (by first | omega | (dsimp only; omega))⟩ dL_act_234
    · refine lv_seti (y := iI 11) (congrArg iI zc_2) ?_
      refine lv_tableIn (off := 209) (tgt := 235) hx hb dL_act_26 (by decide) (by decide) (by decide) (by decide) ?_
      refine lv_iload_n hx hb dL_act_235 rfl (lv_at hl 1 rfl) ?_
      refine lv_iconst (v := iI 2) hx hb dL_act_236 (by decide) ?_
      refine y_rem hx hb (a := (xx / 16)) (b := 2) (by omega) (by omega) dL_act_237 ?_
      refine lv_if_ne (tgt := 261) hx hb dL_act_238 (by decide) (fun c_76 => ?_) (fun c_76 => ?_)
      · have zc_76 : ((xx / 16) % 2) ≠ 0 := jne (a := ((xx / 16) % 2)) (b := 0) (by omega) (by omega) c_76
        refine lv_aload_n hx hb dL_act_261 rfl (lv_at hl 2 rfl) ?_
        refine lv_iload hx hb dL_act_262 (lv_at hl 0 rfl) ?_
        refine lv_iload_n hx hb dL_act_264 rfl (lv_at hl 1 rfl) ?_
        refine lv_bipush (v := iI 17) hx hb dL_act_265 (by decide) ?_
        refine y_div hx hb (a := (xx / 16)) (b := 17) (by omega) (by omega) dL_act_267 ?_
        refine lv_bipush (v := iI 7) hx hb dL_act_268 (by decide) ?_
        refine y_rem hx hb (a := ((xx / 16) / 17)) (b := 7) (by omega) (by omega) dL_act_270 ?_
        refine lv_iload_n hx hb dL_act_271 rfl (lv_at hl 1 rfl) ?_
        refine lv_bipush (v := iI 119) hx hb dL_act_272 (by decide) ?_
        refine y_div hx hb (a := (xx / 16)) (b := 119) (by omega) (by omega) dL_act_274 ?_
        refine lv_iconst (v := iI 3) hx hb dL_act_275 (by decide) ?_
        refine y_rem hx hb (a := ((xx / 16) / 119)) (b := 3) (by omega) (by omega) dL_act_276 ?_
        have B := bd_swap (a := []) (b := [(na, .inl (k 0, 4, .inl (fun i9 : Nat => iI (nf i9))))]) (d := tl) (bd_to rfl B)
        refine k_W (rest := []) (wc := ([] ++ tl)) (wr := [(na, .inl (k 0, 4, .inl (fun i9 : Nat => iI (nf i9))))]) (fz_styles l dC dI k hl0 T K qa cp tl w1 (((xx / 16) / 17) % 7) (((xx / 16) / 119) % 3) hPS hQ (by omega) (by omega) (by omega)) B mW_L_styles mw_1204 hl ⟨Nat.le_of_ble_eq_true rfl, Nat.le_of_ble_eq_true rfl⟩ (Nat.le_of_ble_eq_true rfl) rfl dL_act_277 ⟨by dsimp only; omega, by dsimp only; omega⟩ (fun r w gc gs H locs hp B => ?_)
        obtain ⟨tl2_77, z_78, rfl, hw9, rfl, rfl⟩ := hp
        rw [hw9] at B; clear hw9
        have B := bd_to (ws' := ([(na, .inl (k 0, 4, .inl (fun i9 : Nat => iI (nf i9))))] ++ tl2_77)) rfl B
        have hPS : PS dI k ((z_styles T K w1 (((xx / 16) / 17) % 7) (((xx / 16) / 119) % 3)).1) ((z_styles T K w1 (((xx / 16) / 17) % 7) (((xx / 16) / 119) % 3)).2.1) qa cp tl2_77 := z_78
        have hac : acZ T K xx = z_styles T K w1 (((xx / 16) / 17) % 7) (((xx / 16) / 119) % 3) := by (try rw [hw1]); unfold acZ; repeat (first | rw [if_pos (by omega)] | rw [if_neg (by omega)])
        have hPS : PS dI k ((acZ T K xx).1) ((acZ T K xx).2.1) qa cp tl2_77 := by rw [hac]; exact hPS
        refine W.widen (k := ((cp - cp) + 13)) (n := ((12 * (cp - cp)) + 116)) (by omega) (by omega) ?_
        have e_79 : ((acZ T K xx).2.2) = ((z_styles T K w1 (((xx / 16) / 17) % 7) (((xx / 16) / 119) % 3)).2.2) := (by rw [hac])
        skip
        exact k_iret B hr (⟨cp, tl2_77, hPS, (by omega), (by rw [e_79]), rfl, rfl, rfl⟩) ⟨(by first | omega | (dsimp only; omega)), (by first | omega | (dsimp only; omega))⟩ ⟨(by first | omega | (dsimp only; omega)), (by first | omega | (dsimp only; omega))⟩ dL_act_280
      · have zc_76 : ((xx / 16) % 2) = 0 := jeq (a := ((xx / 16) % 2)) (b := 0) (by omega) (by omega) c_76
        refine lv_aload_n hx hb dL_act_241 rfl (lv_at hl 2 rfl) ?_
        refine lv_iload_n hx hb dL_act_242 rfl (lv_at hl 1 rfl) ?_
        refine lv_iconst (v := iI 2) hx hb dL_act_243 (by decide) ?_
        refine y_div hx hb (a := (xx / 16)) (b := 2) (by omega) (by omega) dL_act_244 ?_
        refine lv_iconst (v := iI 3) hx hb dL_act_245 (by decide) ?_
        refine y_rem hx hb (a := ((xx / 16) / 2)) (b := 3) (by omega) (by omega) dL_act_246 ?_
        refine lv_iconst (v := iI 1) hx hb dL_act_247 (by decide) ?_
        refine lv_iload_n hx hb dL_act_248 rfl (lv_at hl 1 rfl) ?_
        refine lv_bipush (v := iI 6) hx hb dL_act_249 (by decide) ?_
        refine y_div hx hb (a := (xx / 16)) (b := 6) (by omega) (by omega) dL_act_251 ?_
        refine lv_iconst (v := iI 5) hx hb dL_act_252 (by decide) ?_
        refine y_rem hx hb (a := ((xx / 16) / 6)) (b := 5) (by omega) (by omega) dL_act_253 ?_
        refine y_add hx hb dL_act_254 ?_
        have B := bd_swap (a := []) (b := [(na, .inl (k 0, 4, .inl (fun i9 : Nat => iI (nf i9))))]) (d := tl) (bd_to rfl B)
        refine k_W (rest := []) (wc := ([] ++ tl)) (wr := [(na, .inl (k 0, 4, .inl (fun i9 : Nat => iI (nf i9))))]) (fz_patterns l dC dI k hl0 T K qa cp tl (((xx / 16) / 2) % 3) (1 + (((xx / 16) / 6) % 5)) hPS hQ (by omega) (by omega)) B mW_L_patterns mw_628 hl ⟨Nat.le_of_ble_eq_true rfl, Nat.le_of_ble_eq_true rfl⟩ (Nat.le_of_ble_eq_true rfl) rfl dL_act_255 ⟨by dsimp only; omega, by dsimp only; omega⟩ (fun r w gc gs H locs hp B => ?_)
        obtain ⟨tl2_80, z_81, rfl, hw9, rfl, rfl⟩ := hp
        rw [hw9] at B; clear hw9
        have B := bd_to (ws' := ([(na, .inl (k 0, 4, .inl (fun i9 : Nat => iI (nf i9))))] ++ tl2_80)) rfl B
        have hPS : PS dI k ((z_patterns T K (((xx / 16) / 2) % 3) (1 + (((xx / 16) / 6) % 5))).1) ((z_patterns T K (((xx / 16) / 2) % 3) (1 + (((xx / 16) / 6) % 5))).2.1) qa cp tl2_80 := z_81
        have hac : acZ T K xx = z_patterns T K (((xx / 16) / 2) % 3) (1 + (((xx / 16) / 6) % 5)) := by (try rw [hw1]); unfold acZ; repeat (first | rw [if_pos (by omega)] | rw [if_neg (by omega)])
        have hPS : PS dI k ((acZ T K xx).1) ((acZ T K xx).2.1) qa cp tl2_80 := by rw [hac]; exact hPS
        refine W.widen (k := ((cp - cp) + 13)) (n := ((12 * (cp - cp)) + 116)) (by omega) (by omega) ?_
        refine lv_goto (tgt := 280) hx hb dL_act_258 (by decide) ?_
        have e_82 : ((acZ T K xx).2.2) = ((z_patterns T K (((xx / 16) / 2) % 3) (1 + (((xx / 16) / 6) % 5))).2.2) := (by rw [hac])
        skip
        exact k_iret B hr (⟨cp, tl2_80, hPS, (by omega), (by rw [e_82]), rfl, rfl, rfl⟩) ⟨(by first | omega | (dsimp only; omega)), (by first | omega | (dsimp only; omega))⟩ ⟨(by first | omega | (dsimp only; omega)), (by first | omega | (dsimp only; omega))⟩ dL_act_280
    · refine lv_seti (y := iI 12) (congrArg iI zc_2) ?_
      refine lv_tableIn (off := 255) (tgt := 281) hx hb dL_act_26 (by decide) (by decide) (by decide) (by decide) ?_
      refine lv_aload_n hx hb dL_act_281 rfl (lv_at hl 2 rfl) ?_
      refine lv_iload hx hb dL_act_282 (lv_at hl 0 rfl) ?_
      refine lv_iload_n hx hb dL_act_284 rfl (lv_at hl 1 rfl) ?_
      refine lv_bipush (v := iI 17) hx hb dL_act_285 (by decide) ?_
      refine y_div hx hb (a := (xx / 16)) (b := 17) (by omega) (by omega) dL_act_287 ?_
      refine lv_iconst (v := iI 4) hx hb dL_act_288 (by decide) ?_
      refine y_rem hx hb (a := ((xx / 16) / 17)) (b := 4) (by omega) (by omega) dL_act_289 ?_
      refine lv_iload_n hx hb dL_act_290 rfl (lv_at hl 1 rfl) ?_
      refine lv_bipush (v := iI 68) hx hb dL_act_291 (by decide) ?_
      refine y_div hx hb (a := (xx / 16)) (b := 68) (by omega) (by omega) dL_act_293 ?_
      refine lv_iconst (v := iI 3) hx hb dL_act_294 (by decide) ?_
      refine y_rem hx hb (a := ((xx / 16) / 68)) (b := 3) (by omega) (by omega) dL_act_295 ?_
      refine lv_iconst (v := iI 1) hx hb dL_act_296 (by decide) ?_
      refine lv_iload_n hx hb dL_act_297 rfl (lv_at hl 1 rfl) ?_
      refine lv_sipush (v := iI 204) hx hb dL_act_298 (by decide) ?_
      refine y_div hx hb (a := (xx / 16)) (b := 204) (by omega) (by omega) dL_act_301 ?_
      refine lv_iconst (v := iI 2) hx hb dL_act_302 (by decide) ?_
      refine y_rem hx hb (a := ((xx / 16) / 204)) (b := 2) (by omega) (by omega) dL_act_303 ?_
      refine y_add hx hb dL_act_304 ?_
      refine lv_iload_n hx hb dL_act_305 rfl (lv_at hl 1 rfl) ?_
      refine lv_sipush (v := iI 408) hx hb dL_act_306 (by decide) ?_
      refine y_div hx hb (a := (xx / 16)) (b := 408) (by omega) (by omega) dL_act_309 ?_
      refine lv_bipush (v := iI 20) hx hb dL_act_310 (by decide) ?_
      refine y_rem hx hb (a := ((xx / 16) / 408)) (b := 20) (by omega) (by omega) dL_act_312 ?_
      refine lv_bipush (v := iI 20) hx hb dL_act_313 (by decide) ?_
      refine lv_iload_n hx hb dL_act_315 rfl (lv_at hl 1 rfl) ?_
      refine lv_sipush (v := iI 816) hx hb dL_act_316 (by decide) ?_
      refine y_div hx hb (a := (xx / 16)) (b := 816) (by omega) (by omega) dL_act_319 ?_
      refine lv_bipush (v := iI 60) hx hb dL_act_320 (by decide) ?_
      refine y_rem hx hb (a := ((xx / 16) / 816)) (b := 60) (by omega) (by omega) dL_act_322 ?_
      refine y_add hx hb dL_act_323 ?_
      have B := bd_swap (a := []) (b := [(na, .inl (k 0, 4, .inl (fun i9 : Nat => iI (nf i9))))]) (d := tl) (bd_to rfl B)
      refine k_W (rest := []) (wc := ([] ++ tl)) (wr := [(na, .inl (k 0, 4, .inl (fun i9 : Nat => iI (nf i9))))]) (fz_cells l dC dI k hl0 T K qa cp tl w1 (((xx / 16) / 17) % 4) (((xx / 16) / 68) % 3) (1 + (((xx / 16) / 204) % 2)) (((xx / 16) / 408) % 20) (20 + (((xx / 16) / 816) % 60)) hPS hQ (by omega) (by omega) (by omega) (by omega) (by omega) (by omega)) B mW_L_cells mw_1219 hl ⟨Nat.le_of_ble_eq_true rfl, Nat.le_of_ble_eq_true rfl⟩ (Nat.le_of_ble_eq_true rfl) rfl dL_act_324 ⟨by dsimp only; omega, by dsimp only; omega⟩ (fun r w gc gs H locs hp B => ?_)
      obtain ⟨tl2_83, z_84, rfl, hw9, rfl, rfl⟩ := hp
      rw [hw9] at B; clear hw9
      have B := bd_to (ws' := ([(na, .inl (k 0, 4, .inl (fun i9 : Nat => iI (nf i9))))] ++ tl2_83)) rfl B
      have hPS : PS dI k ((z_cells T K w1 (((xx / 16) / 17) % 4) (((xx / 16) / 68) % 3) (1 + (((xx / 16) / 204) % 2)) (((xx / 16) / 408) % 20) (20 + (((xx / 16) / 816) % 60))).1) ((z_cells T K w1 (((xx / 16) / 17) % 4) (((xx / 16) / 68) % 3) (1 + (((xx / 16) / 204) % 2)) (((xx / 16) / 408) % 20) (20 + (((xx / 16) / 816) % 60))).2.1) qa cp tl2_83 := z_84
      have hac : acZ T K xx = z_cells T K w1 (((xx / 16) / 17) % 4) (((xx / 16) / 68) % 3) (1 + (((xx / 16) / 204) % 2)) (((xx / 16) / 408) % 20) (20 + (((xx / 16) / 816) % 60)) := by (try rw [hw1]); unfold acZ; repeat (first | rw [if_pos (by omega)] | rw [if_neg (by omega)])
      have hPS : PS dI k ((acZ T K xx).1) ((acZ T K xx).2.1) qa cp tl2_83 := by rw [hac]; exact hPS
      refine W.widen (k := ((cp - cp) + 13)) (n := ((12 * (cp - cp)) + 116)) (by omega) (by omega) ?_
      have e_85 : ((acZ T K xx).2.2) = ((z_cells T K w1 (((xx / 16) / 17) % 4) (((xx / 16) / 68) % 3) (1 + (((xx / 16) / 204) % 2)) (((xx / 16) / 408) % 20) (20 + (((xx / 16) / 816) % 60))).2.2) := (by rw [hac])
      skip
      exact k_iret B hr (⟨cp, tl2_83, hPS, (by omega), (by rw [e_85]), rfl, rfl, rfl⟩) ⟨(by first | omega | (dsimp only; omega)), (by first | omega | (dsimp only; omega))⟩ ⟨(by first | omega | (dsimp only; omega)), (by first | omega | (dsimp only; omega))⟩ dL_act_327
    · refine lv_seti (y := iI 13) (congrArg iI zc_2) ?_
      refine lv_tableIn (off := 302) (tgt := 328) hx hb dL_act_26 (by decide) (by decide) (by decide) (by decide) ?_
      refine lv_iload_n hx hb dL_act_328 rfl (lv_at hl 1 rfl) ?_
      refine lv_iconst (v := iI 3) hx hb dL_act_329 (by decide) ?_
      refine y_rem hx hb (a := (xx / 16)) (b := 3) (by omega) (by omega) dL_act_330 ?_
      refine lv_if_ne (tgt := 355) hx hb dL_act_331 (by decide) (fun c_86 => ?_) (fun c_86 => ?_)
      · have zc_86 : ((xx / 16) % 3) ≠ 0 := jne (a := ((xx / 16) % 3)) (b := 0) (by omega) (by omega) c_86
        refine lv_aload_n hx hb dL_act_355 rfl (lv_at hl 2 rfl) ?_
        refine lv_iload hx hb dL_act_356 (lv_at hl 0 rfl) ?_
        refine lv_iconst (v := iI 0) hx hb dL_act_358 (by decide) ?_
        have B := bd_swap (a := []) (b := [(na, .inl (k 0, 4, .inl (fun i9 : Nat => iI (nf i9))))]) (d := tl) (bd_to rfl B)
        refine k_W (rest := []) (wc := ([] ++ tl)) (wr := [(na, .inl (k 0, 4, .inl (fun i9 : Nat => iI (nf i9))))]) (fz_takes l dC dI k hl0 T K qa cp tl w1 0 hPS hQ (by omega) (by omega)) B mW_L_takes mw_1101 hl ⟨Nat.le_of_ble_eq_true rfl, Nat.le_of_ble_eq_true rfl⟩ (Nat.le_of_ble_eq_true rfl) rfl dL_act_359 ⟨by dsimp only; omega, by dsimp only; omega⟩ (fun r w gc gs H locs hp B => ?_)
        obtain ⟨tl2_87, z_88, rfl, hw9, rfl, rfl⟩ := hp
        rw [hw9] at B; clear hw9
        have B := bd_to (ws' := ([(na, .inl (k 0, 4, .inl (fun i9 : Nat => iI (nf i9))))] ++ tl2_87)) rfl B
        have hPS : PS dI k ((z_takes T K w1 0).1) ((z_takes T K w1 0).2.1) qa cp tl2_87 := z_88
        have hac : acZ T K xx = z_takes T K w1 0 := by (try rw [hw1]); unfold acZ; repeat (first | rw [if_pos (by omega)] | rw [if_neg (by omega)])
        have hPS : PS dI k ((acZ T K xx).1) ((acZ T K xx).2.1) qa cp tl2_87 := by rw [hac]; exact hPS
        refine W.widen (k := ((cp - cp) + 13)) (n := ((12 * (cp - cp)) + 116)) (by omega) (by omega) ?_
        have e_89 : ((acZ T K xx).2.2) = ((z_takes T K w1 0).2.2) := (by rw [hac])
        skip
        exact k_iret B hr (⟨cp, tl2_87, hPS, (by omega), (by rw [e_89]), rfl, rfl, rfl⟩) ⟨(by first | omega | (dsimp only; omega)), (by first | omega | (dsimp only; omega))⟩ ⟨(by first | omega | (dsimp only; omega)), (by first | omega | (dsimp only; omega))⟩ dL_act_362
      · have zc_86 : ((xx / 16) % 3) = 0 := jeq (a := ((xx / 16) % 3)) (b := 0) (by omega) (by omega) c_86
        refine lv_aload_n hx hb dL_act_334 rfl (lv_at hl 2 rfl) ?_
        refine lv_iload_n hx hb dL_act_335 rfl (lv_at hl 1 rfl) ?_
        refine lv_iconst (v := iI 3) hx hb dL_act_336 (by decide) ?_
        refine y_div hx hb (a := (xx / 16)) (b := 3) (by omega) (by omega) dL_act_337 ?_
        refine lv_iconst (v := iI 2) hx hb dL_act_338 (by decide) ?_
        refine y_rem hx hb (a := ((xx / 16) / 3)) (b := 2) (by omega) (by omega) dL_act_339 ?_
        refine lv_iconst (v := iI 1) hx hb dL_act_340 (by decide) ?_
        refine lv_iload_n hx hb dL_act_341 rfl (lv_at hl 1 rfl) ?_
        refine lv_bipush (v := iI 6) hx hb dL_act_342 (by decide) ?_
        refine y_div hx hb (a := (xx / 16)) (b := 6) (by omega) (by omega) dL_act_344 ?_
        refine lv_bipush (v := iI 12) hx hb dL_act_345 (by decide) ?_
        refine y_rem hx hb (a := ((xx / 16) / 6)) (b := 12) (by omega) (by omega) dL_act_347 ?_
        refine y_add hx hb dL_act_348 ?_
        have B := bd_swap (a := []) (b := [(na, .inl (k 0, 4, .inl (fun i9 : Nat => iI (nf i9))))]) (d := tl) (bd_to rfl B)
        refine k_W (rest := []) (wc := ([] ++ tl)) (wr := [(na, .inl (k 0, 4, .inl (fun i9 : Nat => iI (nf i9))))]) (fz_figures l dC dI k hl0 T K qa cp tl (((xx / 16) / 3) % 2) (1 + (((xx / 16) / 6) % 12)) hPS hQ (by omega) (by omega)) B mW_L_figures mw_1237 hl ⟨Nat.le_of_ble_eq_true rfl, Nat.le_of_ble_eq_true rfl⟩ (Nat.le_of_ble_eq_true rfl) rfl dL_act_349 ⟨by dsimp only; omega, by dsimp only; omega⟩ (fun r w gc gs H locs hp B => ?_)
        obtain ⟨tl2_90, z_91, rfl, hw9, rfl, rfl⟩ := hp
        rw [hw9] at B; clear hw9
        have B := bd_to (ws' := ([(na, .inl (k 0, 4, .inl (fun i9 : Nat => iI (nf i9))))] ++ tl2_90)) rfl B
        have hPS : PS dI k ((z_figures T K (((xx / 16) / 3) % 2) (1 + (((xx / 16) / 6) % 12))).1) ((z_figures T K (((xx / 16) / 3) % 2) (1 + (((xx / 16) / 6) % 12))).2.1) qa cp tl2_90 := z_91
        have hac : acZ T K xx = z_figures T K (((xx / 16) / 3) % 2) (1 + (((xx / 16) / 6) % 12)) := by (try rw [hw1]); unfold acZ; repeat (first | rw [if_pos (by omega)] | rw [if_neg (by omega)])
        have hPS : PS dI k ((acZ T K xx).1) ((acZ T K xx).2.1) qa cp tl2_90 := by rw [hac]; exact hPS
        refine W.widen (k := ((cp - cp) + 13)) (n := ((12 * (cp - cp)) + 116)) (by omega) (by omega) ?_
        refine lv_goto (tgt := 362) hx hb dL_act_352 (by decide) ?_
        have e_92 : ((acZ T K xx).2.2) = ((z_figures T K (((xx / 16) / 3) % 2) (1 + (((xx / 16) / 6) % 12))).2.2) := (by rw [hac])
        skip
        exact k_iret B hr (⟨cp, tl2_90, hPS, (by omega), (by rw [e_92]), rfl, rfl, rfl⟩) ⟨(by first | omega | (dsimp only; omega)), (by first | omega | (dsimp only; omega))⟩ ⟨(by first | omega | (dsimp only; omega)), (by first | omega | (dsimp only; omega))⟩ dL_act_362
    · refine lv_seti (y := iI 14) (congrArg iI zc_2) ?_
      refine lv_tableIn (off := 337) (tgt := 363) hx hb dL_act_26 (by decide) (by decide) (by decide) (by decide) ?_
      refine lv_iload_n hx hb dL_act_363 rfl (lv_at hl 1 rfl) ?_
      refine lv_iconst (v := iI 3) hx hb dL_act_364 (by decide) ?_
      refine y_rem hx hb (a := (xx / 16)) (b := 3) (by omega) (by omega) dL_act_365 ?_
      refine lv_if_ne (tgt := 395) hx hb dL_act_366 (by decide) (fun c_93 => ?_) (fun c_93 => ?_)
      · have zc_93 : ((xx / 16) % 3) ≠ 0 := jne (a := ((xx / 16) % 3)) (b := 0) (by omega) (by omega) c_93
        refine lv_aload_n hx hb dL_act_395 rfl (lv_at hl 2 rfl) ?_
        refine lv_iload_n hx hb dL_act_396 rfl (lv_at hl 1 rfl) ?_
        refine lv_iconst (v := iI 3) hx hb dL_act_397 (by decide) ?_
        refine y_div hx hb (a := (xx / 16)) (b := 3) (by omega) (by omega) dL_act_398 ?_
        refine lv_bipush (v := iI 8) hx hb dL_act_399 (by decide) ?_
        refine y_rem hx hb (a := ((xx / 16) / 3)) (b := 8) (by omega) (by omega) dL_act_401 ?_
        refine lv_iload_n hx hb dL_act_402 rfl (lv_at hl 1 rfl) ?_
        refine lv_bipush (v := iI 24) hx hb dL_act_403 (by decide) ?_
        refine y_div hx hb (a := (xx / 16)) (b := 24) (by omega) (by omega) dL_act_405 ?_
        refine lv_bipush (v := iI 10) hx hb dL_act_406 (by decide) ?_
        refine y_rem hx hb (a := ((xx / 16) / 24)) (b := 10) (by omega) (by omega) dL_act_408 ?_
        have B := bd_swap (a := []) (b := [(na, .inl (k 0, 4, .inl (fun i9 : Nat => iI (nf i9))))]) (d := tl) (bd_to rfl B)
        refine k_W (rest := []) (wc := ([] ++ tl)) (wr := [(na, .inl (k 0, 4, .inl (fun i9 : Nat => iI (nf i9))))]) (fz_keys l dC dI k hl0 T K qa cp tl (((xx / 16) / 3) % 8) (((xx / 16) / 24) % 10) hPS hQ (by omega) (by omega)) B mW_L_keys mw_1254 hl ⟨Nat.le_of_ble_eq_true rfl, Nat.le_of_ble_eq_true rfl⟩ (Nat.le_of_ble_eq_true rfl) rfl dL_act_409 ⟨by dsimp only; omega, by dsimp only; omega⟩ (fun r w gc gs H locs hp B => ?_)
        obtain ⟨tl2_94, z_95, rfl, hw9, rfl, rfl⟩ := hp
        rw [hw9] at B; clear hw9
        have B := bd_to (ws' := ([(na, .inl (k 0, 4, .inl (fun i9 : Nat => iI (nf i9))))] ++ tl2_94)) rfl B
        have hPS : PS dI k ((z_keys T K (((xx / 16) / 3) % 8) (((xx / 16) / 24) % 10)).1) ((z_keys T K (((xx / 16) / 3) % 8) (((xx / 16) / 24) % 10)).2.1) qa cp tl2_94 := z_95
        have hac : acZ T K xx = z_keys T K (((xx / 16) / 3) % 8) (((xx / 16) / 24) % 10) := by (try rw [hw1]); unfold acZ; repeat (first | rw [if_pos (by omega)] | rw [if_neg (by omega)])
        have hPS : PS dI k ((acZ T K xx).1) ((acZ T K xx).2.1) qa cp tl2_94 := by rw [hac]; exact hPS
        refine W.widen (k := ((cp - cp) + 13)) (n := ((12 * (cp - cp)) + 116)) (by omega) (by omega) ?_
        have e_96 : ((acZ T K xx).2.2) = ((z_keys T K (((xx / 16) / 3) % 8) (((xx / 16) / 24) % 10)).2.2) := (by rw [hac])
        skip
        exact k_iret B hr (⟨cp, tl2_94, hPS, (by omega), (by rw [e_96]), rfl, rfl, rfl⟩) ⟨(by first | omega | (dsimp only; omega)), (by first | omega | (dsimp only; omega))⟩ ⟨(by first | omega | (dsimp only; omega)), (by first | omega | (dsimp only; omega))⟩ dL_act_412
      · have zc_93 : ((xx / 16) % 3) = 0 := jeq (a := ((xx / 16) % 3)) (b := 0) (by omega) (by omega) c_93
        refine lv_aload_n hx hb dL_act_369 rfl (lv_at hl 2 rfl) ?_
        refine lv_bipush (v := iI 30) hx hb dL_act_370 (by decide) ?_
        refine lv_iload_n hx hb dL_act_372 rfl (lv_at hl 1 rfl) ?_
        refine lv_iconst (v := iI 3) hx hb dL_act_373 (by decide) ?_
        refine y_div hx hb (a := (xx / 16)) (b := 3) (by omega) (by omega) dL_act_374 ?_
        refine lv_bipush (v := iI 40) hx hb dL_act_375 (by decide) ?_
        refine y_rem hx hb (a := ((xx / 16) / 3)) (b := 40) (by omega) (by omega) dL_act_377 ?_
        refine y_add hx hb dL_act_378 ?_
        refine lv_bipush (v := iI 6) hx hb dL_act_379 (by decide) ?_
        refine lv_iload_n hx hb dL_act_381 rfl (lv_at hl 1 rfl) ?_
        refine lv_bipush (v := iI 120) hx hb dL_act_382 (by decide) ?_
        refine y_div hx hb (a := (xx / 16)) (b := 120) (by omega) (by omega) dL_act_384 ?_
        refine lv_bipush (v := iI 10) hx hb dL_act_385 (by decide) ?_
        refine y_rem hx hb (a := ((xx / 16) / 120)) (b := 10) (by omega) (by omega) dL_act_387 ?_
        refine y_add hx hb dL_act_388 ?_
        have B := bd_swap (a := []) (b := [(na, .inl (k 0, 4, .inl (fun i9 : Nat => iI (nf i9))))]) (d := tl) (bd_to rfl B)
        refine k_W (rest := []) (wc := ([] ++ tl)) (wr := [(na, .inl (k 0, 4, .inl (fun i9 : Nat => iI (nf i9))))]) (fz_papers l dC dI k hl0 T K qa cp tl (30 + (((xx / 16) / 3) % 40)) (6 + (((xx / 16) / 120) % 10)) hPS hQ (by omega) (by omega)) B mW_L_papers mw_1246 hl ⟨Nat.le_of_ble_eq_true rfl, Nat.le_of_ble_eq_true rfl⟩ (Nat.le_of_ble_eq_true rfl) rfl dL_act_389 ⟨by dsimp only; omega, by dsimp only; omega⟩ (fun r w gc gs H locs hp B => ?_)
        obtain ⟨tl2_97, z_98, rfl, hw9, rfl, rfl⟩ := hp
        rw [hw9] at B; clear hw9
        have B := bd_to (ws' := ([(na, .inl (k 0, 4, .inl (fun i9 : Nat => iI (nf i9))))] ++ tl2_97)) rfl B
        have hPS : PS dI k ((z_papers T K (30 + (((xx / 16) / 3) % 40)) (6 + (((xx / 16) / 120) % 10))).1) ((z_papers T K (30 + (((xx / 16) / 3) % 40)) (6 + (((xx / 16) / 120) % 10))).2.1) qa cp tl2_97 := z_98
        have hac : acZ T K xx = z_papers T K (30 + (((xx / 16) / 3) % 40)) (6 + (((xx / 16) / 120) % 10)) := by (try rw [hw1]); unfold acZ; repeat (first | rw [if_pos (by omega)] | rw [if_neg (by omega)])
        have hPS : PS dI k ((acZ T K xx).1) ((acZ T K xx).2.1) qa cp tl2_97 := by rw [hac]; exact hPS
        refine W.widen (k := ((cp - cp) + 13)) (n := ((12 * (cp - cp)) + 116)) (by omega) (by omega) ?_
        refine lv_goto (tgt := 412) hx hb dL_act_392 (by decide) ?_
        have e_99 : ((acZ T K xx).2.2) = ((z_papers T K (30 + (((xx / 16) / 3) % 40)) (6 + (((xx / 16) / 120) % 10))).2.2) := (by rw [hac])
        skip
        exact k_iret B hr (⟨cp, tl2_97, hPS, (by omega), (by rw [e_99]), rfl, rfl, rfl⟩) ⟨(by first | omega | (dsimp only; omega)), (by first | omega | (dsimp only; omega))⟩ ⟨(by first | omega | (dsimp only; omega)), (by first | omega | (dsimp only; omega))⟩ dL_act_412
    · refine lv_seti (y := iI 15) (congrArg iI zc_2) ?_
      refine lv_tableOut (tgt := 413) hx hb dL_act_26 (by decide) (by decide) ?_
      refine lv_iload_n hx hb dL_act_413 rfl (lv_at hl 1 rfl) ?_
      refine lv_iconst (v := iI 4) hx hb dL_act_414 (by decide) ?_
      refine y_rem hx hb (a := (xx / 16)) (b := 4) (by omega) (by omega) dL_act_415 ?_
      refine lv_if_ne (tgt := 426) hx hb dL_act_416 (by decide) (fun c_100 => ?_) (fun c_100 => ?_)
      · have zc_100 : ((xx / 16) % 4) ≠ 0 := jne (a := ((xx / 16) % 4)) (b := 0) (by omega) (by omega) c_100
        refine lv_aload_n hx hb dL_act_426 rfl (lv_at hl 2 rfl) ?_
        refine lv_iload hx hb dL_act_427 (lv_at hl 0 rfl) ?_
        refine lv_iload_n hx hb dL_act_429 rfl (lv_at hl 1 rfl) ?_
        refine lv_bipush (v := iI 17) hx hb dL_act_430 (by decide) ?_
        refine y_div hx hb (a := (xx / 16)) (b := 17) (by omega) (by omega) dL_act_432 ?_
        refine lv_iconst (v := iI 4) hx hb dL_act_433 (by decide) ?_
        refine y_rem hx hb (a := ((xx / 16) / 17)) (b := 4) (by omega) (by omega) dL_act_434 ?_
        refine lv_iload_n hx hb dL_act_435 rfl (lv_at hl 1 rfl) ?_
        refine lv_bipush (v := iI 119) hx hb dL_act_436 (by decide) ?_
        refine y_div hx hb (a := (xx / 16)) (b := 119) (by omega) (by omega) dL_act_438 ?_
        refine lv_iconst (v := iI 2) hx hb dL_act_439 (by decide) ?_
        refine y_rem hx hb (a := ((xx / 16) / 119)) (b := 2) (by omega) (by omega) dL_act_440 ?_
        have B := bd_swap (a := []) (b := [(na, .inl (k 0, 4, .inl (fun i9 : Nat => iI (nf i9))))]) (d := tl) (bd_to rfl B)
        refine k_W (rest := []) (wc := ([] ++ tl)) (wr := [(na, .inl (k 0, 4, .inl (fun i9 : Nat => iI (nf i9))))]) (fz_styles l dC dI k hl0 T K qa cp tl w1 (((xx / 16) / 17) % 4) (((xx / 16) / 119) % 2) hPS hQ (by omega) (by omega) (by omega)) B mW_L_styles mw_1204 hl ⟨Nat.le_of_ble_eq_true rfl, Nat.le_of_ble_eq_true rfl⟩ (Nat.le_of_ble_eq_true rfl) rfl dL_act_441 ⟨by dsimp only; omega, by dsimp only; omega⟩ (fun r w gc gs H locs hp B => ?_)
        obtain ⟨tl2_101, z_102, rfl, hw9, rfl, rfl⟩ := hp
        rw [hw9] at B; clear hw9
        have B := bd_to (ws' := ([(na, .inl (k 0, 4, .inl (fun i9 : Nat => iI (nf i9))))] ++ tl2_101)) rfl B
        have hPS : PS dI k ((z_styles T K w1 (((xx / 16) / 17) % 4) (((xx / 16) / 119) % 2)).1) ((z_styles T K w1 (((xx / 16) / 17) % 4) (((xx / 16) / 119) % 2)).2.1) qa cp tl2_101 := z_102
        have hac : acZ T K xx = z_styles T K w1 (((xx / 16) / 17) % 4) (((xx / 16) / 119) % 2) := by (try rw [hw1]); unfold acZ; repeat (first | rw [if_pos (by omega)] | rw [if_neg (by omega)])
        have hPS : PS dI k ((acZ T K xx).1) ((acZ T K xx).2.1) qa cp tl2_101 := by rw [hac]; exact hPS
        refine W.widen (k := ((cp - cp) + 13)) (n := ((12 * (cp - cp)) + 116)) (by omega) (by omega) ?_
        have e_103 : ((acZ T K xx).2.2) = ((z_styles T K w1 (((xx / 16) / 17) % 4) (((xx / 16) / 119) % 2)).2.2) := (by rw [hac])
        skip
        exact k_iret B hr (⟨cp, tl2_101, hPS, (by omega), (by rw [e_103]), rfl, rfl, rfl⟩) ⟨(by first | omega | (dsimp only; omega)), (by first | omega | (dsimp only; omega))⟩ ⟨(by first | omega | (dsimp only; omega)), (by first | omega | (dsimp only; omega))⟩ dL_act_444
      · have zc_100 : ((xx / 16) % 4) = 0 := jeq (a := ((xx / 16) % 4)) (b := 0) (by omega) (by omega) c_100
        refine lv_aload_n hx hb dL_act_419 rfl (lv_at hl 2 rfl) ?_
        have B := bd_swap (a := []) (b := [(na, .inl (k 0, 4, .inl (fun i9 : Nat => iI (nf i9))))]) (d := tl) (bd_to rfl B)
        obtain ⟨k_104, hk_104⟩ := pk_at (hs := []) (PS_go hPS).choose_spec
        refine k_V (rest := []) (wc := ([] ++ tl)) (wr := [(na, .inl (k 0, 4, .inl (fun i9 : Nat => iI (nf i9))))]) (a_unspell l dC dI k T K qa cp tl hPS hQ) B mV_X11_unspell mw_1863 hl (q0 := k_104) (ci := 11) hk_104 rfl rfl ⟨Nat.le_of_ble_eq_true rfl, Nat.le_of_ble_eq_true rfl⟩ (Nat.le_of_ble_eq_true rfl) rfl dL_act_420 ⟨by dsimp only; omega, by dsimp only; omega⟩ (fun r w gc gs H locs hp B => ?_)
        obtain ⟨tl2_105, z_106, rfl, hw9, rfl, rfl⟩ := hp
        rw [hw9] at B; clear hw9
        have B := bd_to (ws' := ([(na, .inl (k 0, 4, .inl (fun i9 : Nat => iI (nf i9))))] ++ tl2_105)) rfl B
        have hPS : PS dI k T (KKn 0 (K 1) (K 2)) qa cp tl2_105 := z_106
        have hac : acZ T K xx = (T, KKn 0 (K 1) (K 2), K 0 0) := by (try rw [hw1]); unfold acZ; repeat (first | rw [if_pos (by omega)] | rw [if_neg (by omega)])
        have hPS : PS dI k ((acZ T K xx).1) ((acZ T K xx).2.1) qa cp tl2_105 := by rw [hac]; exact hPS
        refine W.widen (k := ((cp - cp) + 13)) (n := ((12 * (cp - cp)) + 116)) (by omega) (by omega) ?_
        refine lv_goto (tgt := 444) hx hb dL_act_423 (by decide) ?_
        have e_107 : ((acZ T K xx).2.2) = (K 0 0) := (by rw [hac])
        skip
        exact k_iret B hr (⟨cp, tl2_105, hPS, (by omega), (by rw [e_107]), rfl, rfl, rfl⟩) ⟨(by first | omega | (dsimp only; omega)), (by first | omega | (dsimp only; omega))⟩ ⟨(by first | omega | (dsimp only; omega)), (by first | omega | (dsimp only; omega))⟩ dL_act_444
  refine lv_aload_n hx hb dL_act_5 rfl (lv_at hl 2 rfl) ?_
  refine lv_iconst (v := iI 0) hx hb dL_act_6 (by decide) ?_
  refine x_iald' (f := nf) (z := 0) B 0 rfl (by omega) dL_act_7 ?_
  refine lv_seti (y := iI (T 0 0 0 0)) (congrArg iI (show nf 0 = T 0 0 0 0 from hn9.1)) ?_
  refine lv_if_ne (tgt := 15) hx hb dL_act_8 (by decide) (fun c_108 => ?_) (fun c_108 => ?_)
  · have zc_108 : (T 0 0 0 0) ≠ 0 := jne (a := (T 0 0 0 0)) (b := 0) (by omega) (by omega) c_108
    refine lv_iload_n hx hb dL_act_15 rfl (lv_at hl 0 rfl) ?_
    refine lv_aload_n hx hb dL_act_16 rfl (lv_at hl 2 rfl) ?_
    refine lv_iconst (v := iI 0) hx hb dL_act_17 (by decide) ?_
    refine x_iald' (f := nf) (z := 0) B 0 rfl (by omega) dL_act_18 ?_
    refine lv_seti (y := iI (T 0 0 0 0)) (congrArg iI (show nf 0 = T 0 0 0 0 from hn9.1)) ?_
    refine y_rem hx hb (a := (xx / 16)) (b := (T 0 0 0 0)) (by omega) (by omega) dL_act_19 ?_
    have z_109 : 0 ≤ ((xx / 16) % (T 0 0 0 0)) ∧ ((xx / 16) % (T 0 0 0 0)) < (T 0 0 0 0) := ⟨Int.emod_nonneg _ (by omega), Int.emod_lt_of_pos _ (by omega)⟩
    exact J_1 ((xx / 16) % (T 0 0 0 0)) (show ((xx / 16) % (T 0 0 0 0)) = plcZ T xx from (by unfold plcZ; first | (rw [if_pos (by omega)]; done) | (rw [if_neg (by omega)]; done))) _ _ _ (lv_sub hl [0, 1, 2, 3] rfl) (bd_to rfl B)
  · have zc_108 : (T 0 0 0 0) = 0 := jeq (a := (T 0 0 0 0)) (b := 0) (by omega) (by omega) c_108
    refine lv_iconst (v := iI 0) hx hb dL_act_11 (by decide) ?_
    refine lv_goto (tgt := 20) hx hb dL_act_12 (by decide) ?_
    exact J_1 0 (show 0 = plcZ T xx from (by unfold plcZ; first | (rw [if_pos (by omega)]; done) | (rw [if_neg (by omega)]; done))) _ _ _ (lv_sub hl [0, 1, 2, 3] rfl) (bd_to rfl B)

end
