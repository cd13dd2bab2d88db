section
theorem g1_pages (l : Launch) (dC : Nat → ClassId) (dI : Nat → Nat → Nat) (k : Nat → ClassId) (hl0 : l.stackTraces = false) (T : Nat → Int → Int → Int → Int) (K : Nat → Int → Int) (qa : Nat) (cp : Nat) (Tb : Nat → Int → Int → Int → Int) (Kb : Nat → Int → Int) (qb : Nat) (cq : Nat) (tl : va_W) (v : Int) (hP2 : P2 dI k T K qa cp Tb Kb qb cq tl) (hQ : OKT T K) (hrv : -2147483648 ≤ v ∧ v < 2147483648) : Kn l dC dI k yL_pages (.codeWith yL_pages cL_pages 3 (some .int) [(0, 5, 6, 13)]) ({ frames := 10, cells := (131072 - cp + 1), slots := (12 * (131072 - cp) + 6), locals := 226 } : Room) [.ref qa, .int (iI v)] ([] ++ tl) (fun r w gc gs => (∃ (cp2 : Nat) (tl2 : va_W), (P2 dI k T K qa cp2 Tb Kb qb cq tl2) ∧ (cp ≤ cp2 ∧ cp2 ≤ 131072) ∧ r = some (.int (iI (v_pages T v))) ∧ w = ([] ++ tl2) ∧ gc = (cp2 - cp + 1) ∧ gs = (12 * (cp2 - cp) + 6))) := by
  obtain ⟨t1, t2, hp, h1, h2⟩ := hP2
  have K0 := f_pages l dC dI k hl0 T K qa cp t1 v h1 hQ hrv
  have hp2 : ([] ++ tl : va_W).Perm (([] ++ t1) ++ t2) := by
    rw [List.append_assoc]
    exact List.Perm.append_left _ hp
  refine kn_post (kn_perm hp2 (kn_frame t2 K0)) ?_
  clear K0
  rintro r w gc gs ⟨w1, h9, hw⟩
  obtain ⟨c2, tl2, q0, q1, hr, hw1, hgc, hgs⟩ := h9
  refine ⟨[] ++ (tl2 ++ t2), ?_, ⟨c2, (tl2 ++ t2), ⟨tl2, t2, List.Perm.refl _, q0, h2⟩, q1, hr, rfl, hgc, hgs⟩⟩
  rw [hw, hw1]
  exact two_l _ _ _


theorem g2_pages (l : Launch) (dC : Nat → ClassId) (dI : Nat → Nat → Nat) (k : Nat → ClassId) (hl0 : l.stackTraces = false) (T : Nat → Int → Int → Int → Int) (K : Nat → Int → Int) (qa : Nat) (cp : Nat) (Tb : Nat → Int → Int → Int → Int) (Kb : Nat → Int → Int) (qb : Nat) (cq : Nat) (tl : va_W) (v : Int) (hP2 : P2 dI k T K qa cp Tb Kb qb cq tl) (hQ : OKT Tb Kb) (hrv : -2147483648 ≤ v ∧ v < 2147483648) : Kn l dC dI k yL_pages (.codeWith yL_pages cL_pages 3 (some .int) [(0, 5, 6, 13)]) ({ frames := 10, cells := (131072 - cq + 1), slots := (12 * (131072 - cq) + 6), locals := 226 } : Room) [.ref qb, .int (iI v)] ([] ++ tl) (fun r w gc gs => (∃ (cq2 : Nat) (tl2 : va_W), (P2 dI k T K qa cp Tb Kb qb cq2 tl2) ∧ (cq ≤ cq2 ∧ cq2 ≤ 131072) ∧ r = some (.int (iI (v_pages Tb v))) ∧ w = ([] ++ tl2) ∧ gc = (cq2 - cq + 1) ∧ gs = (12 * (cq2 - cq) + 6))) := by
  obtain ⟨t1, t2, hp, h1, h2⟩ := hP2
  have K0 := f_pages l dC dI k hl0 Tb Kb qb cq t2 v h2 hQ hrv
  have hp2 : ([] ++ tl : va_W).Perm (([] ++ t2) ++ t1) := by
    rw [List.append_assoc]
    exact List.Perm.append_left _ (hp.trans List.perm_append_comm)
  refine kn_post (kn_perm hp2 (kn_frame t1 K0)) ?_
  clear K0
  rintro r w gc gs ⟨w1, h9, hw⟩
  obtain ⟨c2, tl2, q0, q1, hr, hw1, hgc, hgs⟩ := h9
  refine ⟨[] ++ (t1 ++ tl2), ?_, ⟨c2, (t1 ++ tl2), ⟨t1, tl2, List.Perm.refl _, h1, q0⟩, q1, hr, rfl, hgc, hgs⟩⟩
  rw [hw, hw1]
  exact two_r _ _ _


theorem g1_cost (l : Launch) (dC : Nat → ClassId) (dI : Nat → Nat → Nat) (k : Nat → ClassId) (hl0 : l.stackTraces = false) (T : Nat → Int → Int → Int → Int) (K : Nat → Int → Int) (qa : Nat) (cp : Nat) (Tb : Nat → Int → Int → Int → Int) (Kb : Nat → Int → Int) (qb : Nat) (cq : Nat) (tl : va_W) (v : Int) (hP2 : P2 dI k T K qa cp Tb Kb qb cq tl) (hQ : OKT T K) (hrv : -2147483648 ≤ v ∧ v < 2147483648) : Kn l dC dI k yL_cost (.codeWith yL_cost cL_cost 3 (some .int) [(0, 5, 6, 13)]) ({ frames := 10, cells := (131072 - cp + 1), slots := (12 * (131072 - cp) + 6), locals := 226 } : Room) [.ref qa, .int (iI v)] ([] ++ tl) (fun r w gc gs => (∃ (cp2 : Nat) (tl2 : va_W), (P2 dI k T K qa cp2 Tb Kb qb cq tl2) ∧ (cp ≤ cp2 ∧ cp2 ≤ 131072) ∧ r = some (.int (iI (v_cost T v))) ∧ w = ([] ++ tl2) ∧ gc = (cp2 - cp + 1) ∧ gs = (12 * (cp2 - cp) + 6))) := by
  obtain ⟨t1, t2, hp, h1, h2⟩ := hP2
  have K0 := f_cost l dC dI k hl0 T K qa cp t1 v h1 hQ hrv
  have hp2 : ([] ++ tl : va_W).Perm (([] ++ t1) ++ t2) := by
    rw [List.append_assoc]
    exact List.Perm.append_left _ hp
  refine kn_post (kn_perm hp2 (kn_frame t2 K0)) ?_
  clear K0
  rintro r w gc gs ⟨w1, h9, hw⟩
  obtain ⟨c2, tl2, q0, q1, hr, hw1, hgc, hgs⟩ := h9
  refine ⟨[] ++ (tl2 ++ t2), ?_, ⟨c2, (tl2 ++ t2), ⟨tl2, t2, List.Perm.refl _, q0, h2⟩, q1, hr, rfl, hgc, hgs⟩⟩
  rw [hw, hw1]
  exact two_l _ _ _


theorem g2_cost (l : Launch) (dC : Nat → ClassId) (dI : Nat → Nat → Nat) (k : Nat → ClassId) (hl0 : l.stackTraces = false) (T : Nat → Int → Int → Int → Int) (K : Nat → Int → Int) (qa : Nat) (cp : Nat) (Tb : Nat → Int → Int → Int → Int) (Kb : Nat → Int → Int) (qb : Nat) (cq : Nat) (tl : va_W) (v : Int) (hP2 : P2 dI k T K qa cp Tb Kb qb cq tl) (hQ : OKT Tb Kb) (hrv : -2147483648 ≤ v ∧ v < 2147483648) : Kn l dC dI k yL_cost (.codeWith yL_cost cL_cost 3 (some .int) [(0, 5, 6, 13)]) ({ frames := 10, cells := (131072 - cq + 1), slots := (12 * (131072 - cq) + 6), locals := 226 } : Room) [.ref qb, .int (iI v)] ([] ++ tl) (fun r w gc gs => (∃ (cq2 : Nat) (tl2 : va_W), (P2 dI k T K qa cp Tb Kb qb cq2 tl2) ∧ (cq ≤ cq2 ∧ cq2 ≤ 131072) ∧ r = some (.int (iI (v_cost Tb v))) ∧ w = ([] ++ tl2) ∧ gc = (cq2 - cq + 1) ∧ gs = (12 * (cq2 - cq) + 6))) := by
  obtain ⟨t1, t2, hp, h1, h2⟩ := hP2
  have K0 := f_cost l dC dI k hl0 Tb Kb qb cq t2 v h2 hQ hrv
  have hp2 : ([] ++ tl : va_W).Perm (([] ++ t2) ++ t1) := by
    rw [List.append_assoc]
    exact List.Perm.append_left _ (hp.trans List.perm_append_comm)
  refine kn_post (kn_perm hp2 (kn_frame t1 K0)) ?_
  clear K0
  rintro r w gc gs ⟨w1, h9, hw⟩
  obtain ⟨c2, tl2, q0, q1, hr, hw1, hgc, hgs⟩ := h9
  refine ⟨[] ++ (t1 ++ tl2), ?_, ⟨c2, (t1 ++ tl2), ⟨t1, tl2, List.Perm.refl _, h1, q0⟩, q1, hr, rfl, hgc, hgs⟩⟩
  rw [hw, hw1]
  exact two_r _ _ _


theorem g1_rounds (l : Launch) (dC : Nat → ClassId) (dI : Nat → Nat → Nat) (k : Nat → ClassId) (hl0 : l.stackTraces = false) (T : Nat → Int → Int → Int → Int) (K : Nat → Int → Int) (qa : Nat) (cp : Nat) (Tb : Nat → Int → Int → Int → Int) (Kb : Nat → Int → Int) (qb : Nat) (cq : Nat) (tl : va_W) (v : Int) (hP2 : P2 dI k T K qa cp Tb Kb qb cq tl) (hQ : OKT T K) (hrv : -2147483648 ≤ v ∧ v < 2147483648) : Kn l dC dI k yL_rounds (.codeWith yL_rounds cL_rounds 3 (some .int) [(0, 5, 6, 13)]) ({ frames := 10, cells := (131072 - cp + 1), slots := (12 * (131072 - cp) + 6), locals := 226 } : Room) [.ref qa, .int (iI v)] ([] ++ tl) (fun r w gc gs => (∃ (cp2 : Nat) (tl2 : va_W), (P2 dI k T K qa cp2 Tb Kb qb cq tl2) ∧ (cp ≤ cp2 ∧ cp2 ≤ 131072) ∧ r = some (.int (iI (v_rounds T v))) ∧ w = ([] ++ tl2) ∧ gc = (cp2 - cp + 1) ∧ gs = (12 * (cp2 - cp) + 6))) := by
  obtain ⟨t1, t2, hp, h1, h2⟩ := hP2
  have K0 := f_rounds l dC dI k hl0 T K qa cp t1 v h1 hQ hrv
  have hp2 : ([] ++ tl : va_W).Perm (([] ++ t1) ++ t2) := by
    rw [List.append_assoc]
    exact List.Perm.append_left _ hp
  refine kn_post (kn_perm hp2 (kn_frame t2 K0)) ?_
  clear K0
  rintro r w gc gs ⟨w1, h9, hw⟩
  obtain ⟨c2, tl2, q0, q1, hr, hw1, hgc, hgs⟩ := h9
  refine ⟨[] ++ (tl2 ++ t2), ?_, ⟨c2, (tl2 ++ t2), ⟨tl2, t2, List.Perm.refl _, q0, h2⟩, q1, hr, rfl, hgc, hgs⟩⟩
  rw [hw, hw1]
  exact two_l _ _ _


theorem g2_rounds (l : Launch) (dC : Nat → ClassId) (dI : Nat → Nat → Nat) (k : Nat → ClassId) (hl0 : l.stackTraces = false) (T : Nat → Int → Int → Int → Int) (K : Nat → Int → Int) (qa : Nat) (cp : Nat) (Tb : Nat → Int → Int → Int → Int) (Kb : Nat → Int → Int) (qb : Nat) (cq : Nat) (tl : va_W) (v : Int) (hP2 : P2 dI k T K qa cp Tb Kb qb cq tl) (hQ : OKT Tb Kb) (hrv : -2147483648 ≤ v ∧ v < 2147483648) : Kn l dC dI k yL_rounds (.codeWith yL_rounds cL_rounds 3 (some .int) [(0, 5, 6, 13)]) ({ frames := 10, cells := (131072 - cq + 1), slots := (12 * (131072 - cq) + 6), locals := 226 } : Room) [.ref qb, .int (iI v)] ([] ++ tl) (fun r w gc gs => (∃ (cq2 : Nat) (tl2 : va_W), (P2 dI k T K qa cp Tb Kb qb cq2 tl2) ∧ (cq ≤ cq2 ∧ cq2 ≤ 131072) ∧ r = some (.int (iI (v_rounds Tb v))) ∧ w = ([] ++ tl2) ∧ gc = (cq2 - cq + 1) ∧ gs = (12 * (cq2 - cq) + 6))) := by
  obtain ⟨t1, t2, hp, h1, h2⟩ := hP2
  have K0 := f_rounds l dC dI k hl0 Tb Kb qb cq t2 v h2 hQ hrv
  have hp2 : ([] ++ tl : va_W).Perm (([] ++ t2) ++ t1) := by
    rw [List.append_assoc]
    exact List.Perm.append_left _ (hp.trans List.perm_append_comm)
  refine kn_post (kn_perm hp2 (kn_frame t1 K0)) ?_
  clear K0
  rintro r w gc gs ⟨w1, h9, hw⟩
  obtain ⟨c2, tl2, q0, q1, hr, hw1, hgc, hgs⟩ := h9
  refine ⟨[] ++ (t1 ++ tl2), ?_, ⟨c2, (t1 ++ tl2), ⟨t1, tl2, List.Perm.refl _, h1, q0⟩, q1, hr, rfl, hgc, hgs⟩⟩
  rw [hw, hw1]
  exact two_r _ _ _


theorem g1_settled (l : Launch) (dC : Nat → ClassId) (dI : Nat → Nat → Nat) (k : Nat → ClassId) (hl0 : l.stackTraces = false) (T : Nat → Int → Int → Int → Int) (K : Nat → Int → Int) (qa : Nat) (cp : Nat) (Tb : Nat → Int → Int → Int → Int) (Kb : Nat → Int → Int) (qb : Nat) (cq : Nat) (tl : va_W) (v : Int) (hP2 : P2 dI k T K qa cp Tb Kb qb cq tl) (hQ : OKT T K) (hrv : -2147483648 ≤ v ∧ v < 2147483648) : Kn l dC dI k yL_settled (.codeWith yL_settled cL_settled 3 (some .int) [(0, 13, 14, 13)]) ({ frames := 10, cells := (131072 - cp + 1), slots := (12 * (131072 - cp) + 6), locals := 226 } : Room) [.ref qa, .int (iI v)] ([] ++ tl) (fun r w gc gs => (∃ (cp2 : Nat) (tl2 : va_W), (P2 dI k T K qa cp2 Tb Kb qb cq tl2) ∧ (cp ≤ cp2 ∧ cp2 ≤ 131072) ∧ r = some (.int (iI (v_settled T v))) ∧ w = ([] ++ tl2) ∧ gc = (cp2 - cp + 1) ∧ gs = (12 * (cp2 - cp) + 6))) := by
  obtain ⟨t1, t2, hp, h1, h2⟩ := hP2
  have K0 := f_settled l dC dI k hl0 T K qa cp t1 v h1 hQ hrv
  have hp2 : ([] ++ tl : va_W).Perm (([] ++ t1) ++ t2) := by
    rw [List.append_assoc]
    exact List.Perm.append_left _ hp
  refine kn_post (kn_perm hp2 (kn_frame t2 K0)) ?_
  clear K0
  rintro r w gc gs ⟨w1, h9, hw⟩
  obtain ⟨c2, tl2, q0, q1, hr, hw1, hgc, hgs⟩ := h9
  refine ⟨[] ++ (tl2 ++ t2), ?_, ⟨c2, (tl2 ++ t2), ⟨tl2, t2, List.Perm.refl _, q0, h2⟩, q1, hr, rfl, hgc, hgs⟩⟩
  rw [hw, hw1]
  exact two_l _ _ _


theorem g2_settled (l : Launch) (dC : Nat → ClassId) (dI : Nat → Nat → Nat) (k : Nat → ClassId) (hl0 : l.stackTraces = false) (T : Nat → Int → Int → Int → Int) (K : Nat → Int → Int) (qa : Nat) (cp : Nat) (Tb : Nat → Int → Int → Int → Int) (Kb : Nat → Int → Int) (qb : Nat) (cq : Nat) (tl : va_W) (v : Int) (hP2 : P2 dI k T K qa cp Tb Kb qb cq tl) (hQ : OKT Tb Kb) (hrv : -2147483648 ≤ v ∧ v < 2147483648) : Kn l dC dI k yL_settled (.codeWith yL_settled cL_settled 3 (some .int) [(0, 13, 14, 13)]) ({ frames := 10, cells := (131072 - cq + 1), slots := (12 * (131072 - cq) + 6), locals := 226 } : Room) [.ref qb, .int (iI v)] ([] ++ tl) (fun r w gc gs => (∃ (cq2 : Nat) (tl2 : va_W), (P2 dI k T K qa cp Tb Kb qb cq2 tl2) ∧ (cq ≤ cq2 ∧ cq2 ≤ 131072) ∧ r = some (.int (iI (v_settled Tb v))) ∧ w = ([] ++ tl2) ∧ gc = (cq2 - cq + 1) ∧ gs = (12 * (cq2 - cq) + 6))) := by
  obtain ⟨t1, t2, hp, h1, h2⟩ := hP2
  have K0 := f_settled l dC dI k hl0 Tb Kb qb cq t2 v h2 hQ hrv
  have hp2 : ([] ++ tl : va_W).Perm (([] ++ t2) ++ t1) := by
    rw [List.append_assoc]
    exact List.Perm.append_left _ (hp.trans List.perm_append_comm)
  refine kn_post (kn_perm hp2 (kn_frame t1 K0)) ?_
  clear K0
  rintro r w gc gs ⟨w1, h9, hw⟩
  obtain ⟨c2, tl2, q0, q1, hr, hw1, hgc, hgs⟩ := h9
  refine ⟨[] ++ (t1 ++ tl2), ?_, ⟨c2, (t1 ++ tl2), ⟨t1, tl2, List.Perm.refl _, h1, q0⟩, q1, hr, rfl, hgc, hgs⟩⟩
  rw [hw, hw1]
  exact two_r _ _ _


theorem g1_label (l : Launch) (dC : Nat → ClassId) (dI : Nat → Nat → Nat) (k : Nat → ClassId) (hl0 : l.stackTraces = false) (T : Nat → Int → Int → Int → Int) (K : Nat → Int → Int) (qa : Nat) (cp : Nat) (Tb : Nat → Int → Int → Int → Int) (Kb : Nat → Int → Int) (qb : Nat) (cq : Nat) (tl : va_W) (v : Int) (b_ : Int) (hP2 : P2 dI k T K qa cp Tb Kb qb cq tl) (hQ : OKT T K) (hrv : -2147483648 ≤ v ∧ v < 2147483648) (hrb_ : -2147483648 ≤ b_ ∧ b_ < 2147483648) : Kn l dC dI k yL_label (.codeWith yL_label cL_label 4 (some .int) [(0, 6, 7, 13)]) ({ frames := 10, cells := (131072 - cp + 1), slots := (12 * (131072 - cp) + 6), locals := 227 } : Room) [.ref qa, .int (iI v), .int (iI b_)] ([] ++ tl) (fun r w gc gs => (∃ (cp2 : Nat) (tl2 : va_W), (P2 dI k T K qa cp2 Tb Kb qb cq tl2) ∧ (cp ≤ cp2 ∧ cp2 ≤ 131072) ∧ r = some (.int (iI (v_label T v b_))) ∧ w = ([] ++ tl2) ∧ gc = (cp2 - cp + 1) ∧ gs = (12 * (cp2 - cp) + 6))) := by
  obtain ⟨t1, t2, hp, h1, h2⟩ := hP2
  have K0 := f_label l dC dI k hl0 T K qa cp t1 v b_ h1 hQ hrv hrb_
  have hp2 : ([] ++ tl : va_W).Perm (([] ++ t1) ++ t2) := by
    rw [List.append_assoc]
    exact List.Perm.append_left _ hp
  refine kn_post (kn_perm hp2 (kn_frame t2 K0)) ?_
  clear K0
  rintro r w gc gs ⟨w1, h9, hw⟩
  obtain ⟨c2, tl2, q0, q1, hr, hw1, hgc, hgs⟩ := h9
  refine ⟨[] ++ (tl2 ++ t2), ?_, ⟨c2, (tl2 ++ t2), ⟨tl2, t2, List.Perm.refl _, q0, h2⟩, q1, hr, rfl, hgc, hgs⟩⟩
  rw [hw, hw1]
  exact two_l _ _ _


theorem g2_label (l : Launch) (dC : Nat → ClassId) (dI : Nat → Nat → Nat) (k : Nat → ClassId) (hl0 : l.stackTraces = false) (T : Nat → Int → Int → Int → Int) (K : Nat → Int → Int) (qa : Nat) (cp : Nat) (Tb : Nat → Int → Int → Int → Int) (Kb : Nat → Int → Int) (qb : Nat) (cq : Nat) (tl : va_W) (v : Int) (b_ : Int) (hP2 : P2 dI k T K qa cp Tb Kb qb cq tl) (hQ : OKT Tb Kb) (hrv : -2147483648 ≤ v ∧ v < 2147483648) (hrb_ : -2147483648 ≤ b_ ∧ b_ < 2147483648) : Kn l dC dI k yL_label (.codeWith yL_label cL_label 4 (some .int) [(0, 6, 7, 13)]) ({ frames := 10, cells := (131072 - cq + 1), slots := (12 * (131072 - cq) + 6), locals := 227 } : Room) [.ref qb, .int (iI v), .int (iI b_)] ([] ++ tl) (fun r w gc gs => (∃ (cq2 : Nat) (tl2 : va_W), (P2 dI k T K qa cp Tb Kb qb cq2 tl2) ∧ (cq ≤ cq2 ∧ cq2 ≤ 131072) ∧ r = some (.int (iI (v_label Tb v b_))) ∧ w = ([] ++ tl2) ∧ gc = (cq2 - cq + 1) ∧ gs = (12 * (cq2 - cq) + 6))) := by
  obtain ⟨t1, t2, hp, h1, h2⟩ := hP2
  have K0 := f_label l dC dI k hl0 Tb Kb qb cq t2 v b_ h2 hQ hrv hrb_
  have hp2 : ([] ++ tl : va_W).Perm (([] ++ t2) ++ t1) := by
    rw [List.append_assoc]
    exact List.Perm.append_left _ (hp.trans List.perm_append_comm)
  refine kn_post (kn_perm hp2 (kn_frame t1 K0)) ?_
  clear K0
  rintro r w gc gs ⟨w1, h9, hw⟩
  obtain ⟨c2, tl2, q0, q1, hr, hw1, hgc, hgs⟩ := h9
  refine ⟨[] ++ (t1 ++ tl2), ?_, ⟨c2, (t1 ++ tl2), ⟨t1, tl2, List.Perm.refl _, h1, q0⟩, q1, hr, rfl, hgc, hgs⟩⟩
  rw [hw, hw1]
  exact two_r _ _ _


theorem g1_term (l : Launch) (dC : Nat → ClassId) (dI : Nat → Nat → Nat) (k : Nat → ClassId) (hl0 : l.stackTraces = false) (T : Nat → Int → Int → Int → Int) (K : Nat → Int → Int) (qa : Nat) (cp : Nat) (Tb : Nat → Int → Int → Int → Int) (Kb : Nat → Int → Int) (qb : Nat) (cq : Nat) (tl : va_W) (v : Int) (ix : Int) (hP2 : P2 dI k T K qa cp Tb Kb qb cq tl) (hQ : OKT T K) (hrv : -2147483648 ≤ v ∧ v < 2147483648) (hrix : -2147483648 ≤ ix ∧ ix < 2147483648) : Kn l dC dI k yL_term (.codeWith yL_term cL_term 4 (some .int) [(0, 6, 7, 13)]) ({ frames := 10, cells := (131072 - cp + 1), slots := (12 * (131072 - cp) + 6), locals := 228 } : Room) [.ref qa, .int (iI v), .int (iI ix)] ([] ++ tl) (fun r w gc gs => (∃ (cp2 : Nat) (tl2 : va_W), (P2 dI k T K qa cp2 Tb Kb qb cq tl2) ∧ (cp ≤ cp2 ∧ cp2 ≤ 131072) ∧ r = some (.int (iI (v_term T v ix))) ∧ w = ([] ++ tl2) ∧ gc = (cp2 - cp + 1) ∧ gs = (12 * (cp2 - cp) + 6))) := by
  obtain ⟨t1, t2, hp, h1, h2⟩ := hP2
  have K0 := f_term l dC dI k hl0 T K qa cp t1 v ix h1 hQ hrv hrix
  have hp2 : ([] ++ tl : va_W).Perm (([] ++ t1) ++ t2) := by
    rw [List.append_assoc]
    exact List.Perm.append_left _ hp
  refine kn_post (kn_perm hp2 (kn_frame t2 K0)) ?_
  clear K0
  rintro r w gc gs ⟨w1, h9, hw⟩
  obtain ⟨c2, tl2, q0, q1, hr, hw1, hgc, hgs⟩ := h9
  refine ⟨[] ++ (tl2 ++ t2), ?_, ⟨c2, (tl2 ++ t2), ⟨tl2, t2, List.Perm.refl _, q0, h2⟩, q1, hr, rfl, hgc, hgs⟩⟩
  rw [hw, hw1]
  exact two_l _ _ _


theorem g2_term (l : Launch) (dC : Nat → ClassId) (dI : Nat → Nat → Nat) (k : Nat → ClassId) (hl0 : l.stackTraces = false) (T : Nat → Int → Int → Int → Int) (K : Nat → Int → Int) (qa : Nat) (cp : Nat) (Tb : Nat → Int → Int → Int → Int) (Kb : Nat → Int → Int) (qb : Nat) (cq : Nat) (tl : va_W) (v : Int) (ix : Int) (hP2 : P2 dI k T K qa cp Tb Kb qb cq tl) (hQ : OKT Tb Kb) (hrv : -2147483648 ≤ v ∧ v < 2147483648) (hrix : -2147483648 ≤ ix ∧ ix < 2147483648) : Kn l dC dI k yL_term (.codeWith yL_term cL_term 4 (some .int) [(0, 6, 7, 13)]) ({ frames := 10, cells := (131072 - cq + 1), slots := (12 * (131072 - cq) + 6), locals := 228 } : Room) [.ref qb, .int (iI v), .int (iI ix)] ([] ++ tl) (fun r w gc gs => (∃ (cq2 : Nat) (tl2 : va_W), (P2 dI k T K qa cp Tb Kb qb cq2 tl2) ∧ (cq ≤ cq2 ∧ cq2 ≤ 131072) ∧ r = some (.int (iI (v_term Tb v ix))) ∧ w = ([] ++ tl2) ∧ gc = (cq2 - cq + 1) ∧ gs = (12 * (cq2 - cq) + 6))) := by
  obtain ⟨t1, t2, hp, h1, h2⟩ := hP2
  have K0 := f_term l dC dI k hl0 Tb Kb qb cq t2 v ix h2 hQ hrv hrix
  have hp2 : ([] ++ tl : va_W).Perm (([] ++ t2) ++ t1) := by
    rw [List.append_assoc]
    exact List.Perm.append_left _ (hp.trans List.perm_append_comm)
  refine kn_post (kn_perm hp2 (kn_frame t1 K0)) ?_
  clear K0
  rintro r w gc gs ⟨w1, h9, hw⟩
  obtain ⟨c2, tl2, q0, q1, hr, hw1, hgc, hgs⟩ := h9
  refine ⟨[] ++ (t1 ++ tl2), ?_, ⟨c2, (t1 ++ tl2), ⟨t1, tl2, List.Perm.refl _, h1, q0⟩, q1, hr, rfl, hgc, hgs⟩⟩
  rw [hw, hw1]
  exact two_r _ _ _


theorem g1_range (l : Launch) (dC : Nat → ClassId) (dI : Nat → Nat → Nat) (k : Nat → ClassId) (hl0 : l.stackTraces = false) (T : Nat → Int → Int → Int → Int) (K : Nat → Int → Int) (qa : Nat) (cp : Nat) (Tb : Nat → Int → Int → Int → Int) (Kb : Nat → Int → Int) (qb : Nat) (cq : Nat) (tl : va_W) (v : Int) (t : Int) (ix : Int) (hP2 : P2 dI k T K qa cp Tb Kb qb cq tl) (hQ : OKT T K) (hrv : -2147483648 ≤ v ∧ v < 2147483648) (hrt : -2147483648 ≤ t ∧ t < 2147483648) (hrix : -2147483648 ≤ ix ∧ ix < 2147483648) : Kn l dC dI k yL_range (.codeWith yL_range cL_range 5 (some .int) [(0, 7, 8, 13)]) ({ frames := 10, cells := (131072 - cp + 1), slots := (12 * (131072 - cp) + 6), locals := 229 } : Room) [.ref qa, .int (iI v), .int (iI t), .int (iI ix)] ([] ++ tl) (fun r w gc gs => (∃ (cp2 : Nat) (tl2 : va_W), (P2 dI k T K qa cp2 Tb Kb qb cq tl2) ∧ (cp ≤ cp2 ∧ cp2 ≤ 131072) ∧ r = some (.int (iI (v_range T v t ix))) ∧ w = ([] ++ tl2) ∧ gc = (cp2 - cp + 1) ∧ gs = (12 * (cp2 - cp) + 6))) := by
  obtain ⟨t1, t2, hp, h1, h2⟩ := hP2
  have K0 := f_range l dC dI k hl0 T K qa cp t1 v t ix h1 hQ hrv hrt hrix
  have hp2 : ([] ++ tl : va_W).Perm (([] ++ t1) ++ t2) := by
    rw [List.append_assoc]
    exact List.Perm.append_left _ hp
  refine kn_post (kn_perm hp2 (kn_frame t2 K0)) ?_
  clear K0
  rintro r w gc gs ⟨w1, h9, hw⟩
  obtain ⟨c2, tl2, q0, q1, hr, hw1, hgc, hgs⟩ := h9
  refine ⟨[] ++ (tl2 ++ t2), ?_, ⟨c2, (tl2 ++ t2), ⟨tl2, t2, List.Perm.refl _, q0, h2⟩, q1, hr, rfl, hgc, hgs⟩⟩
  rw [hw, hw1]
  exact two_l _ _ _


theorem g2_range (l : Launch) (dC : Nat → ClassId) (dI : Nat → Nat → Nat) (k : Nat → ClassId) (hl0 : l.stackTraces = false) (T : Nat → Int → Int → Int → Int) (K : Nat → Int → Int) (qa : Nat) (cp : Nat) (Tb : Nat → Int → Int → Int → Int) (Kb : Nat → Int → Int) (qb : Nat) (cq : Nat) (tl : va_W) (v : Int) (t : Int) (ix : Int) (hP2 : P2 dI k T K qa cp Tb Kb qb cq tl) (hQ : OKT Tb Kb) (hrv : -2147483648 ≤ v ∧ v < 2147483648) (hrt : -2147483648 ≤ t ∧ t < 2147483648) (hrix : -2147483648 ≤ ix ∧ ix < 2147483648) : Kn l dC dI k yL_range (.codeWith yL_range cL_range 5 (some .int) [(0, 7, 8, 13)]) ({ frames := 10, cells := (131072 - cq + 1), slots := (12 * (131072 - cq) + 6), locals := 229 } : Room) [.ref qb, .int (iI v), .int (iI t), .int (iI ix)] ([] ++ tl) (fun r w gc gs => (∃ (cq2 : Nat) (tl2 : va_W), (P2 dI k T K qa cp Tb Kb qb cq2 tl2) ∧ (cq ≤ cq2 ∧ cq2 ≤ 131072) ∧ r = some (.int (iI (v_range Tb v t ix))) ∧ w = ([] ++ tl2) ∧ gc = (cq2 - cq + 1) ∧ gs = (12 * (cq2 - cq) + 6))) := by
  obtain ⟨t1, t2, hp, h1, h2⟩ := hP2
  have K0 := f_range l dC dI k hl0 Tb Kb qb cq t2 v t ix h2 hQ hrv hrt hrix
  have hp2 : ([] ++ tl : va_W).Perm (([] ++ t2) ++ t1) := by
    rw [List.append_assoc]
    exact List.Perm.append_left _ (hp.trans List.perm_append_comm)
  refine kn_post (kn_perm hp2 (kn_frame t1 K0)) ?_
  clear K0
  rintro r w gc gs ⟨w1, h9, hw⟩
  obtain ⟨c2, tl2, q0, q1, hr, hw1, hgc, hgs⟩ := h9
  refine ⟨[] ++ (t1 ++ tl2), ?_, ⟨c2, (t1 ++ tl2), ⟨t1, tl2, List.Perm.refl _, h1, q0⟩, q1, hr, rfl, hgc, hgs⟩⟩
  rw [hw, hw1]
  exact two_r _ _ _


theorem g1_figureAt (l : Launch) (dC : Nat → ClassId) (dI : Nat → Nat → Nat) (k : Nat → ClassId) (hl0 : l.stackTraces = false) (T : Nat → Int → Int → Int → Int) (K : Nat → Int → Int) (qa : Nat) (cp : Nat) (Tb : Nat → Int → Int → Int → Int) (Kb : Nat → Int → Int) (qb : Nat) (cq : Nat) (tl : va_W) (v : Int) (fi : Int) (hP2 : P2 dI k T K qa cp Tb Kb qb cq tl) (hQ : OKT T K) (hrv : -2147483648 ≤ v ∧ v < 2147483648) (hrfi : -2147483648 ≤ fi ∧ fi < 2147483648) : Kn l dC dI k yL_figureAt (.codeWith yL_figureAt cL_figureAt 4 (some .int) [(0, 6, 7, 13)]) ({ frames := 10, cells := (131072 - cp + 1), slots := (12 * (131072 - cp) + 6), locals := 227 } : Room) [.ref qa, .int (iI v), .int (iI fi)] ([] ++ tl) (fun r w gc gs => (∃ (cp2 : Nat) (tl2 : va_W), (P2 dI k T K qa cp2 Tb Kb qb cq tl2) ∧ (cp ≤ cp2 ∧ cp2 ≤ 131072) ∧ r = some (.int (iI (v_figureAt T v fi))) ∧ w = ([] ++ tl2) ∧ gc = (cp2 - cp + 1) ∧ gs = (12 * (cp2 - cp) + 6))) := by
  obtain ⟨t1, t2, hp, h1, h2⟩ := hP2
  have K0 := f_figureAt l dC dI k hl0 T K qa cp t1 v fi h1 hQ hrv hrfi
  have hp2 : ([] ++ tl : va_W).Perm (([] ++ t1) ++ t2) := by
    rw [List.append_assoc]
    exact List.Perm.append_left _ hp
  refine kn_post (kn_perm hp2 (kn_frame t2 K0)) ?_
  clear K0
  rintro r w gc gs ⟨w1, h9, hw⟩
  obtain ⟨c2, tl2, q0, q1, hr, hw1, hgc, hgs⟩ := h9
  refine ⟨[] ++ (tl2 ++ t2), ?_, ⟨c2, (tl2 ++ t2), ⟨tl2, t2, List.Perm.refl _, q0, h2⟩, q1, hr, rfl, hgc, hgs⟩⟩
  rw [hw, hw1]
  exact two_l _ _ _


theorem g2_figureAt (l : Launch) (dC : Nat → ClassId) (dI : Nat → Nat → Nat) (k : Nat → ClassId) (hl0 : l.stackTraces = false) (T : Nat → Int → Int → Int → Int) (K : Nat → Int → Int) (qa : Nat) (cp : Nat) (Tb : Nat → Int → Int → Int → Int) (Kb : Nat → Int → Int) (qb : Nat) (cq : Nat) (tl : va_W) (v : Int) (fi : Int) (hP2 : P2 dI k T K qa cp Tb Kb qb cq tl) (hQ : OKT Tb Kb) (hrv : -2147483648 ≤ v ∧ v < 2147483648) (hrfi : -2147483648 ≤ fi ∧ fi < 2147483648) : Kn l dC dI k yL_figureAt (.codeWith yL_figureAt cL_figureAt 4 (some .int) [(0, 6, 7, 13)]) ({ frames := 10, cells := (131072 - cq + 1), slots := (12 * (131072 - cq) + 6), locals := 227 } : Room) [.ref qb, .int (iI v), .int (iI fi)] ([] ++ tl) (fun r w gc gs => (∃ (cq2 : Nat) (tl2 : va_W), (P2 dI k T K qa cp Tb Kb qb cq2 tl2) ∧ (cq ≤ cq2 ∧ cq2 ≤ 131072) ∧ r = some (.int (iI (v_figureAt Tb v fi))) ∧ w = ([] ++ tl2) ∧ gc = (cq2 - cq + 1) ∧ gs = (12 * (cq2 - cq) + 6))) := by
  obtain ⟨t1, t2, hp, h1, h2⟩ := hP2
  have K0 := f_figureAt l dC dI k hl0 Tb Kb qb cq t2 v fi h2 hQ hrv hrfi
  have hp2 : ([] ++ tl : va_W).Perm (([] ++ t2) ++ t1) := by
    rw [List.append_assoc]
    exact List.Perm.append_left _ (hp.trans List.perm_append_comm)
  refine kn_post (kn_perm hp2 (kn_frame t1 K0)) ?_
  clear K0
  rintro r w gc gs ⟨w1, h9, hw⟩
  obtain ⟨c2, tl2, q0, q1, hr, hw1, hgc, hgs⟩ := h9
  refine ⟨[] ++ (t1 ++ tl2), ?_, ⟨c2, (t1 ++ tl2), ⟨t1, tl2, List.Perm.refl _, h1, q0⟩, q1, hr, rfl, hgc, hgs⟩⟩
  rw [hw, hw1]
  exact two_r _ _ _


theorem g1_contents (l : Launch) (dC : Nat → ClassId) (dI : Nat → Nat → Nat) (k : Nat → ClassId) (hl0 : l.stackTraces = false) (T : Nat → Int → Int → Int → Int) (K : Nat → Int → Int) (qa : Nat) (cp : Nat) (Tb : Nat → Int → Int → Int → Int) (Kb : Nat → Int → Int) (qb : Nat) (cq : Nat) (tl : va_W) (v : Int) (ix : Int) (hP2 : P2 dI k T K qa cp Tb Kb qb cq tl) (hQ : OKT T K) (hrv : -2147483648 ≤ v ∧ v < 2147483648) (hrix : -2147483648 ≤ ix ∧ ix < 2147483648) : Kn l dC dI k yL_contents (.codeWith yL_contents cL_contents 4 (some .int) [(0, 6, 7, 13)]) ({ frames := 10, cells := (131072 - cp + 1), slots := (12 * (131072 - cp) + 6), locals := 229 } : Room) [.ref qa, .int (iI v), .int (iI ix)] ([] ++ tl) (fun r w gc gs => (∃ (cp2 : Nat) (tl2 : va_W), (P2 dI k T K qa cp2 Tb Kb qb cq tl2) ∧ (cp ≤ cp2 ∧ cp2 ≤ 131072) ∧ r = some (.int (iI (v_contents T v ix))) ∧ w = ([] ++ tl2) ∧ gc = (cp2 - cp + 1) ∧ gs = (12 * (cp2 - cp) + 6))) := by
  obtain ⟨t1, t2, hp, h1, h2⟩ := hP2
  have K0 := f_contents l dC dI k hl0 T K qa cp t1 v ix h1 hQ hrv hrix
  have hp2 : ([] ++ tl : va_W).Perm (([] ++ t1) ++ t2) := by
    rw [List.append_assoc]
    exact List.Perm.append_left _ hp
  refine kn_post (kn_perm hp2 (kn_frame t2 K0)) ?_
  clear K0
  rintro r w gc gs ⟨w1, h9, hw⟩
  obtain ⟨c2, tl2, q0, q1, hr, hw1, hgc, hgs⟩ := h9
  refine ⟨[] ++ (tl2 ++ t2), ?_, ⟨c2, (tl2 ++ t2), ⟨tl2, t2, List.Perm.refl _, q0, h2⟩, q1, hr, rfl, hgc, hgs⟩⟩
  rw [hw, hw1]
  exact two_l _ _ _


theorem g2_contents (l : Launch) (dC : Nat → ClassId) (dI : Nat → Nat → Nat) (k : Nat → ClassId) (hl0 : l.stackTraces = false) (T : Nat → Int → Int → Int → Int) (K : Nat → Int → Int) (qa : Nat) (cp : Nat) (Tb : Nat → Int → Int → Int → Int) (Kb : Nat → Int → Int) (qb : Nat) (cq : Nat) (tl : va_W) (v : Int) (ix : Int) (hP2 : P2 dI k T K qa cp Tb Kb qb cq tl) (hQ : OKT Tb Kb) (hrv : -2147483648 ≤ v ∧ v < 2147483648) (hrix : -2147483648 ≤ ix ∧ ix < 2147483648) : Kn l dC dI k yL_contents (.codeWith yL_contents cL_contents 4 (some .int) [(0, 6, 7, 13)]) ({ frames := 10, cells := (131072 - cq + 1), slots := (12 * (131072 - cq) + 6), locals := 229 } : Room) [.ref qb, .int (iI v), .int (iI ix)] ([] ++ tl) (fun r w gc gs => (∃ (cq2 : Nat) (tl2 : va_W), (P2 dI k T K qa cp Tb Kb qb cq2 tl2) ∧ (cq ≤ cq2 ∧ cq2 ≤ 131072) ∧ r = some (.int (iI (v_contents Tb v ix))) ∧ w = ([] ++ tl2) ∧ gc = (cq2 - cq + 1) ∧ gs = (12 * (cq2 - cq) + 6))) := by
  obtain ⟨t1, t2, hp, h1, h2⟩ := hP2
  have K0 := f_contents l dC dI k hl0 Tb Kb qb cq t2 v ix h2 hQ hrv hrix
  have hp2 : ([] ++ tl : va_W).Perm (([] ++ t2) ++ t1) := by
    rw [List.append_assoc]
    exact List.Perm.append_left _ (hp.trans List.perm_append_comm)
  refine kn_post (kn_perm hp2 (kn_frame t1 K0)) ?_
  clear K0
  rintro r w gc gs ⟨w1, h9, hw⟩
  obtain ⟨c2, tl2, q0, q1, hr, hw1, hgc, hgs⟩ := h9
  refine ⟨[] ++ (t1 ++ tl2), ?_, ⟨c2, (t1 ++ tl2), ⟨t1, tl2, List.Perm.refl _, h1, q0⟩, q1, hr, rfl, hgc, hgs⟩⟩
  rw [hw, hw1]
  exact two_r _ _ _


theorem g1_count (l : Launch) (dC : Nat → ClassId) (dI : Nat → Nat → Nat) (k : Nat → ClassId) (hl0 : l.stackTraces = false) (T : Nat → Int → Int → Int → Int) (K : Nat → Int → Int) (qa : Nat) (cp : Nat) (Tb : Nat → Int → Int → Int → Int) (Kb : Nat → Int → Int) (qb : Nat) (cq : Nat) (tl : va_W) (pl : Int) (hP2 : P2 dI k T K qa cp Tb Kb qb cq tl) (hQ : OKT T K) (hrpl : -2147483648 ≤ pl ∧ pl < 2147483648) : Kn l dC dI k yL_count (.codeWith yL_count cL_count 3 (some .int) [(0, 5, 6, 13)]) ({ frames := 9, cells := (131072 - cp + 1), slots := (12 * (131072 - cp) + 6), locals := 145 } : Room) [.ref qa, .int (iI pl)] ([] ++ tl) (fun r w gc gs => (∃ (cp2 : Nat) (tl2 : va_W), (P2 dI k T K qa cp2 Tb Kb qb cq tl2) ∧ (cp ≤ cp2 ∧ cp2 ≤ 131072) ∧ r = some (.int (iI (v_count T pl))) ∧ w = ([] ++ tl2) ∧ gc = (cp2 - cp + 1) ∧ gs = (12 * (cp2 - cp) + 6))) := by
  obtain ⟨t1, t2, hp, h1, h2⟩ := hP2
  have K0 := f_count l dC dI k hl0 T K qa cp t1 pl h1 hQ hrpl
  have hp2 : ([] ++ tl : va_W).Perm (([] ++ t1) ++ t2) := by
    rw [List.append_assoc]
    exact List.Perm.append_left _ hp
  refine kn_post (kn_perm hp2 (kn_frame t2 K0)) ?_
  clear K0
  rintro r w gc gs ⟨w1, h9, hw⟩
  obtain ⟨c2, tl2, q0, q1, hr, hw1, hgc, hgs⟩ := h9
  refine ⟨[] ++ (tl2 ++ t2), ?_, ⟨c2, (tl2 ++ t2), ⟨tl2, t2, List.Perm.refl _, q0, h2⟩, q1, hr, rfl, hgc, hgs⟩⟩
  rw [hw, hw1]
  exact two_l _ _ _


theorem g2_count (l : Launch) (dC : Nat → ClassId) (dI : Nat → Nat → Nat) (k : Nat → ClassId) (hl0 : l.stackTraces = false) (T : Nat → Int → Int → Int → Int) (K : Nat → Int → Int) (qa : Nat) (cp : Nat) (Tb : Nat → Int → Int → Int → Int) (Kb : Nat → Int → Int) (qb : Nat) (cq : Nat) (tl : va_W) (pl : Int) (hP2 : P2 dI k T K qa cp Tb Kb qb cq tl) (hQ : OKT Tb Kb) (hrpl : -2147483648 ≤ pl ∧ pl < 2147483648) : Kn l dC dI k yL_count (.codeWith yL_count cL_count 3 (some .int) [(0, 5, 6, 13)]) ({ frames := 9, cells := (131072 - cq + 1), slots := (12 * (131072 - cq) + 6), locals := 145 } : Room) [.ref qb, .int (iI pl)] ([] ++ tl) (fun r w gc gs => (∃ (cq2 : Nat) (tl2 : va_W), (P2 dI k T K qa cp Tb Kb qb cq2 tl2) ∧ (cq ≤ cq2 ∧ cq2 ≤ 131072) ∧ r = some (.int (iI (v_count Tb pl))) ∧ w = ([] ++ tl2) ∧ gc = (cq2 - cq + 1) ∧ gs = (12 * (cq2 - cq) + 6))) := by
  obtain ⟨t1, t2, hp, h1, h2⟩ := hP2
  have K0 := f_count l dC dI k hl0 Tb Kb qb cq t2 pl h2 hQ hrpl
  have hp2 : ([] ++ tl : va_W).Perm (([] ++ t2) ++ t1) := by
    rw [List.append_assoc]
    exact List.Perm.append_left _ (hp.trans List.perm_append_comm)
  refine kn_post (kn_perm hp2 (kn_frame t1 K0)) ?_
  clear K0
  rintro r w gc gs ⟨w1, h9, hw⟩
  obtain ⟨c2, tl2, q0, q1, hr, hw1, hgc, hgs⟩ := h9
  refine ⟨[] ++ (t1 ++ tl2), ?_, ⟨c2, (t1 ++ tl2), ⟨t1, tl2, List.Perm.refl _, h1, q0⟩, q1, hr, rfl, hgc, hgs⟩⟩
  rw [hw, hw1]
  exact two_r _ _ _


theorem g1_lines (l : Launch) (dC : Nat → ClassId) (dI : Nat → Nat → Nat) (k : Nat → ClassId) (hl0 : l.stackTraces = false) (T : Nat → Int → Int → Int → Int) (K : Nat → Int → Int) (qa : Nat) (cp : Nat) (Tb : Nat → Int → Int → Int → Int) (Kb : Nat → Int → Int) (qb : Nat) (cq : Nat) (tl : va_W) (v : Int) (pl : Int) (hP2 : P2 dI k T K qa cp Tb Kb qb cq tl) (hQ : OKT T K) (hrv : -2147483648 ≤ v ∧ v < 2147483648) (hrpl : -2147483648 ≤ pl ∧ pl < 2147483648) : Kn l dC dI k yL_lines (.codeWith yL_lines cL_lines 4 (some .int) [(0, 6, 7, 13)]) ({ frames := 10, cells := (131072 - cp + 1), slots := (12 * (131072 - cp) + 6), locals := 227 } : Room) [.ref qa, .int (iI v), .int (iI pl)] ([] ++ tl) (fun r w gc gs => (∃ (cp2 : Nat) (tl2 : va_W), (P2 dI k T K qa cp2 Tb Kb qb cq tl2) ∧ (cp ≤ cp2 ∧ cp2 ≤ 131072) ∧ r = some (.int (iI (v_lines T v pl))) ∧ w = ([] ++ tl2) ∧ gc = (cp2 - cp + 1) ∧ gs = (12 * (cp2 - cp) + 6))) := by
  obtain ⟨t1, t2, hp, h1, h2⟩ := hP2
  have K0 := f_lines l dC dI k hl0 T K qa cp t1 v pl h1 hQ hrv hrpl
  have hp2 : ([] ++ tl : va_W).Perm (([] ++ t1) ++ t2) := by
    rw [List.append_assoc]
    exact List.Perm.append_left _ hp
  refine kn_post (kn_perm hp2 (kn_frame t2 K0)) ?_
  clear K0
  rintro r w gc gs ⟨w1, h9, hw⟩
  obtain ⟨c2, tl2, q0, q1, hr, hw1, hgc, hgs⟩ := h9
  refine ⟨[] ++ (tl2 ++ t2), ?_, ⟨c2, (tl2 ++ t2), ⟨tl2, t2, List.Perm.refl _, q0, h2⟩, q1, hr, rfl, hgc, hgs⟩⟩
  rw [hw, hw1]
  exact two_l _ _ _


theorem g2_lines (l : Launch) (dC : Nat → ClassId) (dI : Nat → Nat → Nat) (k : Nat → ClassId) (hl0 : l.stackTraces = false) (T : Nat → Int → Int → Int → Int) (K : Nat → Int → Int) (qa : Nat) (cp : Nat) (Tb : Nat → Int → Int → Int → Int) (Kb : Nat → Int → Int) (qb : Nat) (cq : Nat) (tl : va_W) (v : Int) (pl : Int) (hP2 : P2 dI k T K qa cp Tb Kb qb cq tl) (hQ : OKT Tb Kb) (hrv : -2147483648 ≤ v ∧ v < 2147483648) (hrpl : -2147483648 ≤ pl ∧ pl < 2147483648) : Kn l dC dI k yL_lines (.codeWith yL_lines cL_lines 4 (some .int) [(0, 6, 7, 13)]) ({ frames := 10, cells := (131072 - cq + 1), slots := (12 * (131072 - cq) + 6), locals := 227 } : Room) [.ref qb, .int (iI v), .int (iI pl)] ([] ++ tl) (fun r w gc gs => (∃ (cq2 : Nat) (tl2 : va_W), (P2 dI k T K qa cp Tb Kb qb cq2 tl2) ∧ (cq ≤ cq2 ∧ cq2 ≤ 131072) ∧ r = some (.int (iI (v_lines Tb v pl))) ∧ w = ([] ++ tl2) ∧ gc = (cq2 - cq + 1) ∧ gs = (12 * (cq2 - cq) + 6))) := by
  obtain ⟨t1, t2, hp, h1, h2⟩ := hP2
  have K0 := f_lines l dC dI k hl0 Tb Kb qb cq t2 v pl h2 hQ hrv hrpl
  have hp2 : ([] ++ tl : va_W).Perm (([] ++ t2) ++ t1) := by
    rw [List.append_assoc]
    exact List.Perm.append_left _ (hp.trans List.perm_append_comm)
  refine kn_post (kn_perm hp2 (kn_frame t1 K0)) ?_
  clear K0
  rintro r w gc gs ⟨w1, h9, hw⟩
  obtain ⟨c2, tl2, q0, q1, hr, hw1, hgc, hgs⟩ := h9
  refine ⟨[] ++ (t1 ++ tl2), ?_, ⟨c2, (t1 ++ tl2), ⟨t1, tl2, List.Perm.refl _, h1, q0⟩, q1, hr, rfl, hgc, hgs⟩⟩
  rw [hw, hw1]
  exact two_r _ _ _


theorem g1_demerits (l : Launch) (dC : Nat → ClassId) (dI : Nat → Nat → Nat) (k : Nat → ClassId) (hl0 : l.stackTraces = false) (T : Nat → Int → Int → Int → Int) (K : Nat → Int → Int) (qa : Nat) (cp : Nat) (Tb : Nat → Int → Int → Int → Int) (Kb : Nat → Int → Int) (qb : Nat) (cq : Nat) (tl : va_W) (v : Int) (pl : Int) (hP2 : P2 dI k T K qa cp Tb Kb qb cq tl) (hQ : OKT T K) (hrv : -2147483648 ≤ v ∧ v < 2147483648) (hrpl : -2147483648 ≤ pl ∧ pl < 2147483648) : Kn l dC dI k yL_demerits (.codeWith yL_demerits cL_demerits 4 (some .long) [(0, 6, 7, 13)]) ({ frames := 10, cells := (131072 - cp + 1), slots := (12 * (131072 - cp) + 6), locals := 227 } : Room) [.ref qa, .int (iI v), .int (iI pl)] ([] ++ tl) (fun r w gc gs => (∃ (cp2 : Nat) (tl2 : va_W), (P2 dI k T K qa cp2 Tb Kb qb cq tl2) ∧ (cp ≤ cp2 ∧ cp2 ≤ 131072) ∧ r = some (.long (lI (v_demerits T v pl))) ∧ w = ([] ++ tl2) ∧ gc = (cp2 - cp + 1) ∧ gs = (12 * (cp2 - cp) + 6))) := by
  obtain ⟨t1, t2, hp, h1, h2⟩ := hP2
  have K0 := f_demerits l dC dI k hl0 T K qa cp t1 v pl h1 hQ hrv hrpl
  have hp2 : ([] ++ tl : va_W).Perm (([] ++ t1) ++ t2) := by
    rw [List.append_assoc]
    exact List.Perm.append_left _ hp
  refine kn_post (kn_perm hp2 (kn_frame t2 K0)) ?_
  clear K0
  rintro r w gc gs ⟨w1, h9, hw⟩
  obtain ⟨c2, tl2, q0, q1, hr, hw1, hgc, hgs⟩ := h9
  refine ⟨[] ++ (tl2 ++ t2), ?_, ⟨c2, (tl2 ++ t2), ⟨tl2, t2, List.Perm.refl _, q0, h2⟩, q1, hr, rfl, hgc, hgs⟩⟩
  rw [hw, hw1]
  exact two_l _ _ _


theorem g2_demerits (l : Launch) (dC : Nat → ClassId) (dI : Nat → Nat → Nat) (k : Nat → ClassId) (hl0 : l.stackTraces = false) (T : Nat → Int → Int → Int → Int) (K : Nat → Int → Int) (qa : Nat) (cp : Nat) (Tb : Nat → Int → Int → Int → Int) (Kb : Nat → Int → Int) (qb : Nat) (cq : Nat) (tl : va_W) (v : Int) (pl : Int) (hP2 : P2 dI k T K qa cp Tb Kb qb cq tl) (hQ : OKT Tb Kb) (hrv : -2147483648 ≤ v ∧ v < 2147483648) (hrpl : -2147483648 ≤ pl ∧ pl < 2147483648) : Kn l dC dI k yL_demerits (.codeWith yL_demerits cL_demerits 4 (some .long) [(0, 6, 7, 13)]) ({ frames := 10, cells := (131072 - cq + 1), slots := (12 * (131072 - cq) + 6), locals := 227 } : Room) [.ref qb, .int (iI v), .int (iI pl)] ([] ++ tl) (fun r w gc gs => (∃ (cq2 : Nat) (tl2 : va_W), (P2 dI k T K qa cp Tb Kb qb cq2 tl2) ∧ (cq ≤ cq2 ∧ cq2 ≤ 131072) ∧ r = some (.long (lI (v_demerits Tb v pl))) ∧ w = ([] ++ tl2) ∧ gc = (cq2 - cq + 1) ∧ gs = (12 * (cq2 - cq) + 6))) := by
  obtain ⟨t1, t2, hp, h1, h2⟩ := hP2
  have K0 := f_demerits l dC dI k hl0 Tb Kb qb cq t2 v pl h2 hQ hrv hrpl
  have hp2 : ([] ++ tl : va_W).Perm (([] ++ t2) ++ t1) := by
    rw [List.append_assoc]
    exact List.Perm.append_left _ (hp.trans List.perm_append_comm)
  refine kn_post (kn_perm hp2 (kn_frame t1 K0)) ?_
  clear K0
  rintro r w gc gs ⟨w1, h9, hw⟩
  obtain ⟨c2, tl2, q0, q1, hr, hw1, hgc, hgs⟩ := h9
  refine ⟨[] ++ (t1 ++ tl2), ?_, ⟨c2, (t1 ++ tl2), ⟨t1, tl2, List.Perm.refl _, h1, q0⟩, q1, hr, rfl, hgc, hgs⟩⟩
  rw [hw, hw1]
  exact two_r _ _ _


theorem g1_number (l : Launch) (dC : Nat → ClassId) (dI : Nat → Nat → Nat) (k : Nat → ClassId) (hl0 : l.stackTraces = false) (T : Nat → Int → Int → Int → Int) (K : Nat → Int → Int) (qa : Nat) (cp : Nat) (Tb : Nat → Int → Int → Int → Int) (Kb : Nat → Int → Int) (qb : Nat) (cq : Nat) (tl : va_W) (v : Int) (pl : Int) (hP2 : P2 dI k T K qa cp Tb Kb qb cq tl) (hQ : OKT T K) (hrv : -2147483648 ≤ v ∧ v < 2147483648) (hrpl : -2147483648 ≤ pl ∧ pl < 2147483648) : Kn l dC dI k yL_number (.codeWith yL_number cL_number 4 (some .int) [(0, 6, 7, 13)]) ({ frames := 9, cells := (131072 - cp + 1), slots := (12 * (131072 - cp) + 6), locals := 147 } : Room) [.ref qa, .int (iI v), .int (iI pl)] ([] ++ tl) (fun r w gc gs => (∃ (cp2 : Nat) (tl2 : va_W), (P2 dI k T K qa cp2 Tb Kb qb cq tl2) ∧ (cp ≤ cp2 ∧ cp2 ≤ 131072) ∧ r = some (.int (iI (v_number T v pl))) ∧ w = ([] ++ tl2) ∧ gc = (cp2 - cp + 1) ∧ gs = (12 * (cp2 - cp) + 6))) := by
  obtain ⟨t1, t2, hp, h1, h2⟩ := hP2
  have K0 := f_number l dC dI k hl0 T K qa cp t1 v pl h1 hQ hrv hrpl
  have hp2 : ([] ++ tl : va_W).Perm (([] ++ t1) ++ t2) := by
    rw [List.append_assoc]
    exact List.Perm.append_left _ hp
  refine kn_post (kn_perm hp2 (kn_frame t2 K0)) ?_
  clear K0
  rintro r w gc gs ⟨w1, h9, hw⟩
  obtain ⟨c2, tl2, q0, q1, hr, hw1, hgc, hgs⟩ := h9
  refine ⟨[] ++ (tl2 ++ t2), ?_, ⟨c2, (tl2 ++ t2), ⟨tl2, t2, List.Perm.refl _, q0, h2⟩, q1, hr, rfl, hgc, hgs⟩⟩
  rw [hw, hw1]
  exact two_l _ _ _


theorem g2_number (l : Launch) (dC : Nat → ClassId) (dI : Nat → Nat → Nat) (k : Nat → ClassId) (hl0 : l.stackTraces = false) (T : Nat → Int → Int → Int → Int) (K : Nat → Int → Int) (qa : Nat) (cp : Nat) (Tb : Nat → Int → Int → Int → Int) (Kb : Nat → Int → Int) (qb : Nat) (cq : Nat) (tl : va_W) (v : Int) (pl : Int) (hP2 : P2 dI k T K qa cp Tb Kb qb cq tl) (hQ : OKT Tb Kb) (hrv : -2147483648 ≤ v ∧ v < 2147483648) (hrpl : -2147483648 ≤ pl ∧ pl < 2147483648) : Kn l dC dI k yL_number (.codeWith yL_number cL_number 4 (some .int) [(0, 6, 7, 13)]) ({ frames := 9, cells := (131072 - cq + 1), slots := (12 * (131072 - cq) + 6), locals := 147 } : Room) [.ref qb, .int (iI v), .int (iI pl)] ([] ++ tl) (fun r w gc gs => (∃ (cq2 : Nat) (tl2 : va_W), (P2 dI k T K qa cp Tb Kb qb cq2 tl2) ∧ (cq ≤ cq2 ∧ cq2 ≤ 131072) ∧ r = some (.int (iI (v_number Tb v pl))) ∧ w = ([] ++ tl2) ∧ gc = (cq2 - cq + 1) ∧ gs = (12 * (cq2 - cq) + 6))) := by
  obtain ⟨t1, t2, hp, h1, h2⟩ := hP2
  have K0 := f_number l dC dI k hl0 Tb Kb qb cq t2 v pl h2 hQ hrv hrpl
  have hp2 : ([] ++ tl : va_W).Perm (([] ++ t2) ++ t1) := by
    rw [List.append_assoc]
    exact List.Perm.append_left _ (hp.trans List.perm_append_comm)
  refine kn_post (kn_perm hp2 (kn_frame t1 K0)) ?_
  clear K0
  rintro r w gc gs ⟨w1, h9, hw⟩
  obtain ⟨c2, tl2, q0, q1, hr, hw1, hgc, hgs⟩ := h9
  refine ⟨[] ++ (t1 ++ tl2), ?_, ⟨c2, (t1 ++ tl2), ⟨t1, tl2, List.Perm.refl _, h1, q0⟩, q1, hr, rfl, hgc, hgs⟩⟩
  rw [hw, hw1]
  exact two_r _ _ _


theorem g1_wide (l : Launch) (dC : Nat → ClassId) (dI : Nat → Nat → Nat) (k : Nat → ClassId) (hl0 : l.stackTraces = false) (T : Nat → Int → Int → Int → Int) (K : Nat → Int → Int) (qa : Nat) (cp : Nat) (Tb : Nat → Int → Int → Int → Int) (Kb : Nat → Int → Int) (qb : Nat) (cq : Nat) (tl : va_W) (pl : Int) (cc : Int) (hP2 : P2 dI k T K qa cp Tb Kb qb cq tl) (hQ : OKT T K) (hrpl : -2147483648 ≤ pl ∧ pl < 2147483648) (hrcc : -2147483648 ≤ cc ∧ cc < 2147483648) : Kn l dC dI k yL_wide (.codeWith yL_wide cL_wide 4 (some .int) [(0, 6, 7, 13)]) ({ frames := 10, cells := (131072 - cp + 1), slots := (12 * (131072 - cp) + 6), locals := 169 } : Room) [.ref qa, .int (iI pl), .int (iI cc)] ([] ++ tl) (fun r w gc gs => (∃ (cp2 : Nat) (tl2 : va_W), (P2 dI k T K qa cp2 Tb Kb qb cq tl2) ∧ (cp ≤ cp2 ∧ cp2 ≤ 131072) ∧ r = some (.int (iI (v_wide T pl cc))) ∧ w = ([] ++ tl2) ∧ gc = (cp2 - cp + 1) ∧ gs = (12 * (cp2 - cp) + 6))) := by
  obtain ⟨t1, t2, hp, h1, h2⟩ := hP2
  have K0 := f_wide l dC dI k hl0 T K qa cp t1 pl cc h1 hQ hrpl hrcc
  have hp2 : ([] ++ tl : va_W).Perm (([] ++ t1) ++ t2) := by
    rw [List.append_assoc]
    exact List.Perm.append_left _ hp
  refine kn_post (kn_perm hp2 (kn_frame t2 K0)) ?_
  clear K0
  rintro r w gc gs ⟨w1, h9, hw⟩
  obtain ⟨c2, tl2, q0, q1, hr, hw1, hgc, hgs⟩ := h9
  refine ⟨[] ++ (tl2 ++ t2), ?_, ⟨c2, (tl2 ++ t2), ⟨tl2, t2, List.Perm.refl _, q0, h2⟩, q1, hr, rfl, hgc, hgs⟩⟩
  rw [hw, hw1]
  exact two_l _ _ _


theorem g2_wide (l : Launch) (dC : Nat → ClassId) (dI : Nat → Nat → Nat) (k : Nat → ClassId) (hl0 : l.stackTraces = false) (T : Nat → Int → Int → Int → Int) (K : Nat → Int → Int) (qa : Nat) (cp : Nat) (Tb : Nat → Int → Int → Int → Int) (Kb : Nat → Int → Int) (qb : Nat) (cq : Nat) (tl : va_W) (pl : Int) (cc : Int) (hP2 : P2 dI k T K qa cp Tb Kb qb cq tl) (hQ : OKT Tb Kb) (hrpl : -2147483648 ≤ pl ∧ pl < 2147483648) (hrcc : -2147483648 ≤ cc ∧ cc < 2147483648) : Kn l dC dI k yL_wide (.codeWith yL_wide cL_wide 4 (some .int) [(0, 6, 7, 13)]) ({ frames := 10, cells := (131072 - cq + 1), slots := (12 * (131072 - cq) + 6), locals := 169 } : Room) [.ref qb, .int (iI pl), .int (iI cc)] ([] ++ tl) (fun r w gc gs => (∃ (cq2 : Nat) (tl2 : va_W), (P2 dI k T K qa cp Tb Kb qb cq2 tl2) ∧ (cq ≤ cq2 ∧ cq2 ≤ 131072) ∧ r = some (.int (iI (v_wide Tb pl cc))) ∧ w = ([] ++ tl2) ∧ gc = (cq2 - cq + 1) ∧ gs = (12 * (cq2 - cq) + 6))) := by
  obtain ⟨t1, t2, hp, h1, h2⟩ := hP2
  have K0 := f_wide l dC dI k hl0 Tb Kb qb cq t2 pl cc h2 hQ hrpl hrcc
  have hp2 : ([] ++ tl : va_W).Perm (([] ++ t2) ++ t1) := by
    rw [List.append_assoc]
    exact List.Perm.append_left _ (hp.trans List.perm_append_comm)
  refine kn_post (kn_perm hp2 (kn_frame t1 K0)) ?_
  clear K0
  rintro r w gc gs ⟨w1, h9, hw⟩
  obtain ⟨c2, tl2, q0, q1, hr, hw1, hgc, hgs⟩ := h9
  refine ⟨[] ++ (t1 ++ tl2), ?_, ⟨c2, (t1 ++ tl2), ⟨t1, tl2, List.Perm.refl _, h1, q0⟩, q1, hr, rfl, hgc, hgs⟩⟩
  rw [hw, hw1]
  exact two_r _ _ _


theorem g1_high (l : Launch) (dC : Nat → ClassId) (dI : Nat → Nat → Nat) (k : Nat → ClassId) (hl0 : l.stackTraces = false) (T : Nat → Int → Int → Int → Int) (K : Nat → Int → Int) (qa : Nat) (cp : Nat) (Tb : Nat → Int → Int → Int → Int) (Kb : Nat → Int → Int) (qb : Nat) (cq : Nat) (tl : va_W) (pl : Int) (ro : Int) (hP2 : P2 dI k T K qa cp Tb Kb qb cq tl) (hQ : OKT T K) (hrpl : -2147483648 ≤ pl ∧ pl < 2147483648) (hrro : -2147483648 ≤ ro ∧ ro < 2147483648) : Kn l dC dI k yL_high (.codeWith yL_high cL_high 4 (some .int) [(0, 6, 7, 13)]) ({ frames := 10, cells := (131072 - cp + 1), slots := (12 * (131072 - cp) + 6), locals := 169 } : Room) [.ref qa, .int (iI pl), .int (iI ro)] ([] ++ tl) (fun r w gc gs => (∃ (cp2 : Nat) (tl2 : va_W), (P2 dI k T K qa cp2 Tb Kb qb cq tl2) ∧ (cp ≤ cp2 ∧ cp2 ≤ 131072) ∧ r = some (.int (iI (v_high T pl ro))) ∧ w = ([] ++ tl2) ∧ gc = (cp2 - cp + 1) ∧ gs = (12 * (cp2 - cp) + 6))) := by
  obtain ⟨t1, t2, hp, h1, h2⟩ := hP2
  have K0 := f_high l dC dI k hl0 T K qa cp t1 pl ro h1 hQ hrpl hrro
  have hp2 : ([] ++ tl : va_W).Perm (([] ++ t1) ++ t2) := by
    rw [List.append_assoc]
    exact List.Perm.append_left _ hp
  refine kn_post (kn_perm hp2 (kn_frame t2 K0)) ?_
  clear K0
  rintro r w gc gs ⟨w1, h9, hw⟩
  obtain ⟨c2, tl2, q0, q1, hr, hw1, hgc, hgs⟩ := h9
  refine ⟨[] ++ (tl2 ++ t2), ?_, ⟨c2, (tl2 ++ t2), ⟨tl2, t2, List.Perm.refl _, q0, h2⟩, q1, hr, rfl, hgc, hgs⟩⟩
  rw [hw, hw1]
  exact two_l _ _ _


theorem g2_high (l : Launch) (dC : Nat → ClassId) (dI : Nat → Nat → Nat) (k : Nat → ClassId) (hl0 : l.stackTraces = false) (T : Nat → Int → Int → Int → Int) (K : Nat → Int → Int) (qa : Nat) (cp : Nat) (Tb : Nat → Int → Int → Int → Int) (Kb : Nat → Int → Int) (qb : Nat) (cq : Nat) (tl : va_W) (pl : Int) (ro : Int) (hP2 : P2 dI k T K qa cp Tb Kb qb cq tl) (hQ : OKT Tb Kb) (hrpl : -2147483648 ≤ pl ∧ pl < 2147483648) (hrro : -2147483648 ≤ ro ∧ ro < 2147483648) : Kn l dC dI k yL_high (.codeWith yL_high cL_high 4 (some .int) [(0, 6, 7, 13)]) ({ frames := 10, cells := (131072 - cq + 1), slots := (12 * (131072 - cq) + 6), locals := 169 } : Room) [.ref qb, .int (iI pl), .int (iI ro)] ([] ++ tl) (fun r w gc gs => (∃ (cq2 : Nat) (tl2 : va_W), (P2 dI k T K qa cp Tb Kb qb cq2 tl2) ∧ (cq ≤ cq2 ∧ cq2 ≤ 131072) ∧ r = some (.int (iI (v_high Tb pl ro))) ∧ w = ([] ++ tl2) ∧ gc = (cq2 - cq + 1) ∧ gs = (12 * (cq2 - cq) + 6))) := by
  obtain ⟨t1, t2, hp, h1, h2⟩ := hP2
  have K0 := f_high l dC dI k hl0 Tb Kb qb cq t2 pl ro h2 hQ hrpl hrro
  have hp2 : ([] ++ tl : va_W).Perm (([] ++ t2) ++ t1) := by
    rw [List.append_assoc]
    exact List.Perm.append_left _ (hp.trans List.perm_append_comm)
  refine kn_post (kn_perm hp2 (kn_frame t1 K0)) ?_
  clear K0
  rintro r w gc gs ⟨w1, h9, hw⟩
  obtain ⟨c2, tl2, q0, q1, hr, hw1, hgc, hgs⟩ := h9
  refine ⟨[] ++ (t1 ++ tl2), ?_, ⟨c2, (t1 ++ tl2), ⟨t1, tl2, List.Perm.refl _, h1, q0⟩, q1, hr, rfl, hgc, hgs⟩⟩
  rw [hw, hw1]
  exact two_r _ _ _


theorem g1_whereIs (l : Launch) (dC : Nat → ClassId) (dI : Nat → Nat → Nat) (k : Nat → ClassId) (hl0 : l.stackTraces = false) (T : Nat → Int → Int → Int → Int) (K : Nat → Int → Int) (qa : Nat) (cp : Nat) (Tb : Nat → Int → Int → Int → Int) (Kb : Nat → Int → Int) (qb : Nat) (cq : Nat) (tl : va_W) (v : Int) (pl : Int) (at_ : Int) (hP2 : P2 dI k T K qa cp Tb Kb qb cq tl) (hQ : OKT T K) (hrv : -2147483648 ≤ v ∧ v < 2147483648) (hrpl : -2147483648 ≤ pl ∧ pl < 2147483648) (hrat_ : -2147483648 ≤ at_ ∧ at_ < 2147483648) : Kn l dC dI k yL_whereIs (.codeWith yL_whereIs cL_whereIs 5 (some .int) [(0, 7, 8, 13)]) ({ frames := 10, cells := (131072 - cp + 1), slots := (12 * (131072 - cp) + 6), locals := 231 } : Room) [.ref qa, .int (iI v), .int (iI pl), .int (iI at_)] ([] ++ tl) (fun r w gc gs => (∃ (cp2 : Nat) (tl2 : va_W), (P2 dI k T K qa cp2 Tb Kb qb cq tl2) ∧ (cp ≤ cp2 ∧ cp2 ≤ 131072) ∧ r = some (.int (iI (v_whereIs T v pl at_))) ∧ w = ([] ++ tl2) ∧ gc = (cp2 - cp + 1) ∧ gs = (12 * (cp2 - cp) + 6))) := by
  obtain ⟨t1, t2, hp, h1, h2⟩ := hP2
  have K0 := f_whereIs l dC dI k hl0 T K qa cp t1 v pl at_ h1 hQ hrv hrpl hrat_
  have hp2 : ([] ++ tl : va_W).Perm (([] ++ t1) ++ t2) := by
    rw [List.append_assoc]
    exact List.Perm.append_left _ hp
  refine kn_post (kn_perm hp2 (kn_frame t2 K0)) ?_
  clear K0
  rintro r w gc gs ⟨w1, h9, hw⟩
  obtain ⟨c2, tl2, q0, q1, hr, hw1, hgc, hgs⟩ := h9
  refine ⟨[] ++ (tl2 ++ t2), ?_, ⟨c2, (tl2 ++ t2), ⟨tl2, t2, List.Perm.refl _, q0, h2⟩, q1, hr, rfl, hgc, hgs⟩⟩
  rw [hw, hw1]
  exact two_l _ _ _


theorem g2_whereIs (l : Launch) (dC : Nat → ClassId) (dI : Nat → Nat → Nat) (k : Nat → ClassId) (hl0 : l.stackTraces = false) (T : Nat → Int → Int → Int → Int) (K : Nat → Int → Int) (qa : Nat) (cp : Nat) (Tb : Nat → Int → Int → Int → Int) (Kb : Nat → Int → Int) (qb : Nat) (cq : Nat) (tl : va_W) (v : Int) (pl : Int) (at_ : Int) (hP2 : P2 dI k T K qa cp Tb Kb qb cq tl) (hQ : OKT Tb Kb) (hrv : -2147483648 ≤ v ∧ v < 2147483648) (hrpl : -2147483648 ≤ pl ∧ pl < 2147483648) (hrat_ : -2147483648 ≤ at_ ∧ at_ < 2147483648) : Kn l dC dI k yL_whereIs (.codeWith yL_whereIs cL_whereIs 5 (some .int) [(0, 7, 8, 13)]) ({ frames := 10, cells := (131072 - cq + 1), slots := (12 * (131072 - cq) + 6), locals := 231 } : Room) [.ref qb, .int (iI v), .int (iI pl), .int (iI at_)] ([] ++ tl) (fun r w gc gs => (∃ (cq2 : Nat) (tl2 : va_W), (P2 dI k T K qa cp Tb Kb qb cq2 tl2) ∧ (cq ≤ cq2 ∧ cq2 ≤ 131072) ∧ r = some (.int (iI (v_whereIs Tb v pl at_))) ∧ w = ([] ++ tl2) ∧ gc = (cq2 - cq + 1) ∧ gs = (12 * (cq2 - cq) + 6))) := by
  obtain ⟨t1, t2, hp, h1, h2⟩ := hP2
  have K0 := f_whereIs l dC dI k hl0 Tb Kb qb cq t2 v pl at_ h2 hQ hrv hrpl hrat_
  have hp2 : ([] ++ tl : va_W).Perm (([] ++ t2) ++ t1) := by
    rw [List.append_assoc]
    exact List.Perm.append_left _ (hp.trans List.perm_append_comm)
  refine kn_post (kn_perm hp2 (kn_frame t1 K0)) ?_
  clear K0
  rintro r w gc gs ⟨w1, h9, hw⟩
  obtain ⟨c2, tl2, q0, q1, hr, hw1, hgc, hgs⟩ := h9
  refine ⟨[] ++ (t1 ++ tl2), ?_, ⟨c2, (t1 ++ tl2), ⟨t1, tl2, List.Perm.refl _, h1, q0⟩, q1, hr, rfl, hgc, hgs⟩⟩
  rw [hw, hw1]
  exact two_r _ _ _


theorem g1_blocks (l : Launch) (dC : Nat → ClassId) (dI : Nat → Nat → Nat) (k : Nat → ClassId) (T : Nat → Int → Int → Int → Int) (K : Nat → Int → Int) (qa : Nat) (cp : Nat) (Tb : Nat → Int → Int → Int → Int) (Kb : Nat → Int → Int) (qb : Nat) (cq : Nat) (tl : va_W) (hP2 : P2 dI k T K qa cp Tb Kb qb cq tl) (hQ : OKT T K) : Kn l dC dI k yX11_blocks (.code yX11_blocks cX11_blocks 1 (some .int)) ({ frames := 1, cells := (131072 - cp + 1), slots := (12 * (131072 - cp) + 6), locals := 20 } : Room) [.ref qa] ([] ++ tl) (fun r w gc gs => (∃ (cp2 : Nat) (tl2 : va_W), (P2 dI k T K qa cp2 Tb Kb qb cq tl2) ∧ (cp ≤ cp2 ∧ cp2 ≤ 131072) ∧ r = some (.int (iI (T 0 0 0 0))) ∧ w = ([] ++ tl2) ∧ gc = (cp2 - cp) ∧ gs = (12 * (cp2 - cp)))) := by
  obtain ⟨t1, t2, hp, h1, h2⟩ := hP2
  have K0 := a_blocks l dC dI k T K qa cp t1 h1 hQ
  have hp2 : ([] ++ tl : va_W).Perm (([] ++ t1) ++ t2) := by
    rw [List.append_assoc]
    exact List.Perm.append_left _ hp
  refine kn_post (kn_perm hp2 (kn_frame t2 K0)) ?_
  clear K0
  rintro r w gc gs ⟨w1, h9, hw⟩
  obtain ⟨c2, tl2, q0, q1, hr, hw1, hgc, hgs⟩ := h9
  refine ⟨[] ++ (tl2 ++ t2), ?_, ⟨c2, (tl2 ++ t2), ⟨tl2, t2, List.Perm.refl _, q0, h2⟩, q1, hr, rfl, hgc, hgs⟩⟩
  rw [hw, hw1]
  exact two_l _ _ _


theorem g2_blocks (l : Launch) (dC : Nat → ClassId) (dI : Nat → Nat → Nat) (k : Nat → ClassId) (T : Nat → Int → Int → Int → Int) (K : Nat → Int → Int) (qa : Nat) (cp : Nat) (Tb : Nat → Int → Int → Int → Int) (Kb : Nat → Int → Int) (qb : Nat) (cq : Nat) (tl : va_W) (hP2 : P2 dI k T K qa cp Tb Kb qb cq tl) (hQ : OKT Tb Kb) : Kn l dC dI k yX11_blocks (.code yX11_blocks cX11_blocks 1 (some .int)) ({ frames := 1, cells := (131072 - cq + 1), slots := (12 * (131072 - cq) + 6), locals := 20 } : Room) [.ref qb] ([] ++ tl) (fun r w gc gs => (∃ (cq2 : Nat) (tl2 : va_W), (P2 dI k T K qa cp Tb Kb qb cq2 tl2) ∧ (cq ≤ cq2 ∧ cq2 ≤ 131072) ∧ r = some (.int (iI (Tb 0 0 0 0))) ∧ w = ([] ++ tl2) ∧ gc = (cq2 - cq) ∧ gs = (12 * (cq2 - cq)))) := by
  obtain ⟨t1, t2, hp, h1, h2⟩ := hP2
  have K0 := a_blocks l dC dI k Tb Kb qb cq t2 h2 hQ
  have hp2 : ([] ++ tl : va_W).Perm (([] ++ t2) ++ t1) := by
    rw [List.append_assoc]
    exact List.Perm.append_left _ (hp.trans List.perm_append_comm)
  refine kn_post (kn_perm hp2 (kn_frame t1 K0)) ?_
  clear K0
  rintro r w gc gs ⟨w1, h9, hw⟩
  obtain ⟨c2, tl2, q0, q1, hr, hw1, hgc, hgs⟩ := h9
  refine ⟨[] ++ (t1 ++ tl2), ?_, ⟨c2, (t1 ++ tl2), ⟨t1, tl2, List.Perm.refl _, h1, q0⟩, q1, hr, rfl, hgc, hgs⟩⟩
  rw [hw, hw1]
  exact two_r _ _ _


end
