section
theorem g1_act (l : Launch) (dC : Nat → ClassId) (dI : Nat → Nat → Nat) (k : Nat → ClassId) (T : Nat → Int → Int → Int → Int) (K : Nat → Int → Int) (qa : Nat) (cp : Nat) (Tb : Nat → Int → Int → Int → Int) (Kb : Nat → Int → Int) (qb : Nat) (cq : Nat) (tl : va_W) (hl0 : l.stackTraces = false) (na : Nat) (nf : Int → Int) (xx : Int) (hP2 : P2 dI k T K qa cp Tb Kb qb cq tl) (hQ : OKT T K) (hx9 : 0 ≤ xx ∧ xx ≤ 2147483647) (hn9 : nf 0 = T 0 0 0 0 ∧ nf 1 = K 0 0 ∧ nf 2 = T 12 0 0 0 ∧ nf 3 = T 18 0 0 0) : Kn l dC dI k yL_act (.code yL_act cL_act 5 (some .int)) ({ frames := 16, cells := ((131072 - cp) + 14), slots := ((12 * (131072 - cp)) + 122), locals := 495 } : Room) [.ref qa, .ref na, .int (iI xx)] ([(na, .inl (k 0, 4, .inl (fun i9 : Nat => iI (nf i9))))] ++ tl) (fun r w gc gs => (∃ (cp2 : Nat) (tl2 : va_W), (P2 dI k ((acZ T K xx).1) ((acZ T K xx).2.1) qa cp2 Tb Kb qb cq tl2) ∧ (cp ≤ cp2 ∧ cp2 ≤ 131072) ∧ r = some (.int (iI ((acZ T K xx).2.2))) ∧ w = ([(na, .inl (k 0, 4, .inl (fun i9 : Nat => iI (nf i9))))] ++ tl2) ∧ gc = ((cp2 - cp) + 13) ∧ gs = ((12 * (cp2 - cp)) + 116))) := by
  obtain ⟨t1, t2, hp, h1, h2⟩ := hP2
  have K0 := w_act l dC dI k hl0 T K qa cp t1 na nf xx h1 hQ hx9 hn9
  have hp2 : ([(na, .inl (k 0, 4, .inl (fun i9 : Nat => iI (nf i9))))] ++ tl : va_W).Perm (([(na, .inl (k 0, 4, .inl (fun i9 : Nat => iI (nf i9))))] ++ t1) ++ t2) := by
    rw [List.append_assoc]
    exact List.Perm.append_left _ hp
  refine kn_post (kn_perm hp2 (kn_frame t2 K0)) ?_
  clear K0
  rintro r w gc gs ⟨w1, h9, hw⟩
  obtain ⟨c2, tl2, q0, q1, hr, hw1, hgc, hgs⟩ := h9
  refine ⟨[(na, .inl (k 0, 4, .inl (fun i9 : Nat => iI (nf i9))))] ++ (tl2 ++ t2), ?_, ⟨c2, (tl2 ++ t2), ⟨tl2, t2, List.Perm.refl _, q0, h2⟩, q1, hr, rfl, hgc, hgs⟩⟩
  rw [hw, hw1]
  exact two_l _ _ _


theorem g2_act (l : Launch) (dC : Nat → ClassId) (dI : Nat → Nat → Nat) (k : Nat → ClassId) (T : Nat → Int → Int → Int → Int) (K : Nat → Int → Int) (qa : Nat) (cp : Nat) (Tb : Nat → Int → Int → Int → Int) (Kb : Nat → Int → Int) (qb : Nat) (cq : Nat) (tl : va_W) (hl0 : l.stackTraces = false) (na : Nat) (nf : Int → Int) (xx : Int) (hP2 : P2 dI k T K qa cp Tb Kb qb cq tl) (hQ : OKT Tb Kb) (hx9 : 0 ≤ xx ∧ xx ≤ 2147483647) (hn9 : nf 0 = Tb 0 0 0 0 ∧ nf 1 = Kb 0 0 ∧ nf 2 = Tb 12 0 0 0 ∧ nf 3 = Tb 18 0 0 0) : Kn l dC dI k yL_act (.code yL_act cL_act 5 (some .int)) ({ frames := 16, cells := ((131072 - cq) + 14), slots := ((12 * (131072 - cq)) + 122), locals := 495 } : Room) [.ref qb, .ref na, .int (iI xx)] ([(na, .inl (k 0, 4, .inl (fun i9 : Nat => iI (nf i9))))] ++ tl) (fun r w gc gs => (∃ (cq2 : Nat) (tl2 : va_W), (P2 dI k T K qa cp ((acZ Tb Kb xx).1) ((acZ Tb Kb xx).2.1) qb cq2 tl2) ∧ (cq ≤ cq2 ∧ cq2 ≤ 131072) ∧ r = some (.int (iI ((acZ Tb Kb xx).2.2))) ∧ w = ([(na, .inl (k 0, 4, .inl (fun i9 : Nat => iI (nf i9))))] ++ tl2) ∧ gc = ((cq2 - cq) + 13) ∧ gs = ((12 * (cq2 - cq)) + 116))) := by
  obtain ⟨t1, t2, hp, h1, h2⟩ := hP2
  have K0 := w_act l dC dI k hl0 Tb Kb qb cq t2 na nf xx h2 hQ hx9 hn9
  have hp2 : ([(na, .inl (k 0, 4, .inl (fun i9 : Nat => iI (nf i9))))] ++ tl : va_W).Perm (([(na, .inl (k 0, 4, .inl (fun i9 : Nat => iI (nf i9))))] ++ t2) ++ t1) := by
    rw [List.append_assoc]
    exact List.Perm.append_left _ (hp.trans List.perm_append_comm)
  refine kn_post (kn_perm hp2 (kn_frame t1 K0)) ?_
  clear K0
  rintro r w gc gs ⟨w1, h9, hw⟩
  obtain ⟨c2, tl2, q0, q1, hr, hw1, hgc, hgs⟩ := h9
  refine ⟨[(na, .inl (k 0, 4, .inl (fun i9 : Nat => iI (nf i9))))] ++ (t1 ++ tl2), ?_, ⟨c2, (t1 ++ tl2), ⟨t1, tl2, List.Perm.refl _, h1, q0⟩, q1, hr, rfl, hgc, hgs⟩⟩
  rw [hw, hw1]
  exact two_r _ _ _


theorem g2_refuses (l : Launch) (dC : Nat → ClassId) (dI : Nat → Nat → Nat) (k : Nat → ClassId) (T : Nat → Int → Int → Int → Int) (K : Nat → Int → Int) (qa : Nat) (cp : Nat) (Tb : Nat → Int → Int → Int → Int) (Kb : Nat → Int → Int) (qb : Nat) (cq : Nat) (tl : va_W) (hl0 : l.stackTraces = false) (na : Nat) (nf : Int → Int) (xx : Int) (hP2 : P2 dI k T K qa cp Tb Kb qb cq tl) (hQ : OKT Tb Kb) (hx9 : 0 ≤ xx ∧ xx < 9973) (hn9 : nf 0 = Tb 0 0 0 0 ∧ nf 1 = Kb 0 0 ∧ nf 2 = Tb 12 0 0 0 ∧ nf 3 = Tb 18 0 0 0) : Kn l dC dI k yL_refuses (.code yL_refuses cL_refuses 11 (some .boolean)) ({ frames := 16, cells := ((131072 - cq) + 129), slots := ((12 * (131072 - cq)) + 1266), locals := 495 } : Room) [.ref qb, .ref na, .int (iI xx)] ([(na, .inl (k 0, 4, .inl (fun i9 : Nat => iI (nf i9))))] ++ tl) (fun r w gc gs => (∃ (cq2 : Nat) (tl2 : va_W), (P2 dI k T K qa cp Tb Kb qb cq2 tl2) ∧ (cq ≤ cq2 ∧ cq2 ≤ 131072) ∧ r = some (.int (iI 1)) ∧ w = ([(na, .inl (k 0, 4, .inl (fun i9 : Nat => iI (nf i9))))] ++ tl2) ∧ gc = ((cq2 - cq) + 129) ∧ gs = ((12 * (cq2 - cq)) + 1266))) := by
  obtain ⟨t1, t2, hp, h1, h2⟩ := hP2
  have K0 := w_refuses l dC dI k hl0 Tb Kb qb cq t2 na nf xx h2 hQ hx9 hn9
  have hp2 : ([(na, .inl (k 0, 4, .inl (fun i9 : Nat => iI (nf i9))))] ++ tl : va_W).Perm (([(na, .inl (k 0, 4, .inl (fun i9 : Nat => iI (nf i9))))] ++ t2) ++ t1) := by
    rw [List.append_assoc]
    exact List.Perm.append_left _ (hp.trans List.perm_append_comm)
  refine kn_post (kn_perm hp2 (kn_frame t1 K0)) ?_
  clear K0
  rintro r w gc gs ⟨w1, h9, hw⟩
  obtain ⟨c2, tl2, q0, q1, hr, hw1, hgc, hgs⟩ := h9
  refine ⟨[(na, .inl (k 0, 4, .inl (fun i9 : Nat => iI (nf i9))))] ++ (t1 ++ tl2), ?_, ⟨c2, (t1 ++ tl2), ⟨t1, tl2, List.Perm.refl _, h1, q0⟩, q1, hr, rfl, hgc, hgs⟩⟩
  rw [hw, hw1]
  exact two_r _ _ _


theorem g1_keep (l : Launch) (dC : Nat → ClassId) (dI : Nat → Nat → Nat) (k : Nat → ClassId) (T : Nat → Int → Int → Int → Int) (K : Nat → Int → Int) (qa : Nat) (cp : Nat) (Tb : Nat → Int → Int → Int → Int) (Kb : Nat → Int → Int) (qb : Nat) (cq : Nat) (tl : va_W) (na : Nat) (nf : Int → Int) (xx : Int) (dn : Int) (hP2 : P2 dI k T K qa cp Tb Kb qb cq tl) (hQ : OKT T K) (hx9 : 0 ≤ xx ∧ xx ≤ 2147483647) (hd9 : -2147483648 ≤ dn ∧ dn < 2147483648) (hn9 : (0 ≤ nf 1 ∧ nf 1 ≤ 6) ∧ (0 ≤ nf 2 ∧ nf 2 ≤ 5) ∧ (0 ≤ nf 3 ∧ nf 3 ≤ 8)) : Kn l dC dI k yL_keep (.code yL_keep cL_keep 6 none) ({ frames := 2, cells := (131072 - cp + 1), slots := (12 * (131072 - cp) + 6), locals := 40 } : Room) [.ref qa, .ref na, .int (iI xx), .int (iI dn)] ([(na, .inl (k 0, 4, .inl (fun i9 : Nat => iI (nf i9))))] ++ tl) (fun r w gc gs => (∃ (nf2 : Int → Int) (cp2 : Nat) (tl2 : va_W), (P2 dI k T K qa cp2 Tb Kb qb cq tl2) ∧ (cp ≤ cp2 ∧ cp2 ≤ 131072) ∧ (nf2 0 = T 0 0 0 0) ∧ (nf2 1 = kp2 nf xx dn) ∧ (nf2 2 = nf 2 + kp3 xx dn) ∧ (nf2 3 = nf 3 + kpP xx dn) ∧ r = none ∧ w = ([(na, .inl (k 0, 4, .inl (fun i9 : Nat => iI (nf2 i9))))] ++ tl2) ∧ gc = (cp2 - cp) ∧ gs = (12 * (cp2 - cp)))) := by
  obtain ⟨t1, t2, hp, h1, h2⟩ := hP2
  have K0 := w_keep l dC dI k T K qa cp t1 na nf xx dn h1 hQ hx9 hd9 hn9
  have hp2 : ([(na, .inl (k 0, 4, .inl (fun i9 : Nat => iI (nf i9))))] ++ tl : va_W).Perm (([(na, .inl (k 0, 4, .inl (fun i9 : Nat => iI (nf i9))))] ++ t1) ++ t2) := by
    rw [List.append_assoc]
    exact List.Perm.append_left _ hp
  refine kn_post (kn_perm hp2 (kn_frame t2 K0)) ?_
  clear K0
  rintro r w gc gs ⟨w1, h9, hw⟩
  obtain ⟨nf2, c2, tl2, q0, q1, z0, z1, z2, z3, hr, hw1, hgc, hgs⟩ := h9
  refine ⟨[(na, .inl (k 0, 4, .inl (fun i9 : Nat => iI (nf2 i9))))] ++ (tl2 ++ t2), ?_, ⟨nf2, c2, (tl2 ++ t2), ⟨tl2, t2, List.Perm.refl _, q0, h2⟩, q1, z0, z1, z2, z3, hr, rfl, hgc, hgs⟩⟩
  rw [hw, hw1]
  exact two_l _ _ _


theorem g1_isLaid (l : Launch) (dC : Nat → ClassId) (dI : Nat → Nat → Nat) (k : Nat → ClassId) (T : Nat → Int → Int → Int → Int) (K : Nat → Int → Int) (qa : Nat) (cp : Nat) (Tb : Nat → Int → Int → Int → Int) (Kb : Nat → Int → Int) (qb : Nat) (cq : Nat) (tl : va_W) (hl0 : l.stackTraces = false) (v : Int) (hP2 : P2 dI k T K qa cp Tb Kb qb cq tl) (hQ : OKT T K) (hv : 0 ≤ v ∧ v ≤ 1) : Kn l dC dI k yL_isLaid (.code yL_isLaid cL_isLaid 11 (some .boolean)) ({ frames := 11, cells := ((131072 - cp) + 8000), slots := ((12 * (131072 - cp)) + 48000), locals := 254 } : Room) [.ref qa, .int (iI v)] ([] ++ tl) (fun r w gc gs => (∃ (cp2 : Nat) (tl2 : va_W), (P2 dI k T K qa cp2 Tb Kb qb cq tl2) ∧ (cp ≤ cp2 ∧ cp2 ≤ 131072) ∧ r = some (.int (iI 1)) ∧ w = ([] ++ tl2) ∧ gc = ((cp2 - cp) + 8000) ∧ gs = ((12 * (cp2 - cp)) + 48000))) := by
  obtain ⟨t1, t2, hp, h1, h2⟩ := hP2
  have K0 := w_isLaid l dC dI k hl0 T K qa cp t1 v h1 hQ hv
  have hp2 : ([] ++ tl : va_W).Perm (([] ++ t1) ++ t2) := by
    rw [List.append_assoc]
    exact List.Perm.append_left _ hp
  refine kn_post (kn_perm hp2 (kn_frame t2 K0)) ?_
  clear K0
  rintro r w gc gs ⟨w1, h9, hw⟩
  obtain ⟨c2, tl2, q0, q1, hr, hw1, hgc, hgs⟩ := h9
  refine ⟨[] ++ (tl2 ++ t2), ?_, ⟨c2, (tl2 ++ t2), ⟨tl2, t2, List.Perm.refl _, q0, h2⟩, q1, hr, rfl, hgc, hgs⟩⟩
  rw [hw, hw1]
  exact two_l _ _ _


theorem g2_isLaid (l : Launch) (dC : Nat → ClassId) (dI : Nat → Nat → Nat) (k : Nat → ClassId) (T : Nat → Int → Int → Int → Int) (K : Nat → Int → Int) (qa : Nat) (cp : Nat) (Tb : Nat → Int → Int → Int → Int) (Kb : Nat → Int → Int) (qb : Nat) (cq : Nat) (tl : va_W) (hl0 : l.stackTraces = false) (v : Int) (hP2 : P2 dI k T K qa cp Tb Kb qb cq tl) (hQ : OKT Tb Kb) (hv : 0 ≤ v ∧ v ≤ 1) : Kn l dC dI k yL_isLaid (.code yL_isLaid cL_isLaid 11 (some .boolean)) ({ frames := 11, cells := ((131072 - cq) + 8000), slots := ((12 * (131072 - cq)) + 48000), locals := 254 } : Room) [.ref qb, .int (iI v)] ([] ++ tl) (fun r w gc gs => (∃ (cq2 : Nat) (tl2 : va_W), (P2 dI k T K qa cp Tb Kb qb cq2 tl2) ∧ (cq ≤ cq2 ∧ cq2 ≤ 131072) ∧ r = some (.int (iI 1)) ∧ w = ([] ++ tl2) ∧ gc = ((cq2 - cq) + 8000) ∧ gs = ((12 * (cq2 - cq)) + 48000))) := by
  obtain ⟨t1, t2, hp, h1, h2⟩ := hP2
  have K0 := w_isLaid l dC dI k hl0 Tb Kb qb cq t2 v h2 hQ hv
  have hp2 : ([] ++ tl : va_W).Perm (([] ++ t2) ++ t1) := by
    rw [List.append_assoc]
    exact List.Perm.append_left _ (hp.trans List.perm_append_comm)
  refine kn_post (kn_perm hp2 (kn_frame t1 K0)) ?_
  clear K0
  rintro r w gc gs ⟨w1, h9, hw⟩
  obtain ⟨c2, tl2, q0, q1, hr, hw1, hgc, hgs⟩ := h9
  refine ⟨[] ++ (t1 ++ tl2), ?_, ⟨c2, (t1 ++ tl2), ⟨t1, tl2, List.Perm.refl _, h1, q0⟩, q1, hr, rfl, hgc, hgs⟩⟩
  rw [hw, hw1]
  exact two_r _ _ _


theorem g1_isTold (l : Launch) (dC : Nat → ClassId) (dI : Nat → Nat → Nat) (k : Nat → ClassId) (T : Nat → Int → Int → Int → Int) (K : Nat → Int → Int) (qa : Nat) (cp : Nat) (Tb : Nat → Int → Int → Int → Int) (Kb : Nat → Int → Int) (qb : Nat) (cq : Nat) (tl : va_W) (hl0 : l.stackTraces = false) (v : Int) (xx : Int) (hP2 : P2 dI k T K qa cp Tb Kb qb cq tl) (hQ : OKT T K) (hv : 0 ≤ v ∧ v ≤ 1) (hx9 : 0 ≤ xx ∧ xx ≤ 2147483647) (hTo : TOLD T v) : Kn l dC dI k yL_isTold (.code yL_isTold cL_isTold 12 (some .boolean)) ({ frames := 11, cells := ((131072 - cp) + 6000), slots := ((12 * (131072 - cp)) + 36000), locals := 255 } : Room) [.ref qa, .int (iI v), .int (iI xx)] ([] ++ tl) (fun r w gc gs => (∃ (cp2 : Nat) (tl2 : va_W), (P2 dI k T K qa cp2 Tb Kb qb cq tl2) ∧ (cp ≤ cp2 ∧ cp2 ≤ 131072) ∧ r = some (.int (iI 1)) ∧ w = ([] ++ tl2) ∧ gc = ((cp2 - cp) + 6000) ∧ gs = ((12 * (cp2 - cp)) + 36000))) := by
  obtain ⟨t1, t2, hp, h1, h2⟩ := hP2
  have K0 := w_isTold l dC dI k hl0 T K qa cp t1 v xx h1 hQ hv hx9 hTo
  have hp2 : ([] ++ tl : va_W).Perm (([] ++ t1) ++ t2) := by
    rw [List.append_assoc]
    exact List.Perm.append_left _ hp
  refine kn_post (kn_perm hp2 (kn_frame t2 K0)) ?_
  clear K0
  rintro r w gc gs ⟨w1, h9, hw⟩
  obtain ⟨c2, tl2, q0, q1, hr, hw1, hgc, hgs⟩ := h9
  refine ⟨[] ++ (tl2 ++ t2), ?_, ⟨c2, (tl2 ++ t2), ⟨tl2, t2, List.Perm.refl _, q0, h2⟩, q1, hr, rfl, hgc, hgs⟩⟩
  rw [hw, hw1]
  exact two_l _ _ _


theorem g2_isTold (l : Launch) (dC : Nat → ClassId) (dI : Nat → Nat → Nat) (k : Nat → ClassId) (T : Nat → Int → Int → Int → Int) (K : Nat → Int → Int) (qa : Nat) (cp : Nat) (Tb : Nat → Int → Int → Int → Int) (Kb : Nat → Int → Int) (qb : Nat) (cq : Nat) (tl : va_W) (hl0 : l.stackTraces = false) (v : Int) (xx : Int) (hP2 : P2 dI k T K qa cp Tb Kb qb cq tl) (hQ : OKT Tb Kb) (hv : 0 ≤ v ∧ v ≤ 1) (hx9 : 0 ≤ xx ∧ xx ≤ 2147483647) (hTo : TOLD Tb v) : Kn l dC dI k yL_isTold (.code yL_isTold cL_isTold 12 (some .boolean)) ({ frames := 11, cells := ((131072 - cq) + 6000), slots := ((12 * (131072 - cq)) + 36000), locals := 255 } : Room) [.ref qb, .int (iI v), .int (iI xx)] ([] ++ tl) (fun r w gc gs => (∃ (cq2 : Nat) (tl2 : va_W), (P2 dI k T K qa cp Tb Kb qb cq2 tl2) ∧ (cq ≤ cq2 ∧ cq2 ≤ 131072) ∧ r = some (.int (iI 1)) ∧ w = ([] ++ tl2) ∧ gc = ((cq2 - cq) + 6000) ∧ gs = ((12 * (cq2 - cq)) + 36000))) := by
  obtain ⟨t1, t2, hp, h1, h2⟩ := hP2
  have K0 := w_isTold l dC dI k hl0 Tb Kb qb cq t2 v xx h2 hQ hv hx9 hTo
  have hp2 : ([] ++ tl : va_W).Perm (([] ++ t2) ++ t1) := by
    rw [List.append_assoc]
    exact List.Perm.append_left _ (hp.trans List.perm_append_comm)
  refine kn_post (kn_perm hp2 (kn_frame t1 K0)) ?_
  clear K0
  rintro r w gc gs ⟨w1, h9, hw⟩
  obtain ⟨c2, tl2, q0, q1, hr, hw1, hgc, hgs⟩ := h9
  refine ⟨[] ++ (t1 ++ tl2), ?_, ⟨c2, (t1 ++ tl2), ⟨t1, tl2, List.Perm.refl _, h1, q0⟩, q1, hr, rfl, hgc, hgs⟩⟩
  rw [hw, hw1]
  exact two_r _ _ _


theorem n_press1 (l : Launch) (dC : Nat → ClassId) (dI : Nat → Nat → Nat) (k : Nat → ClassId) (yo : Nat) : Kn l dC dI k yX11_init (.code yX11_init cX11_init 3 none) ({ frames := 5, cells := 87, slots := 33068, locals := 92 } : Room) [.ref yo] [(yo, .inr (11, [.null, .null, .null, .int (iI 0), .null]))] (fun r w gc gs => (∃ (tl2 : va_W), (PS dI k T00 K00 yo 512 tl2) ∧ r = none ∧ w = ([] ++ tl2) ∧ gc = 87 ∧ gs = 33068)) := by
  refine kn_post (k_newPress l dC dI k yo) ?_
  rintro r w gc gs ⟨A2, Y2, O2, tl2, q0, q1, hr, hw, hgc, hgs⟩
  exact ⟨w, List.Perm.refl _, tl2, ⟨A2, _, _, _, Y2, O2, _, _, q0, q1, fun u _ _ => Or.inl LF_00⟩, hr, hw, hgc, hgs⟩

theorem n_press2 (l : Launch) (dC : Nat → ClassId) (dI : Nat → Nat → Nat) (k : Nat → ClassId) (yo : Nat) (qa : Nat) (tl : va_W) (hPS : PS dI k T00 K00 qa 512 tl) : Kn l dC dI k yX11_init (.code yX11_init cX11_init 3 none) ({ frames := 5, cells := 87, slots := 33068, locals := 92 } : Room) [.ref yo] ([(yo, .inr (11, [.null, .null, .null, .int (iI 0), .null]))] ++ tl) (fun r w gc gs => (∃ (tl2 : va_W), (P2 dI k T00 K00 qa 512 T00 K00 yo 512 tl2) ∧ r = none ∧ w = ([] ++ tl2) ∧ gc = 87 ∧ gs = 33068)) := by
  refine kn_post (kn_frame tl (n_press1 l dC dI k yo)) ?_
  rintro r w gc gs ⟨w1, ⟨tl2, q0, hr, hw1, hgc, hgs⟩, hw⟩
  refine ⟨[] ++ (tl ++ tl2), ?_, tl ++ tl2, ⟨tl, tl2, List.Perm.refl _, hPS, q0⟩, hr, rfl, hgc, hgs⟩
  rw [hw, hw1]
  exact List.Perm.refl _

end
