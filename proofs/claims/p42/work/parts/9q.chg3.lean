section
section BK1
variable {dI : Nat → Nat → Nat} {k : Nat → ClassId} {T T' : Nat → Int → Int → Int → Int} {A A' : Nat → Int → Int → Nat} {X X' : Nat → Int → Int → Int} {G G' : Nat → Int → Nat} {Mc Mc' : Nat → Int → Int} {Y : Nat → Int → Nat} {O O' : Nat → Nat} {L L' : Int → Nat → Int → Int} {C C' : Nat → Int → Int} {K K' : Nat → Int → Int} {cp cp' : Nat} {tl tx tx' : va_W} {v : Int}
theorem hdC_cg {i : Int} (hT : ∀ c j, c = 0 ∨ 11 < c ∨ j ≠ i → T' c j = T c j) (hA : ∀ c j, c = 0 ∨ 6 < c ∨ j ≠ i → A' c j = A c j) (hG : ∀ c j, c ≠ 1 ∨ j ≠ i → G' c j = G c j) (hM : ∀ c j, c ≠ 1 ∨ j ≠ i → Mc' c j = Mc c j) : hdC k T' A' G' Mc' = hdC k T A G Mc := by
  have e1 : ∀ j, T' 0 j = T 0 j := fun j => hT 0 j (by omega)
  have e2 : ∀ c j, 11 < c → T' c j = T c j := fun c j h => hT c j (by omega)
  have a1 : ∀ j, A' 0 j = A 0 j := fun j => hA 0 j (by omega)
  have a2 : ∀ c j, 6 < c → A' c j = A c j := fun c j h => hA c j (by omega)
  simp only [hdC, lsC, e1, a1, e2 12 _ (by omega), e2 13 _ (by omega), e2 14 _ (by omega), e2 15 _ (by omega), e2 16 _ (by omega), e2 17 _ (by omega), e2 18 _ (by omega), a2 15 _ (by omega), a2 50 _ (by omega), a2 51 _ (by omega), a2 52 _ (by omega), a2 53 _ (by omega), a2 54 _ (by omega), a2 55 _ (by omega), a2 56 _ (by omega), a2 57 _ (by omega), hG 0 0 (by omega), hG 2 0 (by omega), hM 0 0 (by omega), hM 2 0 (by omega)] <;> congr
theorem ptC_cg2 {i : Int} (hT : ∀ c j, c = 0 ∨ 11 < c ∨ j ≠ i → T' c j = T c j) (hA : ∀ c j, c = 0 ∨ 6 < c ∨ j ≠ i → A' c j = A c j) : ptC k T' A' = ptC k T A := by
  have e2 : ∀ c j, 11 < c → T' c j = T c j := fun c j h => hT c j (by omega)
  have a2 : ∀ c j, 6 < c → A' c j = A c j := fun c j h => hA c j (by omega)
  simp only [ptC, paC, e2 18 _ (by omega), e2 19 _ (by omega), e2 20 _ (by omega), e2 21 _ (by omega), e2 22 _ (by omega), a2 15 _ (by omega), a2 16 _ (by omega)]
theorem blC_cg2 {i : Int} (e1 : ∀ c, c ≠ 0 → T' c i = T c i) (e2 : ∀ c, c ≠ 50 → A' c i = A c i) (e3 : ∀ q, X' q i = X q i) (e4 : G' 1 i = G 1 i) (e5 : Mc' 1 i = Mc 1 i) : blC k T' A' X' G' Mc' i = blC k T A X G Mc i := by
  simp only [blC, blP, taC, woC, lsC, e1 1 (by omega), e1 2 (by omega), e1 3 (by omega), e1 4 (by omega), e1 5 (by omega), e1 6 (by omega), e1 7 (by omega), e1 8 (by omega), e1 9 (by omega), e1 10 (by omega), e1 11 (by omega), e2 0 (by omega), e2 1 (by omega), e2 2 (by omega), e2 3 (by omega), e2 4 (by omega), e2 5 (by omega), e2 6 (by omega), e2 7 (by omega), e2 8 (by omega), e3, e4, e5] <;> congr
/-- one block, taken out of the pool -/
theorem TXP_bk {tx : va_W} (h : TXP dI k T A X G Mc tx) {i : Int} (h1 : 0 ≤ i ∧ i < T 0 0 0 0) : ∃ tr : va_W, tx.Perm (blC k T A X G Mc i ++ tr) ∧ ∀ (T' : Nat → Int → Int → Int → Int) (A' : Nat → Int → Int → Nat) (X' : Nat → Int → Int → Int) (G' : Nat → Int → Nat) (Mc' : Nat → Int → Int), (∀ c j, c = 0 ∨ 11 < c ∨ j ≠ i → T' c j = T c j) → (∀ c j, c = 0 ∨ 6 < c ∨ j ≠ i → A' c j = A c j) → (∀ q j, j ≠ i → X' q j = X q j) → (∀ c j, c ≠ 1 ∨ j ≠ i → G' c j = G c j) → (∀ c j, c ≠ 1 ∨ j ≠ i → Mc' c j = Mc c j) → lsO dI (A' 3 i 0) (T' 3 i 0 0) (G' 1 i) → TXP dI k T' A' X' G' Mc' (blC k T' A' X' G' Mc' i ++ tr) := by
  obtain ⟨hp, h0, h2, h3⟩ := h
  obtain ⟨rest, g1, g2⟩ := flat_at (f := fun i : Nat => blC k T A X G Mc i) (T 0 0 0 0).toNat i.toNat (by omega)
  have ei : ((i.toNat : Nat) : Int) = i := by omega
  refine ⟨hdC k T A G Mc ++ (rest ++ ptC k T A), ?_, fun T' A' X' G' Mc' hT hA hX hG hM ho => ?_⟩
  · refine hp.trans ?_
    have h4 := ((g1.append_right (ptC k T A)).append_left (hdC k T A G Mc))
    refine h4.trans ?_
    rw [ei]
    have h5 := List.perm_append_comm_assoc (hdC k T A G Mc) (blC k T A X G Mc i) (rest ++ ptC k T A)
    simpa only [List.append_assoc] using h5
  · have e0 : T' 0 0 0 0 = T 0 0 0 0 := by rw [hT 0 0 (by omega)]
    refine ⟨?_, ?_, ?_, ?_⟩
    · have h5 := g2 (fun i : Nat => blC k T' A' X' G' Mc' i) (fun j a b => by
        have hj : (j : Int) ≠ i := by omega
        exact blC_cg2 (fun c _ => hT c _ (by omega)) (fun c _ => hA c _ (by omega)) (fun q => hX q _ hj) (hG 1 _ (by omega)) (hM 1 _ (by omega)))
      have h6 := ((h5.append_right (ptC k T A)).append_left (hdC k T A G Mc))
      rw [ei] at h6
      have h7 : txC k T' A' X' G' Mc' = hdC k T A G Mc ++ ((List.range (T 0 0 0 0).toNat).flatMap (fun i : Nat => blC k T' A' X' G' Mc' i) ++ ptC k T A) := by
        unfold txC
        rw [hdC_cg hT hA hG hM, ptC_cg2 hT hA, e0]
      rw [h7]
      refine List.Perm.symm (h6.trans ?_)
      have h5 := List.perm_append_comm_assoc (hdC k T A G Mc) (blC k T' A' X' G' Mc' i) (rest ++ ptC k T A)
      simpa only [List.append_assoc] using h5
    · rw [e0, hA 56 0 (by omega), hG 0 0 (by omega)]; exact h0
    · rw [hT 18 0 (by omega), hA 57 0 (by omega), hG 2 0 (by omega)]; exact h2
    · intro j a b
      by_cases hj : j = i
      · subst hj; exact ho
      · rw [hA 3 j (by omega), hT 3 j (by omega), hG 1 j (by omega)]
        exact h3 j a (by omega)
theorem PR_bk (h : PR dI k T A X G Mc Y O L C K cp tl) {i : Int} (h1 : 0 ≤ i ∧ i < T 0 0 0 0) : ∃ tr : va_W, tl.Perm (gCl k A Y K ++ (blC k T A X G Mc i ++ tr)) ∧ ∀ (K' : Nat → Int → Int) (T' : Nat → Int → Int → Int → Int) (A' : Nat → Int → Int → Nat) (X' : Nat → Int → Int → Int) (G' : Nat → Int → Nat) (Mc' : Nat → Int → Int), (∀ c j, c = 0 ∨ 11 < c ∨ j ≠ i → T' c j = T c j) → (∀ c j, c = 0 ∨ 6 < c ∨ j ≠ i → A' c j = A c j) → (∀ q j, j ≠ i → X' q j = X q j) → (∀ c j, c ≠ 1 ∨ j ≠ i → G' c j = G c j) → (∀ c j, c ≠ 1 ∨ j ≠ i → Mc' c j = Mc c j) → lsO dI (A' 3 i 0) (T' 3 i 0 0) (G' 1 i) → PR dI k T' A' X' G' Mc' Y O L C K' cp (gCl k A Y K' ++ (blC k T' A' X' G' Mc' i ++ tr)) := by
  obtain ⟨tr, h2, h3⟩ := PR_gtx h
  obtain ⟨t2, h4, h5⟩ := TXP_bk (PR_TX h) h1
  refine ⟨t2 ++ tr, ?_, fun K' T' A' X' G' Mc' hT hA hX hG hM ho => ?_⟩
  · refine h2.trans (List.Perm.append_left _ ((List.Perm.append_right _ h4).trans (perm_eq ?_)))
    simp only [List.append_assoc]
  · have h6 := h3 K' T' A' X' G' Mc' _ (h5 T' A' X' G' Mc' hT hA hX hG hM ho) (by rw [hA 50 0 (by omega)])
    simpa only [List.append_assoc] using h6
/-- a style, a cell told -/
def stT (T : Nat → Int → Int → Int → Int) (i st_ va : Int) : Nat → Int → Int → Int → Int := fun c j => if c = 2 ∧ j = i then fun s9 q => if s9 = st_ then va else T 2 i s9 q else T c j
def stH (k : Nat → ClassId) (T : Nat → Int → Int → Int → Int) (A : Nat → Int → Int → Nat) (i : Int) : va_W := [(((A 0 i 0), .inr (0, [.int (iI (T 1 i 0 0)), .ref (A 1 i 0), .ref (A 2 i 0), va_rf (if T 1 i 0 0 = 3 then some (A 7 i 0) else none)])) : Nat × va_E), (((A 1 i 0), .inl (k 0, 7, .inl (fun i9 : Nat => iI ((fun j9 : Int => T 2 i j9 0) i9)))) : Nat × va_E)]
theorem stH_st {i st_ va : Int} : stH k (stT T i st_ va) A i = [(((A 0 i 0), .inr (0, [.int (iI (T 1 i 0 0)), .ref (A 1 i 0), .ref (A 2 i 0), va_rf (if T 1 i 0 0 = 3 then some (A 7 i 0) else none)])) : Nat × va_E), (((A 1 i 0), .inl (k 0, 7, .inl (fun i9 : Nat => iI ((uz (fun j9 : Int => T 2 i j9 0) st_ va) i9)))) : Nat × va_E)] := by
  have e1 : stT T i st_ va 1 i = T 1 i := if_neg (by omega)
  have e2 : stT T i st_ va 2 i = fun s9 q => if s9 = st_ then va else T 2 i s9 q := if_pos ⟨rfl, rfl⟩
  unfold stH
  rw [e1, e2]
  rfl
theorem PR_st (h : PR dI k T A X G Mc Y O L C K cp tl) {i : Int} (h1 : 0 ≤ i ∧ i < T 0 0 0 0) : ∃ tr : va_W, tl.Perm ((gCl k A Y K ++ stH k T A i) ++ tr) ∧ ∀ (K' : Nat → Int → Int) (st_ va : Int), PR dI k (stT T i st_ va) A X G Mc Y O L C K' cp ((gCl k A Y K' ++ stH k (stT T i st_ va) A i) ++ tr) := by
  obtain ⟨tr, h2, h3⟩ := PR_bk h h1
  refine ⟨(lsC k (A 2 i 0) (A 3 i 0) (Mc 1 i) (T 3 i 0 0) (G 1 i) (fun j => A 4 i j) ++ (List.range (T 3 i 0 0).toNat).flatMap (fun j : Nat => woC k T A i j)) ++ ((if T 1 i 0 0 = 3 then taC k T A X i else []) ++ tr), ?_, fun K' st_ va => ?_⟩
  · refine h2.trans (perm_eq ?_)
    unfold blC blP stH
    simp only [List.append_assoc]
  · have h6 := h3 K' (stT T i st_ va) A X G Mc (fun c j hc => if_neg (by omega)) (fun _ _ _ => rfl) (fun _ _ _ => rfl) (fun _ _ _ => rfl) (fun _ _ _ => rfl) (h.2.1.2.2 i h1.1 h1.2)
    have e : blC k (stT T i st_ va) A X G Mc i = stH k (stT T i st_ va) A i ++ ((lsC k (A 2 i 0) (A 3 i 0) (Mc 1 i) (T 3 i 0 0) (G 1 i) (fun j => A 4 i j) ++ (List.range (T 3 i 0 0).toNat).flatMap (fun j : Nat => woC k T A i j)) ++ (if T 1 i 0 0 = 3 then taC k T A X i else [])) := by
      have e1 : ∀ c, c ≠ 2 → stT T i st_ va c i = T c i := fun c hc => if_neg (by omega)
      unfold blC blP stH
      simp only [taC, woC, e1 1 (by omega), e1 3 (by omega), e1 4 (by omega), e1 5 (by omega), e1 6 (by omega), e1 7 (by omega), e1 8 (by omega), e1 9 (by omega), e1 10 (by omega), e1 11 (by omega), List.append_assoc] <;> rfl
    rw [e] at h6
    simpa only [List.append_assoc] using h6
end BK1

/-- the least and the most value of a style -/
def lsZ (a : Int) : Int := if a = 3 then 1 else if a = 6 then -1 else 0
def msZ (a : Int) : Int := if a = 0 then 2 else if a = 3 then 2 else if a = 4 then 30 else if a = 5 then 3 else 1
theorem lsZ_in {a : Int} : -1 ≤ lsZ a ∧ lsZ a ≤ 1 := by unfold lsZ; repeat' split; all_goals omega
theorem msZ_in {a : Int} : 1 ≤ msZ a ∧ msZ a ≤ 30 := by unfold msZ; repeat' split; all_goals omega
section TKS
variable {T : Nat → Int → Int → Int → Int}
theorem TK_stT (hK : TK T) {i st_ va : Int} (h : (0 ≤ st_ ∧ st_ ≤ 6) ∧ lsZ st_ ≤ va ∧ va ≤ msZ st_) : TK (stT T i st_ va) := ⟨TK_nb (T := T) hK, TK_kind (T := T) hK, (fun j s9 => by have q := TK_sty hK j s9; have q2 := lsZ_in (a := st_); have q3 := msZ_in (a := st_); unfold stT; split; (rename_i g; obtain ⟨-, g⟩ := g; subst g; dsimp only; split <;> omega); exact q), (fun j => by have q := TK_ind hK j; unfold stT; split; (rename_i g; obtain ⟨-, g⟩ := g; subst g; dsimp only; split; (rename_i g2; rw [← g2] at h; have h3 := h.2; simp only [lsZ, msZ] at h3; omega); exact q); exact q), (fun j => by have q := TK_side hK j; unfold stT; split; (rename_i g; obtain ⟨-, g⟩ := g; subst g; dsimp only; split; (rename_i g2; rw [← g2] at h; have h3 := h.2; simp only [lsZ, msZ] at h3; omega); exact q); exact q), (fun j => by have q := TK_dep hK j; unfold stT; split; (rename_i g; obtain ⟨-, g⟩ := g; subst g; dsimp only; split; (rename_i g2; rw [← g2] at h; have h3 := h.2; simp only [lsZ, msZ] at h3; omega); exact q); exact q), TK_nw (T := T) hK, TK_len (T := T) hK, TK_let (T := T) hK, TK_lab (T := T) hK, TK_mrk (T := T) hK, TK_note (T := T) hK, TK_men (T := T) hK, TK_mlab (T := T) hK, TK_gap (T := T) hK, TK_span (T := T) hK, TK_least (T := T) hK, TK_best (T := T) hK, TK_fc (T := T) hK, TK_fk (T := T) hK, TK_fh (T := T) hK, TK_key (T := T) hK, TK_wid (T := T) hK, TK_hei (T := T) hK, TK_np (T := T) hK, TK_pl (T := T) hK, TK_plt (T := T) hK, TK_pg (T := T) hK, TK_plv (T := T) hK, TK_gapb (T := T) hK, TK_hasw (T := T) hK, TK_spc (T := T) hK, TK_wl (T := T) hK, TK_lst (T := T) hK⟩
end TKS

theorem dX11_leastStyle_0 : decode cX11_leastStyle 0 = .ok (.iload_n 0, 1) := by decide +kernel
theorem dX11_leastStyle_1 : decode cX11_leastStyle 1 = .ok (.lookupswitch 31 #[(3, 27), (6, 29)], 27) := by decide +kernel
theorem dX11_leastStyle_28 : decode cX11_leastStyle 28 = .ok (.iconst 1, 1) := by decide +kernel
theorem dX11_leastStyle_29 : decode cX11_leastStyle 29 = .ok (.ireturn, 1) := by decide +kernel
theorem dX11_leastStyle_30 : decode cX11_leastStyle 30 = .ok (.iconst (-1), 1) := by decide +kernel
theorem dX11_leastStyle_31 : decode cX11_leastStyle 31 = .ok (.ireturn, 1) := by decide +kernel
theorem dX11_leastStyle_32 : decode cX11_leastStyle 32 = .ok (.iconst 0, 1) := by decide +kernel
theorem dX11_leastStyle_33 : decode cX11_leastStyle 33 = .ok (.ireturn, 1) := by decide +kernel
set_option maxHeartbeats 4000000 in
set_option maxRecDepth 100000 in
theorem k_leastStyle (l : Launch) (dC : Nat → ClassId) (dI : Nat → Nat → Nat) (k : Nat → ClassId) (st_ : Int) (hst : 0 ≤ st_ ∧ st_ ≤ 6) : Kn l dC dI k yX11_leastStyle (.code yX11_leastStyle cX11_leastStyle 1 (some .int)) ({ frames := 0, cells := 0, slots := 0, locals := 0 } : Room) [.int (iI st_)] [] (fun r w gc gs => ((-1 ≤ lsZ st_ ∧ lsZ st_ ≤ 1) ∧ r = some (.int (iI (lsZ st_))) ∧ w = [] ∧ gc = 0 ∧ gs = 0)) := by
  refine kn_of (by decide) (Nat.le_of_ble_eq_true rfl) ?_
  intro p e s m args below meth c H locs B hr hnm ls hl
  have hx := B.1.1
  have hb := B.1.2.1
  have hl : lv_has ls 1 [(0, .int (iI st_))] := hl
  refine lv_iload_n hx hb dX11_leastStyle_0 rfl (lv_at hl 0 rfl) ?_
  have zc_1 : st_ = 0 ∨ st_ = 1 ∨ st_ = 2 ∨ st_ = 3 ∨ st_ = 4 ∨ st_ = 5 ∨ st_ = 6 := by omega
  rcases zc_1 with zc_1 | zc_1 | zc_1 | zc_1 | zc_1 | zc_1 | zc_1
  · refine lv_seti (y := iI 0) (congrArg iI zc_1) ?_
    refine lv_lookup (off := 31) (tgt := 32) hx hb dX11_leastStyle_1 (by decide) (by decide) (by decide) ?_
    refine lv_iconst (v := iI 0) hx hb dX11_leastStyle_32 (by decide) ?_
    have e_2 : (lsZ st_) = 0 := (by unfold lsZ; first | (rw [if_pos (by omega)]; done) | (rw [if_neg (by omega)]; done) | (simp only [if_neg, if_pos, *]; done) | (repeat' (split <;> first | omega | rfl)))
    skip
    exact k_iret B hr (⟨lsZ_in, (by rw [e_2]), rfl, rfl, rfl⟩) ⟨Nat.le_of_ble_eq_true rfl, Nat.le_of_ble_eq_true rfl⟩ ⟨Nat.le_of_ble_eq_true rfl, Nat.le_of_ble_eq_true rfl⟩ dX11_leastStyle_33
  · refine lv_seti (y := iI 1) (congrArg iI zc_1) ?_
    refine lv_lookup (off := 31) (tgt := 32) hx hb dX11_leastStyle_1 (by decide) (by decide) (by decide) ?_
    refine lv_iconst (v := iI 0) hx hb dX11_leastStyle_32 (by decide) ?_
    have e_3 : (lsZ st_) = 0 := (by unfold lsZ; first | (rw [if_pos (by omega)]; done) | (rw [if_neg (by omega)]; done) | (simp only [if_neg, if_pos, *]; done) | (repeat' (split <;> first | omega | rfl)))
    skip
    exact k_iret B hr (⟨lsZ_in, (by rw [e_3]), rfl, rfl, rfl⟩) ⟨Nat.le_of_ble_eq_true rfl, Nat.le_of_ble_eq_true rfl⟩ ⟨Nat.le_of_ble_eq_true rfl, Nat.le_of_ble_eq_true rfl⟩ dX11_leastStyle_33
  · refine lv_seti (y := iI 2) (congrArg iI zc_1) ?_
    refine lv_lookup (off := 31) (tgt := 32) hx hb dX11_leastStyle_1 (by decide) (by decide) (by decide) ?_
    refine lv_iconst (v := iI 0) hx hb dX11_leastStyle_32 (by decide) ?_
    have e_4 : (lsZ st_) = 0 := (by unfold lsZ; first | (rw [if_pos (by omega)]; done) | (rw [if_neg (by omega)]; done) | (simp only [if_neg, if_pos, *]; done) | (repeat' (split <;> first | omega | rfl)))
    skip
    exact k_iret B hr (⟨lsZ_in, (by rw [e_4]), rfl, rfl, rfl⟩) ⟨Nat.le_of_ble_eq_true rfl, Nat.le_of_ble_eq_true rfl⟩ ⟨Nat.le_of_ble_eq_true rfl, Nat.le_of_ble_eq_true rfl⟩ dX11_leastStyle_33
  · refine lv_seti (y := iI 3) (congrArg iI zc_1) ?_
    refine lv_lookup (off := 27) (tgt := 28) hx hb dX11_leastStyle_1 (by decide) (by decide) (by decide) ?_
    refine lv_iconst (v := iI 1) hx hb dX11_leastStyle_28 (by decide) ?_
    have e_5 : (lsZ st_) = 1 := (by unfold lsZ; first | (rw [if_pos (by omega)]; done) | (rw [if_neg (by omega)]; done) | (simp only [if_neg, if_pos, *]; done) | (repeat' (split <;> first | omega | rfl)))
    skip
    exact k_iret B hr (⟨lsZ_in, (by rw [e_5]), rfl, rfl, rfl⟩) ⟨Nat.le_of_ble_eq_true rfl, Nat.le_of_ble_eq_true rfl⟩ ⟨Nat.le_of_ble_eq_true rfl, Nat.le_of_ble_eq_true rfl⟩ dX11_leastStyle_29
  · refine lv_seti (y := iI 4) (congrArg iI zc_1) ?_
    refine lv_lookup (off := 31) (tgt := 32) hx hb dX11_leastStyle_1 (by decide) (by decide) (by decide) ?_
    refine lv_iconst (v := iI 0) hx hb dX11_leastStyle_32 (by decide) ?_
    have e_6 : (lsZ st_) = 0 := (by unfold lsZ; first | (rw [if_pos (by omega)]; done) | (rw [if_neg (by omega)]; done) | (simp only [if_neg, if_pos, *]; done) | (repeat' (split <;> first | omega | rfl)))
    skip
    exact k_iret B hr (⟨lsZ_in, (by rw [e_6]), rfl, rfl, rfl⟩) ⟨Nat.le_of_ble_eq_true rfl, Nat.le_of_ble_eq_true rfl⟩ ⟨Nat.le_of_ble_eq_true rfl, Nat.le_of_ble_eq_true rfl⟩ dX11_leastStyle_33
  · refine lv_seti (y := iI 5) (congrArg iI zc_1) ?_
    refine lv_lookup (off := 31) (tgt := 32) hx hb dX11_leastStyle_1 (by decide) (by decide) (by decide) ?_
    refine lv_iconst (v := iI 0) hx hb dX11_leastStyle_32 (by decide) ?_
    have e_7 : (lsZ st_) = 0 := (by unfold lsZ; first | (rw [if_pos (by omega)]; done) | (rw [if_neg (by omega)]; done) | (simp only [if_neg, if_pos, *]; done) | (repeat' (split <;> first | omega | rfl)))
    skip
    exact k_iret B hr (⟨lsZ_in, (by rw [e_7]), rfl, rfl, rfl⟩) ⟨Nat.le_of_ble_eq_true rfl, Nat.le_of_ble_eq_true rfl⟩ ⟨Nat.le_of_ble_eq_true rfl, Nat.le_of_ble_eq_true rfl⟩ dX11_leastStyle_33
  · refine lv_seti (y := iI 6) (congrArg iI zc_1) ?_
    refine lv_lookup (off := 29) (tgt := 30) hx hb dX11_leastStyle_1 (by decide) (by decide) (by decide) ?_
    refine lv_iconst (v := iI (-1)) hx hb dX11_leastStyle_30 (by decide) ?_
    have e_8 : (lsZ st_) = (-1) := (by unfold lsZ; first | (rw [if_pos (by omega)]; done) | (rw [if_neg (by omega)]; done) | (simp only [if_neg, if_pos, *]; done) | (repeat' (split <;> first | omega | rfl)))
    skip
    exact k_iret B hr (⟨lsZ_in, (by rw [e_8]), rfl, rfl, rfl⟩) ⟨Nat.le_of_ble_eq_true rfl, Nat.le_of_ble_eq_true rfl⟩ ⟨Nat.le_of_ble_eq_true rfl, Nat.le_of_ble_eq_true rfl⟩ dX11_leastStyle_31

theorem dX11_mostStyle_0 : decode cX11_mostStyle 0 = .ok (.iload_n 0, 1) := by decide +kernel
theorem dX11_mostStyle_1 : decode cX11_mostStyle 1 = .ok (.tableswitch 46 0 5 #[39, 46, 46, 39, 41, 44], 39) := by decide +kernel
theorem dX11_mostStyle_40 : decode cX11_mostStyle 40 = .ok (.iconst 2, 1) := by decide +kernel
theorem dX11_mostStyle_41 : decode cX11_mostStyle 41 = .ok (.ireturn, 1) := by decide +kernel
theorem dX11_mostStyle_42 : decode cX11_mostStyle 42 = .ok (.bipush 30, 2) := by decide +kernel
theorem dX11_mostStyle_44 : decode cX11_mostStyle 44 = .ok (.ireturn, 1) := by decide +kernel
theorem dX11_mostStyle_45 : decode cX11_mostStyle 45 = .ok (.iconst 3, 1) := by decide +kernel
theorem dX11_mostStyle_46 : decode cX11_mostStyle 46 = .ok (.ireturn, 1) := by decide +kernel
theorem dX11_mostStyle_47 : decode cX11_mostStyle 47 = .ok (.iconst 1, 1) := by decide +kernel
theorem dX11_mostStyle_48 : decode cX11_mostStyle 48 = .ok (.ireturn, 1) := by decide +kernel
set_option maxHeartbeats 4000000 in
set_option maxRecDepth 100000 in
theorem k_mostStyle (l : Launch) (dC : Nat → ClassId) (dI : Nat → Nat → Nat) (k : Nat → ClassId) (st_ : Int) (hst : 0 ≤ st_ ∧ st_ ≤ 6) : Kn l dC dI k yX11_mostStyle (.code yX11_mostStyle cX11_mostStyle 1 (some .int)) ({ frames := 0, cells := 0, slots := 0, locals := 0 } : Room) [.int (iI st_)] [] (fun r w gc gs => ((1 ≤ msZ st_ ∧ msZ st_ ≤ 30) ∧ r = some (.int (iI (msZ st_))) ∧ w = [] ∧ gc = 0 ∧ gs = 0)) := by
  refine kn_of (by decide) (Nat.le_of_ble_eq_true rfl) ?_
  intro p e s m args below meth c H locs B hr hnm ls hl
  have hx := B.1.1
  have hb := B.1.2.1
  have hl : lv_has ls 1 [(0, .int (iI st_))] := hl
  refine lv_iload_n hx hb dX11_mostStyle_0 rfl (lv_at hl 0 rfl) ?_
  have zc_1 : st_ = 0 ∨ st_ = 1 ∨ st_ = 2 ∨ st_ = 3 ∨ st_ = 4 ∨ st_ = 5 ∨ st_ = 6 := by omega
  rcases zc_1 with zc_1 | zc_1 | zc_1 | zc_1 | zc_1 | zc_1 | zc_1
  · refine lv_seti (y := iI 0) (congrArg iI zc_1) ?_
    refine lv_tableIn (off := 39) (tgt := 40) hx hb dX11_mostStyle_1 (by decide) (by decide) (by decide) (by decide) ?_
    refine lv_iconst (v := iI 2) hx hb dX11_mostStyle_40 (by decide) ?_
    have e_2 : (msZ st_) = 2 := (by unfold msZ; first | (rw [if_pos (by omega)]; done) | (rw [if_neg (by omega)]; done) | (simp only [if_neg, if_pos, *]; done) | (repeat' (split <;> first | omega | rfl)))
    skip
    exact k_iret B hr (⟨msZ_in, (by rw [e_2]), rfl, rfl, rfl⟩) ⟨Nat.le_of_ble_eq_true rfl, Nat.le_of_ble_eq_true rfl⟩ ⟨Nat.le_of_ble_eq_true rfl, Nat.le_of_ble_eq_true rfl⟩ dX11_mostStyle_41
  · refine lv_seti (y := iI 1) (congrArg iI zc_1) ?_
    refine lv_tableIn (off := 46) (tgt := 47) hx hb dX11_mostStyle_1 (by decide) (by decide) (by decide) (by decide) ?_
    refine lv_iconst (v := iI 1) hx hb dX11_mostStyle_47 (by decide) ?_
    have e_3 : (msZ st_) = 1 := (by unfold msZ; first | (rw [if_pos (by omega)]; done) | (rw [if_neg (by omega)]; done) | (simp only [if_neg, if_pos, *]; done) | (repeat' (split <;> first | omega | rfl)))
    skip
    exact k_iret B hr (⟨msZ_in, (by rw [e_3]), rfl, rfl, rfl⟩) ⟨Nat.le_of_ble_eq_true rfl, Nat.le_of_ble_eq_true rfl⟩ ⟨Nat.le_of_ble_eq_true rfl, Nat.le_of_ble_eq_true rfl⟩ dX11_mostStyle_48
  · refine lv_seti (y := iI 2) (congrArg iI zc_1) ?_
    refine lv_tableIn (off := 46) (tgt := 47) hx hb dX11_mostStyle_1 (by decide) (by decide) (by decide) (by decide) ?_
    refine lv_iconst (v := iI 1) hx hb dX11_mostStyle_47 (by decide) ?_
    have e_4 : (msZ st_) = 1 := (by unfold msZ; first | (rw [if_pos (by omega)]; done) | (rw [if_neg (by omega)]; done) | (simp only [if_neg, if_pos, *]; done) | (repeat' (split <;> first | omega | rfl)))
    skip
    exact k_iret B hr (⟨msZ_in, (by rw [e_4]), rfl, rfl, rfl⟩) ⟨Nat.le_of_ble_eq_true rfl, Nat.le_of_ble_eq_true rfl⟩ ⟨Nat.le_of_ble_eq_true rfl, Nat.le_of_ble_eq_true rfl⟩ dX11_mostStyle_48
  · refine lv_seti (y := iI 3) (congrArg iI zc_1) ?_
    refine lv_tableIn (off := 39) (tgt := 40) hx hb dX11_mostStyle_1 (by decide) (by decide) (by decide) (by decide) ?_
    refine lv_iconst (v := iI 2) hx hb dX11_mostStyle_40 (by decide) ?_
    have e_5 : (msZ st_) = 2 := (by unfold msZ; first | (rw [if_pos (by omega)]; done) | (rw [if_neg (by omega)]; done) | (simp only [if_neg, if_pos, *]; done) | (repeat' (split <;> first | omega | rfl)))
    skip
    exact k_iret B hr (⟨msZ_in, (by rw [e_5]), rfl, rfl, rfl⟩) ⟨Nat.le_of_ble_eq_true rfl, Nat.le_of_ble_eq_true rfl⟩ ⟨Nat.le_of_ble_eq_true rfl, Nat.le_of_ble_eq_true rfl⟩ dX11_mostStyle_41
  · refine lv_seti (y := iI 4) (congrArg iI zc_1) ?_
    refine lv_tableIn (off := 41) (tgt := 42) hx hb dX11_mostStyle_1 (by decide) (by decide) (by decide) (by decide) ?_
    refine lv_bipush (v := iI 30) hx hb dX11_mostStyle_42 (by decide) ?_
    have e_6 : (msZ st_) = 30 := (by unfold msZ; first | (rw [if_pos (by omega)]; done) | (rw [if_neg (by omega)]; done) | (simp only [if_neg, if_pos, *]; done) | (repeat' (split <;> first | omega | rfl)))
    skip
    exact k_iret B hr (⟨msZ_in, (by rw [e_6]), rfl, rfl, rfl⟩) ⟨Nat.le_of_ble_eq_true rfl, Nat.le_of_ble_eq_true rfl⟩ ⟨Nat.le_of_ble_eq_true rfl, Nat.le_of_ble_eq_true rfl⟩ dX11_mostStyle_44
  · refine lv_seti (y := iI 5) (congrArg iI zc_1) ?_
    refine lv_tableIn (off := 44) (tgt := 45) hx hb dX11_mostStyle_1 (by decide) (by decide) (by decide) (by decide) ?_
    refine lv_iconst (v := iI 3) hx hb dX11_mostStyle_45 (by decide) ?_
    have e_7 : (msZ st_) = 3 := (by unfold msZ; first | (rw [if_pos (by omega)]; done) | (rw [if_neg (by omega)]; done) | (simp only [if_neg, if_pos, *]; done) | (repeat' (split <;> first | omega | rfl)))
    skip
    exact k_iret B hr (⟨msZ_in, (by rw [e_7]), rfl, rfl, rfl⟩) ⟨Nat.le_of_ble_eq_true rfl, Nat.le_of_ble_eq_true rfl⟩ ⟨Nat.le_of_ble_eq_true rfl, Nat.le_of_ble_eq_true rfl⟩ dX11_mostStyle_46
  · refine lv_seti (y := iI 6) (congrArg iI zc_1) ?_
    refine lv_tableOut (tgt := 47) hx hb dX11_mostStyle_1 (by decide) (by decide) ?_
    refine lv_iconst (v := iI 1) hx hb dX11_mostStyle_47 (by decide) ?_
    have e_8 : (msZ st_) = 1 := (by unfold msZ; first | (rw [if_pos (by omega)]; done) | (rw [if_neg (by omega)]; done) | (simp only [if_neg, if_pos, *]; done) | (repeat' (split <;> first | omega | rfl)))
    skip
    exact k_iret B hr (⟨msZ_in, (by rw [e_8]), rfl, rfl, rfl⟩) ⟨Nat.le_of_ble_eq_true rfl, Nat.le_of_ble_eq_true rfl⟩ ⟨Nat.le_of_ble_eq_true rfl, Nat.le_of_ble_eq_true rfl⟩ dX11_mostStyle_48

theorem mw_1178 : (Jvm.Cond.fieldLink "Galleyforge" (181 : Nat) "Galleyforge$Block" "styles" "[I") ∈ gt := gt_at 1248 (by decide +kernel) (by decide +kernel)
theorem mw_1212 : (Jvm.Cond.methodLink "Galleyforge" (173 : Nat) ({ cls := "Galleyforge", name := "leastStyle", desc := "(I)I" } : Jvm.MethodName)) ∈ gt := gt_at 1282 (by decide +kernel) (by decide +kernel)
theorem mw_1213 : (Jvm.Cond.static ({ cls := "Galleyforge", name := "leastStyle", desc := "(I)I" } : Jvm.MethodName)) ∈ gt := gt_at 1283 (by decide +kernel) (by decide +kernel)
theorem mw_1214 : (Jvm.Cond.code ({ cls := "Galleyforge", name := "leastStyle", desc := "(I)I" } : Jvm.MethodName) prog_1_method_57_code (1 : Nat) (Option.some Jvm.ClassFile.FieldType.int)) ∈ gt := gt_at 1284 (by decide +kernel) (by decide +kernel)
theorem mw_1215 : (Jvm.Cond.methodLink "Galleyforge" (176 : Nat) ({ cls := "Galleyforge", name := "mostStyle", desc := "(I)I" } : Jvm.MethodName)) ∈ gt := gt_at 1285 (by decide +kernel) (by decide +kernel)
theorem mw_1216 : (Jvm.Cond.static ({ cls := "Galleyforge", name := "mostStyle", desc := "(I)I" } : Jvm.MethodName)) ∈ gt := gt_at 1286 (by decide +kernel) (by decide +kernel)
theorem mw_1217 : (Jvm.Cond.code ({ cls := "Galleyforge", name := "mostStyle", desc := "(I)I" } : Jvm.MethodName) prog_1_method_58_code (1 : Nat) (Option.some Jvm.ClassFile.FieldType.int)) ∈ gt := gt_at 1287 (by decide +kernel) (by decide +kernel)
theorem mS_X11_leastStyle : mS yX11_leastStyle cX11_leastStyle 1 (some .int) 1 := ⟨⟨mw_1214, mw_1, by decide, by decide, by decide +kernel⟩, mw_1213⟩
theorem mS_X11_mostStyle : mS yX11_mostStyle cX11_mostStyle 1 (some .int) 1 := ⟨⟨mw_1217, mw_1, by decide, by decide, by decide +kernel⟩, mw_1216⟩
theorem dX11_style_0 : decode cX11_style 0 = .ok (.aload_n 0, 1) := by decide +kernel
theorem dX11_style_1 : decode cX11_style 1 = .ok (.iload_n 1, 1) := by decide +kernel
theorem dX11_style_2 : decode cX11_style 2 = .ok (.invokevirtual 109, 3) := by decide +kernel
theorem dX11_style_5 : decode cX11_style 5 = .ok (.astore 4, 2) := by decide +kernel
theorem dX11_style_7 : decode cX11_style 7 = .ok (.iload_n 2, 1) := by decide +kernel
theorem dX11_style_8 : decode cX11_style 8 = .ok (.ifCond .lt 9, 3) := by decide +kernel
theorem dX11_style_11 : decode cX11_style 11 = .ok (.iload_n 2, 1) := by decide +kernel
theorem dX11_style_12 : decode cX11_style 12 = .ok (.bipush 6, 2) := by decide +kernel
theorem dX11_style_14 : decode cX11_style 14 = .ok (.if_icmp .le 13, 3) := by decide +kernel
theorem dX11_style_17 : decode cX11_style 17 = .ok (.new 47, 3) := by decide +kernel
theorem dX11_style_20 : decode cX11_style 20 = .ok (.dup, 1) := by decide +kernel
theorem dX11_style_21 : decode cX11_style 21 = .ok (.ldc 171, 2) := by decide +kernel
theorem dX11_style_23 : decode cX11_style 23 = .ok (.invokespecial 51, 3) := by decide +kernel
theorem dX11_style_26 : decode cX11_style 26 = .ok (.athrow, 1) := by decide +kernel
theorem dX11_style_27 : decode cX11_style 27 = .ok (.iload_n 3, 1) := by decide +kernel
theorem dX11_style_28 : decode cX11_style 28 = .ok (.iload_n 2, 1) := by decide +kernel
theorem dX11_style_29 : decode cX11_style 29 = .ok (.invokestatic 173, 3) := by decide +kernel
theorem dX11_style_32 : decode cX11_style 32 = .ok (.if_icmp .lt 11, 3) := by decide +kernel
theorem dX11_style_35 : decode cX11_style 35 = .ok (.iload_n 3, 1) := by decide +kernel
theorem dX11_style_36 : decode cX11_style 36 = .ok (.iload_n 2, 1) := by decide +kernel
theorem dX11_style_37 : decode cX11_style 37 = .ok (.invokestatic 176, 3) := by decide +kernel
theorem dX11_style_40 : decode cX11_style 40 = .ok (.if_icmp .le 13, 3) := by decide +kernel
theorem dX11_style_43 : decode cX11_style 43 = .ok (.new 72, 3) := by decide +kernel
theorem dX11_style_46 : decode cX11_style 46 = .ok (.dup, 1) := by decide +kernel
theorem dX11_style_47 : decode cX11_style 47 = .ok (.ldc 179, 2) := by decide +kernel
theorem dX11_style_49 : decode cX11_style 49 = .ok (.invokespecial 76, 3) := by decide +kernel
theorem dX11_style_52 : decode cX11_style 52 = .ok (.athrow, 1) := by decide +kernel
theorem dX11_style_53 : decode cX11_style 53 = .ok (.aload 4, 2) := by decide +kernel
theorem dX11_style_55 : decode cX11_style 55 = .ok (.getfield 181, 3) := by decide +kernel
theorem dX11_style_58 : decode cX11_style 58 = .ok (.iload_n 2, 1) := by decide +kernel
theorem dX11_style_59 : decode cX11_style 59 = .ok (.iaload, 1) := by decide +kernel
theorem dX11_style_60 : decode cX11_style 60 = .ok (.istore 5, 2) := by decide +kernel
theorem dX11_style_62 : decode cX11_style 62 = .ok (.aload 4, 2) := by decide +kernel
theorem dX11_style_64 : decode cX11_style 64 = .ok (.getfield 181, 3) := by decide +kernel
theorem dX11_style_67 : decode cX11_style 67 = .ok (.iload_n 2, 1) := by decide +kernel
theorem dX11_style_68 : decode cX11_style 68 = .ok (.iload_n 3, 1) := by decide +kernel
theorem dX11_style_69 : decode cX11_style 69 = .ok (.iastore, 1) := by decide +kernel
theorem dX11_style_70 : decode cX11_style 70 = .ok (.aload_n 0, 1) := by decide +kernel
theorem dX11_style_71 : decode cX11_style 71 = .ok (.invokevirtual 106, 3) := by decide +kernel
theorem dX11_style_74 : decode cX11_style 74 = .ok (.iload 5, 2) := by decide +kernel
theorem dX11_style_76 : decode cX11_style 76 = .ok (.ireturn, 1) := by decide +kernel
set_option maxHeartbeats 4000000 in
set_option maxRecDepth 100000 in
theorem k_style (l : Launch) (dC : Nat → ClassId) (dI : Nat → Nat → Nat) (k : Nat → ClassId) (hl0 : l.stackTraces = false) (T : Nat → Int → Int → Int → Int) (A : Nat → Int → Int → Nat) (X : Nat → Int → Int → Int) (tl : va_W) (G : Nat → Int → Nat) (Mc : Nat → Int → Int) (Y : Nat → Int → Nat) (O : Nat → Nat) (L : Int → Nat → Int → Int) (C : Nat → Int → Int) (K : Nat → Int → Int) (cp : Nat) (pl : Int) (st_ : Int) (va : Int) (hPR : PR dI k T A X G Mc Y O L C K cp tl) (hK : TK T) (hKK : KK T K) (hrpl : -2147483648 ≤ pl ∧ pl < 2147483648) (hrst_ : -2147483648 ≤ st_ ∧ st_ < 2147483648) (hrva : -2147483648 ≤ va ∧ va < 2147483648) : Kx l dC dI k yX11_style (.code yX11_style cX11_style 6 (some .int)) ({ frames := 8, cells := 1, slots := 6, locals := 124 } : Room) [.ref (Y 0 0), .int (iI pl), .int (iI st_), .int (iI va)] ([] ++ tl) (fun r w gc gs => (∃ (L2 : Int → Nat → Int → Int) (tl2 : va_W), (PR dI k (stT T pl st_ va) A X G Mc Y O L2 C K cp tl2) ∧ ((0 ≤ pl ∧ pl < T 0 0 0 0) ∧ (0 ≤ st_ ∧ st_ ≤ 6) ∧ (lsZ st_ ≤ va ∧ va ≤ msZ st_)) ∧ (∀ u, 0 ≤ u → u ≤ 1 → LF (L2 u)) ∧ r = some (.int (iI (T 2 pl st_ 0))) ∧ w = ([] ++ tl2) ∧ gc = 1 ∧ gs = 6)) (fun E w gc gs => ((¬ ((0 ≤ pl ∧ pl < T 0 0 0 0) ∧ (0 ≤ st_ ∧ st_ ≤ 6))) ∧ E = "java/lang/IndexOutOfBoundsException" ∧ w = ([] ++ tl) ∧ gc = 1 ∧ gs = 6) ∨ (((0 ≤ pl ∧ pl < T 0 0 0 0) ∧ (0 ≤ st_ ∧ st_ ≤ 6) ∧ ¬ (lsZ st_ ≤ va ∧ va ≤ msZ st_)) ∧ E = "java/lang/IllegalArgumentException" ∧ w = ([] ++ tl) ∧ gc = 1 ∧ gs = 6)) := by
  refine kx_of (by decide) (Nat.le_of_ble_eq_true rfl) ?_
  intro p e s m args below meth c H locs B hr hex ls hl
  have hx := B.1.1
  have hb := B.1.2.1
  have hl : lv_has ls 6 [(0, .ref (Y 0 0)), (1, .int (iI pl)), (2, .int (iI st_)), (3, .int (iI va))] := hl
  have hT := PR_TI hPR
  have hnb0 := TK_nb hK
  have hcp0 : 512 ≤ cp ∧ cp ≤ 131072 := by have q9 := hPR.2.2.2; unfold cpOk at q9; omega
  refine lv_aload_n hx hb dX11_style_0 rfl (lv_at hl 0 rfl) ?_
  refine lv_iload_n hx hb dX11_style_1 rfl (lv_at hl 1 rfl) ?_
  have B := bd_swap (a := []) (b := []) (d := tl) (bd_to rfl B)
  obtain ⟨k_1, hk_1⟩ := pk_at (hs := []) (show (((Y 0 0), .inr (11, [.ref (A 50 0 0), .ref (Y 1 0), .ref (Y 2 0), .int (iI (K 0 0)), .ref (Y 3 0)])) : Nat × va_E) ∈ tl from PR_m hPR 0 0 rfl rfl)
  refine k_Vx (rest := []) (wc := ([] ++ tl)) (wr := []) (k_blockAt l dC dI k hl0 T A X tl G Mc Y O L C K cp pl hPR hK hrpl) B mV_X11_blockAt mw_784 hl (q0 := k_1) (ci := 11) hk_1 rfl rfl ⟨Nat.le_of_ble_eq_true rfl, Nat.le_of_ble_eq_true rfl⟩ (Nat.le_of_ble_eq_true rfl) rfl dX11_style_2 ⟨Nat.le_of_ble_eq_true rfl, Nat.le_of_ble_eq_true rfl⟩ (fun E ce q9 w gc gs H locs hp B h1 h2 h3 => ?_) (fun r w gc gs H locs hp B => ?_)
  · skip
    obtain ⟨z_2, rfl, hw9, rfl, rfl⟩ := hp
    rw [hw9] at B; clear hw9
    have B := bd_to (ws' := ([] ++ tl)) rfl B
    exact k_out hex (Or.inl (⟨(by omega), rfl, rfl, rfl, rfl⟩)) B h1 h2 h3 ⟨Nat.le_of_ble_eq_true rfl, Nat.le_of_ble_eq_true rfl⟩ ⟨Nat.le_of_ble_eq_true rfl, Nat.le_of_ble_eq_true rfl⟩
  · skip
    obtain ⟨z_3, rfl, hw9, rfl, rfl⟩ := hp
    rw [hw9] at B; clear hw9
    have B := bd_to (ws' := ([] ++ tl)) rfl B
    refine lv_astore (lv' := [(4, .ref (A 0 pl 0)), (0, .ref (Y 0 0)), (1, .int (iI pl)), (2, .int (iI st_)), (3, .int (iI va))]) hx hb dX11_style_5 hl (by decide) rfl (fun ls hl => ?_)
    refine lv_iload_n hx hb dX11_style_7 rfl (lv_at hl 3 rfl) ?_
    refine lv_if_lt (tgt := 17) hx hb dX11_style_8 (by decide) (fun c_4 => ?_) (fun c_4 => ?_)
    · have zc_4 : st_ < 0 := jlt (a := st_) (b := 0) (by omega) (by omega) c_4
      exact k_thrG (tx := "no such style") xE_ioobe (Or.inl (⟨(by omega), rfl, rfl, rfl, rfl⟩)) ⟨Nat.le_of_ble_eq_true rfl, Nat.le_of_ble_eq_true rfl⟩ hl0 B hex hl (by decide +kernel) dX11_style_17 dX11_style_20 dX11_style_21 dX11_style_23 dX11_style_26 ⟨Nat.le_of_ble_eq_true rfl, Nat.le_of_ble_eq_true rfl, Nat.le_of_ble_eq_true rfl, Nat.le_of_ble_eq_true rfl⟩ ⟨Nat.le_of_ble_eq_true rfl, Nat.le_of_ble_eq_true rfl⟩
    · have zc_4 : 0 ≤ st_ := jnlt (a := st_) (b := 0) (by omega) (by omega) c_4
      refine lv_iload_n hx hb dX11_style_11 rfl (lv_at hl 3 rfl) ?_
      refine lv_bipush (v := iI 6) hx hb dX11_style_12 (by decide) ?_
      refine lv_icmp_le (tgt := 27) hx hb dX11_style_14 (by decide) (fun c_5 => ?_) (fun c_5 => ?_)
      · have zc_5 : st_ ≤ 6 := jle (a := st_) (b := 6) (by omega) (by omega) c_5
        refine lv_iload_n hx hb dX11_style_27 rfl (lv_at hl 4 rfl) ?_
        refine lv_iload_n hx hb dX11_style_28 rfl (lv_at hl 3 rfl) ?_
        have B := bd_to (ws' := [] ++ ([] ++ tl)) rfl B
        refine k_S (rest := [.int (iI va)]) (wc := []) (wr := ([] ++ tl)) (k_leastStyle l dC dI k st_ (by omega)) B mS_X11_leastStyle mw_1212 hl ⟨Nat.le_of_ble_eq_true rfl, Nat.le_of_ble_eq_true rfl⟩ (Nat.le_of_ble_eq_true rfl) rfl dX11_style_29 ⟨Nat.le_of_ble_eq_true rfl, Nat.le_of_ble_eq_true rfl⟩ (fun r w gc gs H locs hp B => ?_)
        obtain ⟨z_6, rfl, hw9, rfl, rfl⟩ := hp
        rw [hw9] at B; clear hw9
        have B := bd_swap (a := []) (b := tl) (d := []) B
        have B := bd_to (ws' := ([] ++ tl)) rfl B
        refine lv_icmp_lt (tgt := 43) hx hb dX11_style_32 (by decide) (fun c_7 => ?_) (fun c_7 => ?_)
        · have zc_7 : va < (lsZ st_) := jlt (a := va) (b := (lsZ st_)) (by omega) (by omega) c_7
          exact k_thrG (tx := "not a value for this style") xE_iae (Or.inr (⟨(by omega), rfl, rfl, rfl, rfl⟩)) ⟨Nat.le_of_ble_eq_true rfl, Nat.le_of_ble_eq_true rfl⟩ hl0 B hex hl (by decide +kernel) dX11_style_43 dX11_style_46 dX11_style_47 dX11_style_49 dX11_style_52 ⟨Nat.le_of_ble_eq_true rfl, Nat.le_of_ble_eq_true rfl, Nat.le_of_ble_eq_true rfl, Nat.le_of_ble_eq_true rfl⟩ ⟨Nat.le_of_ble_eq_true rfl, Nat.le_of_ble_eq_true rfl⟩
        · have zc_7 : (lsZ st_) ≤ va := jnlt (a := va) (b := (lsZ st_)) (by omega) (by omega) c_7
          refine lv_iload_n hx hb dX11_style_35 rfl (lv_at hl 4 rfl) ?_
          refine lv_iload_n hx hb dX11_style_36 rfl (lv_at hl 3 rfl) ?_
          have B := bd_to (ws' := [] ++ ([] ++ tl)) rfl B
          refine k_S (rest := [.int (iI va)]) (wc := []) (wr := ([] ++ tl)) (k_mostStyle l dC dI k st_ (by omega)) B mS_X11_mostStyle mw_1215 hl ⟨Nat.le_of_ble_eq_true rfl, Nat.le_of_ble_eq_true rfl⟩ (Nat.le_of_ble_eq_true rfl) rfl dX11_style_37 ⟨Nat.le_of_ble_eq_true rfl, Nat.le_of_ble_eq_true rfl⟩ (fun r w gc gs H locs hp B => ?_)
          obtain ⟨z_8, rfl, hw9, rfl, rfl⟩ := hp
          rw [hw9] at B; clear hw9
          have B := bd_swap (a := []) (b := tl) (d := []) B
          have B := bd_to (ws' := ([] ++ tl)) rfl B
          refine lv_icmp_le (tgt := 53) hx hb dX11_style_40 (by decide) (fun c_9 => ?_) (fun c_9 => ?_)
          · have zc_9 : va ≤ (msZ st_) := jle (a := va) (b := (msZ st_)) (by omega) (by omega) c_9
            refine lv_aload hx hb dX11_style_53 (lv_at hl 0 rfl) ?_
            obtain ⟨k_10, hk_10⟩ := pk_at (hs := []) (hT.2.2.2.1 pl (by omega) (by omega)).1
            refine x_get (ci := 0) (C := RX0) (T := TX0) (N := 4) (v := .ref (A 1 pl 0)) B k_10 hk_10 rfl in_X0 1 (by decide) mw_1178 (fun _ h9 => h9) rfl dX11_style_55 ?_
            refine lv_iload_n hx hb dX11_style_58 rfl (lv_at hl 3 rfl) ?_
            obtain ⟨k_11, hk_11⟩ := pk_at (hs := []) (hT.2.2.2.1 pl (by omega) (by omega)).2.1
            refine x_iald' (f := (fun j9 : Int => T 2 pl j9 0)) (z := st_) B k_11 hk_11 (by omega) dX11_style_59 ?_
            have z_12 : (-1) ≤ (T 2 pl st_ 0) ∧ (T 2 pl st_ 0) ≤ 30 := (fun j => TK_sty hK pl j) st_
            refine lv_istore (lv' := [(5, .int (iI (T 2 pl st_ 0))), (4, .ref (A 0 pl 0)), (0, .ref (Y 0 0)), (1, .int (iI pl)), (2, .int (iI st_)), (3, .int (iI va))]) hx hb dX11_style_60 hl (by decide) rfl (fun ls hl => ?_)
            refine lv_aload hx hb dX11_style_62 (lv_at hl 1 rfl) ?_
            obtain ⟨k_13, hk_13⟩ := pk_at (hs := []) (hT.2.2.2.1 pl (by omega) (by omega)).1
            refine x_get (ci := 0) (C := RX0) (T := TX0) (N := 4) (v := .ref (A 1 pl 0)) B k_13 hk_13 rfl in_X0 1 (by decide) mw_1178 (fun _ h9 => h9) rfl dX11_style_64 ?_
            refine lv_iload_n hx hb dX11_style_67 rfl (lv_at hl 4 rfl) ?_
            refine lv_iload_n hx hb dX11_style_68 rfl (lv_at hl 5 rfl) ?_
            obtain ⟨tr_14, htr_14, btr_14⟩ := PR_st hPR (i := pl) (by omega)
            have B := bd_perm (List.Perm.append_left [] htr_14) B
            have B := bd_to (ws' := ([((Y 0 0), .inr (11, [.ref (A 50 0 0), .ref (Y 1 0), .ref (Y 2 0), .int (iI (K 0 0)), .ref (Y 3 0)])), ((Y 1 0), .inl (k 3, 2, .inr (.inr (.inr (.inr (fun i9 : Nat => (fun j9 : Int => some (Y 4 j9)) i9)))))), ((Y 2 0), .inl (k 0, 6, .inl (fun i9 : Nat => iI ((K 1) i9)))), ((Y 3 0), .inl (k 0, 5, .inl (fun i9 : Nat => iI ((K 2) i9)))), ((A 0 pl 0), .inr (0, [.int (iI (T 1 pl 0 0)), .ref (A 1 pl 0), .ref (A 2 pl 0), va_rf (if T 1 pl 0 0 = 3 then some (A 7 pl 0) else none)])), ((A 1 pl 0), .inl (k 0, 7, .inl (fun i9 : Nat => iI ((fun j9 : Int => T 2 pl j9 0) i9))))] ++ tr_14)) rfl B
            refine x_iast' (f := (fun j9 : Int => T 2 pl j9 0)) (z := st_) (v := va) B 5 rfl (by omega) dX11_style_69 (fun H locs B => ?_)
            have B := bd_to (ws' := ([((Y 0 0), .inr (11, [.ref (A 50 0 0), .ref (Y 1 0), .ref (Y 2 0), .int (iI (K 0 0)), .ref (Y 3 0)])), ((Y 1 0), .inl (k 3, 2, .inr (.inr (.inr (.inr (fun i9 : Nat => (fun j9 : Int => some (Y 4 j9)) i9)))))), ((Y 2 0), .inl (k 0, 6, .inl (fun i9 : Nat => iI ((K 1) i9)))), ((Y 3 0), .inl (k 0, 5, .inl (fun i9 : Nat => iI ((K 2) i9)))), ((A 0 pl 0), .inr (0, [.int (iI (T 1 pl 0 0)), .ref (A 1 pl 0), .ref (A 2 pl 0), va_rf (if T 1 pl 0 0 = 3 then some (A 7 pl 0) else none)])), ((A 1 pl 0), .inl (k 0, 7, .inl (fun i9 : Nat => iI ((uz (fun j9 : Int => T 2 pl j9 0) st_ va) i9))))] ++ tr_14)) rfl B
            refine lv_aload_n hx hb dX11_style_70 rfl (lv_at hl 2 rfl) ?_
            have B := bd_to (ws' := ([] ++ ((gCl k A Y K ++ stH k (stT T pl st_ va) A pl) ++ tr_14))) (congrArg (fun h9 : va_W => ([] ++ ((gCl k A Y K ++ h9) ++ tr_14))) stH_st.symm) B
            have hPR : PR dI k (stT T pl st_ va) A X G Mc Y O L C K cp ((gCl k A Y K ++ stH k (stT T pl st_ va) A pl) ++ tr_14) := btr_14 K st_ va
            have hT := PR_TI hPR
            have hK : TK (stT T pl st_ va) := TK_stT hK (by omega)
            have B := bd_swap (a := []) (b := []) (d := ((gCl k A Y K ++ stH k (stT T pl st_ va) A pl) ++ tr_14)) (bd_to rfl B)
            obtain ⟨k_15, hk_15⟩ := pk_at (hs := []) (show (((Y 0 0), .inr (11, [.ref (A 50 0 0), .ref (Y 1 0), .ref (Y 2 0), .int (iI (K 0 0)), .ref (Y 3 0)])) : Nat × va_E) ∈ ((gCl k A Y K ++ stH k (stT T pl st_ va) A pl) ++ tr_14) from PR_m hPR 0 0 rfl rfl)
            refine k_V (rest := []) (wc := ([] ++ ((gCl k A Y K ++ stH k (stT T pl st_ va) A pl) ++ tr_14))) (wr := []) (k_forgetAll l dC dI k (stT T pl st_ va) A X ((gCl k A Y K ++ stH k (stT T pl st_ va) A pl) ++ tr_14) G Mc Y O L C K cp hPR hK) B mV_X11_forgetLayouts mw_769 hl (q0 := k_15) (ci := 11) hk_15 rfl rfl ⟨Nat.le_of_ble_eq_true rfl, Nat.le_of_ble_eq_true rfl⟩ (Nat.le_of_ble_eq_true rfl) rfl dX11_style_71 ⟨Nat.le_of_ble_eq_true rfl, Nat.le_of_ble_eq_true rfl⟩ (fun r w gc gs H locs hp B => ?_)
            obtain ⟨L2_16, tl2_17, z_18, z_19, rfl, hw9, rfl, rfl⟩ := hp
            rw [hw9] at B; clear hw9
            have B := bd_to (ws' := ([] ++ tl2_17)) rfl B
            have hPR : PR dI k (stT T pl st_ va) A X G Mc Y O L2_16 C K cp tl2_17 := z_18
            have hT : TI dI k (stT T pl st_ va) A X tl2_17 := PR_TI hPR
            refine lv_iload hx hb dX11_style_74 (lv_at hl 0 rfl) ?_
            exact vx_ret (k_iret B hr (⟨L2_16, tl2_17, hPR, (by omega), z_19, rfl, rfl, rfl, rfl⟩) ⟨Nat.le_of_ble_eq_true rfl, Nat.le_of_ble_eq_true rfl⟩ ⟨Nat.le_of_ble_eq_true rfl, Nat.le_of_ble_eq_true rfl⟩ dX11_style_76)
          · have zc_9 : (msZ st_) < va := jnle (a := va) (b := (msZ st_)) (by omega) (by omega) c_9
            exact k_thrG (tx := "not a value for this style") xE_iae (Or.inr (⟨(by omega), rfl, rfl, rfl, rfl⟩)) ⟨Nat.le_of_ble_eq_true rfl, Nat.le_of_ble_eq_true rfl⟩ hl0 B hex hl (by decide +kernel) dX11_style_43 dX11_style_46 dX11_style_47 dX11_style_49 dX11_style_52 ⟨Nat.le_of_ble_eq_true rfl, Nat.le_of_ble_eq_true rfl, Nat.le_of_ble_eq_true rfl, Nat.le_of_ble_eq_true rfl⟩ ⟨Nat.le_of_ble_eq_true rfl, Nat.le_of_ble_eq_true rfl⟩
      · have zc_5 : 6 < st_ := jnle (a := st_) (b := 6) (by omega) (by omega) c_5
        exact k_thrG (tx := "no such style") xE_ioobe (Or.inl (⟨(by omega), rfl, rfl, rfl, rfl⟩)) ⟨Nat.le_of_ble_eq_true rfl, Nat.le_of_ble_eq_true rfl⟩ hl0 B hex hl (by decide +kernel) dX11_style_17 dX11_style_20 dX11_style_21 dX11_style_23 dX11_style_26 ⟨Nat.le_of_ble_eq_true rfl, Nat.le_of_ble_eq_true rfl, Nat.le_of_ble_eq_true rfl, Nat.le_of_ble_eq_true rfl⟩ ⟨Nat.le_of_ble_eq_true rfl, Nat.le_of_ble_eq_true rfl⟩

end
