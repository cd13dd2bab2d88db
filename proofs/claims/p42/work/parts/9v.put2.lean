section
section PU1
variable {dI : Nat → Nat → Nat} {k : Nat → ClassId} {T T' : Nat → Int → Int → Int → Int} {A A' : Nat → Int → Int → Nat} {X X' : Nat → Int → Int → Int} {G G' : Nat → Int → Nat} {Mc Mc' : Nat → Int → Int} {Y : Nat → Int → Nat} {O O' : Nat → Nat} {L L' : Int → Nat → Int → Int} {C C' : Nat → Int → Int} {K K' : Nat → Int → Int} {cp cp' : Nat} {tl tx tx' : va_W} {v : Int}
/-- a word put into a block -/
def puT (T : Nat → Int → Int → Int → Int) (i a : Int) (nl : Nat) (fl : Int → Int) (lb : Int) (fm : Int → Int) (gs_ : Int) : Nat → Int → Int → Int → Int := fun c j => if 3 ≤ c ∧ c ≤ 8 ∧ j = i then (if c = 3 then fun _ _ => T 3 i 0 0 + 1 else fun q r => if q = a then (if c = 4 then (nl : Int) else if c = 5 then fl r else if c = 6 then lb else if c = 7 then fm r else gs_) else T c i (ish a q) r) else T c j
def puA (A : Nat → Int → Int → Nat) (i a : Int) (v9 la_ ma e2 : Nat) : Nat → Int → Int → Nat := fun c j => if 3 ≤ c ∧ c ≤ 6 ∧ j = i then (if c = 3 then fun _ => e2 else fun q => if q = a then (if c = 4 then v9 else if c = 5 then la_ else ma) else A c i (ish a q)) else A c j
section PU2
variable {i a : Int} {nl v9 la_ ma e2 : Nat} {fl fm : Int → Int} {lb gs_ : Int} {c : Nat}
theorem puT_o {j : Int} (e : ¬ j = i) : puT T i a nl fl lb fm gs_ c j = T c j := if_neg (fun h => e h.2.2)
theorem puT_n (h : c < 3 ∨ 8 < c) : puT T i a nl fl lb fm gs_ c = T c := by funext j; exact if_neg (by omega)
theorem puT_3 : puT T i a nl fl lb fm gs_ 3 i = fun _ _ => T 3 i 0 0 + 1 := if_pos ⟨by omega, by omega, rfl⟩
theorem puT_w (h : 4 ≤ c ∧ c ≤ 8) : puT T i a nl fl lb fm gs_ c i = fun q r => if q = a then (if c = 4 then (nl : Int) else if c = 5 then fl r else if c = 6 then lb else if c = 7 then fm r else gs_) else T c i (ish a q) r := (if_pos ⟨by omega, by omega, rfl⟩).trans (if_neg (by omega))
theorem puA_n (h : c < 3 ∨ 6 < c) : puA A i a v9 la_ ma e2 c = A c := by funext j; exact if_neg (by omega)
theorem puA_3 : puA A i a v9 la_ ma e2 3 i = fun _ => e2 := if_pos ⟨by omega, by omega, rfl⟩
theorem puA_w (h : 4 ≤ c ∧ c ≤ 6) : puA A i a v9 la_ ma e2 c i = fun q => if q = a then (if c = 4 then v9 else if c = 5 then la_ else ma) else A c i (ish a q) := (if_pos ⟨by omega, by omega, rfl⟩).trans (if_neg (by omega))
theorem woC_pu {j : Int} (h : ¬ j = a) : woC k (puT T i a nl fl lb fm gs_) (puA A i a v9 la_ ma e2) i j = woC k T A i (ish a j) := by
  unfold woC
  rw [puT_w (c := 4) (by omega), puT_w (c := 5) (by omega), puT_w (c := 6) (by omega), puT_w (c := 7) (by omega), puT_w (c := 8) (by omega), puA_w (c := 4) (by omega), puA_w (c := 5) (by omega), puA_w (c := 6) (by omega)]
  simp only [if_neg h]
theorem woC_pua : woC k (puT T i a nl fl lb fm gs_) (puA A i a v9 la_ ma e2) i a = [((v9, .inr (10, [.ref la_, .int (iI lb), .ref ma, .int (iI gs_)])) : Nat × va_E), ((la_, .inl (k 0, nl, .inl (fun i9 : Nat => iI (fl i9)))) : Nat × va_E), ((ma, .inl (k 0, 5, .inl (fun i9 : Nat => iI (fm i9)))) : Nat × va_E)] := by
  unfold woC
  rw [puT_w (c := 4) (by omega), puT_w (c := 5) (by omega), puT_w (c := 6) (by omega), puT_w (c := 7) (by omega), puT_w (c := 8) (by omega), puA_w (c := 4) (by omega), puA_w (c := 5) (by omega), puA_w (c := 6) (by omega)]
  simp only [if_true]
  rfl
theorem stH_pu : stH k (puT T i a nl fl lb fm gs_) (puA A i a v9 la_ ma e2) i = stH k T A i := by
  unfold stH
  rw [puT_n (c := 1) (by omega), puT_n (c := 2) (by omega), puA_n (c := 0) (by omega), puA_n (c := 1) (by omega), puA_n (c := 2) (by omega), puA_n (c := 7) (by omega)]
theorem taC_pu : taC k (puT T i a nl fl lb fm gs_) (puA A i a v9 la_ ma e2) X i = taC k T A X i := by
  unfold taC
  rw [puT_n (c := 9) (by omega), puT_n (c := 10) (by omega), puT_n (c := 11) (by omega), puA_n (c := 7) (by omega), puA_n (c := 8) (by omega)]
end PU2
end PU1

theorem k_putP (l : Launch) (dC : Nat → ClassId) (dI : Nat → Nat → Nat) (k : Nat → ClassId) (T : Nat → Int → Int → Int → Int) (A : Nat → Int → Int → Nat) (X : Nat → Int → Int → Int) (tl : va_W) (G : Nat → Int → Nat) (Mc : Nat → Int → Int) (Y : Nat → Int → Nat) (O : Nat → Nat) (L : Int → Nat → Int → Int) (C : Nat → Int → Int) (K : Nat → Int → Int) (cp : Nat) (i : Int) (at_ : Int) (lb : Int) (gs_ : Int) (v9 : Nat) (la_ : Nat) (ma : Nat) (nl : Nat) (fl : Int → Int) (fm : Int → Int) (hPR : PR dI k T A X G Mc Y O L C K cp tl) (hK : TK T) (hi : 0 ≤ i ∧ i < T 0 0 0 0) (h1 : 0 ≤ at_ ∧ at_ ≤ T 3 i 0 0 ∧ T 3 i 0 0 < 12) : Kn l dC dI k yJx4a65c_add_7a177 (.code yJx4a65c_add_7a177 cJx4a65c_add_7a177 5 none) ({ frames := 12, cells := 1, slots := 40, locals := 400 } : Room) [.ref (A 2 i 0), .int (iI at_), .ref v9] ([(v9, .inr (10, [.ref la_, .int (iI lb), .ref ma, .int (iI gs_)])), (la_, .inl (k 0, nl, .inl (fun i9 : Nat => iI (fl i9)))), (ma, .inl (k 0, 5, .inl (fun i9 : Nat => iI (fm i9))))] ++ tl) (fun r w gc gs => (∃ (e2 : Nat) (c2 : Nat) (tl2 : va_W), (PR dI k (puT T i at_ nl fl lb fm gs_) (puA A i at_ v9 la_ ma e2) X (upG G 1 i c2) (upM Mc 1 i (Mc 1 i + 1)) Y O L C K cp tl2) ∧ r = none ∧ w = ([] ++ tl2) ∧ gc = 1 ∧ gs = 40)) := by
  obtain ⟨tr, h2, h3⟩ := PR_bk hPR hi
  have ho := hPR.2.1.2.2 i hi.1 hi.2
  obtain ⟨rc, hc, hca⟩ : ∃ rc, classes[10]? = some rc ∧ (rc.1, "java/lang/Object") ∈ nCS := ⟨_, rfl, List.mem_of_getElem? (i := 2) rfl⟩
  have hz : ([((v9, .inr (10, [.ref la_, .int (iI lb), .ref ma, .int (iI gs_)])) : Nat × va_E), ((la_, .inl (k 0, nl, .inl (fun i9 : Nat => iI (fl i9)))) : Nat × va_E), ((ma, .inl (k 0, 5, .inl (fun i9 : Nat => iI (fm i9)))) : Nat × va_E)] ++ tl).Perm (lsC k (A 2 i 0) (A 3 i 0) (Mc 1 i) (T 3 i 0 0) (G 1 i) (fun j => A 4 i j) ++ ([((v9, .inr (10, [.ref la_, .int (iI lb), .ref ma, .int (iI gs_)])) : Nat × va_E), ((la_, .inl (k 0, nl, .inl (fun i9 : Nat => iI (fl i9)))) : Nat × va_E), ((ma, .inl (k 0, 5, .inl (fun i9 : Nat => iI (fm i9)))) : Nat × va_E)] ++ (gCl k A Y K ++ (stH k T A i ++ ((List.range (T 3 i 0 0).toNat).flatMap (fun j : Nat => woC k T A i j) ++ ((if T 1 i 0 0 = 3 then taC k T A X i else []) ++ tr)))))) := by
    refine (List.Perm.append_left _ h2).trans ?_
    rw [blC_split]
    generalize [((v9, .inr (10, [.ref la_, .int (iI lb), .ref ma, .int (iI gs_)])) : Nat × va_E), ((la_, .inl (k 0, nl, .inl (fun i9 : Nat => iI (fl i9)))) : Nat × va_E), ((ma, .inl (k 0, 5, .inl (fun i9 : Nat => iI (fm i9)))) : Nat × va_E)] = wo
    have h5 := List.perm_append_comm_assoc (wo ++ (gCl k A Y K ++ stH k T A i)) (lsC k (A 2 i 0) (A 3 i 0) (Mc 1 i) (T 3 i 0 0) (G 1 i) (fun j => A 4 i j)) ((List.range (T 3 i 0 0).toNat).flatMap (fun j : Nat => woC k T A i j) ++ ((if T 1 i 0 0 = 3 then taC k T A X i else []) ++ tr))
    simpa only [List.append_assoc] using h5
  have hel : ∀ j : Int, 0 ≤ j → j < T 3 i 0 0 → ∃ fs : List Value, ((A 4 i j, .inr (10, fs)) : Nat × va_E) ∈ [((v9, .inr (10, [.ref la_, .int (iI lb), .ref ma, .int (iI gs_)])) : Nat × va_E), ((la_, .inl (k 0, nl, .inl (fun i9 : Nat => iI (fl i9)))) : Nat × va_E), ((ma, .inl (k 0, 5, .inl (fun i9 : Nat => iI (fm i9)))) : Nat × va_E)] ++ (gCl k A Y K ++ (stH k T A i ++ ((List.range (T 3 i 0 0).toNat).flatMap (fun j : Nat => woC k T A i j) ++ ((if T 1 i 0 0 = 3 then taC k T A X i else []) ++ tr)))) := by
    intro j g1 g2
    refine ⟨_, List.mem_append_right _ (List.mem_append_right _ (List.mem_append_right _ (List.mem_append_left _ (mem_rg g1 g2 (e := (((A 4 i j), .inr (10, [.ref (A 5 i j), .int (iI (T 6 i j 0)), .ref (A 6 i j), .int (iI (T 8 i j 0))])) : Nat × va_E)) ?_))))⟩
    rw [show ((j.toNat : Nat) : Int) = j by omega]
    exact List.mem_cons_self
  have K0 := k_lsAdd l dC dI k (A 2 i 0) (A 3 i 0) (G 1 i) (Mc 1 i) (T 3 i 0 0) (fun j => A 4 i j) 10 rc ([((v9, .inr (10, [.ref la_, .int (iI lb), .ref ma, .int (iI gs_)])) : Nat × va_E), ((la_, .inl (k 0, nl, .inl (fun i9 : Nat => iI (fl i9)))) : Nat × va_E), ((ma, .inl (k 0, 5, .inl (fun i9 : Nat => iI (fm i9)))) : Nat × va_E)] ++ tl) _ v9 _ at_ hc hca hz ho hel List.mem_cons_self ⟨h1.1, h1.2.1, by omega⟩
  refine kn_post K0 ?_
  rintro r w gc gs ⟨e2, c2, hlo, hr, hw, hgc, hgs⟩
  have h6 := h3 K (puT T i at_ nl fl lb fm gs_) (puA A i at_ v9 la_ ma e2) X (upG G 1 i c2) (upM Mc 1 i (Mc 1 i + 1)) (fun c j hc => if_neg (by omega)) (fun c j hc => if_neg (by omega)) (fun _ _ _ => rfl) (fun c j hc => if_neg (by omega)) (fun c j hc => if_neg (by omega)) (by
    rw [puT_3, puA_3, show upG G 1 i c2 1 i = c2 from if_pos ⟨rfl, rfl⟩]
    exact hlo)
  refine ⟨_, ?_, e2, c2, _, h6, hr, rfl, hgc, hgs⟩
  rw [hw, blC_split, stH_pu, taC_pu, puT_3, puA_3, show upG G 1 i c2 1 i = c2 from if_pos ⟨rfl, rfl⟩, show upM Mc 1 i (Mc 1 i + 1) 1 i = Mc 1 i + 1 from if_pos ⟨rfl, rfl⟩, puT_n (c := 1) (by omega), puA_n (c := 2) (by omega), puA_w (c := 4) (by omega)]
  have hn : (T 3 i 0 0 + 1).toNat = (T 3 i 0 0).toNat + 1 := by omega
  have h7 := flat_rm (f := fun j : Nat => woC k (puT T i at_ nl fl lb fm gs_) (puA A i at_ v9 la_ ma e2) i j) (T 3 i 0 0).toNat at_.toNat (by omega)
  rw [← hn, show (((at_.toNat : Nat) : Int)) = at_ by omega, woC_pua] at h7
  have e8 : (List.range (T 3 i 0 0).toNat).flatMap (fun j : Nat => woC k (puT T i at_ nl fl lb fm gs_) (puA A i at_ v9 la_ ma e2) i (((if j < at_.toNat then j else j + 1 : Nat)) : Int)) = (List.range (T 3 i 0 0).toNat).flatMap (fun j : Nat => woC k T A i j) := by
    refine fm_congr _ (fun j hj => ?_)
    rw [woC_pu (by split <;> omega)]
    congr 1
    unfold ish
    split <;> split <;> omega
  have h8 := h7
  rw [e8] at h8
  have e9 : lsC k (A 2 i 0) e2 (Mc 1 i + 1) (T 3 i 0 0 + 1) c2 (insL (fun j => A 4 i j) at_ v9) = lsC k (A 2 i 0) e2 (Mc 1 i + 1) (T 3 i 0 0 + 1) c2 (fun q => if q = at_ then (if 4 = 4 then v9 else if 4 = 5 then la_ else ma) else A 4 i (ish at_ q)) := by
    congr 1
    funext j
    unfold insL ish
    repeat' split
    all_goals first | rfl | omega
  rw [e9]
  generalize (List.range (T 3 i 0 0 + 1).toNat).flatMap (fun j : Nat => woC k (puT T i at_ nl fl lb fm gs_) (puA A i at_ v9 la_ ma e2) i j) = W2 at h8 ⊢
  generalize (List.range (T 3 i 0 0).toNat).flatMap (fun j : Nat => woC k T A i j) = W1 at h8 ⊢
  generalize (if T 1 i 0 0 = 3 then taC k T A X i else []) = tx
  generalize lsC k (A 2 i 0) e2 (Mc 1 i + 1) (T 3 i 0 0 + 1) c2 (fun q => if q = at_ then (if 4 = 4 then v9 else if 4 = 5 then la_ else ma) else A 4 i (ish at_ q)) = ls
  generalize [((v9, .inr (10, [.ref la_, .int (iI lb), .ref ma, .int (iI gs_)])) : Nat × va_E), ((la_, .inl (k 0, nl, .inl (fun i9 : Nat => iI (fl i9)))) : Nat × va_E), ((ma, .inl (k 0, 5, .inl (fun i9 : Nat => iI (fm i9)))) : Nat × va_E)] = wo at h8 ⊢
  generalize gCl k A Y K = g
  generalize stH k T A i = st
  have h9 : (ls ++ (g ++ (st ++ ((wo ++ W1) ++ (tx ++ tr))))).Perm (ls ++ (g ++ (st ++ (W2 ++ (tx ++ tr))))) := List.Perm.append_left _ (List.Perm.append_left _ (List.Perm.append_left _ (List.Perm.append_right _ h8.symm)))
  have h11 := List.perm_append_comm_assoc ls (g ++ st) (W2 ++ (tx ++ tr))
  have h10 := List.perm_append_comm_assoc wo (g ++ st) (W1 ++ (tx ++ tr))
  simp only [List.append_assoc, List.nil_append] at h9 h10 h11 ⊢
  exact ((List.Perm.append_left ls h10).trans h9).trans h11

end
