section
theorem k_addBN (l : Launch) (dC : Nat → ClassId) (dI : Nat → Nat → Nat) (k : Nat → ClassId) (T : Nat → Int → Int → Int → Int) (A : Nat → Int → Int → Nat) (X : Nat → Int → Int → Int) (tl : va_W) (G : Nat → Int → Nat) (Mc : Nat → Int → Int) (Y : Nat → Int → Nat) (O : Nat → Nat) (L : Int → Nat → Int → Int) (C : Nat → Int → Int) (K : Nat → Int → Int) (cp : Nat) (at_ : Int) (kd : Int) (b9 : Nat) (st9 : Nat) (wl9 : Nat) (hPR : PR dI k T A X G Mc Y O L C K cp tl) (hK : TK T) (h1 : 0 ≤ at_ ∧ at_ ≤ T 0 0 0 0 ∧ T 0 0 0 0 < 16) (hkd : ¬ kd = 3) : Kn l dC dI k yJx4a65c_add_7a177 (.code yJx4a65c_add_7a177 cJx4a65c_add_7a177 5 none) ({ frames := 12, cells := 1, slots := 40, locals := 400 } : Room) [.ref (A 51 0 0), .int (iI at_), .ref b9] ([(b9, .inr (0, [.int (iI kd), .ref st9, .ref wl9, .null])), (st9, .inl (k 0, 7, .inl (fun i9 : Nat => iI ((fun j9 : Int => nbV kd 2 j9 0) i9)))), (wl9, .inr (12, [.int (iI 0), .ref (dI 99 1), .int (iI 0)]))] ++ tl) (fun r w gc gs => (∃ (e2 : Nat) (c2 : Nat) (tl2 : va_W), (PR dI k (ibT T at_ kd) (ibA A at_ b9 st9 wl9 0 (dI 99 1) (fun _ : Int => (0 : Nat)) e2) (ibX X at_) (ibG G at_ c2) (ibM Mc at_) Y O L C K cp tl2) ∧ r = none ∧ w = ([] ++ tl2) ∧ gc = 1 ∧ gs = 40)) := by
  obtain ⟨tr, h2, h3⟩ := PR_gtx hPR
  have ho := hPR.2.1.1
  obtain ⟨rc, hc, hca⟩ : ∃ rc, classes[0]? = some rc ∧ (rc.1, "java/lang/Object") ∈ nCS := ⟨_, rfl, List.mem_of_getElem? (i := 1) rfl⟩
  have hz : ([((b9, .inr (0, [.int (iI kd), .ref st9, .ref wl9, .null])) : Nat × va_E), ((st9, .inl (k 0, 7, .inl (fun i9 : Nat => iI ((fun j9 : Int => nbV kd 2 j9 0) i9)))) : Nat × va_E), ((wl9, .inr (12, [.int (iI 0), .ref (dI 99 1), .int (iI 0)])) : Nat × va_E)] ++ tl).Perm (lsC k (A 51 0 0) (A 56 0 0) (Mc 0 0) (T 0 0 0 0) (G 0 0) (fun i => A 0 i 0) ++ ([((b9, .inr (0, [.int (iI kd), .ref st9, .ref wl9, .null])) : Nat × va_E), ((st9, .inl (k 0, 7, .inl (fun i9 : Nat => iI ((fun j9 : Int => nbV kd 2 j9 0) i9)))) : Nat × va_E), ((wl9, .inr (12, [.int (iI 0), .ref (dI 99 1), .int (iI 0)])) : Nat × va_E)] ++ (gCl k A Y K ++ (heC k T A ++ (lsC k (A 52 0 0) (A 57 0 0) (Mc 2 0) (T 18 0 0 0) (G 2 0) (fun i => A 15 i 0) ++ ((List.range (T 0 0 0 0).toNat).flatMap (fun i : Nat => blC k T A X G Mc i) ++ (ptC k T A ++ tr))))))) := by
    refine (List.Perm.append_left _ h2).trans ?_
    rw [txC_split]
    generalize [((b9, .inr (0, [.int (iI kd), .ref st9, .ref wl9, .null])) : Nat × va_E), ((st9, .inl (k 0, 7, .inl (fun i9 : Nat => iI ((fun j9 : Int => nbV kd 2 j9 0) i9)))) : Nat × va_E), ((wl9, .inr (12, [.int (iI 0), .ref (dI 99 1), .int (iI 0)])) : Nat × va_E)] = wo
    have h5 := List.perm_append_comm_assoc (wo ++ (gCl k A Y K ++ heC k T A)) (lsC k (A 51 0 0) (A 56 0 0) (Mc 0 0) (T 0 0 0 0) (G 0 0) (fun i => A 0 i 0)) (lsC k (A 52 0 0) (A 57 0 0) (Mc 2 0) (T 18 0 0 0) (G 2 0) (fun i => A 15 i 0) ++ ((List.range (T 0 0 0 0).toNat).flatMap (fun i : Nat => blC k T A X G Mc i) ++ (ptC k T A ++ tr)))
    simpa only [List.append_assoc] using h5
  have hel : ∀ j : Int, 0 ≤ j → j < T 0 0 0 0 → ∃ fs : List Value, ((A 0 j 0, .inr (0, fs)) : Nat × va_E) ∈ [((b9, .inr (0, [.int (iI kd), .ref st9, .ref wl9, .null])) : Nat × va_E), ((st9, .inl (k 0, 7, .inl (fun i9 : Nat => iI ((fun j9 : Int => nbV kd 2 j9 0) i9)))) : Nat × va_E), ((wl9, .inr (12, [.int (iI 0), .ref (dI 99 1), .int (iI 0)])) : Nat × va_E)] ++ (gCl k A Y K ++ (heC k T A ++ (lsC k (A 52 0 0) (A 57 0 0) (Mc 2 0) (T 18 0 0 0) (G 2 0) (fun i => A 15 i 0) ++ ((List.range (T 0 0 0 0).toNat).flatMap (fun i : Nat => blC k T A X G Mc i) ++ (ptC k T A ++ tr))))) := by
    intro j g1 g2
    refine ⟨_, List.mem_append_right _ (List.mem_append_right _ (List.mem_append_right _ (List.mem_append_right _ (List.mem_append_left _ (mem_rg g1 g2 (e := (((A 0 j 0), .inr (0, [.int (iI (T 1 j 0 0)), .ref (A 1 j 0), .ref (A 2 j 0), va_rf (if T 1 j 0 0 = 3 then some (A 7 j 0) else none)])) : Nat × va_E)) ?_)))))⟩
    rw [show ((j.toNat : Nat) : Int) = j by omega]
    exact List.mem_append_left _ (List.mem_append_left _ List.mem_cons_self)
  have K0 := k_lsAdd l dC dI k (A 51 0 0) (A 56 0 0) (G 0 0) (Mc 0 0) (T 0 0 0 0) (fun j => A 0 j 0) 0 rc ([((b9, .inr (0, [.int (iI kd), .ref st9, .ref wl9, .null])) : Nat × va_E), ((st9, .inl (k 0, 7, .inl (fun i9 : Nat => iI ((fun j9 : Int => nbV kd 2 j9 0) i9)))) : Nat × va_E), ((wl9, .inr (12, [.int (iI 0), .ref (dI 99 1), .int (iI 0)])) : Nat × va_E)] ++ tl) _ b9 _ at_ hc hca hz ho hel List.mem_cons_self ⟨h1.1, h1.2.1, h1.2.2⟩
  refine kn_post K0 ?_
  rintro r w gc gs ⟨e2, c2, hlo, hr, hw, hgc, hgs⟩
  have h6 := h3 K (ibT T at_ kd) (ibA A at_ b9 st9 wl9 0 (dI 99 1) (fun _ : Int => (0 : Nat)) e2) (ibX X at_) (ibG G at_ c2) (ibM Mc at_) _ (TXP_ib hPR.2.1 ⟨h1.1, h1.2.1⟩ hlo rfl) rfl
  refine ⟨_, ?_, e2, c2, _, h6, hr, rfl, hgc, hgs⟩
  rw [hw, txC_ib]
  have hn : (T 0 0 0 0 + 1).toNat = (T 0 0 0 0).toNat + 1 := by omega
  have h7 := flat_rm (f := fun i : Nat => blC k (ibT T at_ kd) (ibA A at_ b9 st9 wl9 0 (dI 99 1) (fun _ : Int => (0 : Nat)) e2) (ibX X at_) (ibG G at_ c2) (ibM Mc at_) i) (T 0 0 0 0).toNat at_.toNat (by omega)
  have hnb : blC k (ibT T at_ kd) (ibA A at_ b9 st9 wl9 0 (dI 99 1) (fun _ : Int => (0 : Nat)) e2) (ibX X at_) (ibG G at_ c2) (ibM Mc at_) at_ = [((b9, .inr (0, [.int (iI kd), .ref st9, .ref wl9, .null])) : Nat × va_E), ((st9, .inl (k 0, 7, .inl (fun i9 : Nat => iI ((fun j9 : Int => nbV kd 2 j9 0) i9)))) : Nat × va_E), ((wl9, .inr (12, [.int (iI 0), .ref (dI 99 1), .int (iI 0)])) : Nat × va_E)] := by
    rw [blC_iba]
    rw [if_neg hkd, if_neg hkd]
    rfl
  rw [← hn, show (((at_.toNat : Nat) : Int)) = at_ by omega, hnb] at h7
  have e8 : (List.range (T 0 0 0 0).toNat).flatMap (fun j : Nat => blC k (ibT T at_ kd) (ibA A at_ b9 st9 wl9 0 (dI 99 1) (fun _ : Int => (0 : Nat)) e2) (ibX X at_) (ibG G at_ c2) (ibM Mc at_) (((if j < at_.toNat then j else j + 1 : Nat)) : Int)) = (List.range (T 0 0 0 0).toNat).flatMap (fun i : Nat => blC k T A X G Mc i) := by
    refine fm_congr _ (fun j hj => ?_)
    rw [blC_ib (by split <;> omega)]
    congr 1
    unfold ish
    split <;> split <;> omega
  have h8 := h7
  rw [e8] at h8
  have e9 : lsC k (A 51 0 0) e2 (Mc 0 0 + 1) (T 0 0 0 0 + 1) c2 (insL (fun j => A 0 j 0) at_ b9) = lsC k (A 51 0 0) e2 (Mc 0 0 + 1) (T 0 0 0 0 + 1) c2 (fun i => (ibA A at_ b9 st9 wl9 0 (dI 99 1) (fun _ : Int => (0 : Nat)) e2) 0 i 0) := by
    congr 1
    funext j
    by_cases e : j = at_
    · subst e
      rw [ibA_a (c := 0) (by omega)]
      unfold insL
      rw [if_neg (by omega), if_pos rfl]
      rfl
    · rw [ibA_s e (c := 0) (by omega)]
      unfold insL ish
      split <;> first | rfl | (rw [if_neg e])
  rw [e9]
  generalize (List.range (T 0 0 0 0 + 1).toNat).flatMap (fun i : Nat => blC k (ibT T at_ kd) (ibA A at_ b9 st9 wl9 0 (dI 99 1) (fun _ : Int => (0 : Nat)) e2) (ibX X at_) (ibG G at_ c2) (ibM Mc at_) i) = W2 at h8 ⊢
  generalize (List.range (T 0 0 0 0).toNat).flatMap (fun i : Nat => blC k T A X G Mc i) = W1 at h8 ⊢
  generalize lsC k (A 51 0 0) e2 (Mc 0 0 + 1) (T 0 0 0 0 + 1) c2 (fun i => (ibA A at_ b9 st9 wl9 0 (dI 99 1) (fun _ : Int => (0 : Nat)) e2) 0 i 0) = ls
  generalize lsC k (A 52 0 0) (A 57 0 0) (Mc 2 0) (T 18 0 0 0) (G 2 0) (fun i => A 15 i 0) = l2
  generalize [((b9, .inr (0, [.int (iI kd), .ref st9, .ref wl9, .null])) : Nat × va_E), ((st9, .inl (k 0, 7, .inl (fun i9 : Nat => iI ((fun j9 : Int => nbV kd 2 j9 0) i9)))) : Nat × va_E), ((wl9, .inr (12, [.int (iI 0), .ref (dI 99 1), .int (iI 0)])) : Nat × va_E)] = wo at h8 ⊢
  generalize gCl k A Y K = g
  generalize heC k T A = st
  generalize ptC k T A = pt
  have h9 : (ls ++ (g ++ (st ++ (l2 ++ ((wo ++ W1) ++ (pt ++ tr)))))).Perm (ls ++ (g ++ (st ++ (l2 ++ (W2 ++ (pt ++ tr)))))) := List.Perm.append_left _ (List.Perm.append_left _ (List.Perm.append_left _ (List.Perm.append_left _ (List.Perm.append_right _ h8.symm))))
  have h10 := List.perm_append_comm_assoc wo (g ++ (st ++ l2)) (W1 ++ (pt ++ tr))
  have h11 := List.perm_append_comm_assoc ls (g ++ st) (l2 ++ (W2 ++ (pt ++ tr)))
  simp only [List.append_assoc, List.nil_append] at h9 h10 h11 ⊢
  exact ((List.Perm.append_left ls h10).trans h9).trans h11

theorem k_addB3 (l : Launch) (dC : Nat → ClassId) (dI : Nat → Nat → Nat) (k : Nat → ClassId) (T : Nat → Int → Int → Int → Int) (A : Nat → Int → Int → Nat) (X : Nat → Int → Int → Int) (tl : va_W) (G : Nat → Int → Nat) (Mc : Nat → Int → Int) (Y : Nat → Int → Nat) (O : Nat → Nat) (L : Int → Nat → Int → Int) (C : Nat → Int → Int) (K : Nat → Int → Int) (cp : Nat) (at_ : Int) (kd : Int) (b9 : Nat) (st9 : Nat) (wl9 : Nat) (tb9 : Nat) (sa0 : Nat) (sa1 : Nat) (sa2 : Nat) (sa3 : Nat) (sa4 : Nat) (sa5 : Nat) (sa6 : Nat) (hPR : PR dI k T A X G Mc Y O L C K cp tl) (hK : TK T) (h1 : 0 ≤ at_ ∧ at_ ≤ T 0 0 0 0 ∧ T 0 0 0 0 < 16) (hkd : kd = 3) : Kn l dC dI k yJx4a65c_add_7a177 (.code yJx4a65c_add_7a177 cJx4a65c_add_7a177 5 none) ({ frames := 12, cells := 1, slots := 40, locals := 400 } : Room) [.ref (A 51 0 0), .int (iI at_), .ref b9] ([(b9, .inr (0, [.int (iI kd), .ref st9, .ref wl9, .ref tb9])), (st9, .inl (k 0, 7, .inl (fun i9 : Nat => iI ((fun j9 : Int => nbV kd 2 j9 0) i9)))), (wl9, .inr (12, [.int (iI 0), .ref (dI 99 1), .int (iI 0)])), (tb9, .inr (8, [.ref sa0, .ref sa1, .ref sa2, .ref sa3, .ref sa4, .ref sa5, .ref sa6])), (sa0, .inl (k 0, 12, .inl (fun i9 : Nat => iI ((fun _ : Int => (0 : Int)) i9)))), (sa1, .inl (k 0, 12, .inl (fun i9 : Nat => iI ((fun _ : Int => (0 : Int)) i9)))), (sa2, .inl (k 0, 12, .inl (fun i9 : Nat => iI ((fun _ : Int => (0 : Int)) i9)))), (sa3, .inl (k 0, 3, .inl (fun i9 : Nat => iI ((fun _ : Int => (0 : Int)) i9)))), (sa4, .inl (k 0, 3, .inl (fun i9 : Nat => iI ((fun _ : Int => (0 : Int)) i9)))), (sa5, .inl (k 0, 3, .inl (fun i9 : Nat => iI ((fun _ : Int => (0 : Int)) i9)))), (sa6, .inl (k 0, 3, .inl (fun i9 : Nat => iI ((fun _ : Int => (0 : Int)) i9))))] ++ tl) (fun r w gc gs => (∃ (e2 : Nat) (c2 : Nat) (tl2 : va_W), (PR dI k (ibT T at_ kd) (ibA A at_ b9 st9 wl9 tb9 (dI 99 1) (fun q : Int => if q = 0 then sa0 else if q = 1 then sa1 else if q = 2 then sa2 else if q = 3 then sa3 else if q = 4 then sa4 else if q = 5 then sa5 else if q = 6 then sa6 else 0) e2) (ibX X at_) (ibG G at_ c2) (ibM Mc at_) Y O L C K cp tl2) ∧ r = none ∧ w = ([] ++ tl2) ∧ gc = 1 ∧ gs = 40)) := by
  obtain ⟨tr, h2, h3⟩ := PR_gtx hPR
  have ho := hPR.2.1.1
  obtain ⟨rc, hc, hca⟩ : ∃ rc, classes[0]? = some rc ∧ (rc.1, "java/lang/Object") ∈ nCS := ⟨_, rfl, List.mem_of_getElem? (i := 1) rfl⟩
  have hz : ([((b9, .inr (0, [.int (iI kd), .ref st9, .ref wl9, .ref tb9])) : Nat × va_E), ((st9, .inl (k 0, 7, .inl (fun i9 : Nat => iI ((fun j9 : Int => nbV kd 2 j9 0) i9)))) : Nat × va_E), ((wl9, .inr (12, [.int (iI 0), .ref (dI 99 1), .int (iI 0)])) : Nat × va_E), ((tb9, .inr (8, [.ref sa0, .ref sa1, .ref sa2, .ref sa3, .ref sa4, .ref sa5, .ref sa6])) : Nat × va_E), ((sa0, .inl (k 0, 12, .inl (fun i9 : Nat => iI ((fun _ : Int => (0 : Int)) i9)))) : Nat × va_E), ((sa1, .inl (k 0, 12, .inl (fun i9 : Nat => iI ((fun _ : Int => (0 : Int)) i9)))) : Nat × va_E), ((sa2, .inl (k 0, 12, .inl (fun i9 : Nat => iI ((fun _ : Int => (0 : Int)) i9)))) : Nat × va_E), ((sa3, .inl (k 0, 3, .inl (fun i9 : Nat => iI ((fun _ : Int => (0 : Int)) i9)))) : Nat × va_E), ((sa4, .inl (k 0, 3, .inl (fun i9 : Nat => iI ((fun _ : Int => (0 : Int)) i9)))) : Nat × va_E), ((sa5, .inl (k 0, 3, .inl (fun i9 : Nat => iI ((fun _ : Int => (0 : Int)) i9)))) : Nat × va_E), ((sa6, .inl (k 0, 3, .inl (fun i9 : Nat => iI ((fun _ : Int => (0 : Int)) i9)))) : Nat × va_E)] ++ tl).Perm (lsC k (A 51 0 0) (A 56 0 0) (Mc 0 0) (T 0 0 0 0) (G 0 0) (fun i => A 0 i 0) ++ ([((b9, .inr (0, [.int (iI kd), .ref st9, .ref wl9, .ref tb9])) : Nat × va_E), ((st9, .inl (k 0, 7, .inl (fun i9 : Nat => iI ((fun j9 : Int => nbV kd 2 j9 0) i9)))) : Nat × va_E), ((wl9, .inr (12, [.int (iI 0), .ref (dI 99 1), .int (iI 0)])) : Nat × va_E), ((tb9, .inr (8, [.ref sa0, .ref sa1, .ref sa2, .ref sa3, .ref sa4, .ref sa5, .ref sa6])) : Nat × va_E), ((sa0, .inl (k 0, 12, .inl (fun i9 : Nat => iI ((fun _ : Int => (0 : Int)) i9)))) : Nat × va_E), ((sa1, .inl (k 0, 12, .inl (fun i9 : Nat => iI ((fun _ : Int => (0 : Int)) i9)))) : Nat × va_E), ((sa2, .inl (k 0, 12, .inl (fun i9 : Nat => iI ((fun _ : Int => (0 : Int)) i9)))) : Nat × va_E), ((sa3, .inl (k 0, 3, .inl (fun i9 : Nat => iI ((fun _ : Int => (0 : Int)) i9)))) : Nat × va_E), ((sa4, .inl (k 0, 3, .inl (fun i9 : Nat => iI ((fun _ : Int => (0 : Int)) i9)))) : Nat × va_E), ((sa5, .inl (k 0, 3, .inl (fun i9 : Nat => iI ((fun _ : Int => (0 : Int)) i9)))) : Nat × va_E), ((sa6, .inl (k 0, 3, .inl (fun i9 : Nat => iI ((fun _ : Int => (0 : Int)) i9)))) : Nat × va_E)] ++ (gCl k A Y K ++ (heC k T A ++ (lsC k (A 52 0 0) (A 57 0 0) (Mc 2 0) (T 18 0 0 0) (G 2 0) (fun i => A 15 i 0) ++ ((List.range (T 0 0 0 0).toNat).flatMap (fun i : Nat => blC k T A X G Mc i) ++ (ptC k T A ++ tr))))))) := by
    refine (List.Perm.append_left _ h2).trans ?_
    rw [txC_split]
    generalize [((b9, .inr (0, [.int (iI kd), .ref st9, .ref wl9, .ref tb9])) : Nat × va_E), ((st9, .inl (k 0, 7, .inl (fun i9 : Nat => iI ((fun j9 : Int => nbV kd 2 j9 0) i9)))) : Nat × va_E), ((wl9, .inr (12, [.int (iI 0), .ref (dI 99 1), .int (iI 0)])) : Nat × va_E), ((tb9, .inr (8, [.ref sa0, .ref sa1, .ref sa2, .ref sa3, .ref sa4, .ref sa5, .ref sa6])) : Nat × va_E), ((sa0, .inl (k 0, 12, .inl (fun i9 : Nat => iI ((fun _ : Int => (0 : Int)) i9)))) : Nat × va_E), ((sa1, .inl (k 0, 12, .inl (fun i9 : Nat => iI ((fun _ : Int => (0 : Int)) i9)))) : Nat × va_E), ((sa2, .inl (k 0, 12, .inl (fun i9 : Nat => iI ((fun _ : Int => (0 : Int)) i9)))) : Nat × va_E), ((sa3, .inl (k 0, 3, .inl (fun i9 : Nat => iI ((fun _ : Int => (0 : Int)) i9)))) : Nat × va_E), ((sa4, .inl (k 0, 3, .inl (fun i9 : Nat => iI ((fun _ : Int => (0 : Int)) i9)))) : Nat × va_E), ((sa5, .inl (k 0, 3, .inl (fun i9 : Nat => iI ((fun _ : Int => (0 : Int)) i9)))) : Nat × va_E), ((sa6, .inl (k 0, 3, .inl (fun i9 : Nat => iI ((fun _ : Int => (0 : Int)) i9)))) : Nat × va_E)] = wo
    have h5 := List.perm_append_comm_assoc (wo ++ (gCl k A Y K ++ heC k T A)) (lsC k (A 51 0 0) (A 56 0 0) (Mc 0 0) (T 0 0 0 0) (G 0 0) (fun i => A 0 i 0)) (lsC k (A 52 0 0) (A 57 0 0) (Mc 2 0) (T 18 0 0 0) (G 2 0) (fun i => A 15 i 0) ++ ((List.range (T 0 0 0 0).toNat).flatMap (fun i : Nat => blC k T A X G Mc i) ++ (ptC k T A ++ tr)))
    simpa only [List.append_assoc] using h5
  have hel : ∀ j : Int, 0 ≤ j → j < T 0 0 0 0 → ∃ fs : List Value, ((A 0 j 0, .inr (0, fs)) : Nat × va_E) ∈ [((b9, .inr (0, [.int (iI kd), .ref st9, .ref wl9, .ref tb9])) : Nat × va_E), ((st9, .inl (k 0, 7, .inl (fun i9 : Nat => iI ((fun j9 : Int => nbV kd 2 j9 0) i9)))) : Nat × va_E), ((wl9, .inr (12, [.int (iI 0), .ref (dI 99 1), .int (iI 0)])) : Nat × va_E), ((tb9, .inr (8, [.ref sa0, .ref sa1, .ref sa2, .ref sa3, .ref sa4, .ref sa5, .ref sa6])) : Nat × va_E), ((sa0, .inl (k 0, 12, .inl (fun i9 : Nat => iI ((fun _ : Int => (0 : Int)) i9)))) : Nat × va_E), ((sa1, .inl (k 0, 12, .inl (fun i9 : Nat => iI ((fun _ : Int => (0 : Int)) i9)))) : Nat × va_E), ((sa2, .inl (k 0, 12, .inl (fun i9 : Nat => iI ((fun _ : Int => (0 : Int)) i9)))) : Nat × va_E), ((sa3, .inl (k 0, 3, .inl (fun i9 : Nat => iI ((fun _ : Int => (0 : Int)) i9)))) : Nat × va_E), ((sa4, .inl (k 0, 3, .inl (fun i9 : Nat => iI ((fun _ : Int => (0 : Int)) i9)))) : Nat × va_E), ((sa5, .inl (k 0, 3, .inl (fun i9 : Nat => iI ((fun _ : Int => (0 : Int)) i9)))) : Nat × va_E), ((sa6, .inl (k 0, 3, .inl (fun i9 : Nat => iI ((fun _ : Int => (0 : Int)) i9)))) : Nat × va_E)] ++ (gCl k A Y K ++ (heC k T A ++ (lsC k (A 52 0 0) (A 57 0 0) (Mc 2 0) (T 18 0 0 0) (G 2 0) (fun i => A 15 i 0) ++ ((List.range (T 0 0 0 0).toNat).flatMap (fun i : Nat => blC k T A X G Mc i) ++ (ptC k T A ++ tr))))) := by
    intro j g1 g2
    refine ⟨_, List.mem_append_right _ (List.mem_append_right _ (List.mem_append_right _ (List.mem_append_right _ (List.mem_append_left _ (mem_rg g1 g2 (e := (((A 0 j 0), .inr (0, [.int (iI (T 1 j 0 0)), .ref (A 1 j 0), .ref (A 2 j 0), va_rf (if T 1 j 0 0 = 3 then some (A 7 j 0) else none)])) : Nat × va_E)) ?_)))))⟩
    rw [show ((j.toNat : Nat) : Int) = j by omega]
    exact List.mem_append_left _ (List.mem_append_left _ List.mem_cons_self)
  have K0 := k_lsAdd l dC dI k (A 51 0 0) (A 56 0 0) (G 0 0) (Mc 0 0) (T 0 0 0 0) (fun j => A 0 j 0) 0 rc ([((b9, .inr (0, [.int (iI kd), .ref st9, .ref wl9, .ref tb9])) : Nat × va_E), ((st9, .inl (k 0, 7, .inl (fun i9 : Nat => iI ((fun j9 : Int => nbV kd 2 j9 0) i9)))) : Nat × va_E), ((wl9, .inr (12, [.int (iI 0), .ref (dI 99 1), .int (iI 0)])) : Nat × va_E), ((tb9, .inr (8, [.ref sa0, .ref sa1, .ref sa2, .ref sa3, .ref sa4, .ref sa5, .ref sa6])) : Nat × va_E), ((sa0, .inl (k 0, 12, .inl (fun i9 : Nat => iI ((fun _ : Int => (0 : Int)) i9)))) : Nat × va_E), ((sa1, .inl (k 0, 12, .inl (fun i9 : Nat => iI ((fun _ : Int => (0 : Int)) i9)))) : Nat × va_E), ((sa2, .inl (k 0, 12, .inl (fun i9 : Nat => iI ((fun _ : Int => (0 : Int)) i9)))) : Nat × va_E), ((sa3, .inl (k 0, 3, .inl (fun i9 : Nat => iI ((fun _ : Int => (0 : Int)) i9)))) : Nat × va_E), ((sa4, .inl (k 0, 3, .inl (fun i9 : Nat => iI ((fun _ : Int => (0 : Int)) i9)))) : Nat × va_E), ((sa5, .inl (k 0, 3, .inl (fun i9 : Nat => iI ((fun _ : Int => (0 : Int)) i9)))) : Nat × va_E), ((sa6, .inl (k 0, 3, .inl (fun i9 : Nat => iI ((fun _ : Int => (0 : Int)) i9)))) : Nat × va_E)] ++ tl) _ b9 _ at_ hc hca hz ho hel List.mem_cons_self ⟨h1.1, h1.2.1, h1.2.2⟩
  refine kn_post K0 ?_
  rintro r w gc gs ⟨e2, c2, hlo, hr, hw, hgc, hgs⟩
  have h6 := h3 K (ibT T at_ kd) (ibA A at_ b9 st9 wl9 tb9 (dI 99 1) (fun q : Int => if q = 0 then sa0 else if q = 1 then sa1 else if q = 2 then sa2 else if q = 3 then sa3 else if q = 4 then sa4 else if q = 5 then sa5 else if q = 6 then sa6 else 0) e2) (ibX X at_) (ibG G at_ c2) (ibM Mc at_) _ (TXP_ib hPR.2.1 ⟨h1.1, h1.2.1⟩ hlo rfl) rfl
  refine ⟨_, ?_, e2, c2, _, h6, hr, rfl, hgc, hgs⟩
  rw [hw, txC_ib]
  have hn : (T 0 0 0 0 + 1).toNat = (T 0 0 0 0).toNat + 1 := by omega
  have h7 := flat_rm (f := fun i : Nat => blC k (ibT T at_ kd) (ibA A at_ b9 st9 wl9 tb9 (dI 99 1) (fun q : Int => if q = 0 then sa0 else if q = 1 then sa1 else if q = 2 then sa2 else if q = 3 then sa3 else if q = 4 then sa4 else if q = 5 then sa5 else if q = 6 then sa6 else 0) e2) (ibX X at_) (ibG G at_ c2) (ibM Mc at_) i) (T 0 0 0 0).toNat at_.toNat (by omega)
  have hnb : blC k (ibT T at_ kd) (ibA A at_ b9 st9 wl9 tb9 (dI 99 1) (fun q : Int => if q = 0 then sa0 else if q = 1 then sa1 else if q = 2 then sa2 else if q = 3 then sa3 else if q = 4 then sa4 else if q = 5 then sa5 else if q = 6 then sa6 else 0) e2) (ibX X at_) (ibG G at_ c2) (ibM Mc at_) at_ = [((b9, .inr (0, [.int (iI kd), .ref st9, .ref wl9, .ref tb9])) : Nat × va_E), ((st9, .inl (k 0, 7, .inl (fun i9 : Nat => iI ((fun j9 : Int => nbV kd 2 j9 0) i9)))) : Nat × va_E), ((wl9, .inr (12, [.int (iI 0), .ref (dI 99 1), .int (iI 0)])) : Nat × va_E), ((tb9, .inr (8, [.ref sa0, .ref sa1, .ref sa2, .ref sa3, .ref sa4, .ref sa5, .ref sa6])) : Nat × va_E), ((sa0, .inl (k 0, 12, .inl (fun i9 : Nat => iI ((fun _ : Int => (0 : Int)) i9)))) : Nat × va_E), ((sa1, .inl (k 0, 12, .inl (fun i9 : Nat => iI ((fun _ : Int => (0 : Int)) i9)))) : Nat × va_E), ((sa2, .inl (k 0, 12, .inl (fun i9 : Nat => iI ((fun _ : Int => (0 : Int)) i9)))) : Nat × va_E), ((sa3, .inl (k 0, 3, .inl (fun i9 : Nat => iI ((fun _ : Int => (0 : Int)) i9)))) : Nat × va_E), ((sa4, .inl (k 0, 3, .inl (fun i9 : Nat => iI ((fun _ : Int => (0 : Int)) i9)))) : Nat × va_E), ((sa5, .inl (k 0, 3, .inl (fun i9 : Nat => iI ((fun _ : Int => (0 : Int)) i9)))) : Nat × va_E), ((sa6, .inl (k 0, 3, .inl (fun i9 : Nat => iI ((fun _ : Int => (0 : Int)) i9)))) : Nat × va_E)] := by
    rw [blC_iba]
    rw [if_pos hkd, if_pos hkd]
    rfl
  rw [← hn, show (((at_.toNat : Nat) : Int)) = at_ by omega, hnb] at h7
  have e8 : (List.range (T 0 0 0 0).toNat).flatMap (fun j : Nat => blC k (ibT T at_ kd) (ibA A at_ b9 st9 wl9 tb9 (dI 99 1) (fun q : Int => if q = 0 then sa0 else if q = 1 then sa1 else if q = 2 then sa2 else if q = 3 then sa3 else if q = 4 then sa4 else if q = 5 then sa5 else if q = 6 then sa6 else 0) e2) (ibX X at_) (ibG G at_ c2) (ibM Mc at_) (((if j < at_.toNat then j else j + 1 : Nat)) : Int)) = (List.range (T 0 0 0 0).toNat).flatMap (fun i : Nat => blC k T A X G Mc i) := by
    refine fm_congr _ (fun j hj => ?_)
    rw [blC_ib (by split <;> omega)]
    congr 1
    unfold ish
    split <;> split <;> omega
  have h8 := h7
  rw [e8] at h8
  have e9 : lsC k (A 51 0 0) e2 (Mc 0 0 + 1) (T 0 0 0 0 + 1) c2 (insL (fun j => A 0 j 0) at_ b9) = lsC k (A 51 0 0) e2 (Mc 0 0 + 1) (T 0 0 0 0 + 1) c2 (fun i => (ibA A at_ b9 st9 wl9 tb9 (dI 99 1) (fun q : Int => if q = 0 then sa0 else if q = 1 then sa1 else if q = 2 then sa2 else if q = 3 then sa3 else if q = 4 then sa4 else if q = 5 then sa5 else if q = 6 then sa6 else 0) e2) 0 i 0) := by
    congr 1
    funext j
    by_cases e : j = at_
    · subst e
      rw [ibA_a (c := 0) (by omega)]
      unfold insL
      rw [if_neg (by omega), if_pos rfl]
      rfl
    · rw [ibA_s e (c := 0) (by omega)]
      unfold insL ish
      split <;> first | rfl | (rw [if_neg e])
  rw [e9]
  generalize (List.range (T 0 0 0 0 + 1).toNat).flatMap (fun i : Nat => blC k (ibT T at_ kd) (ibA A at_ b9 st9 wl9 tb9 (dI 99 1) (fun q : Int => if q = 0 then sa0 else if q = 1 then sa1 else if q = 2 then sa2 else if q = 3 then sa3 else if q = 4 then sa4 else if q = 5 then sa5 else if q = 6 then sa6 else 0) e2) (ibX X at_) (ibG G at_ c2) (ibM Mc at_) i) = W2 at h8 ⊢
  generalize (List.range (T 0 0 0 0).toNat).flatMap (fun i : Nat => blC k T A X G Mc i) = W1 at h8 ⊢
  generalize lsC k (A 51 0 0) e2 (Mc 0 0 + 1) (T 0 0 0 0 + 1) c2 (fun i => (ibA A at_ b9 st9 wl9 tb9 (dI 99 1) (fun q : Int => if q = 0 then sa0 else if q = 1 then sa1 else if q = 2 then sa2 else if q = 3 then sa3 else if q = 4 then sa4 else if q = 5 then sa5 else if q = 6 then sa6 else 0) e2) 0 i 0) = ls
  generalize lsC k (A 52 0 0) (A 57 0 0) (Mc 2 0) (T 18 0 0 0) (G 2 0) (fun i => A 15 i 0) = l2
  generalize [((b9, .inr (0, [.int (iI kd), .ref st9, .ref wl9, .ref tb9])) : Nat × va_E), ((st9, .inl (k 0, 7, .inl (fun i9 : Nat => iI ((fun j9 : Int => nbV kd 2 j9 0) i9)))) : Nat × va_E), ((wl9, .inr (12, [.int (iI 0), .ref (dI 99 1), .int (iI 0)])) : Nat × va_E), ((tb9, .inr (8, [.ref sa0, .ref sa1, .ref sa2, .ref sa3, .ref sa4, .ref sa5, .ref sa6])) : Nat × va_E), ((sa0, .inl (k 0, 12, .inl (fun i9 : Nat => iI ((fun _ : Int => (0 : Int)) i9)))) : Nat × va_E), ((sa1, .inl (k 0, 12, .inl (fun i9 : Nat => iI ((fun _ : Int => (0 : Int)) i9)))) : Nat × va_E), ((sa2, .inl (k 0, 12, .inl (fun i9 : Nat => iI ((fun _ : Int => (0 : Int)) i9)))) : Nat × va_E), ((sa3, .inl (k 0, 3, .inl (fun i9 : Nat => iI ((fun _ : Int => (0 : Int)) i9)))) : Nat × va_E), ((sa4, .inl (k 0, 3, .inl (fun i9 : Nat => iI ((fun _ : Int => (0 : Int)) i9)))) : Nat × va_E), ((sa5, .inl (k 0, 3, .inl (fun i9 : Nat => iI ((fun _ : Int => (0 : Int)) i9)))) : Nat × va_E), ((sa6, .inl (k 0, 3, .inl (fun i9 : Nat => iI ((fun _ : Int => (0 : Int)) i9)))) : Nat × va_E)] = wo at h8 ⊢
  generalize gCl k A Y K = g
  generalize heC k T A = st
  generalize ptC k T A = pt
  have h9 : (ls ++ (g ++ (st ++ (l2 ++ ((wo ++ W1) ++ (pt ++ tr)))))).Perm (ls ++ (g ++ (st ++ (l2 ++ (W2 ++ (pt ++ tr)))))) := List.Perm.append_left _ (List.Perm.append_left _ (List.Perm.append_left _ (List.Perm.append_left _ (List.Perm.append_right _ h8.symm))))
  have h10 := List.perm_append_comm_assoc wo (g ++ (st ++ l2)) (W1 ++ (pt ++ tr))
  have h11 := List.perm_append_comm_assoc ls (g ++ st) (l2 ++ (W2 ++ (pt ++ tr)))
  simp only [List.append_assoc, List.nil_append] at h9 h10 h11 ⊢
  exact ((List.Perm.append_left ls h10).trans h9).trans h11

end
