section
theorem k_addBN (l : Launch) (dC : Nat → ClassId) (dI : Nat → Nat → Nat) (k : Nat → ClassId) (T : Nat → Int → Int → Int → Int) (A : Nat → Int → Int → Nat) (X : Nat → Int → Int → Int) (tl : va_W) (G : Nat → Int → Nat) (Mc : Nat → Int → Int) (Y : Nat → Int → Nat) (O : Nat → Nat) (L : Int → Nat → Int → Int) (C : Nat → Int → Int) (K : Nat → Int → Int) (cp : Nat) (at_ : Int) (kd : Int) (b9 : Nat) (st9 : Nat) (wl9 : Nat) (hPR : PR dI k T A X G Mc Y O L C K cp tl) (hK : TK T) (h1 : 0 ≤ at_ ∧ at_ ≤ T 0 0 0 0 ∧ T 0 0 0 0 < 16) (hkd : ¬ kd = 3) : Kn l dC dI k yJx4a65c_add_7a177 (.code yJx4a65c_add_7a177 cJx4a65c_add_7a177 5 none) ({ frames := 12, cells := 1, slots := 40, locals := 400 } : Room) [.ref (A 51 0 0), .int (iI at_), .ref b9] ([(b9, .inr (0, [.int (iI kd), .ref st9, .ref wl9, .null])), (st9, .inl (k 0, 7, .inl (fun i9 : Nat => iI ((fun j9 : Int => nbV kd 2 j9 0) i9)))), (wl9, .inr (12, [.int (iI 0), .ref (dI 99 1), .int (iI 0)]))] ++ tl) (fun r w gc gs => (∃ (e2 : Nat) (c2 : Nat) (tl2 : va_W), (PR dI k (ibT T at_ kd) (ibA A at_ b9 st9 wl9 0 (dI 99 1) (fun _ : Int => (0 : Nat)) e2) (ibX X at_) (ibG G at_ c2) (ibM Mc at_) Y O L C K cp tl2) ∧ r = none ∧ w = ([] ++ tl2) ∧ gc = 1 ∧ gs = 40)) := by
  obtain ⟨tr, h2, h3⟩ := PR_gtx hPR
  have ho := hPR.2.1.1
  obtain ⟨rc, hc, hca⟩ : ∃ rc, classes[0]? = some rc ∧ (rc.1, "java/lang/Object") ∈ nCS := ⟨_, rfl, List.mem_of_getElem? (i := 1) rfl⟩
  have hz : ([((b9, .inr (0, [.int (iI kd), .ref st9, .ref wl9, .null])) : Nat × va_E), ((st9, .inl (k 0, 7, .inl (fun i9 : Nat => iI ((fun j9 : Int => nbV kd 2 j9 0) i9)))) : Nat × va_E), ((wl9, .inr (12, [.int (iI 0), .ref (dI 99 1), .int (iI 0)])) : Nat × va_E)] ++ tl).Perm (lsC k (A 51 0 0) (A 56 0 0) (Mc 0 0) (T 0 0 0 0) (G 0 0) (fun i => A 0 i 0) ++ ([((b9, .inr (0, [.int (iI kd), .ref st9, .ref wl9, .null])) : Nat × va_E), ((st9, .inl (k 0, 7, .inl (fun i9 : Nat => iI ((fun j9 : Int => nbV kd 2 j9 0) i9)))) : Nat × va_E), ((wl9, .inr (12, [.int (iI 0), .ref (dI 99 1), .int (iI 0)])) : Nat × va_E)] ++ (gCl k A Y K ++ (heC k T A ++ (lsC k (A 52 0 0) (A 57 0 0) (Mc 2 0) (T 18 0 0 0) (G 2 0) (fun i => A 15 i 0) ++ ((List.range (T 0 0 0 0).toNat).flatMap (fun i : Nat => blC k T A X G Mc i) ++ (ptC k T A ++ tr))))))) := by
    refine (List.Perm.append_left _ h2).trans ?_
    rw [txC_split]
    generalize [((b9, .inr (0, [.int (iI kd), .ref st9, .ref wl9, .null])) : Nat × va_E), ((st9, .inl (k 0, 7, .inl (fun i9 : Nat => iI ((fun j9 : Int => nbV kd 2 j9 0) i9)))) : Nat × va_E), ((wl9, .inr (12, [.int (iI 0), .ref (dI 99 1), .int (iI 0)])) : Nat × va_E)] = wo
    have h5 := List.perm_append_comm_assoc (wo ++ (gCl k A Y K ++ heC k T A)) (lsC k (A 51 0 0) (A 56 0 0) (Mc 0 0) (T 0 0 0 0) (G 0 0) (fun i => A 0 i 0)) (lsC k (A 52 0 0) (A 57 0 0) (Mc 2 0) (T 18 0 0 0) (G 2 0) (fun i => A 15 i 0) ++ ((List.range (T 0 0 0 0).toNat).flatMap (fun i : Nat => blC k T A X G Mc i) ++ (ptC k T A ++ tr)))
    simpa only [List.append_assoc] using h5
  have hel : ∀ j : Int, 0 ≤ j → j < T 0 0 0 0 → ∃ fs : List Value, ((A 0 j 0, .inr (0, fs)) : Nat × va_E) ∈ [((b9, .inr (0, [.int (iI kd), .ref st9, .ref wl9, .null])) : Nat × va_E), ((st9, .inl (k 0, 7, .inl (fun i9 : Nat => iI ((fun j9 : Int => nbV kd 2 j9 0) i9)))) : Nat × va_E), ((wl9, .inr (12, [.int (iI 0), .ref (dI 99 1), .int (iI 0)])) : Nat × va_E)] ++ (gCl k A Y K ++ (heC k T A ++ (lsC k (A 52 0 0) (A 57 0 0) (Mc 2 0) (T 18 0 0 0) (G 2 0) (fun i => A 15 i 0) ++ ((List.range (T 0 0 0 0).toNat).flatMap (fun i : Nat => blC k T A X G Mc i) ++ (ptC k T A ++ tr))))) := by
    intro j g1 g2
    refine ⟨_, List.mem_append_right _ (List.mem_append_right _ (List.mem_append_right _ (List.mem_append_right _ (List.mem_append_left _ (mem_rg g1 g2 (e := (((A 0 j 0), .inr (0, [.int (iI (T 1 j 0 0)), .ref (A 1 j 0), .ref (A 2 j 0), va_rf (if T 1 j 0 0 = 3 then some (A 7 j 0) else none)])) : Nat × va_E)) ?_)))))⟩
    rw [show ((j.toNat : Nat) : Int) = j by omega]
    exact List.mem_append_left _ (List.mem_append_left _ List.mem_cons_self)
  have K0 := k_lsAdd l dC dI k (A 51 0 0) (A 56 0 0) (G 0 0) (Mc 0 0) (T 0 0 0 0) (fun j => A 0 j 0) 0 rc ([((b9, .inr (0, [.int (iI kd), .ref st9, .ref wl9, .null])) : Nat × va_E), ((st9, .inl (k 0, 7, .inl (fun i9 : Nat => iI ((fun j9 : Int => nbV kd 2 j9 0) i9)))) : Nat × va_E), ((wl9, .inr (12, [.int (iI 0), .ref (dI 99 1), .int (iI 0)])) : Nat × va_E)] ++ tl) _ b9 _ at_ hc hca hz ho hel List.mem_cons_self ⟨h1.1, h1.2.1, h1.2.2⟩
  refine kn_post K0 ?_
  rintro r w gc gs ⟨e2, c2, hlo, hr, hw, hgc, hgs⟩
  have h6 := h3 K (ibT T at_ kd) (ibA A at_ b9 st9 wl9 0 (dI 99 1) (fun _ : Int => (0 : Nat)) e2) (ibX X at_) (ibG G at_ c2) (ibM Mc at_) _ (TXP_ib hPR.2.1 ⟨h1.1, h1.2.1⟩ hlo rfl) rfl
  refine ⟨_, ?_, e2, c2, _, h6, hr, rfl, hgc, hgs⟩
  rw [hw, txC_ib]
  have hn : (T 0 0 0 0 + 1).toNat = (T 0 0 0 0).toNat + 1 := by omega
  have h7 := flat_rm (f := fun i : Nat => blC k (ibT T at_ kd) (ibA A at_ b9 st9 wl9 0 (dI 99 1) (fun _ : Int => (0 : Nat)) e2) (ibX X at_) (ibG G at_ c2) (ibM Mc at_) i) (T 0 0 0 0).toNat at_.toNat (by omega)
  have hnb : blC k (ibT T at_ kd) (ibA A at_ b9 st9 wl9 0 (dI 99 1) (fun _ : Int => (0 : Nat)) e2) (ibX X at_) (ibG G at_ c2) (ibM Mc at_) at_ = [((b9, .inr (0, [.int (iI kd), .ref st9, .ref wl9, .null])) : Nat × va_E), ((st9, .inl (k 0, 7, .inl (fun i9 : Nat => iI ((fun j9 : Int => nbV kd 2 j9 0) i9)))) : Nat × va_E), ((wl9, .inr (12, [.int (iI 0), .ref (dI 99 1), .int (iI 0)])) : Nat × va_E)] := by
    rw [blC_iba]
    rw [if_neg hkd, if_neg hkd]
    rfl
  rw [← hn, show (((at_.toNat : Nat) : Int)) = at_ by omega, hnb] at h7
  have e8 : (List.range (T 0 0 0 0).toNat).flatMap (fun j : Nat => blC k (ibT T at_ kd) (ibA A at_ b9 st9 wl9 0 (dI 99 1) (fun _ : Int => (0 : Nat)) e2) (ibX X at_) (ibG G at_ c2) (ibM Mc at_) (((if j < at_.toNat then j else j + 1 : Nat)) : Int)) = (List.range (T 0 0 0 0).toNat).flatMap (fun i : Nat => blC k T A X G Mc i) := by
    refine fm_congr _ (fun j hj => ?_)
    rw [blC_ib (by split <;> omega)]
    congr 1
    unfold ish
    split <;> split <;> omega
  have h8 := h7
  rw [e8] at h8
  have e9 : lsC k (A 51 0 0) e2 (Mc 0 0 + 1) (T 0 0 0 0 + 1) c2 (insL (fun j => A 0 j 0) at_ b9) = lsC k (A 51 0 0) e2 (Mc 0 0 + 1) (T 0 0 0 0 + 1) c2 (fun i => (ibA A at_ b9 st9 wl9 0 (dI 99 1) (fun _ : Int => (0 : Nat)) e2) 0 i 0) := by
    congr 1
    funext j
    by_cases e : j = at_
    · subst e
      rw [ibA_a (c := 0) (by omega)]
      unfold insL
      rw [if_neg (by omega), if_pos rfl]
      rfl
    · rw [ibA_s e (c := 0) (by omega)]
      unfold insL ish
      split <;> first | rfl | (rw [if_neg e])
  rw [e9]
  generalize (List.range (T 0 0 0 0 + 1).toNat).flatMap (fun i : Nat => blC k (ibT T at_ kd) (ibA A at_ b9 st9 wl9 0 (dI 99 1) (fun _ : Int => (0 : Nat)) e2) (ibX X at_) (ibG G at_ c2) (ibM Mc at_) i) = W2 at h8 ⊢
  generalize (List.range (T 0 0 0 0).toNat).flatMap (fun i : Nat => blC k T A X G Mc i) = W1 at h8 ⊢
  generalize lsC k (A 51 0 0) e2 (Mc 0 0 + 1) (T 0 0 0 0 + 1) c2 (fun i => (ibA A at_ b9 st9 wl9 0 (dI 99 1) (fun _ : Int => (0 : Nat)) e2) 0 i 0) = ls
  generalize lsC k (A 52 0 0) (A 57 0 0) (Mc 2 0) (T 18 0 0 0) (G 2 0) (fun i => A 15 i 0) = l2
  generalize [((b9, .inr (0, [.int (iI kd), .ref st9, .ref wl9, .null])) : Nat × va_E), ((st9, .inl (k 0, 7, .inl (fun i9 : Nat => iI ((fun j9 : Int => nbV kd 2 j9 0) i9)))) : Nat × va_E), ((wl9, .inr (12, [.int (iI 0), .ref (dI 99 1), .int (iI 0)])) : Nat × va_E)] = wo at h8 ⊢
  generalize gCl k A Y K = g
  generalize heC k T A = st
  generalize ptC k T A = pt
  have h9 : (ls ++ (g ++ (st ++ (l2 ++ ((wo ++ W1) ++ (pt ++ tr)))))).Perm (ls ++ (g ++ (st ++ (l2 ++ (W2 ++ (pt ++ tr)))))) := List.Perm.append_left _ (List.Perm.append_left _ (List.Perm.append_left _ (List.Perm.append_left _ (List.Perm.append_right _ h8.symm))))
  have h10 := List.perm_append_comm_assoc wo (g ++ (st ++ l2)) (W1 ++ (pt ++ tr))
  have h11 := List.perm_append_comm_assoc ls (g ++ st) (l2 ++ (W2 ++ (pt ++ tr)))
  simp only [List.append_assoc, List.nil_append] at h9 h10 h11 ⊢
  exact ((List.Perm.append_left ls h10).trans h9).trans h11

theorem k_addB3 (l : Launch) (dC : Nat → ClassId) (dI : Nat → Nat → Nat) (k : Nat → ClassId) (T : Nat → Int → Int → Int → Int) (A : Nat → Int → Int → Nat) (X : Nat → Int → Int → Int) (tl : va_W) (G : Nat → Int → Nat) (Mc : Nat → Int → Int) (Y : Nat → Int → Nat) (O : Nat → Nat) (L : Int → Nat → Int → Int) (C : Nat → Int → Int) (K : Nat → Int → Int) (cp : Nat) (at_ : Int) (kd : Int) (b9 : Nat) (st9 : Nat) (wl9 : Nat) (tb9 : Nat) (sa0 : Nat) (sa1 : Nat) (sa2 : Nat) (sa3 : Nat) (sa4 : Nat) (sa5 : Nat) (sa6 : Nat) (hPR : PR dI k T A X G Mc Y O L C K cp tl) (hK : TK T) (h1 : 0 ≤ at_ ∧ at_ ≤ T 0 0 0 0 ∧ T 0 0 0 0 < 16) (hkd : kd = 3) : Kn l dC dI k yJx4a65c_add_7a177 (.code yJx4a65c_add_7a177 cJx4a65c_add_7a177 5 none) ({ frames := 12, cells := 1, slots := 40, locals := 400 } : Room) [.ref (A 51 0 0), .int (iI at_), .ref b9] ([(b9, .inr (0, [.int (iI kd), .ref st9, .ref wl9, .ref tb9])), (st9, .inl (k 0, 7, .inl (fun i9 : Nat => iI ((fun j9 : Int => nbV kd 2 j9 0) i9)))), (wl9, .inr (12, [.int (iI 0), .ref (dI 99 1), .int (iI 0)])), (tb9, .inr (8, [.ref sa0, .ref sa1, .ref sa2, .ref sa3, .ref sa4, .ref sa5, .ref sa6])), (sa0, .inl (k 0, 12, .inl (fun i9 : Nat => iI ((fun _ : Int => (0 : Int)) i9)))), (sa1, .inl (k 0, 12, .inl (fun i9 : Nat => iI ((fun _ : Int => (0 : Int)) i9)))), (sa2, .inl (k 0, 12, .inl (fun i9 : Nat => iI ((fun _ : Int => (0 : Int)) i9)))), (sa3, .inl (k 0, 3, .inl (fun i9 : Nat => iI ((fun _ : Int => (0 : Int)) i9)))), (sa4, .inl (k 0, 3, .inl (fun i9 : Nat => iI ((fun _ : Int => (0 : Int)) i9)))), (sa5, .inl (k 0, 3, .inl (fun i9 : Nat => iI ((fun _ : Int => (0 : Int)) i9)))), (sa6, .inl (k 0, 3, .inl (fun i9 : Nat => iI ((fun _ : Int => (0 : Int)) i9))))] ++ tl) (fun r w gc gs => (∃ (e2 : Nat) (c2 : Nat) (tl2 : va_W), (PR dI k (ibT T at_ kd) (ibA A at_ b9 st9 wl9 tb9 (dI 99 1) (fun q : Int => if q = 0 then sa0 else if q = 1 then sa1 else if q = 2 then sa2 else if q = 3 then sa3 else if q = 4 then sa4 else if q = 5 then sa5 else if q = 6 then sa6 else 0) e2) (ibX X at_) (ibG G at_ c2) (ibM Mc at_) Y O L C K cp tl2) ∧ r = none ∧ w = ([] ++ tl2) ∧ gc = 1 ∧ gs = 40)) := by
  obtain ⟨tr, h2, h3⟩ := PR_gtx hPR
  have ho := hPR.2.1.1
  obtain ⟨rc, hc, hca⟩ : ∃ rc, classes[0]? = some rc ∧ (rc.1, "java/lang/Object") ∈ nCS := ⟨_, rfl, List.mem_of_getElem? (i := 1) rfl⟩
  have hz : ([((b9, .inr (0, [.int (iI kd), .ref st9, .ref wl9, .ref tb9])) : Nat × va_E), ((st9, .inl (k 0, 7, .inl (fun i9 : Nat => iI ((fun j9 : Int => nbV kd 2 j9 0) i9)))) : Nat × va_E), ((wl9, .inr (12, [.int (iI 0), .ref (dI 99 1), .int (iI 0)])) : Nat × va_E), ((tb9, .inr (8, [.ref sa0, .ref sa1, .ref sa2, .ref sa3, .ref sa4, .ref sa5, .ref sa6])) : Nat × va_E), ((sa0, .inl (k 0, 12, .inl (fun i9 : Nat => iI ((fun _ : Int => (0 : Int)) i9)))) : Nat × va_E), ((sa1, .inl (k 0, 12, .inl (fun i9 : Nat => iI ((fun _ : Int => (0 : Int)) i9)))) : Nat × va_E), ((sa2, .inl (k 0, 12, .inl (fun i9 : Nat => iI ((fun _ : Int => (0 : Int)) i9)))) : Nat × va_E), ((sa3, .inl (k 0, 3, .inl (fun i9 : Nat => iI ((fun _ : Int => (0 : Int)) i9)))) : Nat × va_E), ((sa4, .inl (k 0, 3, .inl (fun i9 : Nat => iI ((fun _ : Int => (0 : Int)) i9)))) : Nat × va_E), ((sa5, .inl (k 0, 3, .inl (fun i9 : Nat => iI ((fun _ : Int => (0 : Int)) i9)))) : Nat × va_E), ((sa6, .inl (k 0, 3, .inl (fun i9 : Nat => iI ((fun _ : Int => (0 : Int)) i9)))) : Nat × va_E)] ++ tl).Perm (lsC k (A 51 0 0) (A 56 0 0) (Mc 0 0) (T 0 0 0 0) (G 0 0) (fun i => A 0 i 0) ++ ([((b9, .inr (0, [.int (iI kd), .ref st9, .ref wl9, .ref tb9])) : Nat × va_E), ((st9, .inl (k 0, 7, .inl (fun i9 : Nat => iI ((fun j9 : Int => nbV kd 2 j9 0) i9)))) : Nat × va_E), ((wl9, .inr (12, [.int (iI 0), .ref (dI 99 1), .int (iI 0)])) : Nat × va_E), ((tb9, .inr (8, [.ref sa0, .ref sa1, .ref sa2, .ref sa3, .ref sa4, .ref sa5, .ref sa6])) : Nat × va_E), ((sa0, .inl (k 0, 12, .inl (fun i9 : Nat => iI ((fun _ : Int => (0 : Int)) i9)))) : Nat × va_E), ((sa1, .inl (k 0, 12, .inl (fun i9 : Nat => iI ((fun _ : Int => (0 : Int)) i9)))) : Nat × va_E), ((sa2, .inl (k 0, 12, .inl (fun i9 : Nat => iI ((fun _ : Int => (0 : Int)) i9)))) : Nat × va_E), ((sa3, .inl (k 0, 3, .inl (fun i9 : Nat => iI ((fun _ : Int => (0 : Int)) i9)))) : Nat × va_E), ((sa4, .inl (k 0, 3, .inl (fun i9 : Nat => iI ((fun _ : Int => (0 : Int)) i9)))) : Nat × va_E), ((sa5, .inl (k 0, 3, .inl (fun i9 : Nat => iI ((fun _ : Int => (0 : Int)) i9)))) : Nat × va_E), ((sa6, .inl (k 0, 3, .inl (fun i9 : Nat => iI ((fun _ : Int => (0 : Int)) i9)))) : Nat × va_E)] ++ (gCl k A Y K ++ (heC k T A ++ (lsC k (A 52 0 0) (A 57 0 0) (Mc 2 0) (T 18 0 0 0) (G 2 0) (fun i => A 15 i 0) ++ ((List.range (T 0 0 0 0).toNat).flatMap (fun i : Nat => blC k T A X G Mc i) ++ (ptC k T A ++ tr))))))) := by
    refine (List.Perm.append_left _ h2).trans ?_
    rw [txC_split]
    generalize [((b9, .inr (0, [.int (iI kd), .ref st9, .ref wl9, .ref tb9])) : Nat × va_E), ((st9, .inl (k 0, 7, .inl (fun i9 : Nat => iI ((fun j9 : Int => nbV kd 2 j9 0) i9)))) : Nat × va_E), ((wl9, .inr (12, [.int (iI 0), .ref (dI 99 1), .int (iI 0)])) : Nat × va_E), ((tb9, .inr (8, [.ref sa0, .ref sa1, .ref sa2, .ref sa3, .ref sa4, .ref sa5, .ref sa6])) : Nat × va_E), ((sa0, .inl (k 0, 12, .inl (fun i9 : Nat => iI ((fun _ : Int => (0 : Int)) i9)))) : Nat × va_E), ((sa1, .inl (k 0, 12, .inl (fun i9 : Nat => iI ((fun _ : Int => (0 : Int)) i9)))) : Nat × va_E), ((sa2, .inl (k 0, 12, .inl (fun i9 : Nat => iI ((fun _ : Int => (0 : Int)) i9)))) : Nat × va_E), ((sa3, .inl (k 0, 3, .inl (fun i9 : Nat => iI ((fun _ : Int => (0 : Int)) i9)))) : Nat × va_E), ((sa4, .inl (k 0, 3, .inl (fun i9 : Nat => iI ((fun _ : Int => (0 : Int)) i9)))) : Nat × va_E), ((sa5, .inl (k 0, 3, .inl (fun i9 : Nat => iI ((fun _ : Int => (0 : Int)) i9)))) : Nat × va_E), ((sa6, .inl (k 0, 3, .inl (fun i9 : Nat => iI ((fun _ : Int => (0 : Int)) i9)))) : Nat × va_E)] = wo
    have h5 := List.perm_append_comm_assoc (wo ++ (gCl k A Y K ++ heC k T A)) (lsC k (A 51 0 0) (A 56 0 0) (Mc 0 0) (T 0 0 0 0) (G 0 0) (fun i => A 0 i 0)) (lsC k (A 52 0 0) (A 57 0 0) (Mc 2 0) (T 18 0 0 0) (G 2 0) (fun i => A 15 i 0) ++ ((List.range (T 0 0 0 0).toNat).flatMap (fun i : Nat => blC k T A X G Mc i) ++ (ptC k T A ++ tr)))
    simpa only [List.append_assoc] using h5
  have hel : ∀ j : Int, 0 ≤ j → j < T 0 0 0 0 → ∃ fs : List Value, ((A 0 j 0, .inr (0, fs)) : Nat × va_E) ∈ [((b9, .inr (0, [.int (iI kd), .ref st9, .ref wl9, .ref tb9])) : Nat × va_E), ((st9, .inl (k 0, 7, .inl (fun i9 : Nat => iI ((fun j9 : Int => nbV kd 2 j9 0) i9)))) : Nat × va_E), ((wl9, .inr (12, [.int (iI 0), .ref (dI 99 1), .int (iI 0)])) : Nat × va_E), ((tb9, .inr (8, [.ref sa0, .ref sa1, .ref sa2, .ref sa3, .ref sa4, .ref sa5, .ref sa6])) : Nat × va_E), ((sa0, .inl (k 0, 12, .inl (fun i9 : Nat => iI ((fun _ : Int => (0 : Int)) i9)))) : Nat × va_E), ((sa1, .inl (k 0, 12, .inl (fun i9 : Nat => iI ((fun _ : Int => (0 : Int)) i9)))) : Nat × va_E), ((sa2, .inl (k 0, 12, .inl (fun i9 : Nat => iI ((fun _ : Int => (0 : Int)) i9)))) : Nat × va_E), ((sa3, .inl (k 0, 3, .inl (fun i9 : Nat => iI ((fun _ : Int => (0 : Int)) i9)))) : Nat × va_E), ((sa4, .inl (k 0, 3, .inl (fun i9 : Nat => iI ((fun _ : Int => (0 : Int)) i9)))) : Nat × va_E), ((sa5, .inl (k 0, 3, .inl (fun i9 : Nat => iI ((fun _ : Int => (0 : Int)) i9)))) : Nat × va_E), ((sa6, .inl (k 0, 3, .inl (fun i9 : Nat => iI ((fun _ : Int => (0 : Int)) i9)))) : Nat × va_E)] ++ (gCl k A Y K ++ (heC k T A ++ (lsC k (A 52 0 0) (A 57 0 0) (Mc 2 0) (T 18 0 0 0) (G 2 0) (fun i => A 15 i 0) ++ ((List.range (T 0 0 0 0).toNat).flatMap (fun i : Nat => blC k T A X G Mc i) ++ (ptC k T A ++ tr))))) := by
    intro j g1 g2
    refine ⟨_, List.mem_append_right _ (List.mem_append_right _ (List.mem_append_right _ (List.mem_append_right _ (List.mem_append_left _ (mem_rg g1 g2 (e := (((A 0 j 0), .inr (0, [.int (iI (T 1 j 0 0)), .ref (A 1 j 0), .ref (A 2 j 0), va_rf (if T 1 j 0 0 = 3 then some (A 7 j 0) else none)])) : Nat × va_E)) ?_)))))⟩
    rw [show ((j.toNat : Nat) : Int) = j by omega]
    exact List.mem_append_left _ (List.mem_append_left _ List.mem_cons_self)
  have K0 := k_lsAdd l dC dI k (A 51 0 0) (A 56 0 0) (G 0 0) (Mc 0 0) (T 0 0 0 0) (fun j => A 0 j 0) 0 rc ([((b9, .inr (0, [.int (iI kd), .ref st9, .ref wl9, .ref tb9])) : Nat × va_E), ((st9, .inl (k 0, 7, .inl (fun i9 : Nat => iI ((fun j9 : Int => nbV kd 2 j9 0) i9)))) : Nat × va_E), ((wl9, .inr (12, [.int (iI 0), .ref (dI 99 1), .int (iI 0)])) : Nat × va_E), ((tb9, .inr (8, [.ref sa0, .ref sa1, .ref sa2, .ref sa3, .ref sa4, .ref sa5, .ref sa6])) : Nat × va_E), ((sa0, .inl (k 0, 12, .inl (fun i9 : Nat => iI ((fun _ : Int => (0 : Int)) i9)))) : Nat × va_E), ((sa1, .inl (k 0, 12, .inl (fun i9 : Nat => iI ((fun _ : Int => (0 : Int)) i9)))) : Nat × va_E), ((sa2, .inl (k 0, 12, .inl (fun i9 : Nat => iI ((fun _ : Int => (0 : Int)) i9)))) : Nat × va_E), ((sa3, .inl (k 0, 3, .inl (fun i9 : Nat => iI ((fun _ : Int => (0 : Int)) i9)))) : Nat × va_E), ((sa4, .inl (k 0, 3, .inl (fun i9 : Nat => iI ((fun _ : Int => (0 : Int)) i9)))) : Nat × va_E), ((sa5, .inl (k 0, 3, .inl (fun i9 : Nat => iI ((fun _ : Int => (0 : Int)) i9)))) : Nat × va_E), ((sa6, .inl (k 0, 3, .inl (fun i9 : Nat => iI ((fun _ : Int => (0 : Int)) i9)))) : Nat × va_E)] ++ tl) _ b9 _ at_ hc hca hz ho hel List.mem_cons_self ⟨h1.1, h1.2.1, h1.2.2⟩
  refine kn_post K0 ?_
  rintro r w gc gs ⟨e2, c2, hlo, hr, hw, hgc, hgs⟩
  have h6 := h3 K (ibT T at_ kd) (ibA A at_ b9 st9 wl9 tb9 (dI 99 1) (fun q : Int => if q = 0 then sa0 else if q = 1 then sa1 else if q = 2 then sa2 else if q = 3 then sa3 else if q = 4 then sa4 else if q = 5 then sa5 else if q = 6 then sa6 else 0) e2) (ibX X at_) (ibG G at_ c2) (ibM Mc at_) _ (TXP_ib hPR.2.1 ⟨h1.1, h1.2.1⟩ hlo rfl) rfl
  refine ⟨_, ?_, e2, c2, _, h6, hr, rfl, hgc, hgs⟩
  rw [hw, txC_ib]
  have hn : (T 0 0 0 0 + 1).toNat = (T 0 0 0 0).toNat + 1 := by omega
  have h7 := flat_rm (f := fun i : Nat => blC k (ibT T at_ kd) (ibA A at_ b9 st9 wl9 tb9 (dI 99 1) (fun q : Int => if q = 0 then sa0 else if q = 1 then sa1 else if q = 2 then sa2 else if q = 3 then sa3 else if q = 4 then sa4 else if q = 5 then sa5 else if q = 6 then sa6 else 0) e2) (ibX X at_) (ibG G at_ c2) (ibM Mc at_) i) (T 0 0 0 0).toNat at_.toNat (by omega)
  have hnb : blC k (ibT T at_ kd) (ibA A at_ b9 st9 wl9 tb9 (dI 99 1) (fun q : Int => if q = 0 then sa0 else if q = 1 then sa1 else if q = 2 then sa2 else if q = 3 then sa3 else if q = 4 then sa4 else if q = 5 then sa5 else if q = 6 then sa6 else 0) e2) (ibX X at_) (ibG G at_ c2) (ibM Mc at_) at_ = [((b9, .inr (0, [.int (iI kd), .ref st9, .ref wl9, .ref tb9])) : Nat × va_E), ((st9, .inl (k 0, 7, .inl (fun i9 : Nat => iI ((fun j9 : Int => nbV kd 2 j9 0) i9)))) : Nat × va_E), ((wl9, .inr (12, [.int (iI 0), .ref (dI 99 1), .int (iI 0)])) : Nat × va_E), ((tb9, .inr (8, [.ref sa0, .ref sa1, .ref sa2, .ref sa3, .ref sa4, .ref sa5, .ref sa6])) : Nat × va_E), ((sa0, .inl (k 0, 12, .inl (fun i9 : Nat => iI ((fun _ : Int => (0 : Int)) i9)))) : Nat × va_E), ((sa1, .inl (k 0, 12, .inl (fun i9 : Nat => iI ((fun _ : Int => (0 : Int)) i9)))) : Nat × va_E), ((sa2, .inl (k 0, 12, .inl (fun i9 : Nat => iI ((fun _ : Int => (0 : Int)) i9)))) : Nat × va_E), ((sa3, .inl (k 0, 3, .inl (fun i9 : Nat => iI ((fun _ : Int => (0 : Int)) i9)))) : Nat × va_E), ((sa4, .inl (k 0, 3, .inl (fun i9 : Nat => iI ((fun _ : Int => (0 : Int)) i9)))) : Nat × va_E), ((sa5, .inl (k 0, 3, .inl (fun i9 : Nat => iI ((fun _ : Int => (0 : Int)) i9)))) : Nat × va_E), ((sa6, .inl (k 0, 3, .inl (fun i9 : Nat => iI ((fun _ : Int => (0 : Int)) i9)))) : Nat × va_E)] := by
    rw [blC_iba]
    rw [if_pos hkd, if_pos hkd]
    rfl
  rw [← hn, show (((at_.toNat : Nat) : Int)) = at_ by omega, hnb] at h7
  have e8 : (List.range (T 0 0 0 0).toNat).flatMap (fun j : Nat => blC k (ibT T at_ kd) (ibA A at_ b9 st9 wl9 tb9 (dI 99 1) (fun q : Int => if q = 0 then sa0 else if q = 1 then sa1 else if q = 2 then sa2 else if q = 3 then sa3 else if q = 4 then sa4 else if q = 5 then sa5 else if q = 6 then sa6 else 0) e2) (ibX X at_) (ibG G at_ c2) (ibM Mc at_) (((if j < at_.toNat then j else j + 1 : Nat)) : Int)) = (List.range (T 0 0 0 0).toNat).flatMap (fun i : Nat => blC k T A X G Mc i) := by
    refine fm_congr _ (fun j hj => ?_)
    rw [blC_ib (by split <;> omega)]
    congr 1
    unfold ish
    split <;> split <;> omega
  have h8 := h7
  rw [e8] at h8
  have e9 : lsC k (A 51 0 0) e2 (Mc 0 0 + 1) (T 0 0 0 0 + 1) c2 (insL (fun j => A 0 j 0) at_ b9) = lsC k (A 51 0 0) e2 (Mc 0 0 + 1) (T 0 0 0 0 + 1) c2 (fun i => (ibA A at_ b9 st9 wl9 tb9 (dI 99 1) (fun q : Int => if q = 0 then sa0 else if q = 1 then sa1 else if q = 2 then sa2 else if q = 3 then sa3 else if q = 4 then sa4 else if q = 5 then sa5 else if q = 6 then sa6 else 0) e2) 0 i 0) := by
    congr 1
    funext j
    by_cases e : j = at_
    · subst e
      rw [ibA_a (c := 0) (by omega)]
      unfold insL
      rw [if_neg (by omega), if_pos rfl]
      rfl
    · rw [ibA_s e (c := 0) (by omega)]
      unfold insL ish
      split <;> first | rfl | (rw [if_neg e])
  rw [e9]
  generalize (List.range (T 0 0 0 0 + 1).toNat).flatMap (fun i : Nat => blC k (ibT T at_ kd) (ibA A at_ b9 st9 wl9 tb9 (dI 99 1) (fun q : Int => if q = 0 then sa0 else if q = 1 then sa1 else if q = 2 then sa2 else if q = 3 then sa3 else if q = 4 then sa4 else if q = 5 then sa5 else if q = 6 then sa6 else 0) e2) (ibX X at_) (ibG G at_ c2) (ibM Mc at_) i) = W2 at h8 ⊢
  generalize (List.range (T 0 0 0 0).toNat).flatMap (fun i : Nat => blC k T A X G Mc i) = W1 at h8 ⊢
  generalize lsC k (A 51 0 0) e2 (Mc 0 0 + 1) (T 0 0 0 0 + 1) c2 (fun i => (ibA A at_ b9 st9 wl9 tb9 (dI 99 1) (fun q : Int => if q = 0 then sa0 else if q = 1 then sa1 else if q = 2 then sa2 else if q = 3 then sa3 else if q = 4 then sa4 else if q = 5 then sa5 else if q = 6 then sa6 else 0) e2) 0 i 0) = ls
  generalize lsC k (A 52 0 0) (A 57 0 0) (Mc 2 0) (T 18 0 0 0) (G 2 0) (fun i => A 15 i 0) = l2
  generalize [((b9, .inr (0, [.int (iI kd), .ref st9, .ref wl9, .ref tb9])) : Nat × va_E), ((st9, .inl (k 0, 7, .inl (fun i9 : Nat => iI ((fun j9 : Int => nbV kd 2 j9 0) i9)))) : Nat × va_E), ((wl9, .inr (12, [.int (iI 0), .ref (dI 99 1), .int (iI 0)])) : Nat × va_E), ((tb9, .inr (8, [.ref sa0, .ref sa1, .ref sa2, .ref sa3, .ref sa4, .ref sa5, .ref sa6])) : Nat × va_E), ((sa0, .inl (k 0, 12, .inl (fun i9 : Nat => iI ((fun _ : Int => (0 : Int)) i9)))) : Nat × va_E), ((sa1, .inl (k 0, 12, .inl (fun i9 : Nat => iI ((fun _ : Int => (0 : Int)) i9)))) : Nat × va_E), ((sa2, .inl (k 0, 12, .inl (fun i9 : Nat => iI ((fun _ : Int => (0 : Int)) i9)))) : Nat × va_E), ((sa3, .inl (k 0, 3, .inl (fun i9 : Nat => iI ((fun _ : Int => (0 : Int)) i9)))) : Nat × va_E), ((sa4, .inl (k 0, 3, .inl (fun i9 : Nat => iI ((fun _ : Int => (0 : Int)) i9)))) : Nat × va_E), ((sa5, .inl (k 0, 3, .inl (fun i9 : Nat => iI ((fun _ : Int => (0 : Int)) i9)))) : Nat × va_E), ((sa6, .inl (k 0, 3, .inl (fun i9 : Nat => iI ((fun _ : Int => (0 : Int)) i9)))) : Nat × va_E)] = wo at h8 ⊢
  generalize gCl k A Y K = g
  generalize heC k T A = st
  generalize ptC k T A = pt
  have h9 : (ls ++ (g ++ (st ++ (l2 ++ ((wo ++ W1) ++ (pt ++ tr)))))).Perm (ls ++ (g ++ (st ++ (l2 ++ (W2 ++ (pt ++ tr)))))) := List.Perm.append_left _ (List.Perm.append_left _ (List.Perm.append_left _ (List.Perm.append_left _ (List.Perm.append_right _ h8.symm))))
  have h10 := List.perm_append_comm_assoc wo (g ++ (st ++ l2)) (W1 ++ (pt ++ tr))
  have h11 := List.perm_append_comm_assoc ls (g ++ st) (l2 ++ (W2 ++ (pt ++ tr)))
  simp only [List.append_assoc, List.nil_append] at h9 h10 h11 ⊢
  exact ((List.Perm.append_left ls h10).trans h9).trans h11

theorem mw_1130 : (Jvm.Cond.instantiable "Galleyforge$Block" (4 : Nat)) ∈ gt := gt_at 1200 (by decide +kernel) (by decide +kernel)
theorem mw_1131 : (Jvm.Cond.methodLink "Galleyforge" (162 : Nat) ({ cls := "Galleyforge$Block", name := "<init>", desc := "(I)V" } : Jvm.MethodName)) ∈ gt := gt_at 1201 (by decide +kernel) (by decide +kernel)
theorem mw_1132 : (Jvm.Cond.instanceMethod ({ cls := "Galleyforge$Block", name := "<init>", desc := "(I)V" } : Jvm.MethodName)) ∈ gt := gt_at 1202 (by decide +kernel) (by decide +kernel)
theorem mw_1133 : (Jvm.Cond.code ({ cls := "Galleyforge$Block", name := "<init>", desc := "(I)V" } : Jvm.MethodName) prog_2_method_1_code (2 : Nat) (Option.none : Option Jvm.ClassFile.FieldType)) ∈ gt := gt_at 1203 (by decide +kernel) (by decide +kernel)
theorem mI_X0_init : mI yX0_init cX0_init 2 1 := ⟨⟨mw_1133, mw_19, by decide, by decide, by decide +kernel⟩, mw_1132, rfl⟩
theorem dX11_block_0 : decode cX11_block 0 = .ok (.iload_n 1, 1) := by decide +kernel
theorem dX11_block_1 : decode cX11_block 1 = .ok (.ifCond .lt 17, 3) := by decide +kernel
theorem dX11_block_4 : decode cX11_block 4 = .ok (.iload_n 1, 1) := by decide +kernel
theorem dX11_block_5 : decode cX11_block 5 = .ok (.aload_n 0, 1) := by decide +kernel
theorem dX11_block_6 : decode cX11_block 6 = .ok (.getfield 12, 3) := by decide +kernel
theorem dX11_block_9 : decode cX11_block 9 = .ok (.getfield 153, 3) := by decide +kernel
theorem dX11_block_12 : decode cX11_block 12 = .ok (.invokevirtual 85, 3) := by decide +kernel
theorem dX11_block_15 : decode cX11_block 15 = .ok (.if_icmp .le 13, 3) := by decide +kernel
theorem dX11_block_18 : decode cX11_block 18 = .ok (.new 47, 3) := by decide +kernel
theorem dX11_block_21 : decode cX11_block 21 = .ok (.dup, 1) := by decide +kernel
theorem dX11_block_22 : decode cX11_block 22 = .ok (.ldc 156, 2) := by decide +kernel
theorem dX11_block_24 : decode cX11_block 24 = .ok (.invokespecial 51, 3) := by decide +kernel
theorem dX11_block_27 : decode cX11_block 27 = .ok (.athrow, 1) := by decide +kernel
theorem dX11_block_28 : decode cX11_block 28 = .ok (.iload_n 2, 1) := by decide +kernel
theorem dX11_block_29 : decode cX11_block 29 = .ok (.ifCond .lt 9, 3) := by decide +kernel
theorem dX11_block_32 : decode cX11_block 32 = .ok (.iload_n 2, 1) := by decide +kernel
theorem dX11_block_33 : decode cX11_block 33 = .ok (.bipush 6, 2) := by decide +kernel
theorem dX11_block_35 : decode cX11_block 35 = .ok (.if_icmp .le 13, 3) := by decide +kernel
theorem dX11_block_38 : decode cX11_block 38 = .ok (.new 72, 3) := by decide +kernel
theorem dX11_block_41 : decode cX11_block 41 = .ok (.dup, 1) := by decide +kernel
theorem dX11_block_42 : decode cX11_block 42 = .ok (.ldc 158, 2) := by decide +kernel
theorem dX11_block_44 : decode cX11_block 44 = .ok (.invokespecial 76, 3) := by decide +kernel
theorem dX11_block_47 : decode cX11_block 47 = .ok (.athrow, 1) := by decide +kernel
theorem dX11_block_48 : decode cX11_block 48 = .ok (.aload_n 0, 1) := by decide +kernel
theorem dX11_block_49 : decode cX11_block 49 = .ok (.getfield 12, 3) := by decide +kernel
theorem dX11_block_52 : decode cX11_block 52 = .ok (.getfield 153, 3) := by decide +kernel
theorem dX11_block_55 : decode cX11_block 55 = .ok (.invokevirtual 85, 3) := by decide +kernel
theorem dX11_block_58 : decode cX11_block 58 = .ok (.bipush 16, 2) := by decide +kernel
theorem dX11_block_60 : decode cX11_block 60 = .ok (.if_icmp .lt 13, 3) := by decide +kernel
theorem dX11_block_63 : decode cX11_block 63 = .ok (.new 58, 3) := by decide +kernel
theorem dX11_block_66 : decode cX11_block 66 = .ok (.dup, 1) := by decide +kernel
theorem dX11_block_67 : decode cX11_block 67 = .ok (.ldc 160, 2) := by decide +kernel
theorem dX11_block_69 : decode cX11_block 69 = .ok (.invokespecial 62, 3) := by decide +kernel
theorem dX11_block_72 : decode cX11_block 72 = .ok (.athrow, 1) := by decide +kernel
theorem dX11_block_73 : decode cX11_block 73 = .ok (.aload_n 0, 1) := by decide +kernel
theorem dX11_block_74 : decode cX11_block 74 = .ok (.getfield 12, 3) := by decide +kernel
theorem dX11_block_77 : decode cX11_block 77 = .ok (.getfield 153, 3) := by decide +kernel
theorem dX11_block_80 : decode cX11_block 80 = .ok (.iload_n 1, 1) := by decide +kernel
theorem dX11_block_81 : decode cX11_block 81 = .ok (.new 145, 3) := by decide +kernel
theorem dX11_block_84 : decode cX11_block 84 = .ok (.dup, 1) := by decide +kernel
theorem dX11_block_85 : decode cX11_block 85 = .ok (.iload_n 2, 1) := by decide +kernel
theorem dX11_block_86 : decode cX11_block 86 = .ok (.invokespecial 162, 3) := by decide +kernel
theorem dX11_block_89 : decode cX11_block 89 = .ok (.invokevirtual 164, 3) := by decide +kernel
theorem dX11_block_92 : decode cX11_block 92 = .ok (.aload_n 0, 1) := by decide +kernel
theorem dX11_block_93 : decode cX11_block 93 = .ok (.invokevirtual 106, 3) := by decide +kernel
theorem dX11_block_96 : decode cX11_block 96 = .ok (.aload_n 0, 1) := by decide +kernel
theorem dX11_block_97 : decode cX11_block 97 = .ok (.getfield 12, 3) := by decide +kernel
theorem dX11_block_100 : decode cX11_block 100 = .ok (.getfield 153, 3) := by decide +kernel
theorem dX11_block_103 : decode cX11_block 103 = .ok (.invokevirtual 85, 3) := by decide +kernel
theorem dX11_block_106 : decode cX11_block 106 = .ok (.ireturn, 1) := by decide +kernel
set_option maxHeartbeats 4000000 in
set_option maxRecDepth 100000 in
theorem k_block (l : Launch) (dC : Nat → ClassId) (dI : Nat → Nat → Nat) (k : Nat → ClassId) (hl0 : l.stackTraces = false) (T : Nat → Int → Int → Int → Int) (A : Nat → Int → Int → Nat) (X : Nat → Int → Int → Int) (tl : va_W) (G : Nat → Int → Nat) (Mc : Nat → Int → Int) (Y : Nat → Int → Nat) (O : Nat → Nat) (L : Int → Nat → Int → Int) (C : Nat → Int → Int) (K : Nat → Int → Int) (cp : Nat) (pl : Int) (kd : Int) (hPR : PR dI k T A X G Mc Y O L C K cp tl) (hK : TK T) (hKK : KK T K) (hrpl : -2147483648 ≤ pl ∧ pl < 2147483648) (hrkd : -2147483648 ≤ kd ∧ kd < 2147483648) : Kx l dC dI k yX11_block (.code yX11_block cX11_block 3 (some .int)) ({ frames := 13, cells := 12, slots := 110, locals := 424 } : Room) [.ref (Y 0 0), .int (iI pl), .int (iI kd)] ([] ++ tl) (fun r w gc gs => (∃ (L2 : Int → Nat → Int → Int) (b9 : Nat) (st9 : Nat) (wl9 : Nat) (tb9 : Nat) (s9f : Int → Nat) (e2 : Nat) (c2 : Nat) (gr : Nat) (gq : Nat) (tl2 : va_W), (PR dI k (ibT T pl kd) (ibA A pl b9 st9 wl9 tb9 (dI 99 1) s9f e2) (ibX X pl) (ibG G pl c2) (ibM Mc pl) Y O L2 C K cp tl2) ∧ (∀ u, 0 ≤ u → u ≤ 1 → LF (L2 u)) ∧ ((0 ≤ pl ∧ pl ≤ T 0 0 0 0) ∧ (0 ≤ kd ∧ kd ≤ 6) ∧ T 0 0 0 0 < 16) ∧ (gr ≤ 12) ∧ (gq ≤ 110) ∧ r = some (.int (iI (T 0 0 0 0 + 1))) ∧ w = ([] ++ tl2) ∧ gc = (gr + 0) ∧ gs = (gq + 0))) (fun E w gc gs => ((¬ (0 ≤ pl ∧ pl ≤ T 0 0 0 0)) ∧ E = "java/lang/IndexOutOfBoundsException" ∧ w = ([] ++ tl) ∧ gc = 1 ∧ gs = 6) ∨ (((0 ≤ pl ∧ pl ≤ T 0 0 0 0) ∧ ¬ (0 ≤ kd ∧ kd ≤ 6)) ∧ E = "java/lang/IllegalArgumentException" ∧ w = ([] ++ tl) ∧ gc = 1 ∧ gs = 6) ∨ (((0 ≤ pl ∧ pl ≤ T 0 0 0 0) ∧ (0 ≤ kd ∧ kd ≤ 6) ∧ ¬ T 0 0 0 0 < 16) ∧ E = "java/lang/IllegalStateException" ∧ w = ([] ++ tl) ∧ gc = 1 ∧ gs = 6)) := by
  refine kx_of (by decide) (Nat.le_of_ble_eq_true rfl) ?_
  intro p e s m args below meth c H locs B hr hex ls hl
  have hx := B.1.1
  have hb := B.1.2.1
  have hl : lv_has ls 3 [(0, .ref (Y 0 0)), (1, .int (iI pl)), (2, .int (iI kd))] := hl
  have hT := PR_TI hPR
  have hnb0 := TK_nb hK
  have hcp0 : 512 ≤ cp ∧ cp ≤ 131072 := by have q9 := hPR.2.2.2; unfold cpOk at q9; omega
  refine lv_iload_n hx hb dX11_block_0 rfl (lv_at hl 1 rfl) ?_
  refine lv_if_lt (tgt := 18) hx hb dX11_block_1 (by decide) (fun c_1 => ?_) (fun c_1 => ?_)
  · have zc_1 : pl < 0 := jlt (a := pl) (b := 0) (by omega) (by omega) c_1
    exact k_thrG (tx := "no such place") xE_ioobe (Or.inl (⟨(by omega), rfl, rfl, rfl, rfl⟩)) ⟨(by first | omega | (dsimp only; omega)), (by first | omega | (dsimp only; omega))⟩ hl0 B hex hl (by decide +kernel) dX11_block_18 dX11_block_21 dX11_block_22 dX11_block_24 dX11_block_27 ⟨(by first | exact Nat.le_of_ble_eq_true rfl | omega | (dsimp only; omega)), (by first | exact Nat.le_of_ble_eq_true rfl | omega | (dsimp only; omega)), (by first | omega | (dsimp only; omega)), (by first | omega | (dsimp only; omega))⟩ ⟨(by first | omega | (dsimp only; omega)), (by first | omega | (dsimp only; omega))⟩
  · have zc_1 : 0 ≤ pl := jnlt (a := pl) (b := 0) (by omega) (by omega) c_1
    refine lv_iload_n hx hb dX11_block_4 rfl (lv_at hl 1 rfl) ?_
    refine lv_aload_n hx hb dX11_block_5 rfl (lv_at hl 0 rfl) ?_
    obtain ⟨k_2, hk_2⟩ := pk_at (hs := []) (show (((Y 0 0), .inr (11, [.ref (A 50 0 0), .ref (Y 1 0), .ref (Y 2 0), .int (iI (K 0 0)), .ref (Y 3 0)])) : Nat × va_E) ∈ tl from PR_m hPR 0 0 rfl rfl)
    refine x_get (ci := 11) (C := RX11) (T := TX11) (N := 5) (v := .ref (A 50 0 0)) B k_2 hk_2 rfl in_X11 0 (by decide) mw_474 (fun _ h9 => h9) rfl dX11_block_6 ?_
    obtain ⟨k_3, hk_3⟩ := pk_at (hs := []) hT.1.1
    refine x_get (ci := 9) (C := RX9) (T := TX9) (N := 8) (v := .ref (A 51 0 0)) B k_3 hk_3 rfl in_X9 0 (by decide) mw_78 (fun _ h9 => h9) rfl dX11_block_9 ?_
    have B := bd_swap (a := []) (b := []) (d := tl) (bd_to rfl B)
    obtain ⟨k_4, fk_4, hk_4⟩ := LI_at (hs := []) hT.2.1
    refine k_V (rest := [.int (iI pl)]) (wc := ([] ++ tl)) (wr := []) (k_sizeB l dC dI k T A X tl hT hK) B mV_Jx4a65c_size_8abf5 mw_637 hl (q0 := k_4) (ci := 12) hk_4 rfl rfl ⟨Nat.le_of_ble_eq_true rfl, Nat.le_of_ble_eq_true rfl⟩ (Nat.le_of_ble_eq_true rfl) rfl dX11_block_12 ⟨by dsimp only; omega, by dsimp only; omega⟩ (fun r w gc gs H locs hp B => ?_)
    obtain ⟨z_5, rfl, hw9, rfl, rfl⟩ := hp
    rw [hw9] at B; clear hw9
    have B := bd_to (ws' := ([] ++ tl)) rfl B
    refine lv_icmp_le (tgt := 28) hx hb dX11_block_15 (by decide) (fun c_6 => ?_) (fun c_6 => ?_)
    · have zc_6 : pl ≤ (T 0 0 0 0) := jle (a := pl) (b := (T 0 0 0 0)) (by omega) (by omega) c_6
      refine lv_iload_n hx hb dX11_block_28 rfl (lv_at hl 2 rfl) ?_
      refine lv_if_lt (tgt := 38) hx hb dX11_block_29 (by decide) (fun c_7 => ?_) (fun c_7 => ?_)
      · have zc_7 : kd < 0 := jlt (a := kd) (b := 0) (by omega) (by omega) c_7
        exact k_thrG (tx := "no such kind") xE_iae (Or.inr (Or.inl (⟨(by omega), rfl, rfl, rfl, rfl⟩))) ⟨(by first | omega | (dsimp only; omega)), (by first | omega | (dsimp only; omega))⟩ hl0 B hex hl (by decide +kernel) dX11_block_38 dX11_block_41 dX11_block_42 dX11_block_44 dX11_block_47 ⟨(by first | exact Nat.le_of_ble_eq_true rfl | omega | (dsimp only; omega)), (by first | exact Nat.le_of_ble_eq_true rfl | omega | (dsimp only; omega)), (by first | omega | (dsimp only; omega)), (by first | omega | (dsimp only; omega))⟩ ⟨(by first | omega | (dsimp only; omega)), (by first | omega | (dsimp only; omega))⟩
      · have zc_7 : 0 ≤ kd := jnlt (a := kd) (b := 0) (by omega) (by omega) c_7
        refine lv_iload_n hx hb dX11_block_32 rfl (lv_at hl 2 rfl) ?_
        refine lv_bipush (v := iI 6) hx hb dX11_block_33 (by decide) ?_
        refine lv_icmp_le (tgt := 48) hx hb dX11_block_35 (by decide) (fun c_8 => ?_) (fun c_8 => ?_)
        · have zc_8 : kd ≤ 6 := jle (a := kd) (b := 6) (by omega) (by omega) c_8
          refine lv_aload_n hx hb dX11_block_48 rfl (lv_at hl 0 rfl) ?_
          obtain ⟨k_9, hk_9⟩ := pk_at (hs := []) (show (((Y 0 0), .inr (11, [.ref (A 50 0 0), .ref (Y 1 0), .ref (Y 2 0), .int (iI (K 0 0)), .ref (Y 3 0)])) : Nat × va_E) ∈ tl from PR_m hPR 0 0 rfl rfl)
          refine x_get (ci := 11) (C := RX11) (T := TX11) (N := 5) (v := .ref (A 50 0 0)) B k_9 hk_9 rfl in_X11 0 (by decide) mw_474 (fun _ h9 => h9) rfl dX11_block_49 ?_
          obtain ⟨k_10, hk_10⟩ := pk_at (hs := []) hT.1.1
          refine x_get (ci := 9) (C := RX9) (T := TX9) (N := 8) (v := .ref (A 51 0 0)) B k_10 hk_10 rfl in_X9 0 (by decide) mw_78 (fun _ h9 => h9) rfl dX11_block_52 ?_
          have B := bd_swap (a := []) (b := []) (d := tl) (bd_to rfl B)
          obtain ⟨k_11, fk_11, hk_11⟩ := LI_at (hs := []) hT.2.1
          refine k_V (rest := []) (wc := ([] ++ tl)) (wr := []) (k_sizeB l dC dI k T A X tl hT hK) B mV_Jx4a65c_size_8abf5 mw_637 hl (q0 := k_11) (ci := 12) hk_11 rfl rfl ⟨Nat.le_of_ble_eq_true rfl, Nat.le_of_ble_eq_true rfl⟩ (Nat.le_of_ble_eq_true rfl) rfl dX11_block_55 ⟨by dsimp only; omega, by dsimp only; omega⟩ (fun r w gc gs H locs hp B => ?_)
          obtain ⟨z_12, rfl, hw9, rfl, rfl⟩ := hp
          rw [hw9] at B; clear hw9
          have B := bd_to (ws' := ([] ++ tl)) rfl B
          refine lv_bipush (v := iI 16) hx hb dX11_block_58 (by decide) ?_
          refine lv_icmp_lt (tgt := 73) hx hb dX11_block_60 (by decide) (fun c_13 => ?_) (fun c_13 => ?_)
          · have zc_13 : (T 0 0 0 0) < 16 := jlt (a := (T 0 0 0 0)) (b := 16) (by omega) (by omega) c_13
            refine lv_aload_n hx hb dX11_block_73 rfl (lv_at hl 0 rfl) ?_
            obtain ⟨k_14, hk_14⟩ := pk_at (hs := []) (show (((Y 0 0), .inr (11, [.ref (A 50 0 0), .ref (Y 1 0), .ref (Y 2 0), .int (iI (K 0 0)), .ref (Y 3 0)])) : Nat × va_E) ∈ tl from PR_m hPR 0 0 rfl rfl)
            refine x_get (ci := 11) (C := RX11) (T := TX11) (N := 5) (v := .ref (A 50 0 0)) B k_14 hk_14 rfl in_X11 0 (by decide) mw_474 (fun _ h9 => h9) rfl dX11_block_74 ?_
            obtain ⟨k_15, hk_15⟩ := pk_at (hs := []) hT.1.1
            refine x_get (ci := 9) (C := RX9) (T := TX9) (N := 8) (v := .ref (A 51 0 0)) B k_15 hk_15 rfl in_X9 0 (by decide) mw_78 (fun _ h9 => h9) rfl dX11_block_77 ?_
            refine lv_iload_n hx hb dX11_block_80 rfl (lv_at hl 1 rfl) ?_
            refine x_new (ci := 0) (fs := [.int 0, .null, .null, .null]) (C := RX0) (T := TX0) (N := 4) B tyX0_ok in_X0 mw_794 mw_1130 mw_19 rfl (by decide +kernel) (by first | omega | (dsimp only; omega)) (by first | omega | (dsimp only; omega)) dX11_block_81 (fun q_16 H B => ?_)
            have B := bd_swap (a := []) (b := tl) (d := [(q_16, .inr (0, [.int (iI 0), .null, .null, .null]))]) B
            have B := bd_to (ws' := ([(q_16, .inr (0, [.int (iI 0), .null, .null, .null]))] ++ tl)) rfl B
            refine lv_dup hx hb dX11_block_84 rfl ?_
            refine lv_iload_n hx hb dX11_block_85 rfl (lv_at hl 2 rfl) ?_
            by_cases zc_17 : kd = 3
            · skip
              have B := bd_to (ws' := [(q_16, .inr (0, [.int (iI 0), .null, .null, .null]))] ++ ([] ++ tl)) rfl B
              refine k_I (rest := [.ref q_16, .int (iI pl), .ref (A 51 0 0)]) (wc := [(q_16, .inr (0, [.int (iI 0), .null, .null, .null]))]) (wr := ([] ++ tl)) (k_blockInit3 l dC dI k q_16 kd zc_17) B mI_X0_init mw_1131 hl ⟨Nat.le_of_ble_eq_true rfl, Nat.le_of_ble_eq_true rfl⟩ (Nat.le_of_ble_eq_true rfl) rfl dX11_block_86 ⟨by dsimp only; omega, by dsimp only; omega⟩ (fun r w gc gs H locs hp B => ?_)
              obtain ⟨st9_18, wl9_19, tb9_20, sa0_21, sa1_22, sa2_23, sa3_24, sa4_25, sa5_26, sa6_27, rfl, hw9, rfl, rfl⟩ := hp
              rw [hw9] at B; clear hw9
              have B := bd_swap (a := []) (b := tl) (d := [(q_16, .inr (0, [.int (iI kd), .ref st9_18, .ref wl9_19, .ref tb9_20])), (st9_18, .inl (k 0, 7, .inl (fun i9 : Nat => iI ((fun j9 : Int => nbV kd 2 j9 0) i9)))), (wl9_19, .inr (12, [.int (iI 0), .ref (dI 99 1), .int (iI 0)])), (tb9_20, .inr (8, [.ref sa0_21, .ref sa1_22, .ref sa2_23, .ref sa3_24, .ref sa4_25, .ref sa5_26, .ref sa6_27])), (sa0_21, .inl (k 0, 12, .inl (fun i9 : Nat => iI ((fun _ : Int => (0 : Int)) i9)))), (sa1_22, .inl (k 0, 12, .inl (fun i9 : Nat => iI ((fun _ : Int => (0 : Int)) i9)))), (sa2_23, .inl (k 0, 12, .inl (fun i9 : Nat => iI ((fun _ : Int => (0 : Int)) i9)))), (sa3_24, .inl (k 0, 3, .inl (fun i9 : Nat => iI ((fun _ : Int => (0 : Int)) i9)))), (sa4_25, .inl (k 0, 3, .inl (fun i9 : Nat => iI ((fun _ : Int => (0 : Int)) i9)))), (sa5_26, .inl (k 0, 3, .inl (fun i9 : Nat => iI ((fun _ : Int => (0 : Int)) i9)))), (sa6_27, .inl (k 0, 3, .inl (fun i9 : Nat => iI ((fun _ : Int => (0 : Int)) i9))))]) B
              have B := bd_to (ws' := ([(q_16, .inr (0, [.int (iI kd), .ref st9_18, .ref wl9_19, .ref tb9_20])), (st9_18, .inl (k 0, 7, .inl (fun i9 : Nat => iI ((fun j9 : Int => nbV kd 2 j9 0) i9)))), (wl9_19, .inr (12, [.int (iI 0), .ref (dI 99 1), .int (iI 0)])), (tb9_20, .inr (8, [.ref sa0_21, .ref sa1_22, .ref sa2_23, .ref sa3_24, .ref sa4_25, .ref sa5_26, .ref sa6_27])), (sa0_21, .inl (k 0, 12, .inl (fun i9 : Nat => iI ((fun _ : Int => (0 : Int)) i9)))), (sa1_22, .inl (k 0, 12, .inl (fun i9 : Nat => iI ((fun _ : Int => (0 : Int)) i9)))), (sa2_23, .inl (k 0, 12, .inl (fun i9 : Nat => iI ((fun _ : Int => (0 : Int)) i9)))), (sa3_24, .inl (k 0, 3, .inl (fun i9 : Nat => iI ((fun _ : Int => (0 : Int)) i9)))), (sa4_25, .inl (k 0, 3, .inl (fun i9 : Nat => iI ((fun _ : Int => (0 : Int)) i9)))), (sa5_26, .inl (k 0, 3, .inl (fun i9 : Nat => iI ((fun _ : Int => (0 : Int)) i9)))), (sa6_27, .inl (k 0, 3, .inl (fun i9 : Nat => iI ((fun _ : Int => (0 : Int)) i9))))] ++ tl)) rfl B
              have B := bd_swap (a := [(q_16, .inr (0, [.int (iI kd), .ref st9_18, .ref wl9_19, .ref tb9_20])), (st9_18, .inl (k 0, 7, .inl (fun i9 : Nat => iI ((fun j9 : Int => nbV kd 2 j9 0) i9)))), (wl9_19, .inr (12, [.int (iI 0), .ref (dI 99 1), .int (iI 0)])), (tb9_20, .inr (8, [.ref sa0_21, .ref sa1_22, .ref sa2_23, .ref sa3_24, .ref sa4_25, .ref sa5_26, .ref sa6_27])), (sa0_21, .inl (k 0, 12, .inl (fun i9 : Nat => iI ((fun _ : Int => (0 : Int)) i9)))), (sa1_22, .inl (k 0, 12, .inl (fun i9 : Nat => iI ((fun _ : Int => (0 : Int)) i9)))), (sa2_23, .inl (k 0, 12, .inl (fun i9 : Nat => iI ((fun _ : Int => (0 : Int)) i9)))), (sa3_24, .inl (k 0, 3, .inl (fun i9 : Nat => iI ((fun _ : Int => (0 : Int)) i9)))), (sa4_25, .inl (k 0, 3, .inl (fun i9 : Nat => iI ((fun _ : Int => (0 : Int)) i9)))), (sa5_26, .inl (k 0, 3, .inl (fun i9 : Nat => iI ((fun _ : Int => (0 : Int)) i9)))), (sa6_27, .inl (k 0, 3, .inl (fun i9 : Nat => iI ((fun _ : Int => (0 : Int)) i9))))]) (b := []) (d := tl) (bd_to rfl B)
              obtain ⟨k_28, fk_28, hk_28⟩ := LI_at (hs := [(q_16, .inr (0, [.int (iI kd), .ref st9_18, .ref wl9_19, .ref tb9_20])), (st9_18, .inl (k 0, 7, .inl (fun i9 : Nat => iI ((fun j9 : Int => nbV kd 2 j9 0) i9)))), (wl9_19, .inr (12, [.int (iI 0), .ref (dI 99 1), .int (iI 0)])), (tb9_20, .inr (8, [.ref sa0_21, .ref sa1_22, .ref sa2_23, .ref sa3_24, .ref sa4_25, .ref sa5_26, .ref sa6_27])), (sa0_21, .inl (k 0, 12, .inl (fun i9 : Nat => iI ((fun _ : Int => (0 : Int)) i9)))), (sa1_22, .inl (k 0, 12, .inl (fun i9 : Nat => iI ((fun _ : Int => (0 : Int)) i9)))), (sa2_23, .inl (k 0, 12, .inl (fun i9 : Nat => iI ((fun _ : Int => (0 : Int)) i9)))), (sa3_24, .inl (k 0, 3, .inl (fun i9 : Nat => iI ((fun _ : Int => (0 : Int)) i9)))), (sa4_25, .inl (k 0, 3, .inl (fun i9 : Nat => iI ((fun _ : Int => (0 : Int)) i9)))), (sa5_26, .inl (k 0, 3, .inl (fun i9 : Nat => iI ((fun _ : Int => (0 : Int)) i9)))), (sa6_27, .inl (k 0, 3, .inl (fun i9 : Nat => iI ((fun _ : Int => (0 : Int)) i9))))]) hT.2.1
              refine k_V (rest := []) (wc := ([(q_16, .inr (0, [.int (iI kd), .ref st9_18, .ref wl9_19, .ref tb9_20])), (st9_18, .inl (k 0, 7, .inl (fun i9 : Nat => iI ((fun j9 : Int => nbV kd 2 j9 0) i9)))), (wl9_19, .inr (12, [.int (iI 0), .ref (dI 99 1), .int (iI 0)])), (tb9_20, .inr (8, [.ref sa0_21, .ref sa1_22, .ref sa2_23, .ref sa3_24, .ref sa4_25, .ref sa5_26, .ref sa6_27])), (sa0_21, .inl (k 0, 12, .inl (fun i9 : Nat => iI ((fun _ : Int => (0 : Int)) i9)))), (sa1_22, .inl (k 0, 12, .inl (fun i9 : Nat => iI ((fun _ : Int => (0 : Int)) i9)))), (sa2_23, .inl (k 0, 12, .inl (fun i9 : Nat => iI ((fun _ : Int => (0 : Int)) i9)))), (sa3_24, .inl (k 0, 3, .inl (fun i9 : Nat => iI ((fun _ : Int => (0 : Int)) i9)))), (sa4_25, .inl (k 0, 3, .inl (fun i9 : Nat => iI ((fun _ : Int => (0 : Int)) i9)))), (sa5_26, .inl (k 0, 3, .inl (fun i9 : Nat => iI ((fun _ : Int => (0 : Int)) i9)))), (sa6_27, .inl (k 0, 3, .inl (fun i9 : Nat => iI ((fun _ : Int => (0 : Int)) i9))))] ++ tl)) (wr := []) (k_addB3 l dC dI k T A X tl G Mc Y O L C K cp pl kd q_16 st9_18 wl9_19 tb9_20 sa0_21 sa1_22 sa2_23 sa3_24 sa4_25 sa5_26 sa6_27 hPR hK (by omega) zc_17) B mV_Jx4a65c_add_7a177 mw_846 hl (q0 := k_28) (ci := 12) hk_28 rfl rfl ⟨Nat.le_of_ble_eq_true rfl, Nat.le_of_ble_eq_true rfl⟩ (Nat.le_of_ble_eq_true rfl) rfl dX11_block_89 ⟨by dsimp only; omega, by dsimp only; omega⟩ (fun r w gc gs H locs hp B => ?_)
              obtain ⟨e2_29, c2_30, tl2_31, z_32, rfl, hw9, rfl, rfl⟩ := hp
              rw [hw9] at B; clear hw9
              have B := bd_to (ws' := ([] ++ tl2_31)) rfl B
              have hPR : PR dI k (ibT T pl kd) (ibA A pl q_16 st9_18 wl9_19 tb9_20 (dI 99 1) (fun q : Int => if q = 0 then sa0_21 else if q = 1 then sa1_22 else if q = 2 then sa2_23 else if q = 3 then sa3_24 else if q = 4 then sa4_25 else if q = 5 then sa5_26 else if q = 6 then sa6_27 else 0) e2_29) (ibX X pl) (ibG G pl c2_30) (ibM Mc pl) Y O L C K cp tl2_31 := z_32
              have hT : TI dI k (ibT T pl kd) (ibA A pl q_16 st9_18 wl9_19 tb9_20 (dI 99 1) (fun q : Int => if q = 0 then sa0_21 else if q = 1 then sa1_22 else if q = 2 then sa2_23 else if q = 3 then sa3_24 else if q = 4 then sa4_25 else if q = 5 then sa5_26 else if q = 6 then sa6_27 else 0) e2_29) (ibX X pl) tl2_31 := PR_TI hPR
              refine lv_aload_n hx hb dX11_block_92 rfl (lv_at hl 0 rfl) ?_
              have B := bd_swap (a := []) (b := []) (d := tl2_31) (bd_to rfl B)
              obtain ⟨k_33, hk_33⟩ := pk_at (hs := []) (show (((Y 0 0), .inr (11, [.ref (A 50 0 0), .ref (Y 1 0), .ref (Y 2 0), .int (iI (K 0 0)), .ref (Y 3 0)])) : Nat × va_E) ∈ tl2_31 from (PR_m hPR 0 0 rfl rfl))
              refine k_V (rest := []) (wc := ([] ++ tl2_31)) (wr := []) (k_forgetAll l dC dI k (ibT T pl kd) (ibA A pl q_16 st9_18 wl9_19 tb9_20 (dI 99 1) (fun q : Int => if q = 0 then sa0_21 else if q = 1 then sa1_22 else if q = 2 then sa2_23 else if q = 3 then sa3_24 else if q = 4 then sa4_25 else if q = 5 then sa5_26 else if q = 6 then sa6_27 else 0) e2_29) (ibX X pl) tl2_31 (ibG G pl c2_30) (ibM Mc pl) Y O L C K cp z_32 (TK_ibT hK (by omega) (by omega))) B mV_X11_forgetLayouts mw_769 hl (q0 := k_33) (ci := 11) hk_33 rfl rfl ⟨Nat.le_of_ble_eq_true rfl, Nat.le_of_ble_eq_true rfl⟩ (Nat.le_of_ble_eq_true rfl) rfl dX11_block_93 ⟨by dsimp only; omega, by dsimp only; omega⟩ (fun r w gc gs H locs hp B => ?_)
              obtain ⟨L2_34, tl2_35, z_36, z_37, rfl, hw9, rfl, rfl⟩ := hp
              rw [hw9] at B; clear hw9
              have B := bd_to (ws' := ([] ++ tl2_35)) rfl B
              have hPR : PR dI k (ibT T pl kd) (ibA A pl q_16 st9_18 wl9_19 tb9_20 (dI 99 1) (fun q : Int => if q = 0 then sa0_21 else if q = 1 then sa1_22 else if q = 2 then sa2_23 else if q = 3 then sa3_24 else if q = 4 then sa4_25 else if q = 5 then sa5_26 else if q = 6 then sa6_27 else 0) e2_29) (ibX X pl) (ibG G pl c2_30) (ibM Mc pl) Y O L2_34 C K cp tl2_35 := z_36
              have hT : TI dI k (ibT T pl kd) (ibA A pl q_16 st9_18 wl9_19 tb9_20 (dI 99 1) (fun q : Int => if q = 0 then sa0_21 else if q = 1 then sa1_22 else if q = 2 then sa2_23 else if q = 3 then sa3_24 else if q = 4 then sa4_25 else if q = 5 then sa5_26 else if q = 6 then sa6_27 else 0) e2_29) (ibX X pl) tl2_35 := PR_TI hPR
              refine lv_aload_n hx hb dX11_block_96 rfl (lv_at hl 0 rfl) ?_
              obtain ⟨k_38, hk_38⟩ := pk_at (hs := []) (show (((Y 0 0), .inr (11, [.ref (A 50 0 0), .ref (Y 1 0), .ref (Y 2 0), .int (iI (K 0 0)), .ref (Y 3 0)])) : Nat × va_E) ∈ tl2_35 from (PR_m hPR 0 0 rfl rfl))
              refine x_get (ci := 11) (C := RX11) (T := TX11) (N := 5) (v := .ref (A 50 0 0)) B k_38 hk_38 rfl in_X11 0 (by decide) mw_474 (fun _ h9 => h9) rfl dX11_block_97 ?_
              obtain ⟨k_39, hk_39⟩ := pk_at (hs := []) (show (((A 50 0 0), .inr (9, [.ref ((ibA A pl q_16 st9_18 wl9_19 tb9_20 (dI 99 1) (fun q : Int => if q = 0 then sa0_21 else if q = 1 then sa1_22 else if q = 2 then sa2_23 else if q = 3 then sa3_24 else if q = 4 then sa4_25 else if q = 5 then sa5_26 else if q = 6 then sa6_27 else 0) e2_29) 51 0 0), .ref ((ibA A pl q_16 st9_18 wl9_19 tb9_20 (dI 99 1) (fun q : Int => if q = 0 then sa0_21 else if q = 1 then sa1_22 else if q = 2 then sa2_23 else if q = 3 then sa3_24 else if q = 4 then sa4_25 else if q = 5 then sa5_26 else if q = 6 then sa6_27 else 0) e2_29) 52 0 0), .ref ((ibA A pl q_16 st9_18 wl9_19 tb9_20 (dI 99 1) (fun q : Int => if q = 0 then sa0_21 else if q = 1 then sa1_22 else if q = 2 then sa2_23 else if q = 3 then sa3_24 else if q = 4 then sa4_25 else if q = 5 then sa5_26 else if q = 6 then sa6_27 else 0) e2_29) 53 0 0), .ref ((ibA A pl q_16 st9_18 wl9_19 tb9_20 (dI 99 1) (fun q : Int => if q = 0 then sa0_21 else if q = 1 then sa1_22 else if q = 2 then sa2_23 else if q = 3 then sa3_24 else if q = 4 then sa4_25 else if q = 5 then sa5_26 else if q = 6 then sa6_27 else 0) e2_29) 54 0 0), .int (iI ((ibT T pl kd) 12 0 0 0)), .ref ((ibA A pl q_16 st9_18 wl9_19 tb9_20 (dI 99 1) (fun q : Int => if q = 0 then sa0_21 else if q = 1 then sa1_22 else if q = 2 then sa2_23 else if q = 3 then sa3_24 else if q = 4 then sa4_25 else if q = 5 then sa5_26 else if q = 6 then sa6_27 else 0) e2_29) 55 0 0), .int (iI ((ibT T pl kd) 16 0 0 0)), .int (iI ((ibT T pl kd) 17 0 0 0))])) : Nat × va_E) ∈ tl2_35 from hT.1.1)
              refine x_get (ci := 9) (C := RX9) (T := TX9) (N := 8) (v := .ref ((ibA A pl q_16 st9_18 wl9_19 tb9_20 (dI 99 1) (fun q : Int => if q = 0 then sa0_21 else if q = 1 then sa1_22 else if q = 2 then sa2_23 else if q = 3 then sa3_24 else if q = 4 then sa4_25 else if q = 5 then sa5_26 else if q = 6 then sa6_27 else 0) e2_29) 51 0 0)) B k_39 hk_39 rfl in_X9 0 (by decide) mw_78 (fun _ h9 => h9) rfl dX11_block_100 ?_
              have B := bd_swap (a := []) (b := []) (d := tl2_35) (bd_to rfl B)
              obtain ⟨k_40, fk_40, hk_40⟩ := LI_at (hs := []) hT.2.1
              refine k_V (rest := []) (wc := ([] ++ tl2_35)) (wr := []) (k_sizeB l dC dI k (ibT T pl kd) (ibA A pl q_16 st9_18 wl9_19 tb9_20 (dI 99 1) (fun q : Int => if q = 0 then sa0_21 else if q = 1 then sa1_22 else if q = 2 then sa2_23 else if q = 3 then sa3_24 else if q = 4 then sa4_25 else if q = 5 then sa5_26 else if q = 6 then sa6_27 else 0) e2_29) (ibX X pl) tl2_35 hT (TK_ibT hK (by omega) (by omega))) B mV_Jx4a65c_size_8abf5 mw_637 hl (q0 := k_40) (ci := 12) hk_40 rfl rfl ⟨Nat.le_of_ble_eq_true rfl, Nat.le_of_ble_eq_true rfl⟩ (Nat.le_of_ble_eq_true rfl) rfl dX11_block_103 ⟨by dsimp only; omega, by dsimp only; omega⟩ (fun r w gc gs H locs hp B => ?_)
              obtain ⟨z_41, rfl, hw9, rfl, rfl⟩ := hp
              rw [hw9] at B; clear hw9
              have B := bd_to (ws' := ([] ++ tl2_35)) rfl B
              have e_42 : (T 0 0 0 0 + 1) = ((ibT T pl kd) 0 0 0 0) := rfl
              skip
              exact vx_ret (k_iret B hr (⟨L2_34, q_16, st9_18, wl9_19, tb9_20, (fun q : Int => if q = 0 then sa0_21 else if q = 1 then sa1_22 else if q = 2 then sa2_23 else if q = 3 then sa3_24 else if q = 4 then sa4_25 else if q = 5 then sa5_26 else if q = 6 then sa6_27 else 0), e2_29, c2_30, 12, 109, tl2_35, hPR, z_37, (by omega), (by omega), (by omega), (by rw [e_42]), rfl, rfl, rfl⟩) ⟨(by first | omega | (dsimp only; omega)), (by first | omega | (dsimp only; omega))⟩ ⟨(by first | omega | (dsimp only; omega)), (by first | omega | (dsimp only; omega))⟩ dX11_block_106)
            · skip
              have B := bd_to (ws' := [(q_16, .inr (0, [.int (iI 0), .null, .null, .null]))] ++ ([] ++ tl)) rfl B
              refine k_I (rest := [.ref q_16, .int (iI pl), .ref (A 51 0 0)]) (wc := [(q_16, .inr (0, [.int (iI 0), .null, .null, .null]))]) (wr := ([] ++ tl)) (k_blockInitN l dC dI k q_16 kd (by omega)) B mI_X0_init mw_1131 hl ⟨Nat.le_of_ble_eq_true rfl, Nat.le_of_ble_eq_true rfl⟩ (Nat.le_of_ble_eq_true rfl) rfl dX11_block_86 ⟨by dsimp only; omega, by dsimp only; omega⟩ (fun r w gc gs H locs hp B => ?_)
              obtain ⟨st9_43, wl9_44, rfl, hw9, rfl, rfl⟩ := hp
              rw [hw9] at B; clear hw9
              have B := bd_swap (a := []) (b := tl) (d := [(q_16, .inr (0, [.int (iI kd), .ref st9_43, .ref wl9_44, .null])), (st9_43, .inl (k 0, 7, .inl (fun i9 : Nat => iI ((fun j9 : Int => nbV kd 2 j9 0) i9)))), (wl9_44, .inr (12, [.int (iI 0), .ref (dI 99 1), .int (iI 0)]))]) B
              have B := bd_to (ws' := ([(q_16, .inr (0, [.int (iI kd), .ref st9_43, .ref wl9_44, .null])), (st9_43, .inl (k 0, 7, .inl (fun i9 : Nat => iI ((fun j9 : Int => nbV kd 2 j9 0) i9)))), (wl9_44, .inr (12, [.int (iI 0), .ref (dI 99 1), .int (iI 0)]))] ++ tl)) rfl B
              have B := bd_swap (a := [(q_16, .inr (0, [.int (iI kd), .ref st9_43, .ref wl9_44, .null])), (st9_43, .inl (k 0, 7, .inl (fun i9 : Nat => iI ((fun j9 : Int => nbV kd 2 j9 0) i9)))), (wl9_44, .inr (12, [.int (iI 0), .ref (dI 99 1), .int (iI 0)]))]) (b := []) (d := tl) (bd_to rfl B)
              obtain ⟨k_45, fk_45, hk_45⟩ := LI_at (hs := [(q_16, .inr (0, [.int (iI kd), .ref st9_43, .ref wl9_44, .null])), (st9_43, .inl (k 0, 7, .inl (fun i9 : Nat => iI ((fun j9 : Int => nbV kd 2 j9 0) i9)))), (wl9_44, .inr (12, [.int (iI 0), .ref (dI 99 1), .int (iI 0)]))]) hT.2.1
              refine k_V (rest := []) (wc := ([(q_16, .inr (0, [.int (iI kd), .ref st9_43, .ref wl9_44, .null])), (st9_43, .inl (k 0, 7, .inl (fun i9 : Nat => iI ((fun j9 : Int => nbV kd 2 j9 0) i9)))), (wl9_44, .inr (12, [.int (iI 0), .ref (dI 99 1), .int (iI 0)]))] ++ tl)) (wr := []) (k_addBN l dC dI k T A X tl G Mc Y O L C K cp pl kd q_16 st9_43 wl9_44 hPR hK (by omega) zc_17) B mV_Jx4a65c_add_7a177 mw_846 hl (q0 := k_45) (ci := 12) hk_45 rfl rfl ⟨Nat.le_of_ble_eq_true rfl, Nat.le_of_ble_eq_true rfl⟩ (Nat.le_of_ble_eq_true rfl) rfl dX11_block_89 ⟨by dsimp only; omega, by dsimp only; omega⟩ (fun r w gc gs H locs hp B => ?_)
              obtain ⟨e2_46, c2_47, tl2_48, z_49, rfl, hw9, rfl, rfl⟩ := hp
              rw [hw9] at B; clear hw9
              have B := bd_to (ws' := ([] ++ tl2_48)) rfl B
              have hPR : PR dI k (ibT T pl kd) (ibA A pl q_16 st9_43 wl9_44 0 (dI 99 1) (fun _ : Int => (0 : Nat)) e2_46) (ibX X pl) (ibG G pl c2_47) (ibM Mc pl) Y O L C K cp tl2_48 := z_49
              have hT : TI dI k (ibT T pl kd) (ibA A pl q_16 st9_43 wl9_44 0 (dI 99 1) (fun _ : Int => (0 : Nat)) e2_46) (ibX X pl) tl2_48 := PR_TI hPR
              refine lv_aload_n hx hb dX11_block_92 rfl (lv_at hl 0 rfl) ?_
              have B := bd_swap (a := []) (b := []) (d := tl2_48) (bd_to rfl B)
              obtain ⟨k_50, hk_50⟩ := pk_at (hs := []) (show (((Y 0 0), .inr (11, [.ref (A 50 0 0), .ref (Y 1 0), .ref (Y 2 0), .int (iI (K 0 0)), .ref (Y 3 0)])) : Nat × va_E) ∈ tl2_48 from (PR_m hPR 0 0 rfl rfl))
              refine k_V (rest := []) (wc := ([] ++ tl2_48)) (wr := []) (k_forgetAll l dC dI k (ibT T pl kd) (ibA A pl q_16 st9_43 wl9_44 0 (dI 99 1) (fun _ : Int => (0 : Nat)) e2_46) (ibX X pl) tl2_48 (ibG G pl c2_47) (ibM Mc pl) Y O L C K cp z_49 (TK_ibT hK (by omega) (by omega))) B mV_X11_forgetLayouts mw_769 hl (q0 := k_50) (ci := 11) hk_50 rfl rfl ⟨Nat.le_of_ble_eq_true rfl, Nat.le_of_ble_eq_true rfl⟩ (Nat.le_of_ble_eq_true rfl) rfl dX11_block_93 ⟨by dsimp only; omega, by dsimp only; omega⟩ (fun r w gc gs H locs hp B => ?_)
              obtain ⟨L2_51, tl2_52, z_53, z_54, rfl, hw9, rfl, rfl⟩ := hp
              rw [hw9] at B; clear hw9
              have B := bd_to (ws' := ([] ++ tl2_52)) rfl B
              have hPR : PR dI k (ibT T pl kd) (ibA A pl q_16 st9_43 wl9_44 0 (dI 99 1) (fun _ : Int => (0 : Nat)) e2_46) (ibX X pl) (ibG G pl c2_47) (ibM Mc pl) Y O L2_51 C K cp tl2_52 := z_53
              have hT : TI dI k (ibT T pl kd) (ibA A pl q_16 st9_43 wl9_44 0 (dI 99 1) (fun _ : Int => (0 : Nat)) e2_46) (ibX X pl) tl2_52 := PR_TI hPR
              refine lv_aload_n hx hb dX11_block_96 rfl (lv_at hl 0 rfl) ?_
              obtain ⟨k_55, hk_55⟩ := pk_at (hs := []) (show (((Y 0 0), .inr (11, [.ref (A 50 0 0), .ref (Y 1 0), .ref (Y 2 0), .int (iI (K 0 0)), .ref (Y 3 0)])) : Nat × va_E) ∈ tl2_52 from (PR_m hPR 0 0 rfl rfl))
              refine x_get (ci := 11) (C := RX11) (T := TX11) (N := 5) (v := .ref (A 50 0 0)) B k_55 hk_55 rfl in_X11 0 (by decide) mw_474 (fun _ h9 => h9) rfl dX11_block_97 ?_
              obtain ⟨k_56, hk_56⟩ := pk_at (hs := []) (show (((A 50 0 0), .inr (9, [.ref ((ibA A pl q_16 st9_43 wl9_44 0 (dI 99 1) (fun _ : Int => (0 : Nat)) e2_46) 51 0 0), .ref ((ibA A pl q_16 st9_43 wl9_44 0 (dI 99 1) (fun _ : Int => (0 : Nat)) e2_46) 52 0 0), .ref ((ibA A pl q_16 st9_43 wl9_44 0 (dI 99 1) (fun _ : Int => (0 : Nat)) e2_46) 53 0 0), .ref ((ibA A pl q_16 st9_43 wl9_44 0 (dI 99 1) (fun _ : Int => (0 : Nat)) e2_46) 54 0 0), .int (iI ((ibT T pl kd) 12 0 0 0)), .ref ((ibA A pl q_16 st9_43 wl9_44 0 (dI 99 1) (fun _ : Int => (0 : Nat)) e2_46) 55 0 0), .int (iI ((ibT T pl kd) 16 0 0 0)), .int (iI ((ibT T pl kd) 17 0 0 0))])) : Nat × va_E) ∈ tl2_52 from hT.1.1)
              refine x_get (ci := 9) (C := RX9) (T := TX9) (N := 8) (v := .ref ((ibA A pl q_16 st9_43 wl9_44 0 (dI 99 1) (fun _ : Int => (0 : Nat)) e2_46) 51 0 0)) B k_56 hk_56 rfl in_X9 0 (by decide) mw_78 (fun _ h9 => h9) rfl dX11_block_100 ?_
              have B := bd_swap (a := []) (b := []) (d := tl2_52) (bd_to rfl B)
              obtain ⟨k_57, fk_57, hk_57⟩ := LI_at (hs := []) hT.2.1
              refine k_V (rest := []) (wc := ([] ++ tl2_52)) (wr := []) (k_sizeB l dC dI k (ibT T pl kd) (ibA A pl q_16 st9_43 wl9_44 0 (dI 99 1) (fun _ : Int => (0 : Nat)) e2_46) (ibX X pl) tl2_52 hT (TK_ibT hK (by omega) (by omega))) B mV_Jx4a65c_size_8abf5 mw_637 hl (q0 := k_57) (ci := 12) hk_57 rfl rfl ⟨Nat.le_of_ble_eq_true rfl, Nat.le_of_ble_eq_true rfl⟩ (Nat.le_of_ble_eq_true rfl) rfl dX11_block_103 ⟨by dsimp only; omega, by dsimp only; omega⟩ (fun r w gc gs H locs hp B => ?_)
              obtain ⟨z_58, rfl, hw9, rfl, rfl⟩ := hp
              rw [hw9] at B; clear hw9
              have B := bd_to (ws' := ([] ++ tl2_52)) rfl B
              have e_59 : (T 0 0 0 0 + 1) = ((ibT T pl kd) 0 0 0 0) := rfl
              skip
              exact vx_ret (k_iret B hr (⟨L2_51, q_16, st9_43, wl9_44, 0, (fun _ : Int => (0 : Nat)), e2_46, c2_47, 4, 54, tl2_52, hPR, z_54, (by omega), (by omega), (by omega), (by rw [e_59]), rfl, rfl, rfl⟩) ⟨(by first | omega | (dsimp only; omega)), (by first | omega | (dsimp only; omega))⟩ ⟨(by first | omega | (dsimp only; omega)), (by first | omega | (dsimp only; omega))⟩ dX11_block_106)
          · have zc_13 : 16 ≤ (T 0 0 0 0) := jnlt (a := (T 0 0 0 0)) (b := 16) (by omega) (by omega) c_13
            exact k_thrG (tx := "sixteen blocks are there") xE_ise (Or.inr (Or.inr (⟨(by omega), rfl, rfl, rfl, rfl⟩))) ⟨(by first | omega | (dsimp only; omega)), (by first | omega | (dsimp only; omega))⟩ hl0 B hex hl (by decide +kernel) dX11_block_63 dX11_block_66 dX11_block_67 dX11_block_69 dX11_block_72 ⟨(by first | exact Nat.le_of_ble_eq_true rfl | omega | (dsimp only; omega)), (by first | exact Nat.le_of_ble_eq_true rfl | omega | (dsimp only; omega)), (by first | omega | (dsimp only; omega)), (by first | omega | (dsimp only; omega))⟩ ⟨(by first | omega | (dsimp only; omega)), (by first | omega | (dsimp only; omega))⟩
        · have zc_8 : 6 < kd := jnle (a := kd) (b := 6) (by omega) (by omega) c_8
          exact k_thrG (tx := "no such kind") xE_iae (Or.inr (Or.inl (⟨(by omega), rfl, rfl, rfl, rfl⟩))) ⟨(by first | omega | (dsimp only; omega)), (by first | omega | (dsimp only; omega))⟩ hl0 B hex hl (by decide +kernel) dX11_block_38 dX11_block_41 dX11_block_42 dX11_block_44 dX11_block_47 ⟨(by first | exact Nat.le_of_ble_eq_true rfl | omega | (dsimp only; omega)), (by first | exact Nat.le_of_ble_eq_true rfl | omega | (dsimp only; omega)), (by first | omega | (dsimp only; omega)), (by first | omega | (dsimp only; omega))⟩ ⟨(by first | omega | (dsimp only; omega)), (by first | omega | (dsimp only; omega))⟩
    · have zc_6 : (T 0 0 0 0) < pl := jnle (a := pl) (b := (T 0 0 0 0)) (by omega) (by omega) c_6
      exact k_thrG (tx := "no such place") xE_ioobe (Or.inl (⟨(by omega), rfl, rfl, rfl, rfl⟩)) ⟨(by first | omega | (dsimp only; omega)), (by first | omega | (dsimp only; omega))⟩ hl0 B hex hl (by decide +kernel) dX11_block_18 dX11_block_21 dX11_block_22 dX11_block_24 dX11_block_27 ⟨(by first | exact Nat.le_of_ble_eq_true rfl | omega | (dsimp only; omega)), (by first | exact Nat.le_of_ble_eq_true rfl | omega | (dsimp only; omega)), (by first | omega | (dsimp only; omega)), (by first | omega | (dsimp only; omega))⟩ ⟨(by first | omega | (dsimp only; omega)), (by first | omega | (dsimp only; omega))⟩

end
