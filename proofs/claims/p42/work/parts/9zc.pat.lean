section
section AP1
variable {dI : Nat → Nat → Nat} {k : Nat → ClassId} {T T' : Nat → Int → Int → Int → Int} {A A' : Nat → Int → Int → Nat} {X X' : Nat → Int → Int → Int} {G G' : Nat → Int → Nat} {Mc Mc' : Nat → Int → Int} {Y : Nat → Int → Nat} {O O' : Nat → Nat} {L L' : Int → Nat → Int → Int} {C C' : Nat → Int → Int} {K K' : Nat → Int → Int} {cp cp' : Nat} {tl tx tx' : va_W} {v : Int}
/-- one more pattern -/
def apT (T : Nat → Int → Int → Int → Int) (nl : Nat) (fl : Int → Int) (gp lv_ : Int) : Nat → Int → Int → Int → Int := fun c j => if c = 18 then fun _ _ => T 18 0 0 0 + 1 else if 18 < c ∧ c < 23 ∧ j = T 18 0 0 0 then (if c = 19 then fun _ _ => (nl : Int) else if c = 20 then fun i _ => fl i else if c = 21 then fun _ _ => gp else fun _ _ => lv_) else T c j
def apA (A : Nat → Int → Int → Nat) (n : Int) (p9 le_ e2 : Nat) : Nat → Int → Int → Nat := fun c j => if c = 57 then fun _ => e2 else if 14 < c ∧ c < 17 ∧ j = n then (if c = 15 then fun _ => p9 else fun _ => le_) else A c j
section AP2
variable {nl : Nat} {fl : Int → Int} {gp lv_ n : Int} {p9 le_ e2 c2 : Nat} {c : Nat} {m2 : Int}
theorem apT_n (h : c < 18) : apT T nl fl gp lv_ c = T c := by funext j; exact (if_neg (by omega)).trans (if_neg (by omega))
theorem apT_o {j : Int} (h : c ≠ 18) (e : ¬ j = T 18 0 0 0) : apT T nl fl gp lv_ c j = T c j := (if_neg h).trans (if_neg (fun g => e g.2.2))
theorem apT_18 {j : Int} : apT T nl fl gp lv_ 18 j = fun _ _ => T 18 0 0 0 + 1 := if_pos rfl
theorem apT_19 : apT T nl fl gp lv_ 19 (T 18 0 0 0) = fun _ _ => (nl : Int) := (if_neg (by omega)).trans ((if_pos ⟨by omega, by omega, rfl⟩).trans (if_pos rfl))
theorem apT_20 : apT T nl fl gp lv_ 20 (T 18 0 0 0) = fun i _ => fl i := (if_neg (by omega)).trans ((if_pos ⟨by omega, by omega, rfl⟩).trans ((if_neg (by omega)).trans (if_pos rfl)))
theorem apT_21 : apT T nl fl gp lv_ 21 (T 18 0 0 0) = fun _ _ => gp := (if_neg (by omega)).trans ((if_pos ⟨by omega, by omega, rfl⟩).trans ((if_neg (by omega)).trans ((if_neg (by omega)).trans (if_pos rfl))))
theorem apT_22 : apT T nl fl gp lv_ 22 (T 18 0 0 0) = fun _ _ => lv_ := (if_neg (by omega)).trans ((if_pos ⟨by omega, by omega, rfl⟩).trans ((if_neg (by omega)).trans ((if_neg (by omega)).trans (if_neg (by omega)))))
theorem apA_n (h : c < 15 ∨ 16 < c) (h2 : c ≠ 57) : apA A n p9 le_ e2 c = A c := by funext j; exact (if_neg (by omega)).trans (if_neg (by omega))
theorem apA_o {j : Int} (h2 : c ≠ 57) (e : ¬ j = n) : apA A n p9 le_ e2 c j = A c j := (if_neg h2).trans (if_neg (fun g => e g.2.2))
theorem apA_57 {j : Int} : apA A n p9 le_ e2 57 j = fun _ => e2 := if_pos rfl
theorem apA_15 : apA A n p9 le_ e2 15 n = fun _ => p9 := (if_neg (by omega)).trans ((if_pos ⟨by omega, by omega, rfl⟩).trans (if_pos rfl))
theorem apA_16 : apA A n p9 le_ e2 16 n = fun _ => le_ := (if_neg (by omega)).trans ((if_pos ⟨by omega, by omega, rfl⟩).trans (if_neg (by omega)))
theorem blC_ap {i : Int} : blC k (apT T nl fl gp lv_) (apA A n p9 le_ e2) X (upG G 2 0 c2) (upM Mc 2 0 m2) i = blC k T A X G Mc i := by
  unfold blC blP taC woC
  rw [apT_n (c := 1) (by omega), apT_n (c := 2) (by omega), apT_n (c := 3) (by omega), apT_n (c := 4) (by omega), apT_n (c := 5) (by omega), apT_n (c := 6) (by omega), apT_n (c := 7) (by omega), apT_n (c := 8) (by omega), apT_n (c := 9) (by omega), apT_n (c := 10) (by omega), apT_n (c := 11) (by omega), apA_n (c := 0) (by omega) (by omega), apA_n (c := 1) (by omega) (by omega), apA_n (c := 2) (by omega) (by omega), apA_n (c := 3) (by omega) (by omega), apA_n (c := 4) (by omega) (by omega), apA_n (c := 5) (by omega) (by omega), apA_n (c := 6) (by omega) (by omega), apA_n (c := 7) (by omega) (by omega), apA_n (c := 8) (by omega) (by omega), show upG G 2 0 c2 1 i = G 1 i from if_neg (by omega), show upM Mc 2 0 m2 1 i = Mc 1 i from if_neg (by omega)]
theorem heC_ap : heC k (apT T nl fl gp lv_) (apA A n p9 le_ e2) = heC k T A := by
  unfold heC
  rw [apT_n (c := 12) (by omega), apT_n (c := 13) (by omega), apT_n (c := 14) (by omega), apT_n (c := 15) (by omega), apT_n (c := 16) (by omega), apT_n (c := 17) (by omega), apA_n (c := 50) (by omega) (by omega), apA_n (c := 51) (by omega) (by omega), apA_n (c := 52) (by omega) (by omega), apA_n (c := 53) (by omega) (by omega), apA_n (c := 54) (by omega) (by omega), apA_n (c := 55) (by omega) (by omega)]
theorem paC_ap {j : Int} (e : ¬ j = T 18 0 0 0) : paC k (apT T nl fl gp lv_) (apA A (T 18 0 0 0) p9 le_ e2) j = paC k T A j := by
  unfold paC
  rw [apT_o (c := 19) (by omega) e, apT_o (c := 20) (by omega) e, apT_o (c := 21) (by omega) e, apT_o (c := 22) (by omega) e, apA_o (c := 15) (by omega) e, apA_o (c := 16) (by omega) e]
theorem paC_apn : paC k (apT T nl fl gp lv_) (apA A (T 18 0 0 0) p9 le_ e2) (T 18 0 0 0) = [((p9, .inr (5, [.ref le_, .int (iI gp), .int (iI lv_)])) : Nat × va_E), ((le_, .inl (k 0, nl, .inl (fun i9 : Nat => iI (fl i9)))) : Nat × va_E)] := by
  unfold paC
  rw [apT_19, apT_20, apT_21, apT_22, apA_15, apA_16]
  rfl
theorem txC_ap : txC k (apT T nl fl gp lv_) (apA A (T 18 0 0 0) p9 le_ e2) X (upG G 2 0 c2) (upM Mc 2 0 m2) = heC k T A ++ ((lsC k (A 51 0 0) (A 56 0 0) (Mc 0 0) (T 0 0 0 0) (G 0 0) (fun i => A 0 i 0) ++ lsC k (A 52 0 0) e2 m2 (T 18 0 0 0 + 1) c2 (fun i => apA A (T 18 0 0 0) p9 le_ e2 15 i 0)) ++ ((List.range (T 0 0 0 0).toNat).flatMap (fun i : Nat => blC k T A X G Mc i) ++ ptC k (apT T nl fl gp lv_) (apA A (T 18 0 0 0) p9 le_ e2))) := by
  rw [txC_split, heC_ap, apT_n (c := 0) (by omega), apT_18, apA_57, apA_n (c := 0) (by omega) (by omega), apA_n (c := 51) (by omega) (by omega), apA_n (c := 52) (by omega) (by omega), apA_n (c := 56) (by omega) (by omega), show upG G 2 0 c2 2 0 = c2 from if_pos ⟨rfl, rfl⟩, show upM Mc 2 0 m2 2 0 = m2 from if_pos ⟨rfl, rfl⟩, show upG G 2 0 c2 0 0 = G 0 0 from if_neg (by omega), show upM Mc 2 0 m2 0 0 = Mc 0 0 from if_neg (by omega)]
  simp only [blC_ap]
theorem ptC_ap (hn : 0 ≤ T 18 0 0 0) : ptC k (apT T nl fl gp lv_) (apA A (T 18 0 0 0) p9 le_ e2) = ptC k T A ++ [((p9, .inr (5, [.ref le_, .int (iI gp), .int (iI lv_)])) : Nat × va_E), ((le_, .inl (k 0, nl, .inl (fun i9 : Nat => iI (fl i9)))) : Nat × va_E)] := by
  unfold ptC
  rw [apT_18, show (T 18 0 0 0 + 1).toNat = (T 18 0 0 0).toNat + 1 by omega, List.range_succ, List.flatMap_append]
  rw [fm_congr (f := fun i : Nat => paC k T A i) (g := fun i : Nat => paC k (apT T nl fl gp lv_) (apA A (T 18 0 0 0) p9 le_ e2) i) (List.range (T 18 0 0 0).toNat) (fun j hj => by have := List.mem_range.mp hj; exact paC_ap (by omega))]
  congr 1
  simp only [List.flatMap_cons, List.flatMap_nil, List.append_nil]
  rw [show (((T 18 0 0 0).toNat : Nat) : Int) = T 18 0 0 0 by omega]
  exact paC_apn
theorem TXP_ap (h : (lsO dI (A 56 0 0) (T 0 0 0 0) (G 0 0) ∧ lsO dI (A 57 0 0) (T 18 0 0 0) (G 2 0) ∧ ∀ i : Int, 0 ≤ i → i < T 0 0 0 0 → lsO dI (A 3 i 0) (T 3 i 0 0) (G 1 i))) (hlo : lsO dI e2 (T 18 0 0 0 + 1) c2) : TXP dI k (apT T nl fl gp lv_) (apA A n p9 le_ e2) X (upG G 2 0 c2) (upM Mc 2 0 m2) (txC k (apT T nl fl gp lv_) (apA A n p9 le_ e2) X (upG G 2 0 c2) (upM Mc 2 0 m2)) := by
  refine ⟨List.Perm.refl _, ?_, ?_, ?_⟩
  · rw [apT_n (c := 0) (by omega), apA_n (c := 56) (by omega) (by omega), show upG G 2 0 c2 0 0 = G 0 0 from if_neg (by omega)]; exact h.1
  · rw [apT_18, apA_57, show upG G 2 0 c2 2 0 = c2 from if_pos ⟨rfl, rfl⟩]; exact hlo
  · intro i h1 h2
    rw [apT_n (c := 0) (by omega)] at h2
    rw [apT_n (c := 3) (by omega), apA_n (c := 3) (by omega) (by omega), show upG G 2 0 c2 1 i = G 1 i from if_neg (by omega)]
    exact h.2.2 i h1 h2
end AP2
end AP1
section TKAP
variable {T : Nat → Int → Int → Int → Int}
theorem TK_apT (hK : TK T) {nl : Nat} {fl : Int → Int} {gp lv_ : Int} (h : nl ≤ 3 ∧ (∀ q, 0 ≤ fl q ∧ fl q ≤ 3) ∧ (0 ≤ gp ∧ gp ≤ 3) ∧ 0 ≤ lv_ ∧ lv_ ≤ 5) (h2 : T 18 0 0 0 < 8) : TK (apT T nl fl gp lv_) := ⟨TK_nb (T := T) hK, TK_kind (T := T) hK, TK_sty (T := T) hK, TK_ind (T := T) hK, TK_side (T := T) hK, TK_dep (T := T) hK, TK_nw (T := T) hK, TK_len (T := T) hK, TK_let (T := T) hK, TK_lab (T := T) hK, TK_mrk (T := T) hK, TK_note (T := T) hK, TK_men (T := T) hK, TK_mlab (T := T) hK, TK_gap (T := T) hK, TK_span (T := T) hK, TK_least (T := T) hK, TK_best (T := T) hK, TK_fc (T := T) hK, TK_fk (T := T) hK, TK_fh (T := T) hK, TK_key (T := T) hK, TK_wid (T := T) hK, TK_hei (T := T) hK, (by have q := TK_np hK; show 0 ≤ T 18 0 0 0 + 1 ∧ T 18 0 0 0 + 1 ≤ 8; omega), (fun j => by by_cases e : j = T 18 0 0 0; (rw [e, apT_19]; have q := h.1; dsimp only; omega); (rw [apT_o (by omega) e]; exact TK_pl hK j)), (fun j q => by by_cases e : j = T 18 0 0 0; (rw [e, apT_20]; exact h.2.1 q); (rw [apT_o (by omega) e]; exact TK_plt hK j q)), (fun j => by by_cases e : j = T 18 0 0 0; (rw [e, apT_21]; exact h.2.2.1); (rw [apT_o (by omega) e]; exact TK_pg hK j)), (fun j => by by_cases e : j = T 18 0 0 0; (rw [e, apT_22]; exact h.2.2.2); (rw [apT_o (by omega) e]; exact TK_plv hK j)), TK_gapb (T := T) hK, TK_hasw (T := T) hK, TK_spc (T := T) hK, TK_wl (T := T) hK, TK_lst (T := T) hK⟩
end TKAP

theorem k_addPP (l : Launch) (dC : Nat → ClassId) (dI : Nat → Nat → Nat) (k : Nat → ClassId) (T : Nat → Int → Int → Int → Int) (A : Nat → Int → Int → Nat) (X : Nat → Int → Int → Int) (tl : va_W) (G : Nat → Int → Nat) (Mc : Nat → Int → Int) (Y : Nat → Int → Nat) (O : Nat → Nat) (L : Int → Nat → Int → Int) (C : Nat → Int → Int) (K : Nat → Int → Int) (cp : Nat) (gp : Int) (lv_ : Int) (p9 : Nat) (le_ : Nat) (nl : Nat) (fl : Int → Int) (hPR : PR dI k T A X G Mc Y O L C K cp tl) (hK : TK T) (h1 : T 18 0 0 0 < 8) : Kn l dC dI k yJx4a65c_add_9ea2d (.code yJx4a65c_add_9ea2d cJx4a65c_add_9ea2d 2 (some .boolean)) ({ frames := 12, cells := 1, slots := 40, locals := 400 } : Room) [.ref (A 52 0 0), .ref p9] ([(p9, .inr (5, [.ref le_, .int (iI gp), .int (iI lv_)])), (le_, .inl (k 0, nl, .inl (fun i9 : Nat => iI (fl i9))))] ++ tl) (fun r w gc gs => (∃ (e2 : Nat) (c2 : Nat) (tl2 : va_W), (PR dI k (apT T nl fl gp lv_) (apA A (T 18 0 0 0) p9 le_ e2) X (upG G 2 0 c2) (upM Mc 2 0 (Mc 2 0 + 1)) Y O L C K cp tl2) ∧ r = some (.int (iI 1)) ∧ w = ([] ++ tl2) ∧ gc = 1 ∧ gs = 40)) := by
  obtain ⟨tr, h2, h3⟩ := PR_gtx hPR
  have ho := hPR.2.1.2.1
  have hnp := TK_np hK
  obtain ⟨rc, hc, hca⟩ : ∃ rc, classes[5]? = some rc ∧ (rc.1, "java/lang/Object") ∈ nCS := ⟨_, rfl, List.mem_of_getElem? (i := 3) rfl⟩
  have hz : ([((p9, .inr (5, [.ref le_, .int (iI gp), .int (iI lv_)])) : Nat × va_E), ((le_, .inl (k 0, nl, .inl (fun i9 : Nat => iI (fl i9)))) : Nat × va_E)] ++ tl).Perm (lsC k (A 52 0 0) (A 57 0 0) (Mc 2 0) (T 18 0 0 0) (G 2 0) (fun i => A 15 i 0) ++ ([((p9, .inr (5, [.ref le_, .int (iI gp), .int (iI lv_)])) : Nat × va_E), ((le_, .inl (k 0, nl, .inl (fun i9 : Nat => iI (fl i9)))) : Nat × va_E)] ++ (gCl k A Y K ++ (heC k T A ++ (lsC k (A 51 0 0) (A 56 0 0) (Mc 0 0) (T 0 0 0 0) (G 0 0) (fun i => A 0 i 0) ++ ((List.range (T 0 0 0 0).toNat).flatMap (fun i : Nat => blC k T A X G Mc i) ++ (ptC k T A ++ tr))))))) := by
    refine (List.Perm.append_left _ h2).trans ?_
    rw [txC_split]
    generalize [((p9, .inr (5, [.ref le_, .int (iI gp), .int (iI lv_)])) : Nat × va_E), ((le_, .inl (k 0, nl, .inl (fun i9 : Nat => iI (fl i9)))) : Nat × va_E)] = wo
    have h5 := List.perm_append_comm_assoc (wo ++ (gCl k A Y K ++ (heC k T A ++ lsC k (A 51 0 0) (A 56 0 0) (Mc 0 0) (T 0 0 0 0) (G 0 0) (fun i => A 0 i 0)))) (lsC k (A 52 0 0) (A 57 0 0) (Mc 2 0) (T 18 0 0 0) (G 2 0) (fun i => A 15 i 0)) ((List.range (T 0 0 0 0).toNat).flatMap (fun i : Nat => blC k T A X G Mc i) ++ (ptC k T A ++ tr))
    simpa only [List.append_assoc] using h5
  have K0 := k_lsAddE l dC dI k (A 52 0 0) (A 57 0 0) (G 2 0) (Mc 2 0) (T 18 0 0 0) (fun j => A 15 j 0) 5 rc ([((p9, .inr (5, [.ref le_, .int (iI gp), .int (iI lv_)])) : Nat × va_E), ((le_, .inl (k 0, nl, .inl (fun i9 : Nat => iI (fl i9)))) : Nat × va_E)] ++ tl) _ p9 _ hc hca hz ho ?hel List.mem_cons_self (by omega)
  case hel =>
    intro j g1 g2
    refine ⟨_, List.mem_append_right _ (List.mem_append_right _ (List.mem_append_right _ (List.mem_append_right _ (List.mem_append_right _ (List.mem_append_left _ (mem_rg g1 g2 (e := (((A 15 j 0), .inr (5, [.ref (A 16 j 0), .int (iI (T 21 j 0 0)), .int (iI (T 22 j 0 0))])) : Nat × va_E)) ?_))))))⟩
    rw [show ((j.toNat : Nat) : Int) = j by omega]
    exact List.mem_cons_self
  refine kn_post K0 ?_
  rintro r w gc gs ⟨e2, c2, hlo, hr, hw, hgc, hgs⟩
  have h6 := h3 K (apT T nl fl gp lv_) (apA A (T 18 0 0 0) p9 le_ e2) X (upG G 2 0 c2) (upM Mc 2 0 (Mc 2 0 + 1)) _ (TXP_ap hPR.2.1 hlo) rfl
  refine ⟨_, ?_, e2, c2, _, h6, hr, rfl, hgc, hgs⟩
  rw [hw, txC_ap, ptC_ap hnp.1]
  have e9 : lsC k (A 52 0 0) e2 (Mc 2 0 + 1) (T 18 0 0 0 + 1) c2 (insL (fun j => A 15 j 0) (T 18 0 0 0) p9) = lsC k (A 52 0 0) e2 (Mc 2 0 + 1) (T 18 0 0 0 + 1) c2 (fun i => (apA A (T 18 0 0 0) p9 le_ e2) 15 i 0) := by
    have e8 : (fun i9 : Nat => if (i9 : Int) < T 18 0 0 0 + 1 then some (insL (fun j => A 15 j 0) (T 18 0 0 0) p9 i9) else none) = (fun i9 : Nat => if (i9 : Int) < T 18 0 0 0 + 1 then some ((apA A (T 18 0 0 0) p9 le_ e2) 15 i9 0) else none) := by
      funext j
      by_cases e : (j : Int) < T 18 0 0 0 + 1
      · rw [if_pos e, if_pos e]
        congr 1
        by_cases e2 : (j : Int) = T 18 0 0 0
        · rw [e2, apA_15]
          unfold insL
          rw [if_neg (by omega), if_pos rfl]
        · rw [apA_o (by omega) e2]
          unfold insL
          rw [if_pos (by omega)]
      · rw [if_neg e, if_neg e]
    unfold lsC
    rw [e8]
  rw [e9]
  generalize lsC k (A 52 0 0) e2 (Mc 2 0 + 1) (T 18 0 0 0 + 1) c2 (fun i => (apA A (T 18 0 0 0) p9 le_ e2) 15 i 0) = ls
  generalize (List.range (T 0 0 0 0).toNat).flatMap (fun i : Nat => blC k T A X G Mc i) = W1
  generalize lsC k (A 51 0 0) (A 56 0 0) (Mc 0 0) (T 0 0 0 0) (G 0 0) (fun i => A 0 i 0) = l0
  generalize [((p9, .inr (5, [.ref le_, .int (iI gp), .int (iI lv_)])) : Nat × va_E), ((le_, .inl (k 0, nl, .inl (fun i9 : Nat => iI (fl i9)))) : Nat × va_E)] = wo
  generalize gCl k A Y K = g
  generalize heC k T A = st
  generalize ptC k T A = pt
  have h10 := List.perm_append_comm_assoc wo (g ++ (st ++ (l0 ++ (W1 ++ pt)))) tr
  have h11 := List.perm_append_comm_assoc ls (g ++ (st ++ l0)) (W1 ++ (pt ++ (wo ++ tr)))
  simp only [List.append_assoc, List.nil_append] at h10 h11 ⊢
  exact (List.Perm.append_left ls h10).trans h11

end
