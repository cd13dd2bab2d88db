section
section RB1
variable {dI : Nat → Nat → Nat} {k : Nat → ClassId} {T T' : Nat → Int → Int → Int → Int} {A A' : Nat → Int → Int → Nat} {X X' : Nat → Int → Int → Int} {G G' : Nat → Int → Nat} {Mc Mc' : Nat → Int → Int} {Y : Nat → Int → Nat} {O O' : Nat → Nat} {L L' : Int → Nat → Int → Int} {C C' : Nat → Int → Int} {K K' : Nat → Int → Int} {cp cp' : Nat} {tl tx tx' : va_W} {v : Int}
theorem txC_split : txC k T A X G Mc = heC k T A ++ ((lsC k (A 51 0 0) (A 56 0 0) (Mc 0 0) (T 0 0 0 0) (G 0 0) (fun i => A 0 i 0) ++ lsC k (A 52 0 0) (A 57 0 0) (Mc 2 0) (T 18 0 0 0) (G 2 0) (fun i => A 15 i 0)) ++ ((List.range (T 0 0 0 0).toNat).flatMap (fun i : Nat => blC k T A X G Mc i) ++ ptC k T A)) := by
  unfold txC hdC heC
  simp only [List.append_assoc]
/-- a block taken out -/
def rbT (T : Nat → Int → Int → Int → Int) (a : Int) : Nat → Int → Int → Int → Int := fun c j => if c = 0 then fun _ _ => T 0 0 0 0 - 1 else if c ≤ 11 then T c (rsh a j) else T c j
def rbA (A : Nat → Int → Int → Nat) (a : Int) (e2 : Nat) : Nat → Int → Int → Nat := fun c j => if c = 56 then fun _ => e2 else if c ≤ 8 then A c (rsh a j) else A c j
def rbX (X : Nat → Int → Int → Int) (a : Int) : Nat → Int → Int → Int := fun q j => X q (rsh a j)
def rbG (G : Nat → Int → Nat) (a : Int) (c2 : Nat) : Nat → Int → Nat := fun c j => if c = 0 then c2 else if c = 1 then G 1 (rsh a j) else G c j
def rbM (Mc : Nat → Int → Int) (a : Int) : Nat → Int → Int := fun c j => if c = 0 then Mc 0 0 + 1 else if c = 1 then Mc 1 (rsh a j) else Mc c j
section RB2
variable {a j : Int} {e2 c2 : Nat} {c : Nat}
theorem rbT_s (h : 1 ≤ c ∧ c ≤ 11) : rbT T a c j = T c (rsh a j) := (if_neg (by omega)).trans (if_pos (by omega))
theorem rbT_n (h : 11 < c) : rbT T a c = T c := by funext j; exact (if_neg (by omega)).trans (if_neg (by omega))
theorem rbT_0 : rbT T a 0 j = fun _ _ => T 0 0 0 0 - 1 := if_pos rfl
theorem rbA_s (h : c ≤ 8) : rbA A a e2 c j = A c (rsh a j) := (if_neg (by omega)).trans (if_pos (by omega))
theorem rbA_n (h : 8 < c ∧ c ≠ 56) : rbA A a e2 c = A c := by funext j; exact (if_neg (by omega)).trans (if_neg (by omega))
theorem rbA_56 : rbA A a e2 56 j = fun _ => e2 := if_pos rfl
theorem blC_rb : blC k (rbT T a) (rbA A a e2) (rbX X a) (rbG G a c2) (rbM Mc a) j = blC k T A X G Mc (rsh a j) := by
  unfold blC blP taC woC
  rw [rbT_s (c := 1) (by omega), rbT_s (c := 2) (by omega), rbT_s (c := 3) (by omega), rbT_s (c := 9) (by omega), rbT_s (c := 10) (by omega), rbT_s (c := 11) (by omega), rbA_s (c := 0) (by omega), rbA_s (c := 1) (by omega), rbA_s (c := 2) (by omega), rbA_s (c := 3) (by omega), rbA_s (c := 7) (by omega), rbA_s (c := 8) (by omega), show rbG G a c2 1 j = G 1 (rsh a j) from rfl, show rbM Mc a 1 j = Mc 1 (rsh a j) from rfl]
  simp only [rbT_s (c := 4) (show 1 ≤ 4 ∧ 4 ≤ 11 by omega), rbT_s (c := 5) (show 1 ≤ 5 ∧ 5 ≤ 11 by omega), rbT_s (c := 6) (show 1 ≤ 6 ∧ 6 ≤ 11 by omega), rbT_s (c := 7) (show 1 ≤ 7 ∧ 7 ≤ 11 by omega), rbT_s (c := 8) (show 1 ≤ 8 ∧ 8 ≤ 11 by omega), rbA_s (c := 4) (show 4 ≤ 8 by omega), rbA_s (c := 5) (show 5 ≤ 8 by omega), rbA_s (c := 6) (show 6 ≤ 8 by omega)]
  rfl
theorem heC_rb : heC k (rbT T a) (rbA A a e2) = heC k T A := by
  unfold heC
  rw [rbT_n (c := 12) (by omega), rbT_n (c := 13) (by omega), rbT_n (c := 14) (by omega), rbT_n (c := 15) (by omega), rbT_n (c := 16) (by omega), rbT_n (c := 17) (by omega), rbA_n (c := 50) (by omega), rbA_n (c := 51) (by omega), rbA_n (c := 52) (by omega), rbA_n (c := 53) (by omega), rbA_n (c := 54) (by omega), rbA_n (c := 55) (by omega)]
theorem ptC_rb : ptC k (rbT T a) (rbA A a e2) = ptC k T A := by
  unfold ptC paC
  rw [rbT_n (c := 18) (by omega), rbT_n (c := 19) (by omega), rbT_n (c := 20) (by omega), rbT_n (c := 21) (by omega), rbT_n (c := 22) (by omega), rbA_n (c := 15) (by omega), rbA_n (c := 16) (by omega)]
theorem txC_rb : txC k (rbT T a) (rbA A a e2) (rbX X a) (rbG G a c2) (rbM Mc a) = heC k T A ++ ((lsC k (A 51 0 0) e2 (Mc 0 0 + 1) (T 0 0 0 0 - 1) c2 (fun i => A 0 (rsh a i) 0) ++ lsC k (A 52 0 0) (A 57 0 0) (Mc 2 0) (T 18 0 0 0) (G 2 0) (fun i => A 15 i 0)) ++ ((List.range (T 0 0 0 0 - 1).toNat).flatMap (fun i : Nat => blC k T A X G Mc (rsh a i)) ++ ptC k T A)) := by
  rw [txC_split, heC_rb, ptC_rb, rbT_0, rbA_56, rbT_n (c := 18) (by omega), rbA_n (c := 51) (by omega), rbA_n (c := 52) (by omega), rbA_n (c := 57) (by omega), rbA_n (c := 15) (by omega), show rbG G a c2 0 0 = c2 from rfl, show rbM Mc a 0 0 = Mc 0 0 + 1 from rfl, show rbG G a c2 2 0 = G 2 0 from rfl, show rbM Mc a 2 0 = Mc 2 0 from rfl]
  simp only [blC_rb, rbA_s (c := 0) (show 0 ≤ 8 by omega)]
theorem TXP_rb (h : (lsO dI (A 56 0 0) (T 0 0 0 0) (G 0 0) ∧ lsO dI (A 57 0 0) (T 18 0 0 0) (G 2 0) ∧ ∀ i : Int, 0 ≤ i → i < T 0 0 0 0 → lsO dI (A 3 i 0) (T 3 i 0 0) (G 1 i))) (ha : 0 ≤ a ∧ a < T 0 0 0 0) (hlo : lsO dI e2 (T 0 0 0 0 - 1) c2) : TXP dI k (rbT T a) (rbA A a e2) (rbX X a) (rbG G a c2) (rbM Mc a) (txC k (rbT T a) (rbA A a e2) (rbX X a) (rbG G a c2) (rbM Mc a)) := by
  refine ⟨List.Perm.refl _, ?_, ?_, ?_⟩
  · rw [rbT_0, rbA_56]; exact hlo
  · rw [rbT_n (c := 18) (by omega), rbA_n (c := 57) (by omega)]; exact h.2.1
  · intro i h1 h2
    have h2 : i < T 0 0 0 0 - 1 := h2
    rw [rbT_s (c := 3) (by omega), rbA_s (c := 3) (by omega)]
    exact h.2.2 (rsh a i) (by unfold rsh; split <;> omega) (by unfold rsh; split <;> omega)
end RB2
end RB1

theorem k_remBP (l : Launch) (dC : Nat → ClassId) (dI : Nat → Nat → Nat) (k : Nat → ClassId) (T : Nat → Int → Int → Int → Int) (A : Nat → Int → Int → Nat) (X : Nat → Int → Int → Int) (tl : va_W) (G : Nat → Int → Nat) (Mc : Nat → Int → Int) (Y : Nat → Int → Nat) (O : Nat → Nat) (L : Int → Nat → Int → Int) (C : Nat → Int → Int) (K : Nat → Int → Int) (cp : Nat) (at_ : Int) (hPR : PR dI k T A X G Mc Y O L C K cp tl) (hK : TK T) (h1 : 0 ≤ at_ ∧ at_ < T 0 0 0 0) : Kn l dC dI k yJx4a65c_remove_915e3 (.code yJx4a65c_remove_915e3 cJx4a65c_remove_915e3 4 (some (.object "java/lang/Object"))) ({ frames := 12, cells := 1, slots := 40, locals := 400 } : Room) [.ref (A 51 0 0), .int (iI at_)] ([] ++ tl) (fun r w gc gs => (∃ (e2 : Nat) (c2 : Nat) (tl2 : va_W), (PR dI k (rbT T at_) (rbA A at_ e2) (rbX X at_) (rbG G at_ c2) (rbM Mc at_) Y O L C K cp tl2) ∧ r = some (.ref (A 0 at_ 0)) ∧ w = ([] ++ tl2) ∧ gc = 1 ∧ gs = 40)) := by
  obtain ⟨tr, h2, h3⟩ := PR_gtx hPR
  have ho := hPR.2.1.1
  obtain ⟨rc, hc, hca⟩ : ∃ rc, classes[0]? = some rc ∧ (rc.1, "java/lang/Object") ∈ nCS := ⟨_, rfl, List.mem_of_getElem? (i := 1) rfl⟩
  have hz : tl.Perm (lsC k (A 51 0 0) (A 56 0 0) (Mc 0 0) (T 0 0 0 0) (G 0 0) (fun i => A 0 i 0) ++ (gCl k A Y K ++ (heC k T A ++ (lsC k (A 52 0 0) (A 57 0 0) (Mc 2 0) (T 18 0 0 0) (G 2 0) (fun i => A 15 i 0) ++ ((List.range (T 0 0 0 0).toNat).flatMap (fun i : Nat => blC k T A X G Mc i) ++ (ptC k T A ++ tr)))))) := by
    refine h2.trans ?_
    rw [txC_split]
    have h5 := List.perm_append_comm_assoc (gCl k A Y K ++ heC k T A) (lsC k (A 51 0 0) (A 56 0 0) (Mc 0 0) (T 0 0 0 0) (G 0 0) (fun i => A 0 i 0)) (lsC k (A 52 0 0) (A 57 0 0) (Mc 2 0) (T 18 0 0 0) (G 2 0) (fun i => A 15 i 0) ++ ((List.range (T 0 0 0 0).toNat).flatMap (fun i : Nat => blC k T A X G Mc i) ++ (ptC k T A ++ tr)))
    simpa only [List.append_assoc] using h5
  have hel : ∀ j : Int, 0 ≤ j → j < T 0 0 0 0 → ∃ fs : List Value, ((A 0 j 0, .inr (0, fs)) : Nat × va_E) ∈ gCl k A Y K ++ (heC k T A ++ (lsC k (A 52 0 0) (A 57 0 0) (Mc 2 0) (T 18 0 0 0) (G 2 0) (fun i => A 15 i 0) ++ ((List.range (T 0 0 0 0).toNat).flatMap (fun i : Nat => blC k T A X G Mc i) ++ (ptC k T A ++ tr)))) := by
    intro j g1 g2
    refine ⟨_, List.mem_append_right _ (List.mem_append_right _ (List.mem_append_right _ (List.mem_append_left _ (mem_rg g1 g2 (e := (((A 0 j 0), .inr (0, [.int (iI (T 1 j 0 0)), .ref (A 1 j 0), .ref (A 2 j 0), va_rf (if T 1 j 0 0 = 3 then some (A 7 j 0) else none)])) : Nat × va_E)) ?_))))⟩
    rw [show ((j.toNat : Nat) : Int) = j by omega]
    exact List.mem_append_left _ (List.mem_append_left _ List.mem_cons_self)
  have K0 := k_lsRem l dC dI k (A 51 0 0) (A 56 0 0) (G 0 0) (Mc 0 0) (T 0 0 0 0) (fun j => A 0 j 0) 0 rc tl _ at_ hc hca hz ho hel h1
  refine kn_sub K0 ?_
  rintro r w gc gs ⟨e2, c2, hlo, hr, hw, hgc, hgs⟩
  have h6 := h3 K (rbT T at_) (rbA A at_ e2) (rbX X at_) (rbG G at_ c2) (rbM Mc at_) _ (TXP_rb hPR.2.1 h1 hlo) rfl
  refine ⟨blC k T A X G Mc at_, _, ?_, e2, c2, _, h6, hr, rfl, hgc, hgs⟩
  rw [hw, txC_rb]
  obtain ⟨m, hm⟩ : ∃ m : Nat, (T 0 0 0 0).toNat = m + 1 := ⟨(T 0 0 0 0).toNat - 1, by omega⟩
  have h7 := flat_rm (f := fun i : Nat => blC k T A X G Mc i) m at_.toNat (by omega)
  rw [← hm, show (((at_.toNat : Nat) : Int)) = at_ by omega] at h7
  have e8 : (List.range m).flatMap (fun j : Nat => blC k T A X G Mc (((if j < at_.toNat then j else j + 1 : Nat)) : Int)) = (List.range (T 0 0 0 0 - 1).toNat).flatMap (fun i : Nat => blC k T A X G Mc (rsh at_ i)) := by
    rw [show (T 0 0 0 0 - 1).toNat = m by omega]
    refine fm_congr _ (fun j hj => ?_)
    congr 1
    unfold rsh
    split <;> split <;> omega
  have h8 := h7
  rw [e8] at h8
  have e9 : lsC k (A 51 0 0) e2 (Mc 0 0 + 1) (T 0 0 0 0 - 1) c2 (remL (fun j => A 0 j 0) at_) = lsC k (A 51 0 0) e2 (Mc 0 0 + 1) (T 0 0 0 0 - 1) c2 (fun i => A 0 (rsh at_ i) 0) := by
    congr 1
    funext j
    unfold remL rsh
    split <;> rfl
  rw [e9]
  generalize (List.range (T 0 0 0 0 - 1).toNat).flatMap (fun i : Nat => blC k T A X G Mc (rsh at_ i)) = W2 at h8 ⊢
  generalize (List.range (T 0 0 0 0).toNat).flatMap (fun i : Nat => blC k T A X G Mc i) = W1 at h8 ⊢
  generalize lsC k (A 51 0 0) e2 (Mc 0 0 + 1) (T 0 0 0 0 - 1) c2 (fun i => A 0 (rsh at_ i) 0) = ls
  generalize lsC k (A 52 0 0) (A 57 0 0) (Mc 2 0) (T 18 0 0 0) (G 2 0) (fun i => A 15 i 0) = l2
  generalize blC k T A X G Mc at_ = wo at h8 ⊢
  generalize gCl k A Y K = g
  generalize heC k T A = st
  generalize ptC k T A = pt
  have h9 : (ls ++ (g ++ (st ++ (l2 ++ (W1 ++ (pt ++ tr)))))).Perm (ls ++ (g ++ (st ++ (l2 ++ ((wo ++ W2) ++ (pt ++ tr)))))) := List.Perm.append_left _ (List.Perm.append_left _ (List.Perm.append_left _ (List.Perm.append_left _ (List.Perm.append_right _ h8))))
  refine h9.trans ?_
  have h10 := List.perm_append_comm_assoc (ls ++ (g ++ (st ++ l2))) wo (W2 ++ (pt ++ tr))
  simp only [List.append_assoc] at h10 ⊢
  refine h10.trans (List.Perm.append_left _ ?_)
  have h11 := List.perm_append_comm_assoc ls (g ++ st) (l2 ++ (W2 ++ (pt ++ tr)))
  simpa only [List.append_assoc, List.nil_append] using h11

section TKR
variable {T : Nat → Int → Int → Int → Int}
theorem TK_rbT (hK : TK T) {a : Int} (h : 0 ≤ a ∧ a < T 0 0 0 0) : TK (rbT T a) := ⟨(by have q := TK_nb hK; show 0 ≤ T 0 0 0 0 - 1 ∧ T 0 0 0 0 - 1 ≤ 16; omega), (fun j => TK_kind (T := T) hK (rsh a j)), (fun j q => TK_sty (T := T) hK (rsh a j) q), (fun j => TK_ind (T := T) hK (rsh a j)), (fun j => TK_side (T := T) hK (rsh a j)), (fun j => TK_dep (T := T) hK (rsh a j)), (fun j => TK_nw (T := T) hK (rsh a j)), (fun j q => TK_len (T := T) hK (rsh a j) q), (fun j q r => TK_let (T := T) hK (rsh a j) q r), (fun j q => TK_lab (T := T) hK (rsh a j) q), (fun j q r => TK_mrk (T := T) hK (rsh a j) q r), (fun j q => TK_note (T := T) hK (rsh a j) q), (fun j q => TK_men (T := T) hK (rsh a j) q), (fun j q => TK_mlab (T := T) hK (rsh a j) q), (fun j q => TK_gap (T := T) hK (rsh a j) q), (fun j q => TK_span (T := T) hK (rsh a j) q), (fun j q => TK_least (T := T) hK (rsh a j) q), (fun j q => TK_best (T := T) hK (rsh a j) q), TK_fc (T := T) hK, TK_fk (T := T) hK, TK_fh (T := T) hK, TK_key (T := T) hK, TK_wid (T := T) hK, TK_hei (T := T) hK, TK_np (T := T) hK, TK_pl (T := T) hK, TK_plt (T := T) hK, TK_pg (T := T) hK, TK_plv (T := T) hK, (fun j q r => TK_gapb (T := T) hK (rsh a j) q r), (fun j => TK_hasw (T := T) hK (rsh a j)), (fun j q => TK_spc (T := T) hK (rsh a j) q), (fun j q => TK_wl (T := T) hK (rsh a j) q), (fun j q => TK_lst (T := T) hK (rsh a j) q)⟩
end TKR

theorem dX11_remove_0 : decode cX11_remove 0 = .ok (.aload_n 0, 1) := by decide +kernel
theorem dX11_remove_1 : decode cX11_remove 1 = .ok (.iload_n 1, 1) := by decide +kernel
theorem dX11_remove_2 : decode cX11_remove 2 = .ok (.invokevirtual 168, 3) := by decide +kernel
theorem dX11_remove_5 : decode cX11_remove 5 = .ok (.aload_n 0, 1) := by decide +kernel
theorem dX11_remove_6 : decode cX11_remove 6 = .ok (.getfield 12, 3) := by decide +kernel
theorem dX11_remove_9 : decode cX11_remove 9 = .ok (.getfield 153, 3) := by decide +kernel
theorem dX11_remove_12 : decode cX11_remove 12 = .ok (.iload_n 1, 1) := by decide +kernel
theorem dX11_remove_13 : decode cX11_remove 13 = .ok (.invokevirtual 149, 3) := by decide +kernel
theorem dX11_remove_16 : decode cX11_remove 16 = .ok (.pop, 1) := by decide +kernel
theorem dX11_remove_17 : decode cX11_remove 17 = .ok (.aload_n 0, 1) := by decide +kernel
theorem dX11_remove_18 : decode cX11_remove 18 = .ok (.invokevirtual 106, 3) := by decide +kernel
theorem dX11_remove_21 : decode cX11_remove 21 = .ok (.aload_n 0, 1) := by decide +kernel
theorem dX11_remove_22 : decode cX11_remove 22 = .ok (.getfield 12, 3) := by decide +kernel
theorem dX11_remove_25 : decode cX11_remove 25 = .ok (.getfield 153, 3) := by decide +kernel
theorem dX11_remove_28 : decode cX11_remove 28 = .ok (.invokevirtual 85, 3) := by decide +kernel
theorem dX11_remove_31 : decode cX11_remove 31 = .ok (.ireturn, 1) := by decide +kernel
set_option maxHeartbeats 4000000 in
set_option maxRecDepth 100000 in
theorem k_remove_ (l : Launch) (dC : Nat → ClassId) (dI : Nat → Nat → Nat) (k : Nat → ClassId) (hl0 : l.stackTraces = false) (T : Nat → Int → Int → Int → Int) (A : Nat → Int → Int → Nat) (X : Nat → Int → Int → Int) (tl : va_W) (G : Nat → Int → Nat) (Mc : Nat → Int → Int) (Y : Nat → Int → Nat) (O : Nat → Nat) (L : Int → Nat → Int → Int) (C : Nat → Int → Int) (K : Nat → Int → Int) (cp : Nat) (pl : Int) (hPR : PR dI k T A X G Mc Y O L C K cp tl) (hK : TK T) (hKK : KK T K) (hrpl : -2147483648 ≤ pl ∧ pl < 2147483648) : Kx l dC dI k yX11_remove (.code yX11_remove cX11_remove 2 (some .int)) ({ frames := 13, cells := 1, slots := 40, locals := 423 } : Room) [.ref (Y 0 0), .int (iI pl)] ([] ++ tl) (fun r w gc gs => (∃ (L2 : Int → Nat → Int → Int) (e2 : Nat) (c2 : Nat) (tl2 : va_W), (PR dI k (rbT T pl) (rbA A pl e2) (rbX X pl) (rbG G pl c2) (rbM Mc pl) Y O L2 C K cp tl2) ∧ ((0 ≤ pl ∧ pl < T 0 0 0 0)) ∧ (∀ u, 0 ≤ u → u ≤ 1 → LF (L2 u)) ∧ r = some (.int (iI (T 0 0 0 0 - 1))) ∧ w = ([] ++ tl2) ∧ gc = 1 ∧ gs = 40)) (fun E w gc gs => ((¬ (0 ≤ pl ∧ pl < T 0 0 0 0)) ∧ E = "java/lang/IndexOutOfBoundsException" ∧ w = ([] ++ tl) ∧ gc = 1 ∧ gs = 6)) := by
  refine kx_of (by decide) (Nat.le_of_ble_eq_true rfl) ?_
  intro p e s m args below meth c H locs B hr hex ls hl
  have hx := B.1.1
  have hb := B.1.2.1
  have hl : lv_has ls 2 [(0, .ref (Y 0 0)), (1, .int (iI pl))] := hl
  have hT := PR_TI hPR
  have hnb0 := TK_nb hK
  have hcp0 : 512 ≤ cp ∧ cp ≤ 131072 := by have q9 := hPR.2.2.2; unfold cpOk at q9; omega
  refine lv_aload_n hx hb dX11_remove_0 rfl (lv_at hl 0 rfl) ?_
  refine lv_iload_n hx hb dX11_remove_1 rfl (lv_at hl 1 rfl) ?_
  have B := bd_swap (a := []) (b := []) (d := tl) (bd_to rfl B)
  obtain ⟨k_1, hk_1⟩ := pk_at (hs := []) (show (((Y 0 0), .inr (11, [.ref (A 50 0 0), .ref (Y 1 0), .ref (Y 2 0), .int (iI (K 0 0)), .ref (Y 3 0)])) : Nat × va_E) ∈ tl from PR_m hPR 0 0 rfl rfl)
  refine k_Vx (rest := []) (wc := ([] ++ tl)) (wr := []) (k_checkBlock l dC dI k hl0 T A X tl G Mc Y O L C K cp pl hPR hK hrpl) B mV_X11_checkBlock mw_788 hl (q0 := k_1) (ci := 11) hk_1 rfl rfl ⟨Nat.le_of_ble_eq_true rfl, Nat.le_of_ble_eq_true rfl⟩ (Nat.le_of_ble_eq_true rfl) rfl dX11_remove_2 ⟨Nat.le_of_ble_eq_true rfl, Nat.le_of_ble_eq_true rfl⟩ (fun E ce q9 w gc gs H locs hp B h1 h2 h3 => ?_) (fun r w gc gs H locs hp B => ?_)
  · skip
    obtain ⟨z_2, rfl, hw9, rfl, rfl⟩ := hp
    rw [hw9] at B; clear hw9
    have B := bd_to (ws' := ([] ++ tl)) rfl B
    exact k_out hex (⟨z_2, rfl, rfl, rfl, rfl⟩) B h1 h2 h3 ⟨Nat.le_of_ble_eq_true rfl, Nat.le_of_ble_eq_true rfl⟩ ⟨Nat.le_of_ble_eq_true rfl, Nat.le_of_ble_eq_true rfl⟩
  · skip
    obtain ⟨z_3, rfl, hw9, rfl, rfl⟩ := hp
    rw [hw9] at B; clear hw9
    have B := bd_to (ws' := ([] ++ tl)) rfl B
    refine lv_aload_n hx hb dX11_remove_5 rfl (lv_at hl 0 rfl) ?_
    obtain ⟨k_4, hk_4⟩ := pk_at (hs := []) (show (((Y 0 0), .inr (11, [.ref (A 50 0 0), .ref (Y 1 0), .ref (Y 2 0), .int (iI (K 0 0)), .ref (Y 3 0)])) : Nat × va_E) ∈ tl from PR_m hPR 0 0 rfl rfl)
    refine x_get (ci := 11) (C := RX11) (T := TX11) (N := 5) (v := .ref (A 50 0 0)) B k_4 hk_4 rfl in_X11 0 (by decide) mw_474 (fun _ h9 => h9) rfl dX11_remove_6 ?_
    obtain ⟨k_5, hk_5⟩ := pk_at (hs := []) hT.1.1
    refine x_get (ci := 9) (C := RX9) (T := TX9) (N := 8) (v := .ref (A 51 0 0)) B k_5 hk_5 rfl in_X9 0 (by decide) mw_78 (fun _ h9 => h9) rfl dX11_remove_9 ?_
    refine lv_iload_n hx hb dX11_remove_12 rfl (lv_at hl 1 rfl) ?_
    have B := bd_swap (a := []) (b := []) (d := tl) (bd_to rfl B)
    obtain ⟨k_6, fk_6, hk_6⟩ := LI_at (hs := []) hT.2.1
    refine k_V (rest := []) (wc := ([] ++ tl)) (wr := []) (k_remBP l dC dI k T A X tl G Mc Y O L C K cp pl hPR hK z_3) B mV_Jx4a65c_remove_915e3 mw_1112 hl (q0 := k_6) (ci := 12) hk_6 rfl rfl ⟨Nat.le_of_ble_eq_true rfl, Nat.le_of_ble_eq_true rfl⟩ (Nat.le_of_ble_eq_true rfl) rfl dX11_remove_13 ⟨Nat.le_of_ble_eq_true rfl, Nat.le_of_ble_eq_true rfl⟩ (fun r w gc gs H locs hp B => ?_)
    obtain ⟨e2_7, c2_8, tl2_9, z_10, rfl, hw9, rfl, rfl⟩ := hp
    rw [hw9] at B; clear hw9
    have B := bd_to (ws' := ([] ++ tl2_9)) rfl B
    have hPR : PR dI k (rbT T pl) (rbA A pl e2_7) (rbX X pl) (rbG G pl c2_8) (rbM Mc pl) Y O L C K cp tl2_9 := z_10
    have hT : TI dI k (rbT T pl) (rbA A pl e2_7) (rbX X pl) tl2_9 := PR_TI hPR
    refine lv_pop hx hb dX11_remove_16 rfl ?_
    refine lv_aload_n hx hb dX11_remove_17 rfl (lv_at hl 0 rfl) ?_
    have B := bd_swap (a := []) (b := []) (d := tl2_9) (bd_to rfl B)
    obtain ⟨k_11, hk_11⟩ := pk_at (hs := []) (show (((Y 0 0), .inr (11, [.ref (A 50 0 0), .ref (Y 1 0), .ref (Y 2 0), .int (iI (K 0 0)), .ref (Y 3 0)])) : Nat × va_E) ∈ tl2_9 from (PR_m hPR 0 0 rfl rfl))
    refine k_V (rest := []) (wc := ([] ++ tl2_9)) (wr := []) (k_forgetAll l dC dI k (rbT T pl) (rbA A pl e2_7) (rbX X pl) tl2_9 (rbG G pl c2_8) (rbM Mc pl) Y O L C K cp z_10 (TK_rbT hK (by omega))) B mV_X11_forgetLayouts mw_769 hl (q0 := k_11) (ci := 11) hk_11 rfl rfl ⟨Nat.le_of_ble_eq_true rfl, Nat.le_of_ble_eq_true rfl⟩ (Nat.le_of_ble_eq_true rfl) rfl dX11_remove_18 ⟨Nat.le_of_ble_eq_true rfl, Nat.le_of_ble_eq_true rfl⟩ (fun r w gc gs H locs hp B => ?_)
    obtain ⟨L2_12, tl2_13, z_14, z_15, rfl, hw9, rfl, rfl⟩ := hp
    rw [hw9] at B; clear hw9
    have B := bd_to (ws' := ([] ++ tl2_13)) rfl B
    have hPR : PR dI k (rbT T pl) (rbA A pl e2_7) (rbX X pl) (rbG G pl c2_8) (rbM Mc pl) Y O L2_12 C K cp tl2_13 := z_14
    have hT : TI dI k (rbT T pl) (rbA A pl e2_7) (rbX X pl) tl2_13 := PR_TI hPR
    refine lv_aload_n hx hb dX11_remove_21 rfl (lv_at hl 0 rfl) ?_
    obtain ⟨k_16, hk_16⟩ := pk_at (hs := []) (show (((Y 0 0), .inr (11, [.ref (A 50 0 0), .ref (Y 1 0), .ref (Y 2 0), .int (iI (K 0 0)), .ref (Y 3 0)])) : Nat × va_E) ∈ tl2_13 from (PR_m hPR 0 0 rfl rfl))
    refine x_get (ci := 11) (C := RX11) (T := TX11) (N := 5) (v := .ref (A 50 0 0)) B k_16 hk_16 rfl in_X11 0 (by decide) mw_474 (fun _ h9 => h9) rfl dX11_remove_22 ?_
    obtain ⟨k_17, hk_17⟩ := pk_at (hs := []) (show (((A 50 0 0), .inr (9, [.ref ((rbA A pl e2_7) 51 0 0), .ref ((rbA A pl e2_7) 52 0 0), .ref ((rbA A pl e2_7) 53 0 0), .ref ((rbA A pl e2_7) 54 0 0), .int (iI ((rbT T pl) 12 0 0 0)), .ref ((rbA A pl e2_7) 55 0 0), .int (iI ((rbT T pl) 16 0 0 0)), .int (iI ((rbT T pl) 17 0 0 0))])) : Nat × va_E) ∈ tl2_13 from hT.1.1)
    refine x_get (ci := 9) (C := RX9) (T := TX9) (N := 8) (v := .ref ((rbA A pl e2_7) 51 0 0)) B k_17 hk_17 rfl in_X9 0 (by decide) mw_78 (fun _ h9 => h9) rfl dX11_remove_25 ?_
    have B := bd_swap (a := []) (b := []) (d := tl2_13) (bd_to rfl B)
    obtain ⟨k_18, fk_18, hk_18⟩ := LI_at (hs := []) hT.2.1
    refine k_V (rest := []) (wc := ([] ++ tl2_13)) (wr := []) (k_sizeB l dC dI k (rbT T pl) (rbA A pl e2_7) (rbX X pl) tl2_13 hT (TK_rbT hK (by omega))) B mV_Jx4a65c_size_8abf5 mw_637 hl (q0 := k_18) (ci := 12) hk_18 rfl rfl ⟨Nat.le_of_ble_eq_true rfl, Nat.le_of_ble_eq_true rfl⟩ (Nat.le_of_ble_eq_true rfl) rfl dX11_remove_28 ⟨Nat.le_of_ble_eq_true rfl, Nat.le_of_ble_eq_true rfl⟩ (fun r w gc gs H locs hp B => ?_)
    obtain ⟨z_19, rfl, hw9, rfl, rfl⟩ := hp
    rw [hw9] at B; clear hw9
    have B := bd_to (ws' := ([] ++ tl2_13)) rfl B
    have e_20 : (T 0 0 0 0 - 1) = ((rbT T pl) 0 0 0 0) := rfl
    skip
    exact vx_ret (k_iret B hr (⟨L2_12, e2_7, c2_8, tl2_13, hPR, (by omega), z_15, (by rw [e_20]), rfl, rfl, rfl⟩) ⟨Nat.le_of_ble_eq_true rfl, Nat.le_of_ble_eq_true rfl⟩ ⟨Nat.le_of_ble_eq_true rfl, Nat.le_of_ble_eq_true rfl⟩ dX11_remove_31)

end
