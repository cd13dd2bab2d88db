section
section KNS
variable {l : Launch} {dC : Nat → ClassId} {dI : Nat → Nat → Nat} {k : Nat → ClassId} {y : MethodName} {c0 : Cond} {rm : Room} {av : List Value}
theorem va_P_r {D : va_G} {cl : List vw_C} {a b : va_W} {H : Heap} (h : va_P D cl (a ++ b) H) : va_P D cl b H := fun i q hq => h (a.length + i) q (by rw [List.getElem?_append_right (by omega)]; rw [show a.length + i - a.length = i by omega]; exact hq)
theorem va_D_r {A : Nat → Prop} {a b : va_W} (h : va_D A (a ++ b)) : va_D A b :=
  va_D_of (by have h2 := va_D_nd h; rw [List.map_append, List.nodup_append] at h2; exact h2.2.1) (fun q hq => by
    obtain ⟨j, hj⟩ := List.mem_iff_getElem?.mp (List.mem_append_right a hq)
    exact h.2 j q hj)
/-- what comes back, without some of it -/
theorem kn_sub {ws : va_W} {post post' : Option Value → va_W → Nat → Nat → Prop} (h : Kn l dC dI k y c0 rm av ws post) (hi : ∀ r w gc gs, post r w gc gs → ∃ v w', w.Perm (v ++ w') ∧ post' r w' gc gs) : Kn l dC dI k y c0 rm av ws post' := by
  intro sz
  refine MetFree.mono (h sz) (fun _ _ q => q) (fun _ _ _ _ _ q => q) (fun a st o t hp q => ?_)
  obtain ⟨⟨⟨r, w, gc, gs, h1, h2, h3, h4, h5⟩, hF⟩, hL⟩ := q
  obtain ⟨v, w', hw, h6⟩ := hi _ _ _ _ h2
  exact ⟨⟨⟨r, w', gc, gs, h1, h6, va_P_r (va_P_perm hw h3), va_D_r (va_D_perm hw h4), h5⟩, hF⟩, hL⟩
end KNS
section TK1
/-- places behind one taken out; before one put in -/
def rsh (a j : Int) : Int := if j < a then j else j + 1
def ish (a j : Int) : Int := if j < a then j else j - 1
theorem flat_rm {f : Nat → va_W} : ∀ n a : Nat, a ≤ n → ((List.range (n + 1)).flatMap f).Perm (f a ++ (List.range n).flatMap (fun j => f (if j < a then j else j + 1)))
  | 0, a, h => by
    have : a = 0 := by omega
    subst this
    exact List.Perm.refl _
  | n + 1, a, h => by
    by_cases e : a = n + 1
    · subst e
      rw [List.range_succ, List.flatMap_append]
      simp only [List.flatMap_cons, List.flatMap_nil, List.append_nil]
      rw [fm_congr (f := f) (g := fun j => f (if j < n + 1 then j else j + 1)) (List.range (n + 1)) (fun j hj => by have := List.mem_range.mp hj; simp only [if_pos this])]
      exact List.perm_append_comm
    · have ih := flat_rm (f := f) n a (by omega)
      simp only [List.range_succ, List.flatMap_append, List.flatMap_cons, List.flatMap_nil, List.append_nil] at ih ⊢
      rw [if_neg (by omega), ← List.append_assoc]
      exact ih.append_right _
variable {dI : Nat → Nat → Nat} {k : Nat → ClassId} {T T' : Nat → Int → Int → Int → Int} {A A' : Nat → Int → Int → Nat} {X X' : Nat → Int → Int → Int} {G G' : Nat → Int → Nat} {Mc Mc' : Nat → Int → Int} {Y : Nat → Int → Nat} {O O' : Nat → Nat} {L L' : Int → Nat → Int → Int} {C C' : Nat → Int → Int} {K K' : Nat → Int → Int} {cp cp' : Nat} {tl tx tx' : va_W} {v : Int}
theorem blC_split {i : Int} : blC k T A X G Mc i = stH k T A i ++ ((lsC k (A 2 i 0) (A 3 i 0) (Mc 1 i) (T 3 i 0 0) (G 1 i) (fun j => A 4 i j) ++ (List.range (T 3 i 0 0).toNat).flatMap (fun j : Nat => woC k T A i j)) ++ (if T 1 i 0 0 = 3 then taC k T A X i else [])) := by
  unfold blC blP stH
  simp only [List.append_assoc]
/-- a word taken out of a block -/
def tkT (T : Nat → Int → Int → Int → Int) (i a : Int) : Nat → Int → Int → Int → Int := fun c j => if 3 ≤ c ∧ c ≤ 8 ∧ j = i then (if c = 3 then fun _ _ => T 3 i 0 0 - 1 else fun q r => T c i (rsh a q) r) else T c j
def tkA (A : Nat → Int → Int → Nat) (i a : Int) (e2 : Nat) : Nat → Int → Int → Nat := fun c j => if 3 ≤ c ∧ c ≤ 6 ∧ j = i then (if c = 3 then fun _ => e2 else fun q => A c i (rsh a q)) else A c j
def upG (G : Nat → Int → Nat) (c0 : Nat) (i : Int) (n : Nat) : Nat → Int → Nat := fun c j => if c = c0 ∧ j = i then n else G c j
def upM (Mc : Nat → Int → Int) (c0 : Nat) (i : Int) (n : Int) : Nat → Int → Int := fun c j => if c = c0 ∧ j = i then n else Mc c j
section TK2
variable {i a : Int} {e2 : Nat} {c : Nat}
theorem tkT_n (h : c < 3 ∨ 8 < c) : tkT T i a c = T c := by funext j; exact if_neg (by omega)
theorem tkT_3 : tkT T i a 3 i = fun _ _ => T 3 i 0 0 - 1 := if_pos ⟨by omega, by omega, rfl⟩
theorem tkT_w (h : 4 ≤ c ∧ c ≤ 8) : tkT T i a c i = fun q r => T c i (rsh a q) r := (if_pos ⟨by omega, by omega, rfl⟩).trans (if_neg (by omega))
theorem tkA_n (h : c < 3 ∨ 6 < c) : tkA A i a e2 c = A c := by funext j; exact if_neg (by omega)
theorem tkA_3 : tkA A i a e2 3 i = fun _ => e2 := if_pos ⟨by omega, by omega, rfl⟩
theorem tkA_w (h : 4 ≤ c ∧ c ≤ 6) : tkA A i a e2 c i = fun q => A c i (rsh a q) := (if_pos ⟨by omega, by omega, rfl⟩).trans (if_neg (by omega))
theorem woC_tk (j : Int) : woC k (tkT T i a) (tkA A i a e2) i j = woC k T A i (rsh a j) := by
  unfold woC
  rw [tkT_w (c := 4) (by omega), tkT_w (c := 5) (by omega), tkT_w (c := 6) (by omega), tkT_w (c := 7) (by omega), tkT_w (c := 8) (by omega), tkA_w (c := 4) (by omega), tkA_w (c := 5) (by omega), tkA_w (c := 6) (by omega)]
theorem stH_tk : stH k (tkT T i a) (tkA A i a e2) i = stH k T A i := by
  unfold stH
  rw [tkT_n (c := 1) (by omega), tkT_n (c := 2) (by omega), tkA_n (c := 0) (by omega), tkA_n (c := 1) (by omega), tkA_n (c := 2) (by omega), tkA_n (c := 7) (by omega)]
theorem taC_tk : taC k (tkT T i a) (tkA A i a e2) X i = taC k T A X i := by
  unfold taC
  rw [tkT_n (c := 9) (by omega), tkT_n (c := 10) (by omega), tkT_n (c := 11) (by omega), tkA_n (c := 7) (by omega), tkA_n (c := 8) (by omega)]
end TK2
end TK1

theorem k_takeP (l : Launch) (dC : Nat → ClassId) (dI : Nat → Nat → Nat) (k : Nat → ClassId) (T : Nat → Int → Int → Int → Int) (A : Nat → Int → Int → Nat) (X : Nat → Int → Int → Int) (tl : va_W) (G : Nat → Int → Nat) (Mc : Nat → Int → Int) (Y : Nat → Int → Nat) (O : Nat → Nat) (L : Int → Nat → Int → Int) (C : Nat → Int → Int) (K : Nat → Int → Int) (cp : Nat) (i : Int) (at_ : Int) (hPR : PR dI k T A X G Mc Y O L C K cp tl) (hK : TK T) (hi : 0 ≤ i ∧ i < T 0 0 0 0) (h1 : 0 ≤ at_ ∧ at_ < T 3 i 0 0) : Kn l dC dI k yJx4a65c_remove_915e3 (.code yJx4a65c_remove_915e3 cJx4a65c_remove_915e3 4 (some (.object "java/lang/Object"))) ({ frames := 12, cells := 1, slots := 40, locals := 400 } : Room) [.ref (A 2 i 0), .int (iI at_)] ([] ++ tl) (fun r w gc gs => (∃ (e2 : Nat) (c2 : Nat) (tl2 : va_W), (PR dI k (tkT T i at_) (tkA A i at_ e2) X (upG G 1 i c2) (upM Mc 1 i (Mc 1 i + 1)) Y O L C K cp tl2) ∧ r = some (.ref (A 4 i at_)) ∧ w = ([] ++ tl2) ∧ gc = 1 ∧ gs = 40)) := by
  obtain ⟨tr, h2, h3⟩ := PR_bk hPR hi
  have ho := hPR.2.1.2.2 i hi.1 hi.2
  obtain ⟨rc, hc, hca⟩ : ∃ rc, classes[10]? = some rc ∧ (rc.1, "java/lang/Object") ∈ nCS := ⟨_, rfl, List.mem_of_getElem? (i := 2) rfl⟩
  have hz : tl.Perm (lsC k (A 2 i 0) (A 3 i 0) (Mc 1 i) (T 3 i 0 0) (G 1 i) (fun j => A 4 i j) ++ (gCl k A Y K ++ (stH k T A i ++ ((List.range (T 3 i 0 0).toNat).flatMap (fun j : Nat => woC k T A i j) ++ ((if T 1 i 0 0 = 3 then taC k T A X i else []) ++ tr))))) := by
    refine h2.trans ?_
    rw [blC_split]
    have h5 := List.perm_append_comm_assoc (gCl k A Y K ++ stH k T A i) (lsC k (A 2 i 0) (A 3 i 0) (Mc 1 i) (T 3 i 0 0) (G 1 i) (fun j => A 4 i j)) ((List.range (T 3 i 0 0).toNat).flatMap (fun j : Nat => woC k T A i j) ++ ((if T 1 i 0 0 = 3 then taC k T A X i else []) ++ tr))
    simpa only [List.append_assoc] using h5
  have hel : ∀ j : Int, 0 ≤ j → j < T 3 i 0 0 → ∃ fs : List Value, ((A 4 i j, .inr (10, fs)) : Nat × va_E) ∈ gCl k A Y K ++ (stH k T A i ++ ((List.range (T 3 i 0 0).toNat).flatMap (fun j : Nat => woC k T A i j) ++ ((if T 1 i 0 0 = 3 then taC k T A X i else []) ++ tr))) := by
    intro j g1 g2
    refine ⟨_, List.mem_append_right _ (List.mem_append_right _ (List.mem_append_left _ (mem_rg g1 g2 (e := (((A 4 i j), .inr (10, [.ref (A 5 i j), .int (iI (T 6 i j 0)), .ref (A 6 i j), .int (iI (T 8 i j 0))])) : Nat × va_E)) ?_)))⟩
    rw [show ((j.toNat : Nat) : Int) = j by omega]
    exact List.mem_cons_self
  have K0 := k_lsRem l dC dI k (A 2 i 0) (A 3 i 0) (G 1 i) (Mc 1 i) (T 3 i 0 0) (fun j => A 4 i j) 10 rc tl _ at_ hc hca hz ho hel h1
  refine kn_sub K0 ?_
  rintro r w gc gs ⟨e2, c2, hlo, hr, hw, hgc, hgs⟩
  have h6 := h3 K (tkT T i at_) (tkA A i at_ e2) X (upG G 1 i c2) (upM Mc 1 i (Mc 1 i + 1)) (fun c j hc => if_neg (by omega)) (fun c j hc => if_neg (by omega)) (fun _ _ _ => rfl) (fun c j hc => if_neg (by omega)) (fun c j hc => if_neg (by omega)) (by
    rw [tkT_3, tkA_3, show upG G 1 i c2 1 i = c2 from if_pos ⟨rfl, rfl⟩]
    exact hlo)
  refine ⟨woC k T A i at_, _, ?_, e2, c2, _, h6, hr, rfl, hgc, hgs⟩
  rw [hw, blC_split, stH_tk, taC_tk, tkT_3, tkA_3, show upG G 1 i c2 1 i = c2 from if_pos ⟨rfl, rfl⟩, show upM Mc 1 i (Mc 1 i + 1) 1 i = Mc 1 i + 1 from if_pos ⟨rfl, rfl⟩, tkT_n (c := 1) (by omega), tkA_n (c := 2) (by omega), tkA_w (c := 4) (by omega)]
  obtain ⟨m, hm⟩ : ∃ m : Nat, (T 3 i 0 0).toNat = m + 1 := ⟨(T 3 i 0 0).toNat - 1, by omega⟩
  have h7 := flat_rm (f := fun j : Nat => woC k T A i j) m at_.toNat (by omega)
  rw [← hm, show (((at_.toNat : Nat) : Int)) = at_ by omega] at h7
  have e8 : (List.range m).flatMap (fun j : Nat => woC k T A i (((if j < at_.toNat then j else j + 1 : Nat)) : Int)) = (List.range (T 3 i 0 0 - 1).toNat).flatMap (fun j : Nat => woC k (tkT T i at_) (tkA A i at_ e2) i j) := by
    rw [show (T 3 i 0 0 - 1).toNat = m by omega]
    refine fm_congr _ (fun j hj => ?_)
    rw [woC_tk]
    congr 1
    unfold rsh
    split <;> split <;> omega
  have h8 := h7
  rw [e8] at h8
  generalize (List.range (T 3 i 0 0 - 1).toNat).flatMap (fun j : Nat => woC k (tkT T i at_) (tkA A i at_ e2) i j) = W2 at h8 ⊢
  generalize (List.range (T 3 i 0 0).toNat).flatMap (fun j : Nat => woC k T A i j) = W1 at h8 ⊢
  generalize (if T 1 i 0 0 = 3 then taC k T A X i else []) = tx
  have e9 : lsC k (A 2 i 0) e2 (Mc 1 i + 1) (T 3 i 0 0 - 1) c2 (remL (fun j => A 4 i j) at_) = lsC k (A 2 i 0) e2 (Mc 1 i + 1) (T 3 i 0 0 - 1) c2 (fun j => A 4 i (rsh at_ j)) := by
    congr 1
    funext j
    unfold remL rsh
    split <;> rfl
  rw [e9]
  generalize lsC k (A 2 i 0) e2 (Mc 1 i + 1) (T 3 i 0 0 - 1) c2 (fun j => A 4 i (rsh at_ j)) = ls
  generalize woC k T A i at_ = wo at h8 ⊢
  generalize gCl k A Y K = g
  generalize stH k T A i = st
  have h9 : (ls ++ (g ++ (st ++ (W1 ++ (tx ++ tr))))).Perm (ls ++ (g ++ (st ++ ((wo ++ W2) ++ (tx ++ tr))))) := List.Perm.append_left _ (List.Perm.append_left _ (List.Perm.append_left _ (List.Perm.append_right _ h8)))
  refine h9.trans ?_
  have h10 := List.perm_append_comm_assoc (ls ++ (g ++ st)) wo (W2 ++ (tx ++ tr))
  simp only [List.append_assoc] at h10 ⊢
  refine h10.trans (List.Perm.append_left _ ?_)
  have h11 := List.perm_append_comm_assoc ls (g ++ st) (W2 ++ (tx ++ tr))
  simpa only [List.append_assoc, List.nil_append] using h11

end
