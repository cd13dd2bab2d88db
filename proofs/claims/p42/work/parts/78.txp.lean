section
/-- a list's cells: its object, and its array where there is one -/
def lsC (k : Nat → ClassId) (w0 e0 : Nat) (mc n : Int) (cap : Nat) (el : Int → Nat) : va_W :=
  ((w0, .inr (12, [.int (iI mc), .ref e0, .int (iI n)])) : Nat × va_E) :: (if cap = 0 then [] else [((e0, .inl (k 4, cap, .inr (.inr (.inr (.inr (fun i9 : Nat => if (i9 : Int) < n then some (el i9) else none)))))) : Nat × va_E)])
def taC (k : Nat → ClassId) (T : Nat → Int → Int → Int → Int) (A : Nat → Int → Int → Nat) (X : Nat → Int → Int → Int) (i : Int) : va_W := [(((A 7 i 0), .inr (8, [.ref (A 8 i 0), .ref (A 8 i 1), .ref (A 8 i 2), .ref (A 8 i 3), .ref (A 8 i 4), .ref (A 8 i 5), .ref (A 8 i 6)])) : Nat × va_E), (((A 8 i 0), .inl (k 0, 12, .inl (fun i9 : Nat => iI ((fun j9 : Int => T 9 i j9 0) i9)))) : Nat × va_E), (((A 8 i 1), .inl (k 0, 12, .inl (fun i9 : Nat => iI ((fun j9 : Int => T 10 i j9 0) i9)))) : Nat × va_E), (((A 8 i 2), .inl (k 0, 12, .inl (fun i9 : Nat => iI ((fun j9 : Int => T 11 i j9 0) i9)))) : Nat × va_E), (((A 8 i 3), .inl (k 0, 3, .inl (fun i9 : Nat => iI ((X 3 i) i9)))) : Nat × va_E), (((A 8 i 4), .inl (k 0, 3, .inl (fun i9 : Nat => iI ((X 4 i) i9)))) : Nat × va_E), (((A 8 i 5), .inl (k 0, 3, .inl (fun i9 : Nat => iI ((X 5 i) i9)))) : Nat × va_E), (((A 8 i 6), .inl (k 0, 3, .inl (fun i9 : Nat => iI ((X 6 i) i9)))) : Nat × va_E)]
def woC (k : Nat → ClassId) (T : Nat → Int → Int → Int → Int) (A : Nat → Int → Int → Nat) (i j : Int) : va_W := [(((A 4 i j), .inr (10, [.ref (A 5 i j), .int (iI (T 6 i j 0)), .ref (A 6 i j), .int (iI (T 8 i j 0))])) : Nat × va_E), (((A 5 i j), .inl (k 0, (Int.toNat (T 4 i j 0)), .inl (fun i9 : Nat => iI ((fun j9 : Int => T 5 i j j9) i9)))) : Nat × va_E), (((A 6 i j), .inl (k 0, 5, .inl (fun i9 : Nat => iI ((fun j9 : Int => T 7 i j j9) i9)))) : Nat × va_E)]
def blP (k : Nat → ClassId) (T : Nat → Int → Int → Int → Int) (A : Nat → Int → Int → Nat) (G : Nat → Int → Nat) (Mc : Nat → Int → Int) (i : Int) : va_W :=
  [(((A 0 i 0), .inr (0, [.int (iI (T 1 i 0 0)), .ref (A 1 i 0), .ref (A 2 i 0), va_rf (if T 1 i 0 0 = 3 then some (A 7 i 0) else none)])) : Nat × va_E), (((A 1 i 0), .inl (k 0, 7, .inl (fun i9 : Nat => iI ((fun j9 : Int => T 2 i j9 0) i9)))) : Nat × va_E)] ++ (lsC k (A 2 i 0) (A 3 i 0) (Mc 1 i) (T 3 i 0 0) (G 1 i) (fun j => A 4 i j) ++ (List.range (T 3 i 0 0).toNat).flatMap (fun j : Nat => woC k T A i j))
def blC (k : Nat → ClassId) (T : Nat → Int → Int → Int → Int) (A : Nat → Int → Int → Nat) (X : Nat → Int → Int → Int) (G : Nat → Int → Nat) (Mc : Nat → Int → Int) (i : Int) : va_W := blP k T A G Mc i ++ (if T 1 i 0 0 = 3 then taC k T A X i else [])
def paC (k : Nat → ClassId) (T : Nat → Int → Int → Int → Int) (A : Nat → Int → Int → Nat) (i : Int) : va_W := [(((A 15 i 0), .inr (5, [.ref (A 16 i 0), .int (iI (T 21 i 0 0)), .int (iI (T 22 i 0 0))])) : Nat × va_E), (((A 16 i 0), .inl (k 0, (Int.toNat (T 19 i 0 0)), .inl (fun i9 : Nat => iI ((fun j9 : Int => T 20 i j9 0) i9)))) : Nat × va_E)]
def hdC (k : Nat → ClassId) (T : Nat → Int → Int → Int → Int) (A : Nat → Int → Int → Nat) (G : Nat → Int → Nat) (Mc : Nat → Int → Int) : va_W :=
  [(((A 50 0 0), .inr (9, [.ref (A 51 0 0), .ref (A 52 0 0), .ref (A 53 0 0), .ref (A 54 0 0), .int (iI (T 12 0 0 0)), .ref (A 55 0 0), .int (iI (T 16 0 0 0)), .int (iI (T 17 0 0 0))])) : Nat × va_E), (((A 53 0 0), .inl (k 0, 5, .inl (fun i9 : Nat => iI ((fun j9 : Int => T 13 j9 0 0) i9)))) : Nat × va_E), (((A 54 0 0), .inl (k 0, 5, .inl (fun i9 : Nat => iI ((fun j9 : Int => T 14 j9 0 0) i9)))) : Nat × va_E), (((A 55 0 0), .inl (k 0, 8, .inl (fun i9 : Nat => iI ((fun j9 : Int => T 15 j9 0 0) i9)))) : Nat × va_E)] ++ (lsC k (A 51 0 0) (A 56 0 0) (Mc 0 0) (T 0 0 0 0) (G 0 0) (fun i => A 0 i 0) ++ lsC k (A 52 0 0) (A 57 0 0) (Mc 2 0) (T 18 0 0 0) (G 2 0) (fun i => A 15 i 0))
def ptC (k : Nat → ClassId) (T : Nat → Int → Int → Int → Int) (A : Nat → Int → Int → Nat) : va_W := (List.range (T 18 0 0 0).toNat).flatMap (fun i : Nat => paC k T A i)
def txC (k : Nat → ClassId) (T : Nat → Int → Int → Int → Int) (A : Nat → Int → Int → Nat) (X : Nat → Int → Int → Int) (G : Nat → Int → Nat) (Mc : Nat → Int → Int) : va_W :=
  hdC k T A G Mc ++ ((List.range (T 0 0 0 0).toNat).flatMap (fun i : Nat => blC k T A X G Mc i) ++ ptC k T A)
/-- what a list's array must be -/
def lsO (dI : Nat → Nat → Nat) (e0 : Nat) (n : Int) (cap : Nat) : Prop := 0 ≤ n ∧ n ≤ 16 ∧ n ≤ cap ∧ cap ≤ 40 ∧ (cap = 0 → e0 = dI 99 1)
def TXP (dI : Nat → Nat → Nat) (k : Nat → ClassId) (T : Nat → Int → Int → Int → Int) (A : Nat → Int → Int → Nat) (X : Nat → Int → Int → Int) (G : Nat → Int → Nat) (Mc : Nat → Int → Int) (tl : va_W) : Prop :=
  tl.Perm (txC k T A X G Mc) ∧ lsO dI (A 56 0 0) (T 0 0 0 0) (G 0 0) ∧ lsO dI (A 57 0 0) (T 18 0 0 0) (G 2 0) ∧ ∀ i : Int, 0 ≤ i → i < T 0 0 0 0 → lsO dI (A 3 i 0) (T 3 i 0 0) (G 1 i)

section TX1
variable {dI : Nat → Nat → Nat} {k : Nat → ClassId} {T : Nat → Int → Int → Int → Int} {A : Nat → Int → Int → Nat} {X X' : Nat → Int → Int → Int} {G : Nat → Int → Nat} {Mc : Nat → Int → Int} {tl : va_W}
theorem lsC_LI {w0 e0 : Nat} {mc n : Int} {cap : Nat} {el : Int → Nat} (ho : lsO dI e0 n cap) (h : ∀ e ∈ lsC k w0 e0 mc n cap el, e ∈ tl) : LI dI k tl w0 e0 n el := by
  obtain ⟨h1, h2, h3, h4, h5⟩ := ho
  refine ⟨h1, h2, mc, h _ List.mem_cons_self, ?_⟩
  by_cases e : cap = 0
  · exact Or.inl ⟨by omega, h5 e⟩
  · refine Or.inr ⟨cap, fun i => if i < n then some (el i) else none, ?_, h3, h4, fun j g1 g2 => if_pos g2⟩
    refine h _ (List.mem_cons_of_mem _ ?_)
    rw [if_neg e]
    exact List.mem_cons_self
theorem mem_rg {n : Int} {f : Nat → va_W} {i : Int} {e : Nat × va_E} (h1 : 0 ≤ i) (h2 : i < n) (h : e ∈ f i.toNat) : e ∈ (List.range n.toNat).flatMap f :=
  List.mem_flatMap.mpr ⟨i.toNat, List.mem_range.mpr (by omega), h⟩
theorem TXP_TI (h : TXP dI k T A X G Mc tl) : TI dI k T A X tl := by
  obtain ⟨hp, h0, h2, h1⟩ := h
  have hm : ∀ e, e ∈ txC k T A X G Mc → e ∈ tl := fun e he => hp.mem_iff.mpr he
  have hH : ∀ e, e ∈ hdC k T A G Mc → e ∈ tl := fun e he => hm e (List.mem_append_left _ he)
  have hB : ∀ i : Int, 0 ≤ i → i < T 0 0 0 0 → ∀ e, e ∈ blC k T A X G Mc i → e ∈ tl := fun i a b e he => hm e (List.mem_append_right _ (List.mem_append_left _ (mem_rg a b (by rw [show ((i.toNat : Nat) : Int) = i by omega]; exact he))))
  have hP : ∀ i : Int, 0 ≤ i → i < T 18 0 0 0 → ∀ e, e ∈ paC k T A i → e ∈ tl := fun i a b e he => hm e (List.mem_append_right _ (List.mem_append_right _ (mem_rg a b (by rw [show ((i.toNat : Nat) : Int) = i by omega]; exact he))))
  refine ⟨⟨hH _ ?_, hH _ ?_, hH _ ?_, hH _ ?_⟩, ?_, ?_, ?_, ?_, ?_, ?_⟩
  · exact List.mem_append_left _ (by simp)
  · exact List.mem_append_left _ (by simp)
  · exact List.mem_append_left _ (by simp)
  · exact List.mem_append_left _ (by simp)
  · exact lsC_LI h0 (fun e he => hH e (List.mem_append_right _ (List.mem_append_left _ he)))
  · exact lsC_LI h2 (fun e he => hH e (List.mem_append_right _ (List.mem_append_right _ he)))
  · intro i a b
    refine ⟨hB i a b _ (List.mem_append_left _ (List.mem_append_left _ (by simp))), hB i a b _ (List.mem_append_left _ (List.mem_append_left _ (by simp))), ?_⟩
    exact lsC_LI (h1 i a b) (fun e he => hB i a b e (List.mem_append_left _ (List.mem_append_right _ (List.mem_append_left _ he))))
  · intro i j a b c d
    have hW : ∀ e, e ∈ woC k T A i j → e ∈ tl := fun e he => hB i a b e (List.mem_append_left _ (List.mem_append_right _ (List.mem_append_right _ (mem_rg c d (by rw [show ((j.toNat : Nat) : Int) = j by omega]; exact he)))))
    exact ⟨hW _ (by simp [woC]), hW _ (by simp [woC]), hW _ (by simp [woC])⟩
  · intro i a b c
    have hT : ∀ e, e ∈ taC k T A X i → e ∈ tl := fun e he => hB i a b e (List.mem_append_right _ (by rw [if_pos c]; exact he))
    exact ⟨hT _ (by simp [taC]), hT _ (by simp [taC]), hT _ (by simp [taC]), hT _ (by simp [taC]), hT _ (by simp [taC]), hT _ (by simp [taC]), hT _ (by simp [taC]), hT _ (by simp [taC])⟩
  · intro i a b
    exact ⟨hP i a b _ (by simp [paC]), hP i a b _ (by simp [paC])⟩
theorem fm_congr {f g : Nat → va_W} : ∀ (l : List Nat), (∀ j ∈ l, g j = f j) → l.flatMap g = l.flatMap f
  | [], _ => rfl
  | a :: l, h => by
    rw [List.flatMap_cons, List.flatMap_cons, h a List.mem_cons_self, fm_congr l (fun j hj => h j (List.mem_cons_of_mem _ hj))]
/-- one of a row of runs, taken out -/
theorem flat_at {f : Nat → va_W} : ∀ (n i : Nat), i < n → ∃ rest : va_W, ((List.range n).flatMap f).Perm (f i ++ rest) ∧ ∀ g : Nat → va_W, (∀ j, j < n → j ≠ i → g j = f j) → ((List.range n).flatMap g).Perm (g i ++ rest)
  | 0, i, h => absurd h (by omega)
  | n + 1, i, h => by
    by_cases e : i = n
    · subst e
      refine ⟨(List.range i).flatMap f, ?_, fun g hg => ?_⟩
      · rw [List.range_succ, List.flatMap_append]
        simp only [List.flatMap_cons, List.flatMap_nil, List.append_nil]
        exact List.perm_append_comm
      · rw [List.range_succ, List.flatMap_append]
        simp only [List.flatMap_cons, List.flatMap_nil, List.append_nil]
        rw [show (List.range i).flatMap g = (List.range i).flatMap f from fm_congr _ (fun j hj => hg j (by have := List.mem_range.mp hj; omega) (by have := List.mem_range.mp hj; omega))]
        exact List.perm_append_comm
    · obtain ⟨rest, h1, h2⟩ := flat_at (f := f) n i (by omega)
      refine ⟨rest ++ f n, ?_, fun g hg => ?_⟩
      · rw [List.range_succ, List.flatMap_append]
        simp only [List.flatMap_cons, List.flatMap_nil, List.append_nil]
        rw [← List.append_assoc]
        exact h1.append_right _
      · rw [List.range_succ, List.flatMap_append]
        simp only [List.flatMap_cons, List.flatMap_nil, List.append_nil]
        rw [← List.append_assoc, hg n (by omega) (fun q => e q.symm)]
        exact (h2 g (fun j a b => hg j (by omega) b)).append_right _
theorem pm_out {H p t r q : va_W} : (H ++ (((p ++ t) ++ r) ++ q)).Perm (t ++ (H ++ ((p ++ r) ++ q))) := by
  have h := List.perm_append_comm_assoc (H ++ p) t (r ++ q)
  simpa only [List.append_assoc] using h
/-- a table's cells, taken out of the pool -/
theorem TXP_ta (h : TXP dI k T A X G Mc tl) {i : Int} (h1 : 0 ≤ i) (h2 : i < T 0 0 0 0) (h3 : T 1 i 0 0 = 3) : ∃ rest : va_W, tl.Perm (taC k T A X i ++ rest) ∧ ∀ X' : Nat → Int → Int → Int, (∀ q j, j ≠ i → X' q j = X q j) → TXP dI k T A X' G Mc (taC k T A X' i ++ rest) := by
  obtain ⟨hp, hr⟩ := h
  obtain ⟨rest, g1, g2⟩ := flat_at (f := fun i : Nat => blC k T A X G Mc i) (T 0 0 0 0).toNat i.toNat (by omega)
  have ei : ((i.toNat : Nat) : Int) = i := by omega
  have eb : ∀ Y : Nat → Int → Int → Int, blC k T A Y G Mc ((i.toNat : Nat) : Int) = blP k T A G Mc i ++ taC k T A Y i := fun Y => by
    rw [ei]
    unfold blC
    rw [if_pos h3]
  refine ⟨hdC k T A G Mc ++ ((blP k T A G Mc i ++ rest) ++ ptC k T A), ?_, fun X' hX => ⟨?_, hr⟩⟩
  · refine hp.trans ?_
    have h4 := ((g1.append_right (ptC k T A)).append_left (hdC k T A G Mc))
    refine h4.trans ?_
    rw [eb X]
    exact pm_out
  · have h5 := g2 (fun i : Nat => blC k T A X' G Mc i) (fun j a b => by
      have e : ∀ q, X' q ((j : Nat) : Int) = X q ((j : Nat) : Int) := fun q => hX q _ (by omega)
      simp only [blC, taC, e])
    have h6 := ((h5.append_right (ptC k T A)).append_left (hdC k T A G Mc))
    refine List.Perm.symm ?_
    refine h6.trans ?_
    rw [eb X']
    exact pm_out
end TX1

theorem k_measureT (l : Launch) (dC : Nat → ClassId) (dI : Nat → Nat → Nat) (k : Nat → ClassId) (T : Nat → Int → Int → Int → Int) (A : Nat → Int → Int → Nat) (X : Nat → Int → Int → Int) (tl : va_W) (G : Nat → Int → Nat) (Mc : Nat → Int → Int) (i : Int) (hTX : TXP dI k T A X G Mc tl) (hK : TK T) (hi : 0 ≤ i ∧ i < T 0 0 0 0) (hk3 : T 1 i 0 0 = 3) : Kn l dC dI k yX8_measure (.code yX8_measure cX8_measure 4 none) ({ frames := 2, cells := 0, slots := 0, locals := 65 } : Room) [.ref (A 7 i 0), .int (iI (T 16 0 0 0))] ([] ++ tl) (fun r w gc gs => (∃ (X2 : Nat → Int → Int → Int) (tl2 : va_W), (TXP dI k T A X2 G Mc tl2) ∧ (X2 6 i = (fitZ (msW (fun j9 : Int => T 9 i j9 0) (fun j9 : Int => T 10 i j9 0) 3) (msW (fun j9 : Int => T 9 i j9 0) (fun j9 : Int => T 11 i j9 0) 3) (T 16 0 0 0))) ∧ (Bd 0 1210001 (X2 6 i)) ∧ r = none ∧ w = ([] ++ tl2) ∧ gc = 0 ∧ gs = 0)) := by
  obtain ⟨rest, hp, hx⟩ := TXP_ta hTX hi.1 hi.2 hk3
  have hw := TK_wid hK
  have K := k_measure l dC dI k (A 7 i 0) (A 8 i 0) (A 8 i 1) (A 8 i 2) (A 8 i 3) (A 8 i 4) (A 8 i 5) (A 8 i 6) (fun j9 : Int => T 9 i j9 0) (fun j9 : Int => T 10 i j9 0) (fun j9 : Int => T 11 i j9 0) (X 3 i) (X 4 i) (X 5 i) (X 6 i) (T 16 0 0 0) (fun j => TK_span hK i j) (fun c9 => TK_spc hK i c9) (fun j => TK_least hK i j) (fun j => TK_best hK i j) (by omega)
  refine kn_perm hp ?_
  refine kn_post (kn_frame rest K) ?_
  rintro r w gc gs ⟨w1, ⟨hbd, hr, hw1, hgc, hgs⟩, hw⟩
  let X' : Nat → Int → Int → Int := fun q j => if j = i then (if q = 3 then (msW (fun j9 : Int => T 9 i j9 0) (fun j9 : Int => T 10 i j9 0) 3) else if q = 4 then (msW (fun j9 : Int => T 9 i j9 0) (fun j9 : Int => T 11 i j9 0) 3) else if q = 5 then wiF (msW (fun j9 : Int => T 9 i j9 0) (fun j9 : Int => T 10 i j9 0) 3) (msW (fun j9 : Int => T 9 i j9 0) (fun j9 : Int => T 11 i j9 0) 3) else if q = 6 then (fitZ (msW (fun j9 : Int => T 9 i j9 0) (fun j9 : Int => T 10 i j9 0) 3) (msW (fun j9 : Int => T 9 i j9 0) (fun j9 : Int => T 11 i j9 0) 3) (T 16 0 0 0)) else X q j) else X q j
  have e6 : X' 6 i = (fitZ (msW (fun j9 : Int => T 9 i j9 0) (fun j9 : Int => T 10 i j9 0) 3) (msW (fun j9 : Int => T 9 i j9 0) (fun j9 : Int => T 11 i j9 0) 3) (T 16 0 0 0)) := by first | (simp only [X', if_true]; done) | (simp only [X', if_true]; rfl)
  have e5 : X' 5 i = wiF (msW (fun j9 : Int => T 9 i j9 0) (fun j9 : Int => T 10 i j9 0) 3) (msW (fun j9 : Int => T 9 i j9 0) (fun j9 : Int => T 11 i j9 0) 3) := by first | (simp only [X', if_true]; done) | (simp only [X', if_true]; rfl)
  have e4 : X' 4 i = (msW (fun j9 : Int => T 9 i j9 0) (fun j9 : Int => T 11 i j9 0) 3) := by first | (simp only [X', if_true]; done) | (simp only [X', if_true]; rfl)
  have e3 : X' 3 i = (msW (fun j9 : Int => T 9 i j9 0) (fun j9 : Int => T 10 i j9 0) 3) := by first | (simp only [X', if_true]; done) | (simp only [X', if_true]; rfl)
  have hx2 := hx X' (fun q j hj => by simp only [X', if_neg hj])
  refine ⟨taC k T A X' i ++ rest, ?_, X', taC k T A X' i ++ rest, hx2, e6, by rw [e6]; exact hbd, hr, rfl, hgc, hgs⟩
  rw [hw, hw1]
  have et : taC k T A X' i = w1 := by rw [hw1]; unfold taC; rw [e3, e4, e5, e6]
  rw [← hw1, ← et]
  exact List.perm_append_comm

end
