section
section GP1
variable {dI : Nat → Nat → Nat} {k : Nat → ClassId} {T T' : Nat → Int → Int → Int → Int} {A A' : Nat → Int → Int → Nat} {X X' : Nat → Int → Int → Int} {G G' : Nat → Int → Nat} {Mc Mc' : Nat → Int → Int} {Y : Nat → Int → Nat} {O O' : Nat → Nat} {L L' : Int → Nat → Int → Int} {C C' : Nat → Int → Int} {K K' : Nat → Int → Int} {cp cp' : Nat} {tl tx tx' : va_W} {v : Int}
/-- one word's gaps -/
def up8 (T : Nat → Int → Int → Int → Int) (i j g : Int) : Nat → Int → Int → Int → Int := fun c m => if c = 8 ∧ m = i then fun q r => if q = j then g else T 8 i q r else T c m
/-- the gaps of all words before word b of block a -/
noncomputable def gpT (T : Nat → Int → Int → Int → Int) (a b : Int) : Nat → Int → Int → Int → Int := fun c m => if c = 8 then fun q r => if 0 ≤ m ∧ m < T 0 0 0 0 ∧ 0 ≤ q ∧ q < T 3 m 0 0 ∧ (m < a ∨ (m = a ∧ q < b)) then gsZ T (fun x => T 5 m q x) ((Int.toNat (T 4 m q 0) : Nat) : Int) else T 8 m q r else T c m
section GP2
variable {i j g a b m : Int} {c : Nat}
theorem up8_n (h : ¬ (c = 8 ∧ m = i)) : up8 T i j g c m = T c m := if_neg h
theorem up8_8 : up8 T i j g 8 i = fun q r => if q = j then g else T 8 i q r := if_pos ⟨rfl, rfl⟩
theorem gpT_n (h : c ≠ 8) : gpT T a b c = T c := by funext m; exact if_neg h
theorem gpT_0 : gpT T 0 0 = T := by
  funext c m
  by_cases h : c = 8
  · subst h
    funext q r
    show (if 0 ≤ m ∧ m < T 0 0 0 0 ∧ 0 ≤ q ∧ q < T 3 m 0 0 ∧ (m < 0 ∨ (m = 0 ∧ q < 0)) then _ else _) = _
    rw [if_neg (by omega)]
  · rw [gpT_n h]
theorem gpT_next (h : T 3 a 0 0 ≤ b) : gpT T a b = gpT T (a + 1) 0 := by
  funext c m
  by_cases hc : c = 8
  · subst hc
    funext q r
    show (if 0 ≤ m ∧ m < T 0 0 0 0 ∧ 0 ≤ q ∧ q < T 3 m 0 0 ∧ (m < a ∨ (m = a ∧ q < b)) then _ else _) = (if 0 ≤ m ∧ m < T 0 0 0 0 ∧ 0 ≤ q ∧ q < T 3 m 0 0 ∧ (m < a + 1 ∨ (m = a + 1 ∧ q < 0)) then _ else _)
    by_cases e : m = a
    · subst e
      by_cases e2 : 0 ≤ m ∧ m < T 0 0 0 0 ∧ 0 ≤ q ∧ q < T 3 m 0 0
      · rw [if_pos (by omega), if_pos (by omega)]
      · rw [if_neg (by omega), if_neg (by omega)]
    · by_cases e2 : 0 ≤ m ∧ m < T 0 0 0 0 ∧ 0 ≤ q ∧ q < T 3 m 0 0 ∧ m < a
      · rw [if_pos (by omega), if_pos (by omega)]
      · rw [if_neg (by omega), if_neg (by omega)]
  · rw [gpT_n hc, gpT_n hc]
theorem gpT_step (h1 : 0 ≤ a ∧ a < T 0 0 0 0) (h2 : 0 ≤ b ∧ b < T 3 a 0 0) : up8 (gpT T a b) a b (gsZ T (fun x => T 5 a b x) ((Int.toNat (T 4 a b 0) : Nat) : Int)) = gpT T a (b + 1) := by
  funext c m
  by_cases hc : c = 8
  · subst hc
    by_cases e : m = a
    · subst e
      rw [up8_8]
      funext q r
      show (if q = b then _ else (if 0 ≤ m ∧ m < T 0 0 0 0 ∧ 0 ≤ q ∧ q < T 3 m 0 0 ∧ (m < m ∨ (m = m ∧ q < b)) then _ else _)) = (if 0 ≤ m ∧ m < T 0 0 0 0 ∧ 0 ≤ q ∧ q < T 3 m 0 0 ∧ (m < m ∨ (m = m ∧ q < b + 1)) then _ else _)
      by_cases e2 : q = b
      · subst e2
        rw [if_pos rfl, if_pos (by omega)]
      · rw [if_neg e2]
        by_cases e3 : 0 ≤ q ∧ q < T 3 m 0 0 ∧ q < b
        · rw [if_pos (by omega), if_pos (by omega)]
        · rw [if_neg (by omega), if_neg (by omega)]
    · rw [up8_n (by omega)]
      funext q r
      show (if 0 ≤ m ∧ m < T 0 0 0 0 ∧ 0 ≤ q ∧ q < T 3 m 0 0 ∧ (m < a ∨ (m = a ∧ q < b)) then _ else _) = (if 0 ≤ m ∧ m < T 0 0 0 0 ∧ 0 ≤ q ∧ q < T 3 m 0 0 ∧ (m < a ∨ (m = a ∧ q < b + 1)) then _ else _)
      by_cases e3 : 0 ≤ m ∧ m < T 0 0 0 0 ∧ 0 ≤ q ∧ q < T 3 m 0 0 ∧ m < a
      · rw [if_pos (by omega), if_pos (by omega)]
      · rw [if_neg (by omega), if_neg (by omega)]
  · rw [up8_n (by omega), gpT_n hc, gpT_n hc]
theorem stP_cg {q nl fr : Int} {f : Int → Int} (h : ∀ c, 17 < c → T' c = T c) : stP T' q f nl fr ↔ stP T q f nl fr := by
  unfold stP
  rw [h 19 (by omega), h 20 (by omega)]
theorem lvF_cg {nl gp : Int} {f : Int → Int} (h : ∀ c, 17 < c → T' c = T c) : ∀ n : Nat, lvF T' f nl gp n = lvF T f nl gp n
  | 0 => rfl
  | n + 1 => by
    have ep : (lvF T' f nl gp n < T' 22 (n : Int) 0 0 ∧ stP T' (n : Int) f nl (gp - T' 21 (n : Int) 0 0)) = (lvF T f nl gp n < T 22 (n : Int) 0 0 ∧ stP T (n : Int) f nl (gp - T 21 (n : Int) 0 0)) := by
      rw [lvF_cg h n, h 22 (by omega), h 21 (by omega)]
      exact propext (and_congr Iff.rfl (stP_cg h))
    show @ite _ _ (Classical.propDecidable _) _ _ = @ite _ _ (Classical.propDecidable _) _ _
    rw [ep, lvF_cg h n, h 22 (by omega)]
theorem gsF_cg {nl : Int} {f : Int → Int} (h : ∀ c, 17 < c → T' c = T c) : ∀ n : Nat, gsF T' f nl n = gsF T f nl n
  | 0 => rfl
  | n + 1 => by
    simp only [gsF, gsF_cg h n, lvZ, lvF_cg h, h 18 (by omega)]
theorem gsZ_cg {nl : Int} {f : Int → Int} (h : ∀ c, 17 < c → T' c = T c) : gsZ T' f nl = gsZ T f nl := gsF_cg h _
theorem woC_8n {q : Int} (e : ¬ q = j) : woC k (up8 T i j g) A i q = woC k T A i q := by
  unfold woC
  rw [up8_8, up8_n (c := 4) (by omega), up8_n (c := 5) (by omega), up8_n (c := 6) (by omega), up8_n (c := 7) (by omega)]
  simp only [if_neg e]
theorem woC_8 : woC k (up8 T i j g) A i j = [(((A 4 i j), .inr (10, [.ref (A 5 i j), .int (iI (T 6 i j 0)), .ref (A 6 i j), .int (iI g)])) : Nat × va_E)] ++ [(((A 5 i j), .inl (k 0, (Int.toNat (T 4 i j 0)), .inl (fun i9 : Nat => iI ((fun j9 : Int => T 5 i j j9) i9)))) : Nat × va_E), (((A 6 i j), .inl (k 0, 5, .inl (fun i9 : Nat => iI ((fun j9 : Int => T 7 i j j9) i9)))) : Nat × va_E)] := by
  unfold woC
  rw [up8_8, up8_n (c := 4) (by omega), up8_n (c := 5) (by omega), up8_n (c := 6) (by omega), up8_n (c := 7) (by omega)]
  simp only [if_true]
  rfl
theorem blC_8 : blC k (up8 T i j g) A X G Mc i = stH k T A i ++ ((lsC k (A 2 i 0) (A 3 i 0) (Mc 1 i) (T 3 i 0 0) (G 1 i) (fun j => A 4 i j) ++ (List.range (T 3 i 0 0).toNat).flatMap (fun q : Nat => woC k (up8 T i j g) A i q)) ++ (if T 1 i 0 0 = 3 then taC k T A X i else [])) := by
  rw [blC_split]
  unfold stH taC
  rw [up8_n (c := 1) (by omega), up8_n (c := 2) (by omega), up8_n (c := 3) (by omega), up8_n (c := 9) (by omega), up8_n (c := 10) (by omega), up8_n (c := 11) (by omega)]
/-- a word, taken out; put back with other gaps -/
theorem PR_wo (h : PR dI k T A X G Mc Y O L C K cp tl) (h1 : 0 ≤ i ∧ i < T 0 0 0 0) (h2 : 0 ≤ j ∧ j < T 3 i 0 0) : ∃ tr : va_W, tl.Perm ([(((A 4 i j), .inr (10, [.ref (A 5 i j), .int (iI (T 6 i j 0)), .ref (A 6 i j), .int (iI (T 8 i j 0))])) : Nat × va_E)] ++ tr) ∧ ∀ g : Int, PR dI k (up8 T i j g) A X G Mc Y O L C K cp ([(((A 4 i j), .inr (10, [.ref (A 5 i j), .int (iI (T 6 i j 0)), .ref (A 6 i j), .int (iI g)])) : Nat × va_E)] ++ tr) := by
  obtain ⟨tr, g1, g2⟩ := PR_bk h h1
  obtain ⟨rest, f1, f2⟩ := flat_at (f := fun q : Nat => woC k T A i q) (T 3 i 0 0).toNat j.toNat (by omega)
  have ej : ((j.toNat : Nat) : Int) = j := by omega
  refine ⟨[(((A 5 i j), .inl (k 0, (Int.toNat (T 4 i j 0)), .inl (fun i9 : Nat => iI ((fun j9 : Int => T 5 i j j9) i9)))) : Nat × va_E), (((A 6 i j), .inl (k 0, 5, .inl (fun i9 : Nat => iI ((fun j9 : Int => T 7 i j j9) i9)))) : Nat × va_E)] ++ (gCl k A Y K ++ (stH k T A i ++ (lsC k (A 2 i 0) (A 3 i 0) (Mc 1 i) (T 3 i 0 0) (G 1 i) (fun j => A 4 i j) ++ (rest ++ ((if T 1 i 0 0 = 3 then taC k T A X i else []) ++ tr))))), ?_, fun g => ?_⟩
  · refine g1.trans ?_
    rw [blC_split]
    rw [ej] at f1
    have e1 : woC k T A i j = [(((A 4 i j), .inr (10, [.ref (A 5 i j), .int (iI (T 6 i j 0)), .ref (A 6 i j), .int (iI (T 8 i j 0))])) : Nat × va_E)] ++ [(((A 5 i j), .inl (k 0, (Int.toNat (T 4 i j 0)), .inl (fun i9 : Nat => iI ((fun j9 : Int => T 5 i j j9) i9)))) : Nat × va_E), (((A 6 i j), .inl (k 0, 5, .inl (fun i9 : Nat => iI ((fun j9 : Int => T 7 i j j9) i9)))) : Nat × va_E)] := rfl
    rw [e1] at f1
    generalize [(((A 4 i j), .inr (10, [.ref (A 5 i j), .int (iI (T 6 i j 0)), .ref (A 6 i j), .int (iI (T 8 i j 0))])) : Nat × va_E)] = w1 at f1 ⊢
    generalize [(((A 5 i j), .inl (k 0, (Int.toNat (T 4 i j 0)), .inl (fun i9 : Nat => iI ((fun j9 : Int => T 5 i j j9) i9)))) : Nat × va_E), (((A 6 i j), .inl (k 0, 5, .inl (fun i9 : Nat => iI ((fun j9 : Int => T 7 i j j9) i9)))) : Nat × va_E)] = w2 at f1 ⊢
    have f3 := List.Perm.append_left (gCl k A Y K ++ (stH k T A i ++ lsC k (A 2 i 0) (A 3 i 0) (Mc 1 i) (T 3 i 0 0) (G 1 i) (fun j => A 4 i j))) (List.Perm.append_right ((if T 1 i 0 0 = 3 then taC k T A X i else []) ++ tr) f1)
    have f4 := List.perm_append_comm_assoc (gCl k A Y K ++ (stH k T A i ++ lsC k (A 2 i 0) (A 3 i 0) (Mc 1 i) (T 3 i 0 0) (G 1 i) (fun j => A 4 i j))) (w1 ++ w2) (rest ++ ((if T 1 i 0 0 = 3 then taC k T A X i else []) ++ tr))
    simp only [List.append_assoc] at f3 f4 ⊢
    exact f3.trans f4
  · have h6 := g2 K (up8 T i j g) A X G Mc (fun c m hc => if_neg (by omega)) (fun _ _ _ => rfl) (fun _ _ _ => rfl) (fun _ _ _ => rfl) (fun _ _ _ => rfl) (by rw [up8_n (by omega)]; exact h.2.1.2.2 i h1.1 h1.2)
    have f5 := f2 (fun q : Nat => woC k (up8 T i j g) A i q) (fun q a b => woC_8n (by omega))
    rw [ej, woC_8] at f5
    rw [blC_8] at h6
    refine ⟨List.Perm.trans ?_ h6.1, h6.2⟩
    generalize [(((A 4 i j), .inr (10, [.ref (A 5 i j), .int (iI (T 6 i j 0)), .ref (A 6 i j), .int (iI g)])) : Nat × va_E)] = w1 at f5 ⊢
    generalize [(((A 5 i j), .inl (k 0, (Int.toNat (T 4 i j 0)), .inl (fun i9 : Nat => iI ((fun j9 : Int => T 5 i j j9) i9)))) : Nat × va_E), (((A 6 i j), .inl (k 0, 5, .inl (fun i9 : Nat => iI ((fun j9 : Int => T 7 i j j9) i9)))) : Nat × va_E)] = w2 at f5 ⊢
    have f3 := List.Perm.append_left (gCl k A Y K ++ (stH k T A i ++ lsC k (A 2 i 0) (A 3 i 0) (Mc 1 i) (T 3 i 0 0) (G 1 i) (fun j => A 4 i j))) (List.Perm.append_right ((if T 1 i 0 0 = 3 then taC k T A X i else []) ++ tr) f5)
    have f4 := List.perm_append_comm_assoc (gCl k A Y K ++ (stH k T A i ++ lsC k (A 2 i 0) (A 3 i 0) (Mc 1 i) (T 3 i 0 0) (G 1 i) (fun j => A 4 i j))) (w1 ++ w2) (rest ++ ((if T 1 i 0 0 = 3 then taC k T A X i else []) ++ tr))
    simp only [List.append_assoc] at f3 f4 ⊢
    exact (f3.trans f4).symm
end GP2
end GP1

end
