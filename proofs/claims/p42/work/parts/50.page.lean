section
/-- bounds of the rows' numbers, as the text has them -/
def MK (M : Nat → Int → Int) : Prop :=
  (0 ≤ M 0 0 ∧ M 0 0 ≤ 768) ∧ (∀ j, 0 ≤ M 1 j ∧ M 1 j ≤ 200) ∧ (∀ j, 0 ≤ M 2 j ∧ M 2 j ≤ 15) ∧ (∀ j, 0 ≤ M 3 j ∧ M 3 j ≤ 47) ∧ (∀ j, 0 ≤ M 4 j ∧ M 4 j ≤ 1000) ∧ (∀ j, 0 ≤ M 5 j ∧ M 5 j ≤ 5) ∧ (∀ j, 0 ≤ M 6 j ∧ M 6 j ≤ 1) ∧ (∀ j, 0 ≤ M 7 j ∧ M 7 j ≤ 768) ∧ (∀ j, 0 ≤ M 8 j ∧ M 8 j ≤ 48) ∧ (∀ j, (-1) ≤ M 9 j ∧ M 9 j ≤ 767) ∧ (∀ j, (-1) ≤ M 10 j ∧ M 10 j ≤ 767) ∧ (∀ j, 0 ≤ M 11 j ∧ M 11 j ≤ 1) ∧ (∀ j, (-1) ≤ M 14 j ∧ M 14 j ≤ 767) ∧ (∀ j, 0 ≤ M 15 j ∧ M 15 j ≤ 191) ∧ (∀ j, 0 ≤ M 16 j ∧ M 16 j ≤ 4) ∧ (0 ≤ M 12 0 ∧ M 12 0 ≤ 16) ∧ (0 ≤ M 13 0 ∧ M 13 0 ≤ 8) ∧ (0 ≤ M 17 0 ∧ M 17 0 ≤ 5)
theorem MK_cnt {M : Nat → Int → Int} (h : MK M) : 0 ≤ M 0 0 ∧ M 0 0 ≤ 768 := h.1
theorem MK_1 {M : Nat → Int → Int} (h : MK M) : ∀ j, 0 ≤ M 1 j ∧ M 1 j ≤ 200 := h.2.1
theorem MK_2 {M : Nat → Int → Int} (h : MK M) : ∀ j, 0 ≤ M 2 j ∧ M 2 j ≤ 15 := h.2.2.1
theorem MK_3 {M : Nat → Int → Int} (h : MK M) : ∀ j, 0 ≤ M 3 j ∧ M 3 j ≤ 47 := h.2.2.2.1
theorem MK_4 {M : Nat → Int → Int} (h : MK M) : ∀ j, 0 ≤ M 4 j ∧ M 4 j ≤ 1000 := h.2.2.2.2.1
theorem MK_5 {M : Nat → Int → Int} (h : MK M) : ∀ j, 0 ≤ M 5 j ∧ M 5 j ≤ 5 := h.2.2.2.2.2.1
theorem MK_6 {M : Nat → Int → Int} (h : MK M) : ∀ j, 0 ≤ M 6 j ∧ M 6 j ≤ 1 := h.2.2.2.2.2.2.1
theorem MK_7 {M : Nat → Int → Int} (h : MK M) : ∀ j, 0 ≤ M 7 j ∧ M 7 j ≤ 768 := h.2.2.2.2.2.2.2.1
theorem MK_8 {M : Nat → Int → Int} (h : MK M) : ∀ j, 0 ≤ M 8 j ∧ M 8 j ≤ 48 := h.2.2.2.2.2.2.2.2.1
theorem MK_9 {M : Nat → Int → Int} (h : MK M) : ∀ j, (-1) ≤ M 9 j ∧ M 9 j ≤ 767 := h.2.2.2.2.2.2.2.2.2.1
theorem MK_10 {M : Nat → Int → Int} (h : MK M) : ∀ j, (-1) ≤ M 10 j ∧ M 10 j ≤ 767 := h.2.2.2.2.2.2.2.2.2.2.1
theorem MK_11 {M : Nat → Int → Int} (h : MK M) : ∀ j, 0 ≤ M 11 j ∧ M 11 j ≤ 1 := h.2.2.2.2.2.2.2.2.2.2.2.1
theorem MK_14 {M : Nat → Int → Int} (h : MK M) : ∀ j, (-1) ≤ M 14 j ∧ M 14 j ≤ 767 := h.2.2.2.2.2.2.2.2.2.2.2.2.1
theorem MK_15 {M : Nat → Int → Int} (h : MK M) : ∀ j, 0 ≤ M 15 j ∧ M 15 j ≤ 191 := h.2.2.2.2.2.2.2.2.2.2.2.2.2.1
theorem MK_16 {M : Nat → Int → Int} (h : MK M) : ∀ j, 0 ≤ M 16 j ∧ M 16 j ≤ 4 := h.2.2.2.2.2.2.2.2.2.2.2.2.2.2.1
theorem MK_12 {M : Nat → Int → Int} (h : MK M) : 0 ≤ M 12 0 ∧ M 12 0 ≤ 16 := h.2.2.2.2.2.2.2.2.2.2.2.2.2.2.2.1
theorem MK_13 {M : Nat → Int → Int} (h : MK M) : 0 ≤ M 13 0 ∧ M 13 0 ≤ 8 := h.2.2.2.2.2.2.2.2.2.2.2.2.2.2.2.2.1
theorem MK_17 {M : Nat → Int → Int} (h : MK M) : 0 ≤ M 17 0 ∧ M 17 0 ≤ 5 := h.2.2.2.2.2.2.2.2.2.2.2.2.2.2.2.2.2

/-- what stands in the arrays is what the text has, where it counts -/
def RA (nb : Int) (M V : Nat → Int → Int) : Prop :=
  (∀ j, 0 ≤ j → j < M 0 0 → V 1 j = M 1 j) ∧ (∀ j, 0 ≤ j → j < M 0 0 → V 2 j = M 2 j) ∧ (∀ j, 0 ≤ j → j < M 0 0 → V 3 j = M 3 j) ∧ (∀ j, 0 ≤ j → j < M 0 0 → V 4 j = M 4 j) ∧ (∀ j, 0 ≤ j → j < M 0 0 → V 5 j = M 5 j) ∧ (∀ j, 0 ≤ j → j < M 0 0 → V 6 j = M 6 j) ∧ (∀ j, 0 ≤ j → j < nb → V 7 j = M 7 j) ∧ (∀ j, 0 ≤ j → j < nb → V 8 j = M 8 j) ∧ (∀ j, 0 ≤ j → j < 192 → V 9 j = M 9 j) ∧ (∀ j, 0 ≤ j → j < 6 → V 10 j = M 10 j) ∧ (∀ j, 0 ≤ j → j < 8 → V 11 j = M 11 j) ∧ (∀ j, 0 ≤ j → j < 5 → V 14 j = M 14 j) ∧ (∀ j, 0 ≤ j → j < 5 → M 14 j ≠ -1 → V 15 j = M 15 j) ∧ (∀ j, 0 ≤ j → j < M 17 0 → V 16 j = M 16 j)
theorem RA_1 {nb : Int} {M V : Nat → Int → Int} (h : RA nb M V) : ∀ j, 0 ≤ j → j < M 0 0 → V 1 j = M 1 j := h.1
theorem RA_2 {nb : Int} {M V : Nat → Int → Int} (h : RA nb M V) : ∀ j, 0 ≤ j → j < M 0 0 → V 2 j = M 2 j := h.2.1
theorem RA_3 {nb : Int} {M V : Nat → Int → Int} (h : RA nb M V) : ∀ j, 0 ≤ j → j < M 0 0 → V 3 j = M 3 j := h.2.2.1
theorem RA_4 {nb : Int} {M V : Nat → Int → Int} (h : RA nb M V) : ∀ j, 0 ≤ j → j < M 0 0 → V 4 j = M 4 j := h.2.2.2.1
theorem RA_5 {nb : Int} {M V : Nat → Int → Int} (h : RA nb M V) : ∀ j, 0 ≤ j → j < M 0 0 → V 5 j = M 5 j := h.2.2.2.2.1
theorem RA_6 {nb : Int} {M V : Nat → Int → Int} (h : RA nb M V) : ∀ j, 0 ≤ j → j < M 0 0 → V 6 j = M 6 j := h.2.2.2.2.2.1
theorem RA_7 {nb : Int} {M V : Nat → Int → Int} (h : RA nb M V) : ∀ j, 0 ≤ j → j < nb → V 7 j = M 7 j := h.2.2.2.2.2.2.1
theorem RA_8 {nb : Int} {M V : Nat → Int → Int} (h : RA nb M V) : ∀ j, 0 ≤ j → j < nb → V 8 j = M 8 j := h.2.2.2.2.2.2.2.1
theorem RA_9 {nb : Int} {M V : Nat → Int → Int} (h : RA nb M V) : ∀ j, 0 ≤ j → j < 192 → V 9 j = M 9 j := h.2.2.2.2.2.2.2.2.1
theorem RA_10 {nb : Int} {M V : Nat → Int → Int} (h : RA nb M V) : ∀ j, 0 ≤ j → j < 6 → V 10 j = M 10 j := h.2.2.2.2.2.2.2.2.2.1
theorem RA_11 {nb : Int} {M V : Nat → Int → Int} (h : RA nb M V) : ∀ j, 0 ≤ j → j < 8 → V 11 j = M 11 j := h.2.2.2.2.2.2.2.2.2.2.1
theorem RA_14 {nb : Int} {M V : Nat → Int → Int} (h : RA nb M V) : ∀ j, 0 ≤ j → j < 5 → V 14 j = M 14 j := h.2.2.2.2.2.2.2.2.2.2.2.1
theorem RA_15 {nb : Int} {M V : Nat → Int → Int} (h : RA nb M V) : ∀ j, 0 ≤ j → j < 5 → M 14 j ≠ -1 → V 15 j = M 15 j := h.2.2.2.2.2.2.2.2.2.2.2.2.1
theorem RA_16 {nb : Int} {M V : Nat → Int → Int} (h : RA nb M V) : ∀ j, 0 ≤ j → j < M 17 0 → V 16 j = M 16 j := h.2.2.2.2.2.2.2.2.2.2.2.2.2

/-- the rows' cells in a pool -/
def RI (k : Nat → ClassId) (nb : Int) (M V : Nat → Int → Int) (Aw : Nat → Nat) (tl : va_W) : Prop :=
  (((Aw 20), .inr (6, [.int (iI (M 0 0)), .ref (Aw 1), .ref (Aw 2), .ref (Aw 3), .ref (Aw 4), .ref (Aw 5), .ref (Aw 6), .ref (Aw 7), .ref (Aw 8), .ref (Aw 9), .ref (Aw 10), .ref (Aw 11), .int (iI (M 12 0)), .int (iI (M 13 0)), .ref (Aw 14), .ref (Aw 15), .ref (Aw 16), .int (iI (M 17 0))])) ∈ tl) ∧ (((Aw 1), .inl (k 0, 768, .inl (fun i9 : Nat => iI ((V 1) i9)))) ∈ tl) ∧ (((Aw 2), .inl (k 0, 768, .inl (fun i9 : Nat => iI ((V 2) i9)))) ∈ tl) ∧ (((Aw 3), .inl (k 0, 768, .inl (fun i9 : Nat => iI ((V 3) i9)))) ∈ tl) ∧ (((Aw 4), .inl (k 0, 768, .inl (fun i9 : Nat => iI ((V 4) i9)))) ∈ tl) ∧ (((Aw 5), .inl (k 0, 768, .inl (fun i9 : Nat => iI ((V 5) i9)))) ∈ tl) ∧ (((Aw 6), .inl (k 1, 768, .inl (fun i9 : Nat => iI ((V 6) i9)))) ∈ tl) ∧ (((Aw 7), .inl (k 0, 16, .inl (fun i9 : Nat => iI ((V 7) i9)))) ∈ tl) ∧ (((Aw 8), .inl (k 0, 16, .inl (fun i9 : Nat => iI ((V 8) i9)))) ∈ tl) ∧ (((Aw 9), .inl (k 0, 192, .inl (fun i9 : Nat => iI ((V 9) i9)))) ∈ tl) ∧ (((Aw 10), .inl (k 0, 6, .inl (fun i9 : Nat => iI ((V 10) i9)))) ∈ tl) ∧ (((Aw 11), .inl (k 1, 8, .inl (fun i9 : Nat => iI ((V 11) i9)))) ∈ tl) ∧ (((Aw 14), .inl (k 0, 5, .inl (fun i9 : Nat => iI ((V 14) i9)))) ∈ tl) ∧ (((Aw 15), .inl (k 0, 5, .inl (fun i9 : Nat => iI ((V 15) i9)))) ∈ tl) ∧ (((Aw 16), .inl (k 0, 5, .inl (fun i9 : Nat => iI ((V 16) i9)))) ∈ tl) ∧ (RA nb M V)
theorem RI_o {k : Nat → ClassId} {nb : Int} {M V : Nat → Int → Int} {Aw : Nat → Nat} {tl : va_W} (h : RI k nb M V Aw tl) : ((Aw 20), .inr (6, [.int (iI (M 0 0)), .ref (Aw 1), .ref (Aw 2), .ref (Aw 3), .ref (Aw 4), .ref (Aw 5), .ref (Aw 6), .ref (Aw 7), .ref (Aw 8), .ref (Aw 9), .ref (Aw 10), .ref (Aw 11), .int (iI (M 12 0)), .int (iI (M 13 0)), .ref (Aw 14), .ref (Aw 15), .ref (Aw 16), .int (iI (M 17 0))])) ∈ tl := h.1
theorem RI_1 {k : Nat → ClassId} {nb : Int} {M V : Nat → Int → Int} {Aw : Nat → Nat} {tl : va_W} (h : RI k nb M V Aw tl) : ((Aw 1), .inl (k 0, 768, .inl (fun i9 : Nat => iI ((V 1) i9)))) ∈ tl := h.2.1
theorem RI_2 {k : Nat → ClassId} {nb : Int} {M V : Nat → Int → Int} {Aw : Nat → Nat} {tl : va_W} (h : RI k nb M V Aw tl) : ((Aw 2), .inl (k 0, 768, .inl (fun i9 : Nat => iI ((V 2) i9)))) ∈ tl := h.2.2.1
theorem RI_3 {k : Nat → ClassId} {nb : Int} {M V : Nat → Int → Int} {Aw : Nat → Nat} {tl : va_W} (h : RI k nb M V Aw tl) : ((Aw 3), .inl (k 0, 768, .inl (fun i9 : Nat => iI ((V 3) i9)))) ∈ tl := h.2.2.2.1
theorem RI_4 {k : Nat → ClassId} {nb : Int} {M V : Nat → Int → Int} {Aw : Nat → Nat} {tl : va_W} (h : RI k nb M V Aw tl) : ((Aw 4), .inl (k 0, 768, .inl (fun i9 : Nat => iI ((V 4) i9)))) ∈ tl := h.2.2.2.2.1
theorem RI_5 {k : Nat → ClassId} {nb : Int} {M V : Nat → Int → Int} {Aw : Nat → Nat} {tl : va_W} (h : RI k nb M V Aw tl) : ((Aw 5), .inl (k 0, 768, .inl (fun i9 : Nat => iI ((V 5) i9)))) ∈ tl := h.2.2.2.2.2.1
theorem RI_6 {k : Nat → ClassId} {nb : Int} {M V : Nat → Int → Int} {Aw : Nat → Nat} {tl : va_W} (h : RI k nb M V Aw tl) : ((Aw 6), .inl (k 1, 768, .inl (fun i9 : Nat => iI ((V 6) i9)))) ∈ tl := h.2.2.2.2.2.2.1
theorem RI_7 {k : Nat → ClassId} {nb : Int} {M V : Nat → Int → Int} {Aw : Nat → Nat} {tl : va_W} (h : RI k nb M V Aw tl) : ((Aw 7), .inl (k 0, 16, .inl (fun i9 : Nat => iI ((V 7) i9)))) ∈ tl := h.2.2.2.2.2.2.2.1
theorem RI_8 {k : Nat → ClassId} {nb : Int} {M V : Nat → Int → Int} {Aw : Nat → Nat} {tl : va_W} (h : RI k nb M V Aw tl) : ((Aw 8), .inl (k 0, 16, .inl (fun i9 : Nat => iI ((V 8) i9)))) ∈ tl := h.2.2.2.2.2.2.2.2.1
theorem RI_9 {k : Nat → ClassId} {nb : Int} {M V : Nat → Int → Int} {Aw : Nat → Nat} {tl : va_W} (h : RI k nb M V Aw tl) : ((Aw 9), .inl (k 0, 192, .inl (fun i9 : Nat => iI ((V 9) i9)))) ∈ tl := h.2.2.2.2.2.2.2.2.2.1
theorem RI_10 {k : Nat → ClassId} {nb : Int} {M V : Nat → Int → Int} {Aw : Nat → Nat} {tl : va_W} (h : RI k nb M V Aw tl) : ((Aw 10), .inl (k 0, 6, .inl (fun i9 : Nat => iI ((V 10) i9)))) ∈ tl := h.2.2.2.2.2.2.2.2.2.2.1
theorem RI_11 {k : Nat → ClassId} {nb : Int} {M V : Nat → Int → Int} {Aw : Nat → Nat} {tl : va_W} (h : RI k nb M V Aw tl) : ((Aw 11), .inl (k 1, 8, .inl (fun i9 : Nat => iI ((V 11) i9)))) ∈ tl := h.2.2.2.2.2.2.2.2.2.2.2.1
theorem RI_14 {k : Nat → ClassId} {nb : Int} {M V : Nat → Int → Int} {Aw : Nat → Nat} {tl : va_W} (h : RI k nb M V Aw tl) : ((Aw 14), .inl (k 0, 5, .inl (fun i9 : Nat => iI ((V 14) i9)))) ∈ tl := h.2.2.2.2.2.2.2.2.2.2.2.2.1
theorem RI_15 {k : Nat → ClassId} {nb : Int} {M V : Nat → Int → Int} {Aw : Nat → Nat} {tl : va_W} (h : RI k nb M V Aw tl) : ((Aw 15), .inl (k 0, 5, .inl (fun i9 : Nat => iI ((V 15) i9)))) ∈ tl := h.2.2.2.2.2.2.2.2.2.2.2.2.2.1
theorem RI_16 {k : Nat → ClassId} {nb : Int} {M V : Nat → Int → Int} {Aw : Nat → Nat} {tl : va_W} (h : RI k nb M V Aw tl) : ((Aw 16), .inl (k 0, 5, .inl (fun i9 : Nat => iI ((V 16) i9)))) ∈ tl := h.2.2.2.2.2.2.2.2.2.2.2.2.2.2.1
theorem RI_a {k : Nat → ClassId} {nb : Int} {M V : Nat → Int → Int} {Aw : Nat → Nat} {tl : va_W} (h : RI k nb M V Aw tl) : RA nb M V := h.2.2.2.2.2.2.2.2.2.2.2.2.2.2.2

theorem bShl_k1 {q : Int} (h : 0 ≤ q ∧ q ≤ 1) : 0 < bShl 1 q ∧ bShl 1 q < 4 := by
  have e : q = 0 ∨ q = 1 := by omega
  rcases e with rfl | rfl <;> decide
theorem bShl_k5 {q : Int} (h : 0 ≤ q ∧ q < 5) : 0 < bShl 1 q ∧ bShl 1 q < 32 := by
  have e : q = 0 ∨ q = 1 ∨ q = 2 ∨ q = 3 ∨ q = 4 := by omega
  rcases e with rfl | rfl | rfl | rfl | rfl <;> decide
/-- the figures that stand at the top: kinds that are blocked, the set, the height, after the first k in order -/
def tpS (T : Nat → Int → Int → Int → Int) (M : Nat → Int → Int) (wz : Int) : Nat → Int × Int × Int
  | 0 => (0, 0, 0)
  | k + 1 => if bAnd (bShr wz (k : Int)) 1 = 0 then tpS T M wz k
    else if bAnd (tpS T M wz k).1 (bShl 1 (T 13 (M 16 (k : Int)) 0 0)) = 0 ∧ (tpS T M wz k).2.2 + T 14 (M 16 (k : Int)) 0 0 ≤ T 17 0 0 0 / 2
      then ((tpS T M wz k).1, bOr (tpS T M wz k).2.1 (bShl 1 (k : Int)), (tpS T M wz k).2.2 + T 14 (M 16 (k : Int)) 0 0)
      else (bOr (tpS T M wz k).1 (bShl 1 (T 13 (M 16 (k : Int)) 0 0)), (tpS T M wz k).2.1, (tpS T M wz k).2.2)
theorem tpS_s {T : Nat → Int → Int → Int → Int} {M : Nat → Int → Int} {wz q bk ts hh : Int} (h : 0 ≤ q) (e : (bk, ts, hh) = tpS T M wz (Int.toNat q)) : tpS T M wz (Int.toNat (q + 1)) = if bAnd (bShr wz q) 1 = 0 then (bk, ts, hh)
    else if bAnd bk (bShl 1 (T 13 (M 16 q) 0 0)) = 0 ∧ hh + T 14 (M 16 q) 0 0 ≤ T 17 0 0 0 / 2 then (bk, bOr ts (bShl 1 q), hh + T 14 (M 16 q) 0 0) else (bOr bk (bShl 1 (T 13 (M 16 q) 0 0)), ts, hh) := by
  rw [show Int.toNat (q + 1) = Int.toNat q + 1 by omega]
  simp only [tpS]
  rw [← e, show ((Int.toNat q : Nat) : Int) = q by omega]
abbrev tpZ (T : Nat → Int → Int → Int → Int) (M : Nat → Int → Int) (wz : Int) : Int × Int × Int := tpS T M wz (Int.toNat (M 17 0))
/-- the figures at the bottom: kinds that are blocked, the set, those that wait then, what is used -/
def btS (T : Nat → Int → Int → Int → Int) (M : Nat → Int → Int) (r0 cz w0 u0 : Int) : Nat → Int × Int × Int × Int
  | 0 => (0, 0, w0, u0)
  | k + 1 => if bAnd (bShr (btS T M r0 cz w0 u0 k).2.2.1 (k : Int)) 1 = 1 then (bOr (btS T M r0 cz w0 u0 k).1 (bShl 1 (T 13 (M 16 (k : Int)) 0 0)), (btS T M r0 cz w0 u0 k).2)
    else if r0 ≤ M 14 (M 16 (k : Int)) ∧ M 14 (M 16 (k : Int)) < r0 + cz then
      (if bAnd (btS T M r0 cz w0 u0 k).1 (bShl 1 (T 13 (M 16 (k : Int)) 0 0)) = 0 ∧ (btS T M r0 cz w0 u0 k).2.2.2 + T 14 (M 16 (k : Int)) 0 0 ≤ T 17 0 0 0
        then ((btS T M r0 cz w0 u0 k).1, bOr (btS T M r0 cz w0 u0 k).2.1 (bShl 1 (k : Int)), (btS T M r0 cz w0 u0 k).2.2.1, (btS T M r0 cz w0 u0 k).2.2.2 + T 14 (M 16 (k : Int)) 0 0)
        else (bOr (btS T M r0 cz w0 u0 k).1 (bShl 1 (T 13 (M 16 (k : Int)) 0 0)), (btS T M r0 cz w0 u0 k).2.1, bOr (btS T M r0 cz w0 u0 k).2.2.1 (bShl 1 (k : Int)), (btS T M r0 cz w0 u0 k).2.2.2))
    else btS T M r0 cz w0 u0 k
theorem btS_s {T : Nat → Int → Int → Int → Int} {M : Nat → Int → Int} {r0 cz w0 u0 q bk bs wx us : Int} (h : 0 ≤ q) (e : (bk, bs, wx, us) = btS T M r0 cz w0 u0 (Int.toNat q)) : btS T M r0 cz w0 u0 (Int.toNat (q + 1)) = if bAnd (bShr wx q) 1 = 1 then (bOr bk (bShl 1 (T 13 (M 16 q) 0 0)), bs, wx, us)
    else if r0 ≤ M 14 (M 16 q) ∧ M 14 (M 16 q) < r0 + cz then
      (if bAnd bk (bShl 1 (T 13 (M 16 q) 0 0)) = 0 ∧ us + T 14 (M 16 q) 0 0 ≤ T 17 0 0 0 then (bk, bOr bs (bShl 1 q), wx, us + T 14 (M 16 q) 0 0) else (bOr bk (bShl 1 (T 13 (M 16 q) 0 0)), bs, bOr wx (bShl 1 q), us))
    else (bk, bs, wx, us) := by
  rw [show Int.toNat (q + 1) = Int.toNat q + 1 by omega]
  simp only [btS]
  rw [← e, show ((Int.toNat q : Nat) : Int) = q by omega]
abbrev btZ (T : Nat → Int → Int → Int → Int) (M : Nat → Int → Int) (r0 cz w0 u0 : Int) : Int × Int × Int × Int := btS T M r0 cz w0 u0 (Int.toNat (M 17 0))
/-- the lines of notes on a page -/
def clN (T : Nat → Int → Int → Int → Int) (pH pL pN : Int) : Int := if T 17 0 0 0 - pH < 2 then 0 else min (pL + pN) (T 17 0 0 0 - pH - 1)
def clU (T : Nat → Int → Int → Int → Int) (pH pL pN : Int) : Int := pH + (if 0 < clN T pH pL pN then clN T pH pL pN + 1 else 0)
/-- what parting behind a row costs; the costs of a page -/
def pcZ (T : Nat → Int → Int → Int → Int) (M : Nat → Int → Int) (la : Int) : Int :=
  if T 1 (M 2 la) 0 0 = 1 ∨ (M 2 (la + 1) = M 2 la ∧ (T 1 (M 2 la) 0 0 = 2 ∨ T 2 (M 2 la) 2 0 = 1)) then 10000
  else if M 2 (la + 1) ≠ M 2 la then 0
  else if T 1 (M 2 la) 0 0 = 0 then (if M 3 la = 0 then 150 else 0) + (if M 3 (la + 1) = M 8 (M 2 la) - 1 then 150 else 0)
  else if T 1 (M 2 la) 0 0 = 3 then 100 else 0
theorem pcZ_in (T : Nat → Int → Int → Int → Int) (M : Nat → Int → Int) (la : Int) : 0 ≤ pcZ T M la ∧ pcZ T M la ≤ 10000 := by
  unfold pcZ
  (repeat' split) <;> omega
def csZ (T : Nat → Int → Int → Int → Int) (M : Nat → Int → Int) (la us ly : Int) : Int :=
  ((if 0 < ly then 100 else 0) + (if T 17 0 0 0 < us then 100 * (us - T 17 0 0 0) else 0)) + (if la < 0 ∨ M 0 0 ≤ la + 1 ∨ M 6 la = 1 then 0 else (if us < T 17 0 0 0 then (T 17 0 0 0 - us) * (T 17 0 0 0 - us) else 0) + pcZ T M la)
theorem sq_in {x m : Int} (h : 0 ≤ x ∧ x ≤ m) : 0 ≤ x * x ∧ x * x ≤ m * m := ⟨Int.mul_nonneg h.1 h.1, Int.mul_le_mul h.2 h.2 h.1 (by omega)⟩
theorem csZ_in {T : Nat → Int → Int → Int → Int} {M : Nat → Int → Int} (hK : TK T) {la us ly : Int} (h : 0 ≤ us) : 0 ≤ csZ T M la us ly ∧ csZ T M la us ly ≤ 11700 + 100 * us := by
  have h1 := TK_hei hK
  have h2 := pcZ_in T M la
  unfold csZ
  by_cases hu : us < T 17 0 0 0
  · have h3 := sq_in (x := T 17 0 0 0 - us) (m := 40) (by omega)
    generalize (T 17 0 0 0 - us) * (T 17 0 0 0 - us) = x at h3
    (repeat' split) <;> omega
  · rw [if_neg hu]
    (repeat' split) <;> omega

theorem mw_99 : (Jvm.Cond.fieldLink "Galleyforge$Page" (64 : Nat) "Galleyforge$Text" "height" "I") ∈ gt := gt_at 169 (by decide +kernel) (by decide +kernel)
theorem mw_313 : (Jvm.Cond.fieldLink "Galleyforge$Page" (9 : Nat) "Galleyforge$Page" "text" "LGalleyforge$Text;") ∈ gt := gt_at 383 (by decide +kernel) (by decide +kernel)
theorem mw_319 : (Jvm.Cond.fieldLink "Galleyforge$Page" (32 : Nat) "Galleyforge$Page" "height" "I") ∈ gt := gt_at 389 (by decide +kernel) (by decide +kernel)
theorem in_X3 : ∀ w ∈ u_ws RX3 TX3 15, w ∈ gt := in_of _ [404, 406, 408, 410, 412, 414, 416, 418, 420, 422, 424, 426, 428, 430, 432] (by decide +kernel) (by decide +kernel)
theorem in_X9 : ∀ w ∈ u_ws RX9 TX9 8, w ∈ gt := in_of _ [172, 174, 176, 178, 180, 182, 184, 186] (by decide +kernel) (by decide +kernel)
theorem dX3_isTooHigh_0 : decode cX3_isTooHigh 0 = .ok (.aload_n 0, 1) := by decide +kernel
theorem dX3_isTooHigh_1 : decode cX3_isTooHigh 1 = .ok (.getfield 32, 3) := by decide +kernel
theorem dX3_isTooHigh_4 : decode cX3_isTooHigh 4 = .ok (.aload_n 0, 1) := by decide +kernel
theorem dX3_isTooHigh_5 : decode cX3_isTooHigh 5 = .ok (.getfield 9, 3) := by decide +kernel
theorem dX3_isTooHigh_8 : decode cX3_isTooHigh 8 = .ok (.getfield 64, 3) := by decide +kernel
theorem dX3_isTooHigh_11 : decode cX3_isTooHigh 11 = .ok (.if_icmp .le 7, 3) := by decide +kernel
theorem dX3_isTooHigh_14 : decode cX3_isTooHigh 14 = .ok (.iconst 1, 1) := by decide +kernel
theorem dX3_isTooHigh_15 : decode cX3_isTooHigh 15 = .ok (.goto 4, 3) := by decide +kernel
theorem dX3_isTooHigh_18 : decode cX3_isTooHigh 18 = .ok (.iconst 0, 1) := by decide +kernel
theorem dX3_isTooHigh_19 : decode cX3_isTooHigh 19 = .ok (.ireturn, 1) := by decide +kernel
set_option maxHeartbeats 4000000 in
set_option maxRecDepth 100000 in
theorem k_isTooHigh (l : Launch) (dC : Nat → ClassId) (dI : Nat → Nat → Nat) (k : Nat → ClassId) (pg : Nat) (pR : Int) (pC : Int) (pW : Int) (pL : Int) (pH : Int) (pN : Int) (pQ : Int) (pT : Int) (pB : Int) (pX : Int) (pY : Int) (pM : Int) (pU : Int) (T : Nat → Int → Int → Int → Int) (A : Nat → Int → Int → Nat) (X : Nat → Int → Int → Int) (tl : va_W) (M : Nat → Int → Int) (V : Nat → Int → Int) (Aw : Nat → Nat) (hT : TI dI k T A X tl) (hK : TK T) (h1 : 0 ≤ pH ∧ pH < 1000000) : Kn l dC dI k yX3_isTooHigh (.code yX3_isTooHigh cX3_isTooHigh 1 (some .boolean)) ({ frames := 0, cells := 0, slots := 0, locals := 0 } : Room) [.ref pg] ([(pg, .inr (3, [.ref (A 50 0 0), .ref (Aw 20), .int (iI pR), .int (iI pC), .int (iI pW), .int (iI pL), .int (iI pH), .int (iI pN), .int (iI pQ), .int (iI pT), .int (iI pB), .int (iI pX), .int (iI pY), .int (iI pM), .int (iI pU)]))] ++ tl) (fun r w gc gs => (((T 17 0 0 0) < pH) ∧ r = some (.int (iI 1)) ∧ w = ([(pg, .inr (3, [.ref (A 50 0 0), .ref (Aw 20), .int (iI pR), .int (iI pC), .int (iI pW), .int (iI pL), .int (iI pH), .int (iI pN), .int (iI pQ), .int (iI pT), .int (iI pB), .int (iI pX), .int (iI pY), .int (iI pM), .int (iI pU)]))] ++ tl) ∧ gc = 0 ∧ gs = 0) ∨ ((¬ (T 17 0 0 0) < pH) ∧ r = some (.int (iI 0)) ∧ w = ([(pg, .inr (3, [.ref (A 50 0 0), .ref (Aw 20), .int (iI pR), .int (iI pC), .int (iI pW), .int (iI pL), .int (iI pH), .int (iI pN), .int (iI pQ), .int (iI pT), .int (iI pB), .int (iI pX), .int (iI pY), .int (iI pM), .int (iI pU)]))] ++ tl) ∧ gc = 0 ∧ gs = 0)) := by
  refine kn_of (by decide) (Nat.le_of_ble_eq_true rfl) ?_
  intro p e s m args below meth c H locs B hr hnm ls hl
  have hx := B.1.1
  have hb := B.1.2.1
  have hl : lv_has ls 1 [(0, .ref pg)] := hl
  refine lv_aload_n hx hb dX3_isTooHigh_0 rfl (lv_at hl 0 rfl) ?_
  refine x_get (ci := 3) (C := RX3) (T := TX3) (N := 15) (v := .int (iI pH)) B 0 rfl rfl in_X3 6 (by decide) mw_319 (fun _ h9 => h9) rfl dX3_isTooHigh_1 ?_
  refine lv_aload_n hx hb dX3_isTooHigh_4 rfl (lv_at hl 0 rfl) ?_
  refine x_get (ci := 3) (C := RX3) (T := TX3) (N := 15) (v := .ref (A 50 0 0)) B 0 rfl rfl in_X3 0 (by decide) mw_313 (fun _ h9 => h9) rfl dX3_isTooHigh_5 ?_
  obtain ⟨k_1, hk_1⟩ := pk_at (hs := [(pg, .inr (3, [.ref (A 50 0 0), .ref (Aw 20), .int (iI pR), .int (iI pC), .int (iI pW), .int (iI pL), .int (iI pH), .int (iI pN), .int (iI pQ), .int (iI pT), .int (iI pB), .int (iI pX), .int (iI pY), .int (iI pM), .int (iI pU)]))]) hT.1.1
  refine x_get (ci := 9) (C := RX9) (T := TX9) (N := 8) (v := .int (iI (T 17 0 0 0))) B k_1 hk_1 rfl in_X9 7 (by decide) mw_99 (fun _ h9 => h9) rfl dX3_isTooHigh_8 ?_
  have z_2 : 6 ≤ T 17 0 0 0 ∧ T 17 0 0 0 ≤ 40 := TK_hei hK
  refine lv_icmp_le (tgt := 18) hx hb dX3_isTooHigh_11 (by decide) (fun c_3 => ?_) (fun c_3 => ?_)
  · have zc_3 : pH ≤ (T 17 0 0 0) := jle (a := pH) (b := (T 17 0 0 0)) (by omega) (by omega) c_3
    refine lv_iconst (v := iI 0) hx hb dX3_isTooHigh_18 (by decide) ?_
    exact k_zret B hr (by omega) (Or.inr (⟨(by omega), rfl, rfl, rfl, rfl⟩)) ⟨Nat.le_of_ble_eq_true rfl, Nat.le_of_ble_eq_true rfl⟩ ⟨Nat.le_of_ble_eq_true rfl, Nat.le_of_ble_eq_true rfl⟩ dX3_isTooHigh_19
  · have zc_3 : (T 17 0 0 0) < pH := jnle (a := pH) (b := (T 17 0 0 0)) (by omega) (by omega) c_3
    refine lv_iconst (v := iI 1) hx hb dX3_isTooHigh_14 (by decide) ?_
    refine lv_goto (tgt := 19) hx hb dX3_isTooHigh_15 (by decide) ?_
    exact k_zret B hr (by omega) (Or.inl (⟨(by omega), rfl, rfl, rfl, rfl⟩)) ⟨Nat.le_of_ble_eq_true rfl, Nat.le_of_ble_eq_true rfl⟩ ⟨Nat.le_of_ble_eq_true rfl, Nat.le_of_ble_eq_true rfl⟩ dX3_isTooHigh_19

theorem mw_316 : (Jvm.Cond.fieldLink "Galleyforge$Page" (23 : Nat) "Galleyforge$Page" "count" "I") ∈ gt := gt_at 386 (by decide +kernel) (by decide +kernel)
theorem mw_318 : (Jvm.Cond.fieldLink "Galleyforge$Page" (29 : Nat) "Galleyforge$Page" "left" "I") ∈ gt := gt_at 388 (by decide +kernel) (by decide +kernel)
theorem mw_320 : (Jvm.Cond.fieldLink "Galleyforge$Page" (35 : Nat) "Galleyforge$Page" "notes" "I") ∈ gt := gt_at 390 (by decide +kernel) (by decide +kernel)
theorem mw_321 : (Jvm.Cond.fieldLink "Galleyforge$Page" (38 : Nat) "Galleyforge$Page" "lastNote" "I") ∈ gt := gt_at 391 (by decide +kernel) (by decide +kernel)
theorem dX3_mayEnd_0 : decode cX3_mayEnd 0 = .ok (.aload_n 0, 1) := by decide +kernel
theorem dX3_mayEnd_1 : decode cX3_mayEnd 1 = .ok (.getfield 9, 3) := by decide +kernel
theorem dX3_mayEnd_4 : decode cX3_mayEnd 4 = .ok (.getfield 64, 3) := by decide +kernel
theorem dX3_mayEnd_7 : decode cX3_mayEnd 7 = .ok (.aload_n 0, 1) := by decide +kernel
theorem dX3_mayEnd_8 : decode cX3_mayEnd 8 = .ok (.getfield 32, 3) := by decide +kernel
theorem dX3_mayEnd_11 : decode cX3_mayEnd 11 = .ok (.isub, 1) := by decide +kernel
theorem dX3_mayEnd_12 : decode cX3_mayEnd 12 = .ok (.istore_n 1, 1) := by decide +kernel
theorem dX3_mayEnd_13 : decode cX3_mayEnd 13 = .ok (.aload_n 0, 1) := by decide +kernel
theorem dX3_mayEnd_14 : decode cX3_mayEnd 14 = .ok (.getfield 23, 3) := by decide +kernel
theorem dX3_mayEnd_17 : decode cX3_mayEnd 17 = .ok (.iconst 1, 1) := by decide +kernel
theorem dX3_mayEnd_18 : decode cX3_mayEnd 18 = .ok (.if_icmp .ne 5, 3) := by decide +kernel
theorem dX3_mayEnd_21 : decode cX3_mayEnd 21 = .ok (.iconst 1, 1) := by decide +kernel
theorem dX3_mayEnd_22 : decode cX3_mayEnd 22 = .ok (.ireturn, 1) := by decide +kernel
theorem dX3_mayEnd_23 : decode cX3_mayEnd 23 = .ok (.aload_n 0, 1) := by decide +kernel
theorem dX3_mayEnd_24 : decode cX3_mayEnd 24 = .ok (.getfield 35, 3) := by decide +kernel
theorem dX3_mayEnd_27 : decode cX3_mayEnd 27 = .ok (.ifCond .le 29, 3) := by decide +kernel
theorem dX3_mayEnd_30 : decode cX3_mayEnd 30 = .ok (.iload_n 1, 1) := by decide +kernel
theorem dX3_mayEnd_31 : decode cX3_mayEnd 31 = .ok (.aload_n 0, 1) := by decide +kernel
theorem dX3_mayEnd_32 : decode cX3_mayEnd 32 = .ok (.getfield 29, 3) := by decide +kernel
theorem dX3_mayEnd_35 : decode cX3_mayEnd 35 = .ok (.aload_n 0, 1) := by decide +kernel
theorem dX3_mayEnd_36 : decode cX3_mayEnd 36 = .ok (.getfield 35, 3) := by decide +kernel
theorem dX3_mayEnd_39 : decode cX3_mayEnd 39 = .ok (.iadd, 1) := by decide +kernel
theorem dX3_mayEnd_40 : decode cX3_mayEnd 40 = .ok (.aload_n 0, 1) := by decide +kernel
theorem dX3_mayEnd_41 : decode cX3_mayEnd 41 = .ok (.getfield 38, 3) := by decide +kernel
theorem dX3_mayEnd_44 : decode cX3_mayEnd 44 = .ok (.isub, 1) := by decide +kernel
theorem dX3_mayEnd_45 : decode cX3_mayEnd 45 = .ok (.iconst 2, 1) := by decide +kernel
theorem dX3_mayEnd_46 : decode cX3_mayEnd 46 = .ok (.iadd, 1) := by decide +kernel
theorem dX3_mayEnd_47 : decode cX3_mayEnd 47 = .ok (.if_icmp .lt 7, 3) := by decide +kernel
theorem dX3_mayEnd_50 : decode cX3_mayEnd 50 = .ok (.iconst 1, 1) := by decide +kernel
theorem dX3_mayEnd_51 : decode cX3_mayEnd 51 = .ok (.goto 4, 3) := by decide +kernel
theorem dX3_mayEnd_54 : decode cX3_mayEnd 54 = .ok (.iconst 0, 1) := by decide +kernel
theorem dX3_mayEnd_55 : decode cX3_mayEnd 55 = .ok (.ireturn, 1) := by decide +kernel
theorem dX3_mayEnd_56 : decode cX3_mayEnd 56 = .ok (.iload_n 1, 1) := by decide +kernel
theorem dX3_mayEnd_57 : decode cX3_mayEnd 57 = .ok (.aload_n 0, 1) := by decide +kernel
theorem dX3_mayEnd_58 : decode cX3_mayEnd 58 = .ok (.getfield 29, 3) := by decide +kernel
theorem dX3_mayEnd_61 : decode cX3_mayEnd 61 = .ok (.ifCond .le 7, 3) := by decide +kernel
theorem dX3_mayEnd_64 : decode cX3_mayEnd 64 = .ok (.iconst 2, 1) := by decide +kernel
theorem dX3_mayEnd_65 : decode cX3_mayEnd 65 = .ok (.goto 4, 3) := by decide +kernel
theorem dX3_mayEnd_68 : decode cX3_mayEnd 68 = .ok (.iconst 0, 1) := by decide +kernel
theorem dX3_mayEnd_69 : decode cX3_mayEnd 69 = .ok (.if_icmp .lt 7, 3) := by decide +kernel
theorem dX3_mayEnd_72 : decode cX3_mayEnd 72 = .ok (.iconst 1, 1) := by decide +kernel
theorem dX3_mayEnd_73 : decode cX3_mayEnd 73 = .ok (.goto 4, 3) := by decide +kernel
theorem dX3_mayEnd_76 : decode cX3_mayEnd 76 = .ok (.iconst 0, 1) := by decide +kernel
theorem dX3_mayEnd_77 : decode cX3_mayEnd 77 = .ok (.ireturn, 1) := by decide +kernel
set_option maxHeartbeats 4000000 in
set_option maxRecDepth 100000 in
theorem k_mayEnd (l : Launch) (dC : Nat → ClassId) (dI : Nat → Nat → Nat) (k : Nat → ClassId) (pg : Nat) (pR : Int) (pC : Int) (pW : Int) (pL : Int) (pH : Int) (pN : Int) (pQ : Int) (pT : Int) (pB : Int) (pX : Int) (pY : Int) (pM : Int) (pU : Int) (T : Nat → Int → Int → Int → Int) (A : Nat → Int → Int → Nat) (X : Nat → Int → Int → Int) (tl : va_W) (M : Nat → Int → Int) (V : Nat → Int → Int) (Aw : Nat → Nat) (hT : TI dI k T A X tl) (hK : TK T) (h1 : 0 ≤ pH ∧ pH < 1000000) (h2 : 0 ≤ pC ∧ pC ≤ 768 ∧ 0 ≤ pR ∧ pR + pC ≤ 768) (h3 : 0 ≤ pN ∧ pN < 1000000 ∧ 0 ≤ pL ∧ pL < 1000000 ∧ 0 ≤ pQ ∧ pQ ≤ 5) : Kn l dC dI k yX3_mayEnd (.code yX3_mayEnd cX3_mayEnd 2 (some .boolean)) ({ frames := 0, cells := 0, slots := 0, locals := 0 } : Room) [.ref pg] ([(pg, .inr (3, [.ref (A 50 0 0), .ref (Aw 20), .int (iI pR), .int (iI pC), .int (iI pW), .int (iI pL), .int (iI pH), .int (iI pN), .int (iI pQ), .int (iI pT), .int (iI pB), .int (iI pX), .int (iI pY), .int (iI pM), .int (iI pU)]))] ++ tl) (fun r w gc gs => (((pC = 1 ∨ (0 < pN ∧ pL + pN - pQ + 2 ≤ T 17 0 0 0 - pH) ∨ (pN ≤ 0 ∧ 0 < pL ∧ 2 ≤ T 17 0 0 0 - pH) ∨ (pN ≤ 0 ∧ pL ≤ 0 ∧ 0 ≤ T 17 0 0 0 - pH))) ∧ r = some (.int (iI 1)) ∧ w = ([(pg, .inr (3, [.ref (A 50 0 0), .ref (Aw 20), .int (iI pR), .int (iI pC), .int (iI pW), .int (iI pL), .int (iI pH), .int (iI pN), .int (iI pQ), .int (iI pT), .int (iI pB), .int (iI pX), .int (iI pY), .int (iI pM), .int (iI pU)]))] ++ tl) ∧ gc = 0 ∧ gs = 0) ∨ ((¬ (pC = 1 ∨ (0 < pN ∧ pL + pN - pQ + 2 ≤ T 17 0 0 0 - pH) ∨ (pN ≤ 0 ∧ 0 < pL ∧ 2 ≤ T 17 0 0 0 - pH) ∨ (pN ≤ 0 ∧ pL ≤ 0 ∧ 0 ≤ T 17 0 0 0 - pH))) ∧ r = some (.int (iI 0)) ∧ w = ([(pg, .inr (3, [.ref (A 50 0 0), .ref (Aw 20), .int (iI pR), .int (iI pC), .int (iI pW), .int (iI pL), .int (iI pH), .int (iI pN), .int (iI pQ), .int (iI pT), .int (iI pB), .int (iI pX), .int (iI pY), .int (iI pM), .int (iI pU)]))] ++ tl) ∧ gc = 0 ∧ gs = 0)) := by
  refine kn_of (by decide) (Nat.le_of_ble_eq_true rfl) ?_
  intro p e s m args below meth c H locs B hr hnm ls hl
  have hx := B.1.1
  have hb := B.1.2.1
  have hl : lv_has ls 2 [(0, .ref pg)] := hl
  refine lv_aload_n hx hb dX3_mayEnd_0 rfl (lv_at hl 0 rfl) ?_
  refine x_get (ci := 3) (C := RX3) (T := TX3) (N := 15) (v := .ref (A 50 0 0)) B 0 rfl rfl in_X3 0 (by decide) mw_313 (fun _ h9 => h9) rfl dX3_mayEnd_1 ?_
  obtain ⟨k_1, hk_1⟩ := pk_at (hs := [(pg, .inr (3, [.ref (A 50 0 0), .ref (Aw 20), .int (iI pR), .int (iI pC), .int (iI pW), .int (iI pL), .int (iI pH), .int (iI pN), .int (iI pQ), .int (iI pT), .int (iI pB), .int (iI pX), .int (iI pY), .int (iI pM), .int (iI pU)]))]) hT.1.1
  refine x_get (ci := 9) (C := RX9) (T := TX9) (N := 8) (v := .int (iI (T 17 0 0 0))) B k_1 hk_1 rfl in_X9 7 (by decide) mw_99 (fun _ h9 => h9) rfl dX3_mayEnd_4 ?_
  have z_2 : 6 ≤ T 17 0 0 0 ∧ T 17 0 0 0 ≤ 40 := TK_hei hK
  refine lv_aload_n hx hb dX3_mayEnd_7 rfl (lv_at hl 0 rfl) ?_
  refine x_get (ci := 3) (C := RX3) (T := TX3) (N := 15) (v := .int (iI pH)) B 0 rfl rfl in_X3 6 (by decide) mw_319 (fun _ h9 => h9) rfl dX3_mayEnd_8 ?_
  refine y_sub hx hb dX3_mayEnd_11 ?_
  refine lv_istore_n (lv' := [(1, .int (iI ((T 17 0 0 0) - pH))), (0, .ref pg)]) hx hb dX3_mayEnd_12 rfl hl (by decide) rfl (fun ls hl => ?_)
  refine lv_aload_n hx hb dX3_mayEnd_13 rfl (lv_at hl 1 rfl) ?_
  refine x_get (ci := 3) (C := RX3) (T := TX3) (N := 15) (v := .int (iI pC)) B 0 rfl rfl in_X3 3 (by decide) mw_316 (fun _ h9 => h9) rfl dX3_mayEnd_14 ?_
  refine lv_iconst (v := iI 1) hx hb dX3_mayEnd_17 (by decide) ?_
  refine lv_icmp_ne (tgt := 23) hx hb dX3_mayEnd_18 (by decide) (fun c_3 => ?_) (fun c_3 => ?_)
  · have zc_3 : pC ≠ 1 := jne (a := pC) (b := 1) (by omega) (by omega) c_3
    refine lv_aload_n hx hb dX3_mayEnd_23 rfl (lv_at hl 1 rfl) ?_
    refine x_get (ci := 3) (C := RX3) (T := TX3) (N := 15) (v := .int (iI pN)) B 0 rfl rfl in_X3 7 (by decide) mw_320 (fun _ h9 => h9) rfl dX3_mayEnd_24 ?_
    refine lv_if_le (tgt := 56) hx hb dX3_mayEnd_27 (by decide) (fun c_4 => ?_) (fun c_4 => ?_)
    · have zc_4 : pN ≤ 0 := jle (a := pN) (b := 0) (by omega) (by omega) c_4
      refine lv_iload_n hx hb dX3_mayEnd_56 rfl (lv_at hl 0 rfl) ?_
      refine lv_aload_n hx hb dX3_mayEnd_57 rfl (lv_at hl 1 rfl) ?_
      refine x_get (ci := 3) (C := RX3) (T := TX3) (N := 15) (v := .int (iI pL)) B 0 rfl rfl in_X3 5 (by decide) mw_318 (fun _ h9 => h9) rfl dX3_mayEnd_58 ?_
      refine lv_if_le (tgt := 68) hx hb dX3_mayEnd_61 (by decide) (fun c_5 => ?_) (fun c_5 => ?_)
      · have zc_5 : pL ≤ 0 := jle (a := pL) (b := 0) (by omega) (by omega) c_5
        refine lv_iconst (v := iI 0) hx hb dX3_mayEnd_68 (by decide) ?_
        refine lv_icmp_lt (tgt := 76) hx hb dX3_mayEnd_69 (by decide) (fun c_6 => ?_) (fun c_6 => ?_)
        · have zc_6 : ((T 17 0 0 0) - pH) < 0 := jlt (a := ((T 17 0 0 0) - pH)) (b := 0) (by omega) (by omega) c_6
          refine lv_iconst (v := iI 0) hx hb dX3_mayEnd_76 (by decide) ?_
          exact k_zret B hr (by omega) (Or.inr (⟨(by omega), rfl, rfl, rfl, rfl⟩)) ⟨Nat.le_of_ble_eq_true rfl, Nat.le_of_ble_eq_true rfl⟩ ⟨Nat.le_of_ble_eq_true rfl, Nat.le_of_ble_eq_true rfl⟩ dX3_mayEnd_77
        · have zc_6 : 0 ≤ ((T 17 0 0 0) - pH) := jnlt (a := ((T 17 0 0 0) - pH)) (b := 0) (by omega) (by omega) c_6
          refine lv_iconst (v := iI 1) hx hb dX3_mayEnd_72 (by decide) ?_
          refine lv_goto (tgt := 77) hx hb dX3_mayEnd_73 (by decide) ?_
          exact k_zret B hr (by omega) (Or.inl (⟨(by omega), rfl, rfl, rfl, rfl⟩)) ⟨Nat.le_of_ble_eq_true rfl, Nat.le_of_ble_eq_true rfl⟩ ⟨Nat.le_of_ble_eq_true rfl, Nat.le_of_ble_eq_true rfl⟩ dX3_mayEnd_77
      · have zc_5 : 0 < pL := jnle (a := pL) (b := 0) (by omega) (by omega) c_5
        refine lv_iconst (v := iI 2) hx hb dX3_mayEnd_64 (by decide) ?_
        refine lv_goto (tgt := 69) hx hb dX3_mayEnd_65 (by decide) ?_
        refine lv_icmp_lt (tgt := 76) hx hb dX3_mayEnd_69 (by decide) (fun c_7 => ?_) (fun c_7 => ?_)
        · have zc_7 : ((T 17 0 0 0) - pH) < 2 := jlt (a := ((T 17 0 0 0) - pH)) (b := 2) (by omega) (by omega) c_7
          refine lv_iconst (v := iI 0) hx hb dX3_mayEnd_76 (by decide) ?_
          exact k_zret B hr (by omega) (Or.inr (⟨(by omega), rfl, rfl, rfl, rfl⟩)) ⟨Nat.le_of_ble_eq_true rfl, Nat.le_of_ble_eq_true rfl⟩ ⟨Nat.le_of_ble_eq_true rfl, Nat.le_of_ble_eq_true rfl⟩ dX3_mayEnd_77
        · have zc_7 : 2 ≤ ((T 17 0 0 0) - pH) := jnlt (a := ((T 17 0 0 0) - pH)) (b := 2) (by omega) (by omega) c_7
          refine lv_iconst (v := iI 1) hx hb dX3_mayEnd_72 (by decide) ?_
          refine lv_goto (tgt := 77) hx hb dX3_mayEnd_73 (by decide) ?_
          exact k_zret B hr (by omega) (Or.inl (⟨(by omega), rfl, rfl, rfl, rfl⟩)) ⟨Nat.le_of_ble_eq_true rfl, Nat.le_of_ble_eq_true rfl⟩ ⟨Nat.le_of_ble_eq_true rfl, Nat.le_of_ble_eq_true rfl⟩ dX3_mayEnd_77
    · have zc_4 : 0 < pN := jnle (a := pN) (b := 0) (by omega) (by omega) c_4
      refine lv_iload_n hx hb dX3_mayEnd_30 rfl (lv_at hl 0 rfl) ?_
      refine lv_aload_n hx hb dX3_mayEnd_31 rfl (lv_at hl 1 rfl) ?_
      refine x_get (ci := 3) (C := RX3) (T := TX3) (N := 15) (v := .int (iI pL)) B 0 rfl rfl in_X3 5 (by decide) mw_318 (fun _ h9 => h9) rfl dX3_mayEnd_32 ?_
      refine lv_aload_n hx hb dX3_mayEnd_35 rfl (lv_at hl 1 rfl) ?_
      refine x_get (ci := 3) (C := RX3) (T := TX3) (N := 15) (v := .int (iI pN)) B 0 rfl rfl in_X3 7 (by decide) mw_320 (fun _ h9 => h9) rfl dX3_mayEnd_36 ?_
      refine y_add hx hb dX3_mayEnd_39 ?_
      refine lv_aload_n hx hb dX3_mayEnd_40 rfl (lv_at hl 1 rfl) ?_
      refine x_get (ci := 3) (C := RX3) (T := TX3) (N := 15) (v := .int (iI pQ)) B 0 rfl rfl in_X3 8 (by decide) mw_321 (fun _ h9 => h9) rfl dX3_mayEnd_41 ?_
      refine y_sub hx hb dX3_mayEnd_44 ?_
      refine lv_iconst (v := iI 2) hx hb dX3_mayEnd_45 (by decide) ?_
      refine y_add hx hb dX3_mayEnd_46 ?_
      refine lv_icmp_lt (tgt := 54) hx hb dX3_mayEnd_47 (by decide) (fun c_8 => ?_) (fun c_8 => ?_)
      · have zc_8 : ((T 17 0 0 0) - pH) < (((pL + pN) - pQ) + 2) := jlt (a := ((T 17 0 0 0) - pH)) (b := (((pL + pN) - pQ) + 2)) (by omega) (by omega) c_8
        refine lv_iconst (v := iI 0) hx hb dX3_mayEnd_54 (by decide) ?_
        exact k_zret B hr (by omega) (Or.inr (⟨(by omega), rfl, rfl, rfl, rfl⟩)) ⟨Nat.le_of_ble_eq_true rfl, Nat.le_of_ble_eq_true rfl⟩ ⟨Nat.le_of_ble_eq_true rfl, Nat.le_of_ble_eq_true rfl⟩ dX3_mayEnd_55
      · have zc_8 : (((pL + pN) - pQ) + 2) ≤ ((T 17 0 0 0) - pH) := jnlt (a := ((T 17 0 0 0) - pH)) (b := (((pL + pN) - pQ) + 2)) (by omega) (by omega) c_8
        refine lv_iconst (v := iI 1) hx hb dX3_mayEnd_50 (by decide) ?_
        refine lv_goto (tgt := 55) hx hb dX3_mayEnd_51 (by decide) ?_
        exact k_zret B hr (by omega) (Or.inl (⟨(by omega), rfl, rfl, rfl, rfl⟩)) ⟨Nat.le_of_ble_eq_true rfl, Nat.le_of_ble_eq_true rfl⟩ ⟨Nat.le_of_ble_eq_true rfl, Nat.le_of_ble_eq_true rfl⟩ dX3_mayEnd_55
  · have zc_3 : pC = 1 := jeq (a := pC) (b := 1) (by omega) (by omega) c_3
    refine lv_iconst (v := iI 1) hx hb dX3_mayEnd_21 (by decide) ?_
    exact k_zret B hr (by omega) (Or.inl (⟨(by omega), rfl, rfl, rfl, rfl⟩)) ⟨Nat.le_of_ble_eq_true rfl, Nat.le_of_ble_eq_true rfl⟩ ⟨Nat.le_of_ble_eq_true rfl, Nat.le_of_ble_eq_true rfl⟩ dX3_mayEnd_22

theorem mw_225 : (Jvm.Cond.fieldLink "Galleyforge$Page" (65 : Nat) "Galleyforge$Rows" "count" "I") ∈ gt := gt_at 295 (by decide +kernel) (by decide +kernel)
theorem mw_227 : (Jvm.Cond.fieldLink "Galleyforge$Page" (70 : Nat) "Galleyforge$Rows" "heights" "[I") ∈ gt := gt_at 297 (by decide +kernel) (by decide +kernel)
theorem mw_235 : (Jvm.Cond.fieldLink "Galleyforge$Page" (73 : Nat) "Galleyforge$Rows" "noteLines" "[I") ∈ gt := gt_at 305 (by decide +kernel) (by decide +kernel)
theorem mw_237 : (Jvm.Cond.fieldLink "Galleyforge$Page" (76 : Nat) "Galleyforge$Rows" "lastNotes" "[I") ∈ gt := gt_at 307 (by decide +kernel) (by decide +kernel)
theorem mw_239 : (Jvm.Cond.fieldLink "Galleyforge$Page" (66 : Nat) "Galleyforge$Rows" "breakBehind" "[Z") ∈ gt := gt_at 309 (by decide +kernel) (by decide +kernel)
theorem mw_314 : (Jvm.Cond.fieldLink "Galleyforge$Page" (15 : Nat) "Galleyforge$Page" "rows" "LGalleyforge$Rows;") ∈ gt := gt_at 384 (by decide +kernel) (by decide +kernel)
theorem mw_315 : (Jvm.Cond.fieldLink "Galleyforge$Page" (19 : Nat) "Galleyforge$Page" "row" "I") ∈ gt := gt_at 385 (by decide +kernel) (by decide +kernel)
theorem dX3_addRow_0 : decode cX3_addRow 0 = .ok (.aload_n 0, 1) := by decide +kernel
theorem dX3_addRow_1 : decode cX3_addRow 1 = .ok (.getfield 19, 3) := by decide +kernel
theorem dX3_addRow_4 : decode cX3_addRow 4 = .ok (.aload_n 0, 1) := by decide +kernel
theorem dX3_addRow_5 : decode cX3_addRow 5 = .ok (.getfield 23, 3) := by decide +kernel
theorem dX3_addRow_8 : decode cX3_addRow 8 = .ok (.iadd, 1) := by decide +kernel
theorem dX3_addRow_9 : decode cX3_addRow 9 = .ok (.istore_n 1, 1) := by decide +kernel
theorem dX3_addRow_10 : decode cX3_addRow 10 = .ok (.iload_n 1, 1) := by decide +kernel
theorem dX3_addRow_11 : decode cX3_addRow 11 = .ok (.aload_n 0, 1) := by decide +kernel
theorem dX3_addRow_12 : decode cX3_addRow 12 = .ok (.getfield 15, 3) := by decide +kernel
theorem dX3_addRow_15 : decode cX3_addRow 15 = .ok (.getfield 65, 3) := by decide +kernel
theorem dX3_addRow_18 : decode cX3_addRow 18 = .ok (.if_icmp .ge 24, 3) := by decide +kernel
theorem dX3_addRow_21 : decode cX3_addRow 21 = .ok (.aload_n 0, 1) := by decide +kernel
theorem dX3_addRow_22 : decode cX3_addRow 22 = .ok (.getfield 23, 3) := by decide +kernel
theorem dX3_addRow_25 : decode cX3_addRow 25 = .ok (.ifCond .le 19, 3) := by decide +kernel
theorem dX3_addRow_28 : decode cX3_addRow 28 = .ok (.aload_n 0, 1) := by decide +kernel
theorem dX3_addRow_29 : decode cX3_addRow 29 = .ok (.getfield 15, 3) := by decide +kernel
theorem dX3_addRow_32 : decode cX3_addRow 32 = .ok (.getfield 66, 3) := by decide +kernel
theorem dX3_addRow_35 : decode cX3_addRow 35 = .ok (.iload_n 1, 1) := by decide +kernel
theorem dX3_addRow_36 : decode cX3_addRow 36 = .ok (.iconst 1, 1) := by decide +kernel
theorem dX3_addRow_37 : decode cX3_addRow 37 = .ok (.isub, 1) := by decide +kernel
theorem dX3_addRow_38 : decode cX3_addRow 38 = .ok (.baload, 1) := by decide +kernel
theorem dX3_addRow_39 : decode cX3_addRow 39 = .ok (.ifCond .eq 5, 3) := by decide +kernel
theorem dX3_addRow_42 : decode cX3_addRow 42 = .ok (.iconst 0, 1) := by decide +kernel
theorem dX3_addRow_43 : decode cX3_addRow 43 = .ok (.ireturn, 1) := by decide +kernel
theorem dX3_addRow_44 : decode cX3_addRow 44 = .ok (.aload_n 0, 1) := by decide +kernel
theorem dX3_addRow_45 : decode cX3_addRow 45 = .ok (.dup, 1) := by decide +kernel
theorem dX3_addRow_46 : decode cX3_addRow 46 = .ok (.getfield 23, 3) := by decide +kernel
theorem dX3_addRow_49 : decode cX3_addRow 49 = .ok (.iconst 1, 1) := by decide +kernel
theorem dX3_addRow_50 : decode cX3_addRow 50 = .ok (.iadd, 1) := by decide +kernel
theorem dX3_addRow_51 : decode cX3_addRow 51 = .ok (.putfield 23, 3) := by decide +kernel
theorem dX3_addRow_54 : decode cX3_addRow 54 = .ok (.aload_n 0, 1) := by decide +kernel
theorem dX3_addRow_55 : decode cX3_addRow 55 = .ok (.dup, 1) := by decide +kernel
theorem dX3_addRow_56 : decode cX3_addRow 56 = .ok (.getfield 32, 3) := by decide +kernel
theorem dX3_addRow_59 : decode cX3_addRow 59 = .ok (.aload_n 0, 1) := by decide +kernel
theorem dX3_addRow_60 : decode cX3_addRow 60 = .ok (.getfield 15, 3) := by decide +kernel
theorem dX3_addRow_63 : decode cX3_addRow 63 = .ok (.getfield 70, 3) := by decide +kernel
theorem dX3_addRow_66 : decode cX3_addRow 66 = .ok (.iload_n 1, 1) := by decide +kernel
theorem dX3_addRow_67 : decode cX3_addRow 67 = .ok (.iaload, 1) := by decide +kernel
theorem dX3_addRow_68 : decode cX3_addRow 68 = .ok (.iadd, 1) := by decide +kernel
theorem dX3_addRow_69 : decode cX3_addRow 69 = .ok (.putfield 32, 3) := by decide +kernel
theorem dX3_addRow_72 : decode cX3_addRow 72 = .ok (.aload_n 0, 1) := by decide +kernel
theorem dX3_addRow_73 : decode cX3_addRow 73 = .ok (.dup, 1) := by decide +kernel
theorem dX3_addRow_74 : decode cX3_addRow 74 = .ok (.getfield 35, 3) := by decide +kernel
theorem dX3_addRow_77 : decode cX3_addRow 77 = .ok (.aload_n 0, 1) := by decide +kernel
theorem dX3_addRow_78 : decode cX3_addRow 78 = .ok (.getfield 15, 3) := by decide +kernel
theorem dX3_addRow_81 : decode cX3_addRow 81 = .ok (.getfield 73, 3) := by decide +kernel
theorem dX3_addRow_84 : decode cX3_addRow 84 = .ok (.iload_n 1, 1) := by decide +kernel
theorem dX3_addRow_85 : decode cX3_addRow 85 = .ok (.iaload, 1) := by decide +kernel
theorem dX3_addRow_86 : decode cX3_addRow 86 = .ok (.iadd, 1) := by decide +kernel
theorem dX3_addRow_87 : decode cX3_addRow 87 = .ok (.putfield 35, 3) := by decide +kernel
theorem dX3_addRow_90 : decode cX3_addRow 90 = .ok (.aload_n 0, 1) := by decide +kernel
theorem dX3_addRow_91 : decode cX3_addRow 91 = .ok (.aload_n 0, 1) := by decide +kernel
theorem dX3_addRow_92 : decode cX3_addRow 92 = .ok (.getfield 15, 3) := by decide +kernel
theorem dX3_addRow_95 : decode cX3_addRow 95 = .ok (.getfield 76, 3) := by decide +kernel
theorem dX3_addRow_98 : decode cX3_addRow 98 = .ok (.iload_n 1, 1) := by decide +kernel
theorem dX3_addRow_99 : decode cX3_addRow 99 = .ok (.iaload, 1) := by decide +kernel
theorem dX3_addRow_100 : decode cX3_addRow 100 = .ok (.ifCond .le 15, 3) := by decide +kernel
theorem dX3_addRow_103 : decode cX3_addRow 103 = .ok (.aload_n 0, 1) := by decide +kernel
theorem dX3_addRow_104 : decode cX3_addRow 104 = .ok (.getfield 15, 3) := by decide +kernel
theorem dX3_addRow_107 : decode cX3_addRow 107 = .ok (.getfield 76, 3) := by decide +kernel
theorem dX3_addRow_110 : decode cX3_addRow 110 = .ok (.iload_n 1, 1) := by decide +kernel
theorem dX3_addRow_111 : decode cX3_addRow 111 = .ok (.iaload, 1) := by decide +kernel
theorem dX3_addRow_112 : decode cX3_addRow 112 = .ok (.goto 7, 3) := by decide +kernel
theorem dX3_addRow_115 : decode cX3_addRow 115 = .ok (.aload_n 0, 1) := by decide +kernel
theorem dX3_addRow_116 : decode cX3_addRow 116 = .ok (.getfield 38, 3) := by decide +kernel
theorem dX3_addRow_119 : decode cX3_addRow 119 = .ok (.putfield 38, 3) := by decide +kernel
theorem dX3_addRow_122 : decode cX3_addRow 122 = .ok (.iconst 1, 1) := by decide +kernel
theorem dX3_addRow_123 : decode cX3_addRow 123 = .ok (.ireturn, 1) := by decide +kernel
set_option maxHeartbeats 4000000 in
set_option maxRecDepth 100000 in
theorem k_pgAdd (l : Launch) (dC : Nat → ClassId) (dI : Nat → Nat → Nat) (k : Nat → ClassId) (pg : Nat) (pR : Int) (pC : Int) (pW : Int) (pL : Int) (pH : Int) (pN : Int) (pQ : Int) (pT : Int) (pB : Int) (pX : Int) (pY : Int) (pM : Int) (pU : Int) (T : Nat → Int → Int → Int → Int) (A : Nat → Int → Int → Nat) (X : Nat → Int → Int → Int) (tl : va_W) (M : Nat → Int → Int) (V : Nat → Int → Int) (Aw : Nat → Nat) (hT : TI dI k T A X tl) (hK : TK T) (hR : RI k (T 0 0 0 0) M V Aw tl) (hM : MK M) (hMT : ∀ j, 0 ≤ j → j < M 0 0 → M 2 j < T 0 0 0 0) (h1 : 0 ≤ pH ∧ pH < 1000000) (h2 : 0 ≤ pC ∧ pC ≤ 768 ∧ 0 ≤ pR ∧ pR + pC ≤ 768) (h3 : 0 ≤ pN ∧ pN < 1000000 ∧ 0 ≤ pL ∧ pL < 1000000 ∧ 0 ≤ pQ ∧ pQ ≤ 5) : Kn l dC dI k yX3_addRow (.code yX3_addRow cX3_addRow 2 (some .boolean)) ({ frames := 0, cells := 0, slots := 0, locals := 0 } : Room) [.ref pg] ([(pg, .inr (3, [.ref (A 50 0 0), .ref (Aw 20), .int (iI pR), .int (iI pC), .int (iI pW), .int (iI pL), .int (iI pH), .int (iI pN), .int (iI pQ), .int (iI pT), .int (iI pB), .int (iI pX), .int (iI pY), .int (iI pM), .int (iI pU)]))] ++ tl) (fun r w gc gs => (((M 0 0 ≤ pR + pC ∨ (0 < pC ∧ M 6 ((pR + pC) - 1) = 1))) ∧ r = some (.int (iI 0)) ∧ w = ([(pg, .inr (3, [.ref (A 50 0 0), .ref (Aw 20), .int (iI pR), .int (iI pC), .int (iI pW), .int (iI pL), .int (iI pH), .int (iI pN), .int (iI pQ), .int (iI pT), .int (iI pB), .int (iI pX), .int (iI pY), .int (iI pM), .int (iI pU)]))] ++ tl) ∧ gc = 0 ∧ gs = 0) ∨ ((¬ (M 0 0 ≤ pR + pC ∨ (0 < pC ∧ M 6 ((pR + pC) - 1) = 1))) ∧ r = some (.int (iI 1)) ∧ w = ([(pg, .inr (3, [.ref (A 50 0 0), .ref (Aw 20), .int (iI pR), .int (iI (pC + 1)), .int (iI pW), .int (iI pL), .int (iI (pH + M 1 (pR + pC))), .int (iI (pN + M 4 (pR + pC))), .int (iI (if 0 < M 5 (pR + pC) then M 5 (pR + pC) else pQ)), .int (iI pT), .int (iI pB), .int (iI pX), .int (iI pY), .int (iI pM), .int (iI pU)]))] ++ tl) ∧ gc = 0 ∧ gs = 0)) := by
  refine kn_of (by decide) (Nat.le_of_ble_eq_true rfl) ?_
  intro p e s m args below meth c H locs B hr hnm ls hl
  have hx := B.1.1
  have hb := B.1.2.1
  have hl : lv_has ls 2 [(0, .ref pg)] := hl
  have hn0 := MK_cnt hM
  have hf0 := MK_17 hM
  refine lv_aload_n hx hb dX3_addRow_0 rfl (lv_at hl 0 rfl) ?_
  refine x_get (ci := 3) (C := RX3) (T := TX3) (N := 15) (v := .int (iI pR)) B 0 rfl rfl in_X3 2 (by decide) mw_315 (fun _ h9 => h9) rfl dX3_addRow_1 ?_
  refine lv_aload_n hx hb dX3_addRow_4 rfl (lv_at hl 0 rfl) ?_
  refine x_get (ci := 3) (C := RX3) (T := TX3) (N := 15) (v := .int (iI pC)) B 0 rfl rfl in_X3 3 (by decide) mw_316 (fun _ h9 => h9) rfl dX3_addRow_5 ?_
  refine y_add hx hb dX3_addRow_8 ?_
  refine lv_istore_n (lv' := [(1, .int (iI (pR + pC))), (0, .ref pg)]) hx hb dX3_addRow_9 rfl hl (by decide) rfl (fun ls hl => ?_)
  refine lv_iload_n hx hb dX3_addRow_10 rfl (lv_at hl 0 rfl) ?_
  refine lv_aload_n hx hb dX3_addRow_11 rfl (lv_at hl 1 rfl) ?_
  refine x_get (ci := 3) (C := RX3) (T := TX3) (N := 15) (v := .ref (Aw 20)) B 0 rfl rfl in_X3 1 (by decide) mw_314 (fun _ h9 => h9) rfl dX3_addRow_12 ?_
  obtain ⟨k_1, hk_1⟩ := pk_at (hs := [(pg, .inr (3, [.ref (A 50 0 0), .ref (Aw 20), .int (iI pR), .int (iI pC), .int (iI pW), .int (iI pL), .int (iI pH), .int (iI pN), .int (iI pQ), .int (iI pT), .int (iI pB), .int (iI pX), .int (iI pY), .int (iI pM), .int (iI pU)]))]) (RI_o hR)
  refine x_get (ci := 6) (C := RX6) (T := TX6) (N := 18) (v := .int (iI (M 0 0))) B k_1 hk_1 rfl in_X6 0 (by decide) mw_225 (fun _ h9 => h9) rfl dX3_addRow_15 ?_
  refine lv_icmp_ge (tgt := 42) hx hb dX3_addRow_18 (by decide) (fun c_2 => ?_) (fun c_2 => ?_)
  · have zc_2 : (M 0 0) ≤ (pR + pC) := jle (a := (M 0 0)) (b := (pR + pC)) (by omega) (by omega) c_2
    refine lv_iconst (v := iI 0) hx hb dX3_addRow_42 (by decide) ?_
    exact k_zret B hr (by omega) (Or.inl (⟨(by omega), rfl, rfl, rfl, rfl⟩)) ⟨Nat.le_of_ble_eq_true rfl, Nat.le_of_ble_eq_true rfl⟩ ⟨Nat.le_of_ble_eq_true rfl, Nat.le_of_ble_eq_true rfl⟩ dX3_addRow_43
  · have zc_2 : (pR + pC) < (M 0 0) := jnle (a := (M 0 0)) (b := (pR + pC)) (by omega) (by omega) c_2
    refine lv_aload_n hx hb dX3_addRow_21 rfl (lv_at hl 1 rfl) ?_
    refine x_get (ci := 3) (C := RX3) (T := TX3) (N := 15) (v := .int (iI pC)) B 0 rfl rfl in_X3 3 (by decide) mw_316 (fun _ h9 => h9) rfl dX3_addRow_22 ?_
    refine lv_if_le (tgt := 44) hx hb dX3_addRow_25 (by decide) (fun c_3 => ?_) (fun c_3 => ?_)
    · have zc_3 : pC ≤ 0 := jle (a := pC) (b := 0) (by omega) (by omega) c_3
      refine lv_aload_n hx hb dX3_addRow_44 rfl (lv_at hl 1 rfl) ?_
      refine lv_dup hx hb dX3_addRow_45 rfl ?_
      refine x_get (ci := 3) (C := RX3) (T := TX3) (N := 15) (v := .int (iI pC)) B 0 rfl rfl in_X3 3 (by decide) mw_316 (fun _ h9 => h9) rfl dX3_addRow_46 ?_
      refine lv_iconst (v := iI 1) hx hb dX3_addRow_49 (by decide) ?_
      refine y_add hx hb dX3_addRow_50 ?_
      refine x_put (ci := 3) (C := RX3) (T := TX3) (N := 15) (ty := .int) (v := .int (iI (pC + 1))) B tyX3_ok nmX3 0 rfl rfl in_X3 3 (by decide) mw_316 (fun _ h9 => h9) rfl (by decide +kernel) rfl rfl (Nat.le_of_ble_eq_true rfl) dX3_addRow_51 (fun H locs B => ?_)
      have B := bd_to (ws' := ([(pg, .inr (3, [.ref (A 50 0 0), .ref (Aw 20), .int (iI pR), .int (iI (pC + 1)), .int (iI pW), .int (iI pL), .int (iI pH), .int (iI pN), .int (iI pQ), .int (iI pT), .int (iI pB), .int (iI pX), .int (iI pY), .int (iI pM), .int (iI pU)]))] ++ tl)) rfl B
      refine lv_aload_n hx hb dX3_addRow_54 rfl (lv_at hl 1 rfl) ?_
      refine lv_dup hx hb dX3_addRow_55 rfl ?_
      refine x_get (ci := 3) (C := RX3) (T := TX3) (N := 15) (v := .int (iI pH)) B 0 rfl rfl in_X3 6 (by decide) mw_319 (fun _ h9 => h9) rfl dX3_addRow_56 ?_
      refine lv_aload_n hx hb dX3_addRow_59 rfl (lv_at hl 1 rfl) ?_
      refine x_get (ci := 3) (C := RX3) (T := TX3) (N := 15) (v := .ref (Aw 20)) B 0 rfl rfl in_X3 1 (by decide) mw_314 (fun _ h9 => h9) rfl dX3_addRow_60 ?_
      obtain ⟨k_4, hk_4⟩ := pk_at (hs := [(pg, .inr (3, [.ref (A 50 0 0), .ref (Aw 20), .int (iI pR), .int (iI (pC + 1)), .int (iI pW), .int (iI pL), .int (iI pH), .int (iI pN), .int (iI pQ), .int (iI pT), .int (iI pB), .int (iI pX), .int (iI pY), .int (iI pM), .int (iI pU)]))]) (RI_o hR)
      refine x_get (ci := 6) (C := RX6) (T := TX6) (N := 18) (v := .ref (Aw 1)) B k_4 hk_4 rfl in_X6 1 (by decide) mw_227 (fun _ h9 => h9) rfl dX3_addRow_63 ?_
      refine lv_iload_n hx hb dX3_addRow_66 rfl (lv_at hl 0 rfl) ?_
      obtain ⟨k_5, hk_5⟩ := pk_at (hs := [(pg, .inr (3, [.ref (A 50 0 0), .ref (Aw 20), .int (iI pR), .int (iI (pC + 1)), .int (iI pW), .int (iI pL), .int (iI pH), .int (iI pN), .int (iI pQ), .int (iI pT), .int (iI pB), .int (iI pX), .int (iI pY), .int (iI pM), .int (iI pU)]))]) (RI_1 hR)
      refine x_iald' (f := (V 1)) (z := (pR + pC)) B k_5 hk_5 (by omega) dX3_addRow_67 ?_
      refine lv_seti (y := iI (M 1 (pR + pC))) (congrArg iI (show (V 1) (pR + pC) = M 1 (pR + pC) from RA_1 (RI_a hR) _ (by omega) (by omega))) ?_
      have z_6 : 0 ≤ M 1 (pR + pC) ∧ M 1 (pR + pC) ≤ 200 := MK_1 hM _
      refine y_add hx hb dX3_addRow_68 ?_
      refine x_put (ci := 3) (C := RX3) (T := TX3) (N := 15) (ty := .int) (v := .int (iI (pH + (M 1 (pR + pC))))) B tyX3_ok nmX3 0 rfl rfl in_X3 6 (by decide) mw_319 (fun _ h9 => h9) rfl (by decide +kernel) rfl rfl (Nat.le_of_ble_eq_true rfl) dX3_addRow_69 (fun H locs B => ?_)
      have B := bd_to (ws' := ([(pg, .inr (3, [.ref (A 50 0 0), .ref (Aw 20), .int (iI pR), .int (iI (pC + 1)), .int (iI pW), .int (iI pL), .int (iI (pH + (M 1 (pR + pC)))), .int (iI pN), .int (iI pQ), .int (iI pT), .int (iI pB), .int (iI pX), .int (iI pY), .int (iI pM), .int (iI pU)]))] ++ tl)) rfl B
      refine lv_aload_n hx hb dX3_addRow_72 rfl (lv_at hl 1 rfl) ?_
      refine lv_dup hx hb dX3_addRow_73 rfl ?_
      refine x_get (ci := 3) (C := RX3) (T := TX3) (N := 15) (v := .int (iI pN)) B 0 rfl rfl in_X3 7 (by decide) mw_320 (fun _ h9 => h9) rfl dX3_addRow_74 ?_
      refine lv_aload_n hx hb dX3_addRow_77 rfl (lv_at hl 1 rfl) ?_
      refine x_get (ci := 3) (C := RX3) (T := TX3) (N := 15) (v := .ref (Aw 20)) B 0 rfl rfl in_X3 1 (by decide) mw_314 (fun _ h9 => h9) rfl dX3_addRow_78 ?_
      obtain ⟨k_7, hk_7⟩ := pk_at (hs := [(pg, .inr (3, [.ref (A 50 0 0), .ref (Aw 20), .int (iI pR), .int (iI (pC + 1)), .int (iI pW), .int (iI pL), .int (iI (pH + (M 1 (pR + pC)))), .int (iI pN), .int (iI pQ), .int (iI pT), .int (iI pB), .int (iI pX), .int (iI pY), .int (iI pM), .int (iI pU)]))]) (RI_o hR)
      refine x_get (ci := 6) (C := RX6) (T := TX6) (N := 18) (v := .ref (Aw 4)) B k_7 hk_7 rfl in_X6 4 (by decide) mw_235 (fun _ h9 => h9) rfl dX3_addRow_81 ?_
      refine lv_iload_n hx hb dX3_addRow_84 rfl (lv_at hl 0 rfl) ?_
      obtain ⟨k_8, hk_8⟩ := pk_at (hs := [(pg, .inr (3, [.ref (A 50 0 0), .ref (Aw 20), .int (iI pR), .int (iI (pC + 1)), .int (iI pW), .int (iI pL), .int (iI (pH + (M 1 (pR + pC)))), .int (iI pN), .int (iI pQ), .int (iI pT), .int (iI pB), .int (iI pX), .int (iI pY), .int (iI pM), .int (iI pU)]))]) (RI_4 hR)
      refine x_iald' (f := (V 4)) (z := (pR + pC)) B k_8 hk_8 (by omega) dX3_addRow_85 ?_
      refine lv_seti (y := iI (M 4 (pR + pC))) (congrArg iI (show (V 4) (pR + pC) = M 4 (pR + pC) from RA_4 (RI_a hR) _ (by omega) (by omega))) ?_
      have z_9 : 0 ≤ M 4 (pR + pC) ∧ M 4 (pR + pC) ≤ 1000 := MK_4 hM _
      refine y_add hx hb dX3_addRow_86 ?_
      refine x_put (ci := 3) (C := RX3) (T := TX3) (N := 15) (ty := .int) (v := .int (iI (pN + (M 4 (pR + pC))))) B tyX3_ok nmX3 0 rfl rfl in_X3 7 (by decide) mw_320 (fun _ h9 => h9) rfl (by decide +kernel) rfl rfl (Nat.le_of_ble_eq_true rfl) dX3_addRow_87 (fun H locs B => ?_)
      have B := bd_to (ws' := ([(pg, .inr (3, [.ref (A 50 0 0), .ref (Aw 20), .int (iI pR), .int (iI (pC + 1)), .int (iI pW), .int (iI pL), .int (iI (pH + (M 1 (pR + pC)))), .int (iI (pN + (M 4 (pR + pC)))), .int (iI pQ), .int (iI pT), .int (iI pB), .int (iI pX), .int (iI pY), .int (iI pM), .int (iI pU)]))] ++ tl)) rfl B
      refine lv_aload_n hx hb dX3_addRow_90 rfl (lv_at hl 1 rfl) ?_
      refine lv_aload_n hx hb dX3_addRow_91 rfl (lv_at hl 1 rfl) ?_
      refine x_get (ci := 3) (C := RX3) (T := TX3) (N := 15) (v := .ref (Aw 20)) B 0 rfl rfl in_X3 1 (by decide) mw_314 (fun _ h9 => h9) rfl dX3_addRow_92 ?_
      obtain ⟨k_10, hk_10⟩ := pk_at (hs := [(pg, .inr (3, [.ref (A 50 0 0), .ref (Aw 20), .int (iI pR), .int (iI (pC + 1)), .int (iI pW), .int (iI pL), .int (iI (pH + (M 1 (pR + pC)))), .int (iI (pN + (M 4 (pR + pC)))), .int (iI pQ), .int (iI pT), .int (iI pB), .int (iI pX), .int (iI pY), .int (iI pM), .int (iI pU)]))]) (RI_o hR)
      refine x_get (ci := 6) (C := RX6) (T := TX6) (N := 18) (v := .ref (Aw 5)) B k_10 hk_10 rfl in_X6 5 (by decide) mw_237 (fun _ h9 => h9) rfl dX3_addRow_95 ?_
      refine lv_iload_n hx hb dX3_addRow_98 rfl (lv_at hl 0 rfl) ?_
      obtain ⟨k_11, hk_11⟩ := pk_at (hs := [(pg, .inr (3, [.ref (A 50 0 0), .ref (Aw 20), .int (iI pR), .int (iI (pC + 1)), .int (iI pW), .int (iI pL), .int (iI (pH + (M 1 (pR + pC)))), .int (iI (pN + (M 4 (pR + pC)))), .int (iI pQ), .int (iI pT), .int (iI pB), .int (iI pX), .int (iI pY), .int (iI pM), .int (iI pU)]))]) (RI_5 hR)
      refine x_iald' (f := (V 5)) (z := (pR + pC)) B k_11 hk_11 (by omega) dX3_addRow_99 ?_
      refine lv_seti (y := iI (M 5 (pR + pC))) (congrArg iI (show (V 5) (pR + pC) = M 5 (pR + pC) from RA_5 (RI_a hR) _ (by omega) (by omega))) ?_
      have z_12 : 0 ≤ M 5 (pR + pC) ∧ M 5 (pR + pC) ≤ 5 := MK_5 hM _
      refine lv_if_le (tgt := 115) hx hb dX3_addRow_100 (by decide) (fun c_13 => ?_) (fun c_13 => ?_)
      · have zc_13 : (M 5 (pR + pC)) ≤ 0 := jle (a := (M 5 (pR + pC))) (b := 0) (by omega) (by omega) c_13
        refine lv_aload_n hx hb dX3_addRow_115 rfl (lv_at hl 1 rfl) ?_
        refine x_get (ci := 3) (C := RX3) (T := TX3) (N := 15) (v := .int (iI pQ)) B 0 rfl rfl in_X3 8 (by decide) mw_321 (fun _ h9 => h9) rfl dX3_addRow_116 ?_
        refine x_put (ci := 3) (C := RX3) (T := TX3) (N := 15) (ty := .int) (v := .int (iI pQ)) B tyX3_ok nmX3 0 rfl rfl in_X3 8 (by decide) mw_321 (fun _ h9 => h9) rfl (by decide +kernel) rfl rfl (Nat.le_of_ble_eq_true rfl) dX3_addRow_119 (fun H locs B => ?_)
        have B := bd_to (ws' := ([(pg, .inr (3, [.ref (A 50 0 0), .ref (Aw 20), .int (iI pR), .int (iI (pC + 1)), .int (iI pW), .int (iI pL), .int (iI (pH + (M 1 (pR + pC)))), .int (iI (pN + (M 4 (pR + pC)))), .int (iI pQ), .int (iI pT), .int (iI pB), .int (iI pX), .int (iI pY), .int (iI pM), .int (iI pU)]))] ++ tl)) rfl B
        refine lv_iconst (v := iI 1) hx hb dX3_addRow_122 (by decide) ?_
        have e_14 : (pH + M 1 (pR + pC)) = (pH + (M 1 (pR + pC))) := (by first | rfl | omega)
        have e_15 : (pN + M 4 (pR + pC)) = (pN + (M 4 (pR + pC))) := (by first | rfl | omega)
        have e_16 : (if 0 < M 5 (pR + pC) then M 5 (pR + pC) else pQ) = pQ := (by first | exact if_pos (by omega) | exact if_neg (by omega))
        have B := bd_to (ws' := ([(pg, .inr (3, [.ref (A 50 0 0), .ref (Aw 20), .int (iI pR), .int (iI (pC + 1)), .int (iI pW), .int (iI pL), .int (iI (pH + M 1 (pR + pC))), .int (iI (pN + M 4 (pR + pC))), .int (iI (if 0 < M 5 (pR + pC) then M 5 (pR + pC) else pQ)), .int (iI pT), .int (iI pB), .int (iI pX), .int (iI pY), .int (iI pM), .int (iI pU)]))] ++ tl)) (by first | rfl | (rw [e_14, e_15, e_16]) | (rw [e_16, e_15, e_14])) B
        exact k_zret B hr (by omega) (Or.inr (⟨(by omega), rfl, rfl, rfl, rfl⟩)) ⟨Nat.le_of_ble_eq_true rfl, Nat.le_of_ble_eq_true rfl⟩ ⟨Nat.le_of_ble_eq_true rfl, Nat.le_of_ble_eq_true rfl⟩ dX3_addRow_123
      · have zc_13 : 0 < (M 5 (pR + pC)) := jnle (a := (M 5 (pR + pC))) (b := 0) (by omega) (by omega) c_13
        refine lv_aload_n hx hb dX3_addRow_103 rfl (lv_at hl 1 rfl) ?_
        refine x_get (ci := 3) (C := RX3) (T := TX3) (N := 15) (v := .ref (Aw 20)) B 0 rfl rfl in_X3 1 (by decide) mw_314 (fun _ h9 => h9) rfl dX3_addRow_104 ?_
        obtain ⟨k_17, hk_17⟩ := pk_at (hs := [(pg, .inr (3, [.ref (A 50 0 0), .ref (Aw 20), .int (iI pR), .int (iI (pC + 1)), .int (iI pW), .int (iI pL), .int (iI (pH + (M 1 (pR + pC)))), .int (iI (pN + (M 4 (pR + pC)))), .int (iI pQ), .int (iI pT), .int (iI pB), .int (iI pX), .int (iI pY), .int (iI pM), .int (iI pU)]))]) (RI_o hR)
        refine x_get (ci := 6) (C := RX6) (T := TX6) (N := 18) (v := .ref (Aw 5)) B k_17 hk_17 rfl in_X6 5 (by decide) mw_237 (fun _ h9 => h9) rfl dX3_addRow_107 ?_
        refine lv_iload_n hx hb dX3_addRow_110 rfl (lv_at hl 0 rfl) ?_
        obtain ⟨k_18, hk_18⟩ := pk_at (hs := [(pg, .inr (3, [.ref (A 50 0 0), .ref (Aw 20), .int (iI pR), .int (iI (pC + 1)), .int (iI pW), .int (iI pL), .int (iI (pH + (M 1 (pR + pC)))), .int (iI (pN + (M 4 (pR + pC)))), .int (iI pQ), .int (iI pT), .int (iI pB), .int (iI pX), .int (iI pY), .int (iI pM), .int (iI pU)]))]) (RI_5 hR)
        refine x_iald' (f := (V 5)) (z := (pR + pC)) B k_18 hk_18 (by omega) dX3_addRow_111 ?_
        refine lv_seti (y := iI (M 5 (pR + pC))) (congrArg iI (show (V 5) (pR + pC) = M 5 (pR + pC) from RA_5 (RI_a hR) _ (by omega) (by omega))) ?_
        have z_19 : 0 ≤ M 5 (pR + pC) ∧ M 5 (pR + pC) ≤ 5 := MK_5 hM _
        refine lv_goto (tgt := 119) hx hb dX3_addRow_112 (by decide) ?_
        refine x_put (ci := 3) (C := RX3) (T := TX3) (N := 15) (ty := .int) (v := .int (iI (M 5 (pR + pC)))) B tyX3_ok nmX3 0 rfl rfl in_X3 8 (by decide) mw_321 (fun _ h9 => h9) rfl (by decide +kernel) rfl rfl (Nat.le_of_ble_eq_true rfl) dX3_addRow_119 (fun H locs B => ?_)
        have B := bd_to (ws' := ([(pg, .inr (3, [.ref (A 50 0 0), .ref (Aw 20), .int (iI pR), .int (iI (pC + 1)), .int (iI pW), .int (iI pL), .int (iI (pH + (M 1 (pR + pC)))), .int (iI (pN + (M 4 (pR + pC)))), .int (iI (M 5 (pR + pC))), .int (iI pT), .int (iI pB), .int (iI pX), .int (iI pY), .int (iI pM), .int (iI pU)]))] ++ tl)) rfl B
        refine lv_iconst (v := iI 1) hx hb dX3_addRow_122 (by decide) ?_
        have e_20 : (pH + M 1 (pR + pC)) = (pH + (M 1 (pR + pC))) := (by first | rfl | omega)
        have e_21 : (pN + M 4 (pR + pC)) = (pN + (M 4 (pR + pC))) := (by first | rfl | omega)
        have e_22 : (if 0 < M 5 (pR + pC) then M 5 (pR + pC) else pQ) = (M 5 (pR + pC)) := (by first | exact if_pos (by omega) | exact if_neg (by omega))
        have B := bd_to (ws' := ([(pg, .inr (3, [.ref (A 50 0 0), .ref (Aw 20), .int (iI pR), .int (iI (pC + 1)), .int (iI pW), .int (iI pL), .int (iI (pH + M 1 (pR + pC))), .int (iI (pN + M 4 (pR + pC))), .int (iI (if 0 < M 5 (pR + pC) then M 5 (pR + pC) else pQ)), .int (iI pT), .int (iI pB), .int (iI pX), .int (iI pY), .int (iI pM), .int (iI pU)]))] ++ tl)) (by first | rfl | (rw [e_20, e_21, e_22]) | (rw [e_22, e_21, e_20])) B
        exact k_zret B hr (by omega) (Or.inr (⟨(by omega), rfl, rfl, rfl, rfl⟩)) ⟨Nat.le_of_ble_eq_true rfl, Nat.le_of_ble_eq_true rfl⟩ ⟨Nat.le_of_ble_eq_true rfl, Nat.le_of_ble_eq_true rfl⟩ dX3_addRow_123
    · have zc_3 : 0 < pC := jnle (a := pC) (b := 0) (by omega) (by omega) c_3
      refine lv_aload_n hx hb dX3_addRow_28 rfl (lv_at hl 1 rfl) ?_
      refine x_get (ci := 3) (C := RX3) (T := TX3) (N := 15) (v := .ref (Aw 20)) B 0 rfl rfl in_X3 1 (by decide) mw_314 (fun _ h9 => h9) rfl dX3_addRow_29 ?_
      obtain ⟨k_23, hk_23⟩ := pk_at (hs := [(pg, .inr (3, [.ref (A 50 0 0), .ref (Aw 20), .int (iI pR), .int (iI pC), .int (iI pW), .int (iI pL), .int (iI pH), .int (iI pN), .int (iI pQ), .int (iI pT), .int (iI pB), .int (iI pX), .int (iI pY), .int (iI pM), .int (iI pU)]))]) (RI_o hR)
      refine x_get (ci := 6) (C := RX6) (T := TX6) (N := 18) (v := .ref (Aw 6)) B k_23 hk_23 rfl in_X6 6 (by decide) mw_239 (fun _ h9 => h9) rfl dX3_addRow_32 ?_
      refine lv_iload_n hx hb dX3_addRow_35 rfl (lv_at hl 0 rfl) ?_
      refine lv_iconst (v := iI 1) hx hb dX3_addRow_36 (by decide) ?_
      refine y_sub hx hb dX3_addRow_37 ?_
      obtain ⟨k_24, hk_24⟩ := pk_at (hs := [(pg, .inr (3, [.ref (A 50 0 0), .ref (Aw 20), .int (iI pR), .int (iI pC), .int (iI pW), .int (iI pL), .int (iI pH), .int (iI pN), .int (iI pQ), .int (iI pT), .int (iI pB), .int (iI pX), .int (iI pY), .int (iI pM), .int (iI pU)]))]) (RI_6 hR)
      refine x_zald' (f := (V 6)) (z := ((pR + pC) - 1)) B k_24 hk_24 (by omega) dX3_addRow_38 ?_
      refine lv_seti (y := iI (M 6 ((pR + pC) - 1))) (congrArg iI (show (V 6) ((pR + pC) - 1) = M 6 ((pR + pC) - 1) from RA_6 (RI_a hR) _ (by omega) (by omega))) ?_
      have z_25 : 0 ≤ M 6 ((pR + pC) - 1) ∧ M 6 ((pR + pC) - 1) ≤ 1 := MK_6 hM _
      refine lv_if_eq (tgt := 44) hx hb dX3_addRow_39 (by decide) (fun c_26 => ?_) (fun c_26 => ?_)
      · have zc_26 : (M 6 ((pR + pC) - 1)) = 0 := jeq (a := (M 6 ((pR + pC) - 1))) (b := 0) (by omega) (by omega) c_26
        refine lv_aload_n hx hb dX3_addRow_44 rfl (lv_at hl 1 rfl) ?_
        refine lv_dup hx hb dX3_addRow_45 rfl ?_
        refine x_get (ci := 3) (C := RX3) (T := TX3) (N := 15) (v := .int (iI pC)) B 0 rfl rfl in_X3 3 (by decide) mw_316 (fun _ h9 => h9) rfl dX3_addRow_46 ?_
        refine lv_iconst (v := iI 1) hx hb dX3_addRow_49 (by decide) ?_
        refine y_add hx hb dX3_addRow_50 ?_
        refine x_put (ci := 3) (C := RX3) (T := TX3) (N := 15) (ty := .int) (v := .int (iI (pC + 1))) B tyX3_ok nmX3 0 rfl rfl in_X3 3 (by decide) mw_316 (fun _ h9 => h9) rfl (by decide +kernel) rfl rfl (Nat.le_of_ble_eq_true rfl) dX3_addRow_51 (fun H locs B => ?_)
        have B := bd_to (ws' := ([(pg, .inr (3, [.ref (A 50 0 0), .ref (Aw 20), .int (iI pR), .int (iI (pC + 1)), .int (iI pW), .int (iI pL), .int (iI pH), .int (iI pN), .int (iI pQ), .int (iI pT), .int (iI pB), .int (iI pX), .int (iI pY), .int (iI pM), .int (iI pU)]))] ++ tl)) rfl B
        refine lv_aload_n hx hb dX3_addRow_54 rfl (lv_at hl 1 rfl) ?_
        refine lv_dup hx hb dX3_addRow_55 rfl ?_
        refine x_get (ci := 3) (C := RX3) (T := TX3) (N := 15) (v := .int (iI pH)) B 0 rfl rfl in_X3 6 (by decide) mw_319 (fun _ h9 => h9) rfl dX3_addRow_56 ?_
        refine lv_aload_n hx hb dX3_addRow_59 rfl (lv_at hl 1 rfl) ?_
        refine x_get (ci := 3) (C := RX3) (T := TX3) (N := 15) (v := .ref (Aw 20)) B 0 rfl rfl in_X3 1 (by decide) mw_314 (fun _ h9 => h9) rfl dX3_addRow_60 ?_
        obtain ⟨k_27, hk_27⟩ := pk_at (hs := [(pg, .inr (3, [.ref (A 50 0 0), .ref (Aw 20), .int (iI pR), .int (iI (pC + 1)), .int (iI pW), .int (iI pL), .int (iI pH), .int (iI pN), .int (iI pQ), .int (iI pT), .int (iI pB), .int (iI pX), .int (iI pY), .int (iI pM), .int (iI pU)]))]) (RI_o hR)
        refine x_get (ci := 6) (C := RX6) (T := TX6) (N := 18) (v := .ref (Aw 1)) B k_27 hk_27 rfl in_X6 1 (by decide) mw_227 (fun _ h9 => h9) rfl dX3_addRow_63 ?_
        refine lv_iload_n hx hb dX3_addRow_66 rfl (lv_at hl 0 rfl) ?_
        obtain ⟨k_28, hk_28⟩ := pk_at (hs := [(pg, .inr (3, [.ref (A 50 0 0), .ref (Aw 20), .int (iI pR), .int (iI (pC + 1)), .int (iI pW), .int (iI pL), .int (iI pH), .int (iI pN), .int (iI pQ), .int (iI pT), .int (iI pB), .int (iI pX), .int (iI pY), .int (iI pM), .int (iI pU)]))]) (RI_1 hR)
        refine x_iald' (f := (V 1)) (z := (pR + pC)) B k_28 hk_28 (by omega) dX3_addRow_67 ?_
        refine lv_seti (y := iI (M 1 (pR + pC))) (congrArg iI (show (V 1) (pR + pC) = M 1 (pR + pC) from RA_1 (RI_a hR) _ (by omega) (by omega))) ?_
        have z_29 : 0 ≤ M 1 (pR + pC) ∧ M 1 (pR + pC) ≤ 200 := MK_1 hM _
        refine y_add hx hb dX3_addRow_68 ?_
        refine x_put (ci := 3) (C := RX3) (T := TX3) (N := 15) (ty := .int) (v := .int (iI (pH + (M 1 (pR + pC))))) B tyX3_ok nmX3 0 rfl rfl in_X3 6 (by decide) mw_319 (fun _ h9 => h9) rfl (by decide +kernel) rfl rfl (Nat.le_of_ble_eq_true rfl) dX3_addRow_69 (fun H locs B => ?_)
        have B := bd_to (ws' := ([(pg, .inr (3, [.ref (A 50 0 0), .ref (Aw 20), .int (iI pR), .int (iI (pC + 1)), .int (iI pW), .int (iI pL), .int (iI (pH + (M 1 (pR + pC)))), .int (iI pN), .int (iI pQ), .int (iI pT), .int (iI pB), .int (iI pX), .int (iI pY), .int (iI pM), .int (iI pU)]))] ++ tl)) rfl B
        refine lv_aload_n hx hb dX3_addRow_72 rfl (lv_at hl 1 rfl) ?_
        refine lv_dup hx hb dX3_addRow_73 rfl ?_
        refine x_get (ci := 3) (C := RX3) (T := TX3) (N := 15) (v := .int (iI pN)) B 0 rfl rfl in_X3 7 (by decide) mw_320 (fun _ h9 => h9) rfl dX3_addRow_74 ?_
        refine lv_aload_n hx hb dX3_addRow_77 rfl (lv_at hl 1 rfl) ?_
        refine x_get (ci := 3) (C := RX3) (T := TX3) (N := 15) (v := .ref (Aw 20)) B 0 rfl rfl in_X3 1 (by decide) mw_314 (fun _ h9 => h9) rfl dX3_addRow_78 ?_
        obtain ⟨k_30, hk_30⟩ := pk_at (hs := [(pg, .inr (3, [.ref (A 50 0 0), .ref (Aw 20), .int (iI pR), .int (iI (pC + 1)), .int (iI pW), .int (iI pL), .int (iI (pH + (M 1 (pR + pC)))), .int (iI pN), .int (iI pQ), .int (iI pT), .int (iI pB), .int (iI pX), .int (iI pY), .int (iI pM), .int (iI pU)]))]) (RI_o hR)
        refine x_get (ci := 6) (C := RX6) (T := TX6) (N := 18) (v := .ref (Aw 4)) B k_30 hk_30 rfl in_X6 4 (by decide) mw_235 (fun _ h9 => h9) rfl dX3_addRow_81 ?_
        refine lv_iload_n hx hb dX3_addRow_84 rfl (lv_at hl 0 rfl) ?_
        obtain ⟨k_31, hk_31⟩ := pk_at (hs := [(pg, .inr (3, [.ref (A 50 0 0), .ref (Aw 20), .int (iI pR), .int (iI (pC + 1)), .int (iI pW), .int (iI pL), .int (iI (pH + (M 1 (pR + pC)))), .int (iI pN), .int (iI pQ), .int (iI pT), .int (iI pB), .int (iI pX), .int (iI pY), .int (iI pM), .int (iI pU)]))]) (RI_4 hR)
        refine x_iald' (f := (V 4)) (z := (pR + pC)) B k_31 hk_31 (by omega) dX3_addRow_85 ?_
        refine lv_seti (y := iI (M 4 (pR + pC))) (congrArg iI (show (V 4) (pR + pC) = M 4 (pR + pC) from RA_4 (RI_a hR) _ (by omega) (by omega))) ?_
        have z_32 : 0 ≤ M 4 (pR + pC) ∧ M 4 (pR + pC) ≤ 1000 := MK_4 hM _
        refine y_add hx hb dX3_addRow_86 ?_
        refine x_put (ci := 3) (C := RX3) (T := TX3) (N := 15) (ty := .int) (v := .int (iI (pN + (M 4 (pR + pC))))) B tyX3_ok nmX3 0 rfl rfl in_X3 7 (by decide) mw_320 (fun _ h9 => h9) rfl (by decide +kernel) rfl rfl (Nat.le_of_ble_eq_true rfl) dX3_addRow_87 (fun H locs B => ?_)
        have B := bd_to (ws' := ([(pg, .inr (3, [.ref (A 50 0 0), .ref (Aw 20), .int (iI pR), .int (iI (pC + 1)), .int (iI pW), .int (iI pL), .int (iI (pH + (M 1 (pR + pC)))), .int (iI (pN + (M 4 (pR + pC)))), .int (iI pQ), .int (iI pT), .int (iI pB), .int (iI pX), .int (iI pY), .int (iI pM), .int (iI pU)]))] ++ tl)) rfl B
        refine lv_aload_n hx hb dX3_addRow_90 rfl (lv_at hl 1 rfl) ?_
        refine lv_aload_n hx hb dX3_addRow_91 rfl (lv_at hl 1 rfl) ?_
        refine x_get (ci := 3) (C := RX3) (T := TX3) (N := 15) (v := .ref (Aw 20)) B 0 rfl rfl in_X3 1 (by decide) mw_314 (fun _ h9 => h9) rfl dX3_addRow_92 ?_
        obtain ⟨k_33, hk_33⟩ := pk_at (hs := [(pg, .inr (3, [.ref (A 50 0 0), .ref (Aw 20), .int (iI pR), .int (iI (pC + 1)), .int (iI pW), .int (iI pL), .int (iI (pH + (M 1 (pR + pC)))), .int (iI (pN + (M 4 (pR + pC)))), .int (iI pQ), .int (iI pT), .int (iI pB), .int (iI pX), .int (iI pY), .int (iI pM), .int (iI pU)]))]) (RI_o hR)
        refine x_get (ci := 6) (C := RX6) (T := TX6) (N := 18) (v := .ref (Aw 5)) B k_33 hk_33 rfl in_X6 5 (by decide) mw_237 (fun _ h9 => h9) rfl dX3_addRow_95 ?_
        refine lv_iload_n hx hb dX3_addRow_98 rfl (lv_at hl 0 rfl) ?_
        obtain ⟨k_34, hk_34⟩ := pk_at (hs := [(pg, .inr (3, [.ref (A 50 0 0), .ref (Aw 20), .int (iI pR), .int (iI (pC + 1)), .int (iI pW), .int (iI pL), .int (iI (pH + (M 1 (pR + pC)))), .int (iI (pN + (M 4 (pR + pC)))), .int (iI pQ), .int (iI pT), .int (iI pB), .int (iI pX), .int (iI pY), .int (iI pM), .int (iI pU)]))]) (RI_5 hR)
        refine x_iald' (f := (V 5)) (z := (pR + pC)) B k_34 hk_34 (by omega) dX3_addRow_99 ?_
        refine lv_seti (y := iI (M 5 (pR + pC))) (congrArg iI (show (V 5) (pR + pC) = M 5 (pR + pC) from RA_5 (RI_a hR) _ (by omega) (by omega))) ?_
        have z_35 : 0 ≤ M 5 (pR + pC) ∧ M 5 (pR + pC) ≤ 5 := MK_5 hM _
        refine lv_if_le (tgt := 115) hx hb dX3_addRow_100 (by decide) (fun c_36 => ?_) (fun c_36 => ?_)
        · have zc_36 : (M 5 (pR + pC)) ≤ 0 := jle (a := (M 5 (pR + pC))) (b := 0) (by omega) (by omega) c_36
          refine lv_aload_n hx hb dX3_addRow_115 rfl (lv_at hl 1 rfl) ?_
          refine x_get (ci := 3) (C := RX3) (T := TX3) (N := 15) (v := .int (iI pQ)) B 0 rfl rfl in_X3 8 (by decide) mw_321 (fun _ h9 => h9) rfl dX3_addRow_116 ?_
          refine x_put (ci := 3) (C := RX3) (T := TX3) (N := 15) (ty := .int) (v := .int (iI pQ)) B tyX3_ok nmX3 0 rfl rfl in_X3 8 (by decide) mw_321 (fun _ h9 => h9) rfl (by decide +kernel) rfl rfl (Nat.le_of_ble_eq_true rfl) dX3_addRow_119 (fun H locs B => ?_)
          have B := bd_to (ws' := ([(pg, .inr (3, [.ref (A 50 0 0), .ref (Aw 20), .int (iI pR), .int (iI (pC + 1)), .int (iI pW), .int (iI pL), .int (iI (pH + (M 1 (pR + pC)))), .int (iI (pN + (M 4 (pR + pC)))), .int (iI pQ), .int (iI pT), .int (iI pB), .int (iI pX), .int (iI pY), .int (iI pM), .int (iI pU)]))] ++ tl)) rfl B
          refine lv_iconst (v := iI 1) hx hb dX3_addRow_122 (by decide) ?_
          have e_37 : (pH + M 1 (pR + pC)) = (pH + (M 1 (pR + pC))) := (by first | rfl | omega)
          have e_38 : (pN + M 4 (pR + pC)) = (pN + (M 4 (pR + pC))) := (by first | rfl | omega)
          have e_39 : (if 0 < M 5 (pR + pC) then M 5 (pR + pC) else pQ) = pQ := (by first | exact if_pos (by omega) | exact if_neg (by omega))
          have B := bd_to (ws' := ([(pg, .inr (3, [.ref (A 50 0 0), .ref (Aw 20), .int (iI pR), .int (iI (pC + 1)), .int (iI pW), .int (iI pL), .int (iI (pH + M 1 (pR + pC))), .int (iI (pN + M 4 (pR + pC))), .int (iI (if 0 < M 5 (pR + pC) then M 5 (pR + pC) else pQ)), .int (iI pT), .int (iI pB), .int (iI pX), .int (iI pY), .int (iI pM), .int (iI pU)]))] ++ tl)) (by first | rfl | (rw [e_37, e_38, e_39]) | (rw [e_39, e_38, e_37])) B
          exact k_zret B hr (by omega) (Or.inr (⟨(by omega), rfl, rfl, rfl, rfl⟩)) ⟨Nat.le_of_ble_eq_true rfl, Nat.le_of_ble_eq_true rfl⟩ ⟨Nat.le_of_ble_eq_true rfl, Nat.le_of_ble_eq_true rfl⟩ dX3_addRow_123
        · have zc_36 : 0 < (M 5 (pR + pC)) := jnle (a := (M 5 (pR + pC))) (b := 0) (by omega) (by omega) c_36
          refine lv_aload_n hx hb dX3_addRow_103 rfl (lv_at hl 1 rfl) ?_
          refine x_get (ci := 3) (C := RX3) (T := TX3) (N := 15) (v := .ref (Aw 20)) B 0 rfl rfl in_X3 1 (by decide) mw_314 (fun _ h9 => h9) rfl dX3_addRow_104 ?_
          obtain ⟨k_40, hk_40⟩ := pk_at (hs := [(pg, .inr (3, [.ref (A 50 0 0), .ref (Aw 20), .int (iI pR), .int (iI (pC + 1)), .int (iI pW), .int (iI pL), .int (iI (pH + (M 1 (pR + pC)))), .int (iI (pN + (M 4 (pR + pC)))), .int (iI pQ), .int (iI pT), .int (iI pB), .int (iI pX), .int (iI pY), .int (iI pM), .int (iI pU)]))]) (RI_o hR)
          refine x_get (ci := 6) (C := RX6) (T := TX6) (N := 18) (v := .ref (Aw 5)) B k_40 hk_40 rfl in_X6 5 (by decide) mw_237 (fun _ h9 => h9) rfl dX3_addRow_107 ?_
          refine lv_iload_n hx hb dX3_addRow_110 rfl (lv_at hl 0 rfl) ?_
          obtain ⟨k_41, hk_41⟩ := pk_at (hs := [(pg, .inr (3, [.ref (A 50 0 0), .ref (Aw 20), .int (iI pR), .int (iI (pC + 1)), .int (iI pW), .int (iI pL), .int (iI (pH + (M 1 (pR + pC)))), .int (iI (pN + (M 4 (pR + pC)))), .int (iI pQ), .int (iI pT), .int (iI pB), .int (iI pX), .int (iI pY), .int (iI pM), .int (iI pU)]))]) (RI_5 hR)
          refine x_iald' (f := (V 5)) (z := (pR + pC)) B k_41 hk_41 (by omega) dX3_addRow_111 ?_
          refine lv_seti (y := iI (M 5 (pR + pC))) (congrArg iI (show (V 5) (pR + pC) = M 5 (pR + pC) from RA_5 (RI_a hR) _ (by omega) (by omega))) ?_
          have z_42 : 0 ≤ M 5 (pR + pC) ∧ M 5 (pR + pC) ≤ 5 := MK_5 hM _
          refine lv_goto (tgt := 119) hx hb dX3_addRow_112 (by decide) ?_
          refine x_put (ci := 3) (C := RX3) (T := TX3) (N := 15) (ty := .int) (v := .int (iI (M 5 (pR + pC)))) B tyX3_ok nmX3 0 rfl rfl in_X3 8 (by decide) mw_321 (fun _ h9 => h9) rfl (by decide +kernel) rfl rfl (Nat.le_of_ble_eq_true rfl) dX3_addRow_119 (fun H locs B => ?_)
          have B := bd_to (ws' := ([(pg, .inr (3, [.ref (A 50 0 0), .ref (Aw 20), .int (iI pR), .int (iI (pC + 1)), .int (iI pW), .int (iI pL), .int (iI (pH + (M 1 (pR + pC)))), .int (iI (pN + (M 4 (pR + pC)))), .int (iI (M 5 (pR + pC))), .int (iI pT), .int (iI pB), .int (iI pX), .int (iI pY), .int (iI pM), .int (iI pU)]))] ++ tl)) rfl B
          refine lv_iconst (v := iI 1) hx hb dX3_addRow_122 (by decide) ?_
          have e_43 : (pH + M 1 (pR + pC)) = (pH + (M 1 (pR + pC))) := (by first | rfl | omega)
          have e_44 : (pN + M 4 (pR + pC)) = (pN + (M 4 (pR + pC))) := (by first | rfl | omega)
          have e_45 : (if 0 < M 5 (pR + pC) then M 5 (pR + pC) else pQ) = (M 5 (pR + pC)) := (by first | exact if_pos (by omega) | exact if_neg (by omega))
          have B := bd_to (ws' := ([(pg, .inr (3, [.ref (A 50 0 0), .ref (Aw 20), .int (iI pR), .int (iI (pC + 1)), .int (iI pW), .int (iI pL), .int (iI (pH + M 1 (pR + pC))), .int (iI (pN + M 4 (pR + pC))), .int (iI (if 0 < M 5 (pR + pC) then M 5 (pR + pC) else pQ)), .int (iI pT), .int (iI pB), .int (iI pX), .int (iI pY), .int (iI pM), .int (iI pU)]))] ++ tl)) (by first | rfl | (rw [e_43, e_44, e_45]) | (rw [e_45, e_44, e_43])) B
          exact k_zret B hr (by omega) (Or.inr (⟨(by omega), rfl, rfl, rfl, rfl⟩)) ⟨Nat.le_of_ble_eq_true rfl, Nat.le_of_ble_eq_true rfl⟩ ⟨Nat.le_of_ble_eq_true rfl, Nat.le_of_ble_eq_true rfl⟩ dX3_addRow_123
      · have zc_26 : (M 6 ((pR + pC) - 1)) ≠ 0 := jne (a := (M 6 ((pR + pC) - 1))) (b := 0) (by omega) (by omega) c_26
        refine lv_iconst (v := iI 0) hx hb dX3_addRow_42 (by decide) ?_
        exact k_zret B hr (by omega) (Or.inl (⟨(by omega), rfl, rfl, rfl, rfl⟩)) ⟨Nat.le_of_ble_eq_true rfl, Nat.le_of_ble_eq_true rfl⟩ ⟨Nat.le_of_ble_eq_true rfl, Nat.le_of_ble_eq_true rfl⟩ dX3_addRow_43

theorem mw_83 : (Jvm.Cond.fieldLink "Galleyforge$Page" (56 : Nat) "Galleyforge$Text" "figureKinds" "[I") ∈ gt := gt_at 153 (by decide +kernel) (by decide +kernel)
theorem mw_86 : (Jvm.Cond.fieldLink "Galleyforge$Page" (61 : Nat) "Galleyforge$Text" "figureHeights" "[I") ∈ gt := gt_at 156 (by decide +kernel) (by decide +kernel)
theorem mw_258 : (Jvm.Cond.fieldLink "Galleyforge$Page" (52 : Nat) "Galleyforge$Rows" "figuresInOrder" "[I") ∈ gt := gt_at 328 (by decide +kernel) (by decide +kernel)
theorem mw_260 : (Jvm.Cond.fieldLink "Galleyforge$Page" (47 : Nat) "Galleyforge$Rows" "figureCount" "I") ∈ gt := gt_at 330 (by decide +kernel) (by decide +kernel)
theorem mw_317 : (Jvm.Cond.fieldLink "Galleyforge$Page" (26 : Nat) "Galleyforge$Page" "wait" "I") ∈ gt := gt_at 387 (by decide +kernel) (by decide +kernel)
theorem mw_322 : (Jvm.Cond.fieldLink "Galleyforge$Page" (44 : Nat) "Galleyforge$Page" "topSet" "I") ∈ gt := gt_at 392 (by decide +kernel) (by decide +kernel)
theorem dX3_standAtTop_0 : decode cX3_standAtTop 0 = .ok (.iconst 0, 1) := by decide +kernel
theorem dX3_standAtTop_1 : decode cX3_standAtTop 1 = .ok (.istore_n 1, 1) := by decide +kernel
theorem dX3_standAtTop_2 : decode cX3_standAtTop 2 = .ok (.aload_n 0, 1) := by decide +kernel
theorem dX3_standAtTop_3 : decode cX3_standAtTop 3 = .ok (.iconst 0, 1) := by decide +kernel
theorem dX3_standAtTop_4 : decode cX3_standAtTop 4 = .ok (.putfield 44, 3) := by decide +kernel
theorem dX3_standAtTop_7 : decode cX3_standAtTop 7 = .ok (.iconst 0, 1) := by decide +kernel
theorem dX3_standAtTop_8 : decode cX3_standAtTop 8 = .ok (.istore_n 2, 1) := by decide +kernel
theorem dX3_standAtTop_9 : decode cX3_standAtTop 9 = .ok (.iload_n 2, 1) := by decide +kernel
theorem dX3_standAtTop_10 : decode cX3_standAtTop 10 = .ok (.aload_n 0, 1) := by decide +kernel
theorem dX3_standAtTop_11 : decode cX3_standAtTop 11 = .ok (.getfield 15, 3) := by decide +kernel
theorem dX3_standAtTop_14 : decode cX3_standAtTop 14 = .ok (.getfield 47, 3) := by decide +kernel
theorem dX3_standAtTop_17 : decode cX3_standAtTop 17 = .ok (.if_icmp .ge 117, 3) := by decide +kernel
theorem dX3_standAtTop_20 : decode cX3_standAtTop 20 = .ok (.aload_n 0, 1) := by decide +kernel
theorem dX3_standAtTop_21 : decode cX3_standAtTop 21 = .ok (.getfield 26, 3) := by decide +kernel
theorem dX3_standAtTop_24 : decode cX3_standAtTop 24 = .ok (.iload_n 2, 1) := by decide +kernel
theorem dX3_standAtTop_25 : decode cX3_standAtTop 25 = .ok (.ishr, 1) := by decide +kernel
theorem dX3_standAtTop_26 : decode cX3_standAtTop 26 = .ok (.iconst 1, 1) := by decide +kernel
theorem dX3_standAtTop_27 : decode cX3_standAtTop 27 = .ok (.iand, 1) := by decide +kernel
theorem dX3_standAtTop_28 : decode cX3_standAtTop 28 = .ok (.ifCond .ne 6, 3) := by decide +kernel
theorem dX3_standAtTop_31 : decode cX3_standAtTop 31 = .ok (.goto 97, 3) := by decide +kernel
theorem dX3_standAtTop_34 : decode cX3_standAtTop 34 = .ok (.aload_n 0, 1) := by decide +kernel
theorem dX3_standAtTop_35 : decode cX3_standAtTop 35 = .ok (.getfield 15, 3) := by decide +kernel
theorem dX3_standAtTop_38 : decode cX3_standAtTop 38 = .ok (.getfield 52, 3) := by decide +kernel
theorem dX3_standAtTop_41 : decode cX3_standAtTop 41 = .ok (.iload_n 2, 1) := by decide +kernel
theorem dX3_standAtTop_42 : decode cX3_standAtTop 42 = .ok (.iaload, 1) := by decide +kernel
theorem dX3_standAtTop_43 : decode cX3_standAtTop 43 = .ok (.istore_n 3, 1) := by decide +kernel
theorem dX3_standAtTop_44 : decode cX3_standAtTop 44 = .ok (.iconst 1, 1) := by decide +kernel
theorem dX3_standAtTop_45 : decode cX3_standAtTop 45 = .ok (.aload_n 0, 1) := by decide +kernel
theorem dX3_standAtTop_46 : decode cX3_standAtTop 46 = .ok (.getfield 9, 3) := by decide +kernel
theorem dX3_standAtTop_49 : decode cX3_standAtTop 49 = .ok (.getfield 56, 3) := by decide +kernel
theorem dX3_standAtTop_52 : decode cX3_standAtTop 52 = .ok (.iload_n 3, 1) := by decide +kernel
theorem dX3_standAtTop_53 : decode cX3_standAtTop 53 = .ok (.iaload, 1) := by decide +kernel
theorem dX3_standAtTop_54 : decode cX3_standAtTop 54 = .ok (.ishl, 1) := by decide +kernel
theorem dX3_standAtTop_55 : decode cX3_standAtTop 55 = .ok (.istore 4, 2) := by decide +kernel
theorem dX3_standAtTop_57 : decode cX3_standAtTop 57 = .ok (.iload_n 1, 1) := by decide +kernel
theorem dX3_standAtTop_58 : decode cX3_standAtTop 58 = .ok (.iload 4, 2) := by decide +kernel
theorem dX3_standAtTop_60 : decode cX3_standAtTop 60 = .ok (.iand, 1) := by decide +kernel
theorem dX3_standAtTop_61 : decode cX3_standAtTop 61 = .ok (.ifCond .ne 62, 3) := by decide +kernel
theorem dX3_standAtTop_64 : decode cX3_standAtTop 64 = .ok (.aload_n 0, 1) := by decide +kernel
theorem dX3_standAtTop_65 : decode cX3_standAtTop 65 = .ok (.getfield 32, 3) := by decide +kernel
theorem dX3_standAtTop_68 : decode cX3_standAtTop 68 = .ok (.aload_n 0, 1) := by decide +kernel
theorem dX3_standAtTop_69 : decode cX3_standAtTop 69 = .ok (.getfield 9, 3) := by decide +kernel
theorem dX3_standAtTop_72 : decode cX3_standAtTop 72 = .ok (.getfield 61, 3) := by decide +kernel
theorem dX3_standAtTop_75 : decode cX3_standAtTop 75 = .ok (.iload_n 3, 1) := by decide +kernel
theorem dX3_standAtTop_76 : decode cX3_standAtTop 76 = .ok (.iaload, 1) := by decide +kernel
theorem dX3_standAtTop_77 : decode cX3_standAtTop 77 = .ok (.iadd, 1) := by decide +kernel
theorem dX3_standAtTop_78 : decode cX3_standAtTop 78 = .ok (.aload_n 0, 1) := by decide +kernel
theorem dX3_standAtTop_79 : decode cX3_standAtTop 79 = .ok (.getfield 9, 3) := by decide +kernel
theorem dX3_standAtTop_82 : decode cX3_standAtTop 82 = .ok (.getfield 64, 3) := by decide +kernel
theorem dX3_standAtTop_85 : decode cX3_standAtTop 85 = .ok (.iconst 2, 1) := by decide +kernel
theorem dX3_standAtTop_86 : decode cX3_standAtTop 86 = .ok (.idiv, 1) := by decide +kernel
theorem dX3_standAtTop_87 : decode cX3_standAtTop 87 = .ok (.if_icmp .gt 36, 3) := by decide +kernel
theorem dX3_standAtTop_90 : decode cX3_standAtTop 90 = .ok (.aload_n 0, 1) := by decide +kernel
theorem dX3_standAtTop_91 : decode cX3_standAtTop 91 = .ok (.dup, 1) := by decide +kernel
theorem dX3_standAtTop_92 : decode cX3_standAtTop 92 = .ok (.getfield 44, 3) := by decide +kernel
theorem dX3_standAtTop_95 : decode cX3_standAtTop 95 = .ok (.iconst 1, 1) := by decide +kernel
theorem dX3_standAtTop_96 : decode cX3_standAtTop 96 = .ok (.iload_n 2, 1) := by decide +kernel
theorem dX3_standAtTop_97 : decode cX3_standAtTop 97 = .ok (.ishl, 1) := by decide +kernel
theorem dX3_standAtTop_98 : decode cX3_standAtTop 98 = .ok (.ior, 1) := by decide +kernel
theorem dX3_standAtTop_99 : decode cX3_standAtTop 99 = .ok (.putfield 44, 3) := by decide +kernel
theorem dX3_standAtTop_102 : decode cX3_standAtTop 102 = .ok (.aload_n 0, 1) := by decide +kernel
theorem dX3_standAtTop_103 : decode cX3_standAtTop 103 = .ok (.dup, 1) := by decide +kernel
theorem dX3_standAtTop_104 : decode cX3_standAtTop 104 = .ok (.getfield 32, 3) := by decide +kernel
theorem dX3_standAtTop_107 : decode cX3_standAtTop 107 = .ok (.aload_n 0, 1) := by decide +kernel
theorem dX3_standAtTop_108 : decode cX3_standAtTop 108 = .ok (.getfield 9, 3) := by decide +kernel
theorem dX3_standAtTop_111 : decode cX3_standAtTop 111 = .ok (.getfield 61, 3) := by decide +kernel
theorem dX3_standAtTop_114 : decode cX3_standAtTop 114 = .ok (.iload_n 3, 1) := by decide +kernel
theorem dX3_standAtTop_115 : decode cX3_standAtTop 115 = .ok (.iaload, 1) := by decide +kernel
theorem dX3_standAtTop_116 : decode cX3_standAtTop 116 = .ok (.iadd, 1) := by decide +kernel
theorem dX3_standAtTop_117 : decode cX3_standAtTop 117 = .ok (.putfield 32, 3) := by decide +kernel
theorem dX3_standAtTop_120 : decode cX3_standAtTop 120 = .ok (.goto 8, 3) := by decide +kernel
theorem dX3_standAtTop_123 : decode cX3_standAtTop 123 = .ok (.iload_n 1, 1) := by decide +kernel
theorem dX3_standAtTop_124 : decode cX3_standAtTop 124 = .ok (.iload 4, 2) := by decide +kernel
theorem dX3_standAtTop_126 : decode cX3_standAtTop 126 = .ok (.ior, 1) := by decide +kernel
theorem dX3_standAtTop_127 : decode cX3_standAtTop 127 = .ok (.istore_n 1, 1) := by decide +kernel
theorem dX3_standAtTop_128 : decode cX3_standAtTop 128 = .ok (.iinc 2 1, 3) := by decide +kernel
theorem dX3_standAtTop_131 : decode cX3_standAtTop 131 = .ok (.goto (-122), 3) := by decide +kernel
theorem dX3_standAtTop_134 : decode cX3_standAtTop 134 = .ok (.return_, 1) := by decide +kernel
set_option maxHeartbeats 4000000 in
set_option maxRecDepth 100000 in
theorem k_standTop (l : Launch) (dC : Nat → ClassId) (dI : Nat → Nat → Nat) (k : Nat → ClassId) (pg : Nat) (pR : Int) (pC : Int) (pW : Int) (pL : Int) (pH : Int) (pN : Int) (pQ : Int) (pT : Int) (pB : Int) (pX : Int) (pY : Int) (pM : Int) (pU : Int) (T : Nat → Int → Int → Int → Int) (A : Nat → Int → Int → Nat) (X : Nat → Int → Int → Int) (tl : va_W) (M : Nat → Int → Int) (V : Nat → Int → Int) (Aw : Nat → Nat) (hT : TI dI k T A X tl) (hK : TK T) (hR : RI k (T 0 0 0 0) M V Aw tl) (hM : MK M) (hMT : ∀ j, 0 ≤ j → j < M 0 0 → M 2 j < T 0 0 0 0) (h1 : 0 ≤ pW ∧ pW < 32) : Kn l dC dI k yX3_standAtTop (.code yX3_standAtTop cX3_standAtTop 5 none) ({ frames := 0, cells := 0, slots := 0, locals := 0 } : Room) [.ref pg] ([(pg, .inr (3, [.ref (A 50 0 0), .ref (Aw 20), .int (iI pR), .int (iI pC), .int (iI pW), .int (iI pL), .int (iI 0), .int (iI pN), .int (iI pQ), .int (iI pT), .int (iI pB), .int (iI pX), .int (iI pY), .int (iI pM), .int (iI pU)]))] ++ tl) (fun r w gc gs => ((0 ≤ (tpZ T M pW).2.1 ∧ (tpZ T M pW).2.1 < 32 ∧ 0 ≤ (tpZ T M pW).2.2 ∧ (tpZ T M pW).2.2 ≤ 200) ∧ r = none ∧ w = ([(pg, .inr (3, [.ref (A 50 0 0), .ref (Aw 20), .int (iI pR), .int (iI pC), .int (iI pW), .int (iI pL), .int (iI ((tpZ T M pW).2.2)), .int (iI pN), .int (iI pQ), .int (iI ((tpZ T M pW).2.1)), .int (iI pB), .int (iI pX), .int (iI pY), .int (iI pM), .int (iI pU)]))] ++ tl) ∧ gc = 0 ∧ gs = 0)) := by
  refine kn_of (by decide) (Nat.le_of_ble_eq_true rfl) ?_
  intro p e s m args below meth c H locs B hr hnm ls hl
  have hx := B.1.1
  have hb := B.1.2.1
  have hl : lv_has ls 5 [(0, .ref pg)] := hl
  have hn0 := MK_cnt hM
  have hf0 := MK_17 hM
  refine lv_iconst (v := iI 0) hx hb dX3_standAtTop_0 (by decide) ?_
  refine lv_istore_n (lv' := [(1, .int (iI 0)), (0, .ref pg)]) hx hb dX3_standAtTop_1 rfl hl (by decide) rfl (fun ls hl => ?_)
  refine lv_aload_n hx hb dX3_standAtTop_2 rfl (lv_at hl 1 rfl) ?_
  refine lv_iconst (v := iI 0) hx hb dX3_standAtTop_3 (by decide) ?_
  refine x_put (ci := 3) (C := RX3) (T := TX3) (N := 15) (ty := .int) (v := .int (iI 0)) B tyX3_ok nmX3 0 rfl rfl in_X3 9 (by decide) mw_322 (fun _ h9 => h9) rfl (by decide +kernel) rfl rfl (Nat.le_of_ble_eq_true rfl) dX3_standAtTop_4 (fun H locs B => ?_)
  have B := bd_to (ws' := ([(pg, .inr (3, [.ref (A 50 0 0), .ref (Aw 20), .int (iI pR), .int (iI pC), .int (iI pW), .int (iI pL), .int (iI 0), .int (iI pN), .int (iI pQ), .int (iI 0), .int (iI pB), .int (iI pX), .int (iI pY), .int (iI pM), .int (iI pU)]))] ++ tl)) rfl B
  refine lv_iconst (v := iI 0) hx hb dX3_standAtTop_7 (by decide) ?_
  refine lv_istore_n (lv' := [(2, .int (iI 0)), (1, .int (iI 0)), (0, .ref pg)]) hx hb dX3_standAtTop_8 rfl hl (by decide) rfl (fun ls hl => ?_)
  refine k_loop (σ := Int × Int × Int × Int) B (fun g9 : Int × Int × Int × Int => (0 ≤ g9.1 ∧ g9.1 ≤ M 17 0 ∧ 0 ≤ g9.2.1 ∧ g9.2.1 < 4 ∧ 0 ≤ g9.2.2.1 ∧ g9.2.2.1 < 32 ∧ 0 ≤ g9.2.2.2 ∧ g9.2.2.2 ≤ 40 * g9.1) ∧ ((g9.2.1, g9.2.2.1, g9.2.2.2) = tpS T M pW (Int.toNat g9.1))) (fun g9 : Int × Int × Int × Int => (M 17 0 - g9.1).toNat) (fun g9 : Int × Int × Int × Int => [(2, .int (iI g9.1)), (1, .int (iI g9.2.1)), (0, .ref pg)]) (fun g9 : Int × Int × Int × Int => ([(pg, .inr (3, [.ref (A 50 0 0), .ref (Aw 20), .int (iI pR), .int (iI pC), .int (iI pW), .int (iI pL), .int (iI g9.2.2.2), .int (iI pN), .int (iI pQ), .int (iI g9.2.2.1), .int (iI pB), .int (iI pX), .int (iI pY), .int (iI pM), .int (iI pU)]))] ++ tl)) ?_ (0, 0, 0, 0) ⟨(show 0 ≤ 0 ∧ 0 ≤ M 17 0 ∧ 0 ≤ 0 ∧ 0 < 4 ∧ 0 ≤ 0 ∧ 0 < 32 ∧ 0 ≤ 0 ∧ 0 ≤ 40 * 0 from (by omega)), (show (0, 0, 0) = tpS T M pW (Int.toNat 0) from rfl)⟩ ls H locs (lv_sub hl [0, 1, 2] rfl) (bd_to rfl B)
  clear hl B
  rintro ⟨q, bk, ts, hh⟩ ⟨hq, hts⟩ ih_1 ls H locs hl B
  have hq : 0 ≤ q ∧ q ≤ M 17 0 ∧ 0 ≤ bk ∧ bk < 4 ∧ 0 ≤ ts ∧ ts < 32 ∧ 0 ≤ hh ∧ hh ≤ 40 * q := hq
  have hts : (bk, ts, hh) = tpS T M pW (Int.toNat q) := hts
  have hl : lv_has ls 5 [(2, .int (iI q)), (1, .int (iI bk)), (0, .ref pg)] := hl
  have B := bd_to (ws' := ([(pg, .inr (3, [.ref (A 50 0 0), .ref (Aw 20), .int (iI pR), .int (iI pC), .int (iI pW), .int (iI pL), .int (iI hh), .int (iI pN), .int (iI pQ), .int (iI ts), .int (iI pB), .int (iI pX), .int (iI pY), .int (iI pM), .int (iI pU)]))] ++ tl)) rfl B
  refine lv_iload_n hx hb dX3_standAtTop_9 rfl (lv_at hl 0 rfl) ?_
  refine lv_aload_n hx hb dX3_standAtTop_10 rfl (lv_at hl 2 rfl) ?_
  refine x_get (ci := 3) (C := RX3) (T := TX3) (N := 15) (v := .ref (Aw 20)) B 0 rfl rfl in_X3 1 (by decide) mw_314 (fun _ h9 => h9) rfl dX3_standAtTop_11 ?_
  obtain ⟨k_2, hk_2⟩ := pk_at (hs := [(pg, .inr (3, [.ref (A 50 0 0), .ref (Aw 20), .int (iI pR), .int (iI pC), .int (iI pW), .int (iI pL), .int (iI hh), .int (iI pN), .int (iI pQ), .int (iI ts), .int (iI pB), .int (iI pX), .int (iI pY), .int (iI pM), .int (iI pU)]))]) (RI_o hR)
  refine x_get (ci := 6) (C := RX6) (T := TX6) (N := 18) (v := .int (iI (M 17 0))) B k_2 hk_2 rfl in_X6 17 (by decide) mw_260 (fun _ h9 => h9) rfl dX3_standAtTop_14 ?_
  refine lv_icmp_ge (tgt := 134) hx hb dX3_standAtTop_17 (by decide) (fun c_3 => ?_) (fun c_3 => ?_)
  · have zc_3 : (M 17 0) ≤ q := jle (a := (M 17 0)) (b := q) (by omega) (by omega) c_3
    have e_4 : ((tpZ T M pW).2.2) = hh := (by show (tpS T M pW (Int.toNat (M 17 0))).2.2 = _; rw [show M 17 0 = q by omega, ← hts])
    have e_5 : ((tpZ T M pW).2.1) = ts := (by show (tpS T M pW (Int.toNat (M 17 0))).2.1 = _; rw [show M 17 0 = q by omega, ← hts])
    have B := bd_to (ws' := ([(pg, .inr (3, [.ref (A 50 0 0), .ref (Aw 20), .int (iI pR), .int (iI pC), .int (iI pW), .int (iI pL), .int (iI ((tpZ T M pW).2.2)), .int (iI pN), .int (iI pQ), .int (iI ((tpZ T M pW).2.1)), .int (iI pB), .int (iI pX), .int (iI pY), .int (iI pM), .int (iI pU)]))] ++ tl)) (by first | rfl | (rw [e_4, e_5]) | (rw [e_5, e_4])) B
    exact k_vret B hr (⟨(by have e9 : tpZ T M pW = (bk, ts, hh) := (by rw [hts]; show tpS T M pW (Int.toNat (M 17 0)) = _; rw [show M 17 0 = q by omega]); rw [e9]; dsimp only; omega), rfl, rfl, rfl, rfl⟩) ⟨Nat.le_of_ble_eq_true rfl, Nat.le_of_ble_eq_true rfl⟩ ⟨Nat.le_of_ble_eq_true rfl, Nat.le_of_ble_eq_true rfl⟩ dX3_standAtTop_134
  · have zc_3 : q < (M 17 0) := jnle (a := (M 17 0)) (b := q) (by omega) (by omega) c_3
    refine lv_aload_n hx hb dX3_standAtTop_20 rfl (lv_at hl 2 rfl) ?_
    refine x_get (ci := 3) (C := RX3) (T := TX3) (N := 15) (v := .int (iI pW)) B 0 rfl rfl in_X3 4 (by decide) mw_317 (fun _ h9 => h9) rfl dX3_standAtTop_21 ?_
    refine lv_iload_n hx hb dX3_standAtTop_24 rfl (lv_at hl 0 rfl) ?_
    refine y_shr hx hb (a := pW) (b := q) (by omega) (by omega) dX3_standAtTop_25 ?_
    have z_6 : 0 ≤ (bShr pW q) ∧ (bShr pW q) ≤ pW := bShr_le (by omega)
    refine lv_iconst (v := iI 1) hx hb dX3_standAtTop_26 (by decide) ?_
    refine y_and hx hb (a := (bShr pW q)) (b := 1) (by omega) (by omega) dX3_standAtTop_27 ?_
    have z_7 : 0 ≤ (bAnd (bShr pW q) 1) ∧ (bAnd (bShr pW q) 1) ≤ (bShr pW q) := bAnd_le (by omega)
    have z_8 : 0 ≤ (bAnd (bShr pW q) 1) ∧ (bAnd (bShr pW q) 1) ≤ 1 := bAnd_le' (by omega)
    refine lv_if_ne (tgt := 34) hx hb dX3_standAtTop_28 (by decide) (fun c_9 => ?_) (fun c_9 => ?_)
    · have zc_9 : (bAnd (bShr pW q) 1) ≠ 0 := jne (a := (bAnd (bShr pW q) 1)) (b := 0) (by omega) (by omega) c_9
      refine lv_aload_n hx hb dX3_standAtTop_34 rfl (lv_at hl 2 rfl) ?_
      refine x_get (ci := 3) (C := RX3) (T := TX3) (N := 15) (v := .ref (Aw 20)) B 0 rfl rfl in_X3 1 (by decide) mw_314 (fun _ h9 => h9) rfl dX3_standAtTop_35 ?_
      obtain ⟨k_10, hk_10⟩ := pk_at (hs := [(pg, .inr (3, [.ref (A 50 0 0), .ref (Aw 20), .int (iI pR), .int (iI pC), .int (iI pW), .int (iI pL), .int (iI hh), .int (iI pN), .int (iI pQ), .int (iI ts), .int (iI pB), .int (iI pX), .int (iI pY), .int (iI pM), .int (iI pU)]))]) (RI_o hR)
      refine x_get (ci := 6) (C := RX6) (T := TX6) (N := 18) (v := .ref (Aw 16)) B k_10 hk_10 rfl in_X6 16 (by decide) mw_258 (fun _ h9 => h9) rfl dX3_standAtTop_38 ?_
      refine lv_iload_n hx hb dX3_standAtTop_41 rfl (lv_at hl 0 rfl) ?_
      obtain ⟨k_11, hk_11⟩ := pk_at (hs := [(pg, .inr (3, [.ref (A 50 0 0), .ref (Aw 20), .int (iI pR), .int (iI pC), .int (iI pW), .int (iI pL), .int (iI hh), .int (iI pN), .int (iI pQ), .int (iI ts), .int (iI pB), .int (iI pX), .int (iI pY), .int (iI pM), .int (iI pU)]))]) (RI_16 hR)
      refine x_iald' (f := (V 16)) (z := q) B k_11 hk_11 (by omega) dX3_standAtTop_42 ?_
      refine lv_seti (y := iI (M 16 q)) (congrArg iI (show (V 16) q = M 16 q from RA_16 (RI_a hR) _ (by omega) (by omega))) ?_
      have z_12 : 0 ≤ M 16 q ∧ M 16 q ≤ 4 := MK_16 hM _
      refine lv_istore_n (lv' := [(3, .int (iI (M 16 q))), (2, .int (iI q)), (1, .int (iI bk)), (0, .ref pg)]) hx hb dX3_standAtTop_43 rfl hl (by decide) rfl (fun ls hl => ?_)
      refine lv_iconst (v := iI 1) hx hb dX3_standAtTop_44 (by decide) ?_
      refine lv_aload_n hx hb dX3_standAtTop_45 rfl (lv_at hl 3 rfl) ?_
      refine x_get (ci := 3) (C := RX3) (T := TX3) (N := 15) (v := .ref (A 50 0 0)) B 0 rfl rfl in_X3 0 (by decide) mw_313 (fun _ h9 => h9) rfl dX3_standAtTop_46 ?_
      obtain ⟨k_13, hk_13⟩ := pk_at (hs := [(pg, .inr (3, [.ref (A 50 0 0), .ref (Aw 20), .int (iI pR), .int (iI pC), .int (iI pW), .int (iI pL), .int (iI hh), .int (iI pN), .int (iI pQ), .int (iI ts), .int (iI pB), .int (iI pX), .int (iI pY), .int (iI pM), .int (iI pU)]))]) hT.1.1
      refine x_get (ci := 9) (C := RX9) (T := TX9) (N := 8) (v := .ref (A 53 0 0)) B k_13 hk_13 rfl in_X9 2 (by decide) mw_83 (fun _ h9 => h9) rfl dX3_standAtTop_49 ?_
      refine lv_iload_n hx hb dX3_standAtTop_52 rfl (lv_at hl 0 rfl) ?_
      obtain ⟨k_14, hk_14⟩ := pk_at (hs := [(pg, .inr (3, [.ref (A 50 0 0), .ref (Aw 20), .int (iI pR), .int (iI pC), .int (iI pW), .int (iI pL), .int (iI hh), .int (iI pN), .int (iI pQ), .int (iI ts), .int (iI pB), .int (iI pX), .int (iI pY), .int (iI pM), .int (iI pU)]))]) hT.1.2.1
      refine x_iald' (f := (fun j9 : Int => T 13 j9 0 0)) (z := (M 16 q)) B k_14 hk_14 (by omega) dX3_standAtTop_53 ?_
      have z_15 : 0 ≤ (T 13 (M 16 q) 0 0) ∧ (T 13 (M 16 q) 0 0) ≤ 1 := (fun j => TK_fk hK j) (M 16 q)
      have z_16 : 0 < (bShl 1 (T 13 (M 16 q) 0 0)) ∧ (bShl 1 (T 13 (M 16 q) 0 0)) < 4 := bShl_k1 (TK_fk hK _)
      refine y_shl hx hb (a := 1) (b := (T 13 (M 16 q) 0 0)) (by omega) (by omega) (by omega) dX3_standAtTop_54 ?_
      refine lv_istore (lv' := [(4, .int (iI (bShl 1 (T 13 (M 16 q) 0 0)))), (3, .int (iI (M 16 q))), (2, .int (iI q)), (1, .int (iI bk)), (0, .ref pg)]) hx hb dX3_standAtTop_55 hl (by decide) rfl (fun ls hl => ?_)
      refine lv_iload_n hx hb dX3_standAtTop_57 rfl (lv_at hl 3 rfl) ?_
      refine lv_iload hx hb dX3_standAtTop_58 (lv_at hl 0 rfl) ?_
      refine y_and hx hb (a := bk) (b := (bShl 1 (T 13 (M 16 q) 0 0))) (by omega) (by omega) dX3_standAtTop_60 ?_
      have z_17 : 0 ≤ (bAnd bk (bShl 1 (T 13 (M 16 q) 0 0))) ∧ (bAnd bk (bShl 1 (T 13 (M 16 q) 0 0))) ≤ bk := bAnd_le (by omega)
      have z_18 : 0 ≤ (bAnd bk (bShl 1 (T 13 (M 16 q) 0 0))) ∧ (bAnd bk (bShl 1 (T 13 (M 16 q) 0 0))) ≤ (bShl 1 (T 13 (M 16 q) 0 0)) := bAnd_le' (by omega)
      refine lv_if_ne (tgt := 123) hx hb dX3_standAtTop_61 (by decide) (fun c_19 => ?_) (fun c_19 => ?_)
      · have zc_19 : (bAnd bk (bShl 1 (T 13 (M 16 q) 0 0))) ≠ 0 := jne (a := (bAnd bk (bShl 1 (T 13 (M 16 q) 0 0)))) (b := 0) (by omega) (by omega) c_19
        refine lv_iload_n hx hb dX3_standAtTop_123 rfl (lv_at hl 3 rfl) ?_
        refine lv_iload hx hb dX3_standAtTop_124 (lv_at hl 0 rfl) ?_
        refine y_or hx hb (a := bk) (b := (bShl 1 (T 13 (M 16 q) 0 0))) (by omega) (by omega) dX3_standAtTop_126 ?_
        have z_20 : 0 ≤ (bOr bk (bShl 1 (T 13 (M 16 q) 0 0))) ∧ (bOr bk (bShl 1 (T 13 (M 16 q) 0 0))) < 4 := bOr_lt 2 (by omega) (by omega)
        refine lv_istore_n (lv' := [(1, .int (iI (bOr bk (bShl 1 (T 13 (M 16 q) 0 0))))), (4, .int (iI (bShl 1 (T 13 (M 16 q) 0 0)))), (3, .int (iI (M 16 q))), (2, .int (iI q)), (0, .ref pg)]) hx hb dX3_standAtTop_127 rfl hl (by decide) rfl (fun ls hl => ?_)
        refine lv_iinc (v := iI (q + 1)) (lv' := [(2, .int (iI (q + 1))), (1, .int (iI (bOr bk (bShl 1 (T 13 (M 16 q) 0 0))))), (4, .int (iI (bShl 1 (T 13 (M 16 q) 0 0)))), (3, .int (iI (M 16 q))), (0, .ref pg)]) hx hb dX3_standAtTop_128 hl (k := 3) rfl (iI_add _ _) (by decide) rfl (fun ls hl => ?_)
        refine lv_goto (tgt := 9) hx hb dX3_standAtTop_131 (by decide) ?_
        exact ih_1 ((q + 1), (bOr bk (bShl 1 (T 13 (M 16 q) 0 0))), ts, hh) ⟨(show 0 ≤ (q + 1) ∧ (q + 1) ≤ M 17 0 ∧ 0 ≤ (bOr bk (bShl 1 (T 13 (M 16 q) 0 0))) ∧ (bOr bk (bShl 1 (T 13 (M 16 q) 0 0))) < 4 ∧ 0 ≤ ts ∧ ts < 32 ∧ 0 ≤ hh ∧ hh ≤ 40 * (q + 1) from (by omega)), (show ((bOr bk (bShl 1 (T 13 (M 16 q) 0 0))), ts, hh) = tpS T M pW (Int.toNat (q + 1)) from (by rw [tpS_s (by omega) hts]; first | (rw [if_pos (by omega)]; done) | (rw [if_neg (by omega), if_pos (by omega)]; done) | (rw [if_neg (by omega), if_neg (by omega)]; done)))⟩ (by first | omega | (dsimp only; omega)) _ _ _ (lv_sub hl [0, 1, 4] rfl) (bd_to rfl B)
      · have zc_19 : (bAnd bk (bShl 1 (T 13 (M 16 q) 0 0))) = 0 := jeq (a := (bAnd bk (bShl 1 (T 13 (M 16 q) 0 0)))) (b := 0) (by omega) (by omega) c_19
        refine lv_aload_n hx hb dX3_standAtTop_64 rfl (lv_at hl 4 rfl) ?_
        refine x_get (ci := 3) (C := RX3) (T := TX3) (N := 15) (v := .int (iI hh)) B 0 rfl rfl in_X3 6 (by decide) mw_319 (fun _ h9 => h9) rfl dX3_standAtTop_65 ?_
        refine lv_aload_n hx hb dX3_standAtTop_68 rfl (lv_at hl 4 rfl) ?_
        refine x_get (ci := 3) (C := RX3) (T := TX3) (N := 15) (v := .ref (A 50 0 0)) B 0 rfl rfl in_X3 0 (by decide) mw_313 (fun _ h9 => h9) rfl dX3_standAtTop_69 ?_
        obtain ⟨k_21, hk_21⟩ := pk_at (hs := [(pg, .inr (3, [.ref (A 50 0 0), .ref (Aw 20), .int (iI pR), .int (iI pC), .int (iI pW), .int (iI pL), .int (iI hh), .int (iI pN), .int (iI pQ), .int (iI ts), .int (iI pB), .int (iI pX), .int (iI pY), .int (iI pM), .int (iI pU)]))]) hT.1.1
        refine x_get (ci := 9) (C := RX9) (T := TX9) (N := 8) (v := .ref (A 54 0 0)) B k_21 hk_21 rfl in_X9 3 (by decide) mw_86 (fun _ h9 => h9) rfl dX3_standAtTop_72 ?_
        refine lv_iload_n hx hb dX3_standAtTop_75 rfl (lv_at hl 1 rfl) ?_
        obtain ⟨k_22, hk_22⟩ := pk_at (hs := [(pg, .inr (3, [.ref (A 50 0 0), .ref (Aw 20), .int (iI pR), .int (iI pC), .int (iI pW), .int (iI pL), .int (iI hh), .int (iI pN), .int (iI pQ), .int (iI ts), .int (iI pB), .int (iI pX), .int (iI pY), .int (iI pM), .int (iI pU)]))]) hT.1.2.2.1
        refine x_iald' (f := (fun j9 : Int => T 14 j9 0 0)) (z := (M 16 q)) B k_22 hk_22 (by omega) dX3_standAtTop_76 ?_
        have z_23 : 0 ≤ (T 14 (M 16 q) 0 0) ∧ (T 14 (M 16 q) 0 0) ≤ 40 := (fun j => TK_fh hK j) (M 16 q)
        refine y_add hx hb dX3_standAtTop_77 ?_
        refine lv_aload_n hx hb dX3_standAtTop_78 rfl (lv_at hl 4 rfl) ?_
        refine x_get (ci := 3) (C := RX3) (T := TX3) (N := 15) (v := .ref (A 50 0 0)) B 0 rfl rfl in_X3 0 (by decide) mw_313 (fun _ h9 => h9) rfl dX3_standAtTop_79 ?_
        obtain ⟨k_24, hk_24⟩ := pk_at (hs := [(pg, .inr (3, [.ref (A 50 0 0), .ref (Aw 20), .int (iI pR), .int (iI pC), .int (iI pW), .int (iI pL), .int (iI hh), .int (iI pN), .int (iI pQ), .int (iI ts), .int (iI pB), .int (iI pX), .int (iI pY), .int (iI pM), .int (iI pU)]))]) hT.1.1
        refine x_get (ci := 9) (C := RX9) (T := TX9) (N := 8) (v := .int (iI (T 17 0 0 0))) B k_24 hk_24 rfl in_X9 7 (by decide) mw_99 (fun _ h9 => h9) rfl dX3_standAtTop_82 ?_
        have z_25 : 6 ≤ T 17 0 0 0 ∧ T 17 0 0 0 ≤ 40 := TK_hei hK
        refine lv_iconst (v := iI 2) hx hb dX3_standAtTop_85 (by decide) ?_
        refine y_div hx hb (a := (T 17 0 0 0)) (b := 2) (by omega) (by omega) dX3_standAtTop_86 ?_
        refine lv_icmp_gt (tgt := 123) hx hb dX3_standAtTop_87 (by decide) (fun c_26 => ?_) (fun c_26 => ?_)
        · have zc_26 : ((T 17 0 0 0) / 2) < (hh + (T 14 (M 16 q) 0 0)) := jlt (a := ((T 17 0 0 0) / 2)) (b := (hh + (T 14 (M 16 q) 0 0))) (by omega) (by omega) c_26
          refine lv_iload_n hx hb dX3_standAtTop_123 rfl (lv_at hl 3 rfl) ?_
          refine lv_iload hx hb dX3_standAtTop_124 (lv_at hl 0 rfl) ?_
          refine y_or hx hb (a := bk) (b := (bShl 1 (T 13 (M 16 q) 0 0))) (by omega) (by omega) dX3_standAtTop_126 ?_
          have z_27 : 0 ≤ (bOr bk (bShl 1 (T 13 (M 16 q) 0 0))) ∧ (bOr bk (bShl 1 (T 13 (M 16 q) 0 0))) < 4 := bOr_lt 2 (by omega) (by omega)
          refine lv_istore_n (lv' := [(1, .int (iI (bOr bk (bShl 1 (T 13 (M 16 q) 0 0))))), (4, .int (iI (bShl 1 (T 13 (M 16 q) 0 0)))), (3, .int (iI (M 16 q))), (2, .int (iI q)), (0, .ref pg)]) hx hb dX3_standAtTop_127 rfl hl (by decide) rfl (fun ls hl => ?_)
          refine lv_iinc (v := iI (q + 1)) (lv' := [(2, .int (iI (q + 1))), (1, .int (iI (bOr bk (bShl 1 (T 13 (M 16 q) 0 0))))), (4, .int (iI (bShl 1 (T 13 (M 16 q) 0 0)))), (3, .int (iI (M 16 q))), (0, .ref pg)]) hx hb dX3_standAtTop_128 hl (k := 3) rfl (iI_add _ _) (by decide) rfl (fun ls hl => ?_)
          refine lv_goto (tgt := 9) hx hb dX3_standAtTop_131 (by decide) ?_
          exact ih_1 ((q + 1), (bOr bk (bShl 1 (T 13 (M 16 q) 0 0))), ts, hh) ⟨(show 0 ≤ (q + 1) ∧ (q + 1) ≤ M 17 0 ∧ 0 ≤ (bOr bk (bShl 1 (T 13 (M 16 q) 0 0))) ∧ (bOr bk (bShl 1 (T 13 (M 16 q) 0 0))) < 4 ∧ 0 ≤ ts ∧ ts < 32 ∧ 0 ≤ hh ∧ hh ≤ 40 * (q + 1) from (by omega)), (show ((bOr bk (bShl 1 (T 13 (M 16 q) 0 0))), ts, hh) = tpS T M pW (Int.toNat (q + 1)) from (by rw [tpS_s (by omega) hts]; first | (rw [if_pos (by omega)]; done) | (rw [if_neg (by omega), if_pos (by omega)]; done) | (rw [if_neg (by omega), if_neg (by omega)]; done)))⟩ (by first | omega | (dsimp only; omega)) _ _ _ (lv_sub hl [0, 1, 4] rfl) (bd_to rfl B)
        · have zc_26 : (hh + (T 14 (M 16 q) 0 0)) ≤ ((T 17 0 0 0) / 2) := jnlt (a := ((T 17 0 0 0) / 2)) (b := (hh + (T 14 (M 16 q) 0 0))) (by omega) (by omega) c_26
          refine lv_aload_n hx hb dX3_standAtTop_90 rfl (lv_at hl 4 rfl) ?_
          refine lv_dup hx hb dX3_standAtTop_91 rfl ?_
          refine x_get (ci := 3) (C := RX3) (T := TX3) (N := 15) (v := .int (iI ts)) B 0 rfl rfl in_X3 9 (by decide) mw_322 (fun _ h9 => h9) rfl dX3_standAtTop_92 ?_
          refine lv_iconst (v := iI 1) hx hb dX3_standAtTop_95 (by decide) ?_
          refine lv_iload_n hx hb dX3_standAtTop_96 rfl (lv_at hl 2 rfl) ?_
          have z_28 : 0 < (bShl 1 q) ∧ (bShl 1 q) < 32 := bShl_k5 (by omega)
          refine y_shl hx hb (a := 1) (b := q) (by omega) (by omega) (by omega) dX3_standAtTop_97 ?_
          refine y_or hx hb (a := ts) (b := (bShl 1 q)) (by omega) (by omega) dX3_standAtTop_98 ?_
          have z_29 : 0 ≤ (bOr ts (bShl 1 q)) ∧ (bOr ts (bShl 1 q)) < 32 := bOr_lt 5 (by omega) (by omega)
          refine x_put (ci := 3) (C := RX3) (T := TX3) (N := 15) (ty := .int) (v := .int (iI (bOr ts (bShl 1 q)))) B tyX3_ok nmX3 0 rfl rfl in_X3 9 (by decide) mw_322 (fun _ h9 => h9) rfl (by decide +kernel) rfl rfl (Nat.le_of_ble_eq_true rfl) dX3_standAtTop_99 (fun H locs B => ?_)
          have B := bd_to (ws' := ([(pg, .inr (3, [.ref (A 50 0 0), .ref (Aw 20), .int (iI pR), .int (iI pC), .int (iI pW), .int (iI pL), .int (iI hh), .int (iI pN), .int (iI pQ), .int (iI (bOr ts (bShl 1 q))), .int (iI pB), .int (iI pX), .int (iI pY), .int (iI pM), .int (iI pU)]))] ++ tl)) rfl B
          refine lv_aload_n hx hb dX3_standAtTop_102 rfl (lv_at hl 4 rfl) ?_
          refine lv_dup hx hb dX3_standAtTop_103 rfl ?_
          refine x_get (ci := 3) (C := RX3) (T := TX3) (N := 15) (v := .int (iI hh)) B 0 rfl rfl in_X3 6 (by decide) mw_319 (fun _ h9 => h9) rfl dX3_standAtTop_104 ?_
          refine lv_aload_n hx hb dX3_standAtTop_107 rfl (lv_at hl 4 rfl) ?_
          refine x_get (ci := 3) (C := RX3) (T := TX3) (N := 15) (v := .ref (A 50 0 0)) B 0 rfl rfl in_X3 0 (by decide) mw_313 (fun _ h9 => h9) rfl dX3_standAtTop_108 ?_
          obtain ⟨k_30, hk_30⟩ := pk_at (hs := [(pg, .inr (3, [.ref (A 50 0 0), .ref (Aw 20), .int (iI pR), .int (iI pC), .int (iI pW), .int (iI pL), .int (iI hh), .int (iI pN), .int (iI pQ), .int (iI (bOr ts (bShl 1 q))), .int (iI pB), .int (iI pX), .int (iI pY), .int (iI pM), .int (iI pU)]))]) hT.1.1
          refine x_get (ci := 9) (C := RX9) (T := TX9) (N := 8) (v := .ref (A 54 0 0)) B k_30 hk_30 rfl in_X9 3 (by decide) mw_86 (fun _ h9 => h9) rfl dX3_standAtTop_111 ?_
          refine lv_iload_n hx hb dX3_standAtTop_114 rfl (lv_at hl 1 rfl) ?_
          obtain ⟨k_31, hk_31⟩ := pk_at (hs := [(pg, .inr (3, [.ref (A 50 0 0), .ref (Aw 20), .int (iI pR), .int (iI pC), .int (iI pW), .int (iI pL), .int (iI hh), .int (iI pN), .int (iI pQ), .int (iI (bOr ts (bShl 1 q))), .int (iI pB), .int (iI pX), .int (iI pY), .int (iI pM), .int (iI pU)]))]) hT.1.2.2.1
          refine x_iald' (f := (fun j9 : Int => T 14 j9 0 0)) (z := (M 16 q)) B k_31 hk_31 (by omega) dX3_standAtTop_115 ?_
          have z_32 : 0 ≤ (T 14 (M 16 q) 0 0) ∧ (T 14 (M 16 q) 0 0) ≤ 40 := (fun j => TK_fh hK j) (M 16 q)
          refine y_add hx hb dX3_standAtTop_116 ?_
          refine x_put (ci := 3) (C := RX3) (T := TX3) (N := 15) (ty := .int) (v := .int (iI (hh + (T 14 (M 16 q) 0 0)))) B tyX3_ok nmX3 0 rfl rfl in_X3 6 (by decide) mw_319 (fun _ h9 => h9) rfl (by decide +kernel) rfl rfl (Nat.le_of_ble_eq_true rfl) dX3_standAtTop_117 (fun H locs B => ?_)
          have B := bd_to (ws' := ([(pg, .inr (3, [.ref (A 50 0 0), .ref (Aw 20), .int (iI pR), .int (iI pC), .int (iI pW), .int (iI pL), .int (iI (hh + (T 14 (M 16 q) 0 0))), .int (iI pN), .int (iI pQ), .int (iI (bOr ts (bShl 1 q))), .int (iI pB), .int (iI pX), .int (iI pY), .int (iI pM), .int (iI pU)]))] ++ tl)) rfl B
          refine lv_goto (tgt := 128) hx hb dX3_standAtTop_120 (by decide) ?_
          refine lv_iinc (v := iI (q + 1)) (lv' := [(2, .int (iI (q + 1))), (4, .int (iI (bShl 1 (T 13 (M 16 q) 0 0)))), (3, .int (iI (M 16 q))), (1, .int (iI bk)), (0, .ref pg)]) hx hb dX3_standAtTop_128 hl (k := 2) rfl (iI_add _ _) (by decide) rfl (fun ls hl => ?_)
          refine lv_goto (tgt := 9) hx hb dX3_standAtTop_131 (by decide) ?_
          exact ih_1 ((q + 1), bk, (bOr ts (bShl 1 q)), (hh + (T 14 (M 16 q) 0 0))) ⟨(show 0 ≤ (q + 1) ∧ (q + 1) ≤ M 17 0 ∧ 0 ≤ bk ∧ bk < 4 ∧ 0 ≤ (bOr ts (bShl 1 q)) ∧ (bOr ts (bShl 1 q)) < 32 ∧ 0 ≤ (hh + (T 14 (M 16 q) 0 0)) ∧ (hh + (T 14 (M 16 q) 0 0)) ≤ 40 * (q + 1) from (by omega)), (show (bk, (bOr ts (bShl 1 q)), (hh + (T 14 (M 16 q) 0 0))) = tpS T M pW (Int.toNat (q + 1)) from (by rw [tpS_s (by omega) hts]; first | (rw [if_pos (by omega)]; done) | (rw [if_neg (by omega), if_pos (by omega)]; done) | (rw [if_neg (by omega), if_neg (by omega)]; done)))⟩ (by first | omega | (dsimp only; omega)) _ _ _ (lv_sub hl [0, 3, 4] rfl) (bd_to rfl B)
    · have zc_9 : (bAnd (bShr pW q) 1) = 0 := jeq (a := (bAnd (bShr pW q) 1)) (b := 0) (by omega) (by omega) c_9
      refine lv_goto (tgt := 128) hx hb dX3_standAtTop_31 (by decide) ?_
      refine lv_iinc (v := iI (q + 1)) (lv' := [(2, .int (iI (q + 1))), (1, .int (iI bk)), (0, .ref pg)]) hx hb dX3_standAtTop_128 hl (k := 0) rfl (iI_add _ _) (by decide) rfl (fun ls hl => ?_)
      refine lv_goto (tgt := 9) hx hb dX3_standAtTop_131 (by decide) ?_
      exact ih_1 ((q + 1), bk, ts, hh) ⟨(show 0 ≤ (q + 1) ∧ (q + 1) ≤ M 17 0 ∧ 0 ≤ bk ∧ bk < 4 ∧ 0 ≤ ts ∧ ts < 32 ∧ 0 ≤ hh ∧ hh ≤ 40 * (q + 1) from (by omega)), (show (bk, ts, hh) = tpS T M pW (Int.toNat (q + 1)) from (by rw [tpS_s (by omega) hts]; first | (rw [if_pos (by omega)]; done) | (rw [if_neg (by omega), if_pos (by omega)]; done) | (rw [if_neg (by omega), if_neg (by omega)]; done)))⟩ (by first | omega | (dsimp only; omega)) _ _ _ (lv_sub hl [0, 1, 2] rfl) (bd_to rfl B)

theorem mw_11 : (Jvm.Cond.initialized "Galleyforge$Page") ∈ gt := gt_at 81 (by decide +kernel) (by decide +kernel)
theorem mw_1555 : (Jvm.Cond.methodLink "Galleyforge$Page" (41 : Nat) ({ cls := "Galleyforge$Page", name := "standAtTop", desc := "()V" } : Jvm.MethodName)) ∈ gt := gt_at 1625 (by decide +kernel) (by decide +kernel)
theorem mw_1557 : (Jvm.Cond.instanceMethod ({ cls := "Galleyforge$Page", name := "standAtTop", desc := "()V" } : Jvm.MethodName)) ∈ gt := gt_at 1627 (by decide +kernel) (by decide +kernel)
theorem mw_1558 : (Jvm.Cond.code ({ cls := "Galleyforge$Page", name := "standAtTop", desc := "()V" } : Jvm.MethodName) prog_5_method_3_code (5 : Nat) (Option.none : Option Jvm.ClassFile.FieldType)) ∈ gt := gt_at 1628 (by decide +kernel) (by decide +kernel)
theorem ms_45 : Cond.selects "Galleyforge$Page" (⟨"Galleyforge$Page", "standAtTop", "()V"⟩ : MethodName) (⟨"Galleyforge$Page", "standAtTop", "()V"⟩ : MethodName) ∈ gt := gt_at 45 (by decide +kernel) (by decide +kernel)
theorem mV_X3_standAtTop : mV yX3_standAtTop cX3_standAtTop 5 none 0 := ⟨⟨mw_1558, mw_11, by decide, by decide, by decide +kernel⟩, mw_1557, ms_45⟩
theorem dX3_open_0 : decode cX3_open 0 = .ok (.aload_n 0, 1) := by decide +kernel
theorem dX3_open_1 : decode cX3_open 1 = .ok (.iload_n 1, 1) := by decide +kernel
theorem dX3_open_2 : decode cX3_open 2 = .ok (.putfield 19, 3) := by decide +kernel
theorem dX3_open_5 : decode cX3_open 5 = .ok (.aload_n 0, 1) := by decide +kernel
theorem dX3_open_6 : decode cX3_open 6 = .ok (.iconst 0, 1) := by decide +kernel
theorem dX3_open_7 : decode cX3_open 7 = .ok (.putfield 23, 3) := by decide +kernel
theorem dX3_open_10 : decode cX3_open 10 = .ok (.aload_n 0, 1) := by decide +kernel
theorem dX3_open_11 : decode cX3_open 11 = .ok (.iload_n 2, 1) := by decide +kernel
theorem dX3_open_12 : decode cX3_open 12 = .ok (.putfield 26, 3) := by decide +kernel
theorem dX3_open_15 : decode cX3_open 15 = .ok (.aload_n 0, 1) := by decide +kernel
theorem dX3_open_16 : decode cX3_open 16 = .ok (.iload_n 3, 1) := by decide +kernel
theorem dX3_open_17 : decode cX3_open 17 = .ok (.putfield 29, 3) := by decide +kernel
theorem dX3_open_20 : decode cX3_open 20 = .ok (.aload_n 0, 1) := by decide +kernel
theorem dX3_open_21 : decode cX3_open 21 = .ok (.iconst 0, 1) := by decide +kernel
theorem dX3_open_22 : decode cX3_open 22 = .ok (.putfield 32, 3) := by decide +kernel
theorem dX3_open_25 : decode cX3_open 25 = .ok (.aload_n 0, 1) := by decide +kernel
theorem dX3_open_26 : decode cX3_open 26 = .ok (.iconst 0, 1) := by decide +kernel
theorem dX3_open_27 : decode cX3_open 27 = .ok (.putfield 35, 3) := by decide +kernel
theorem dX3_open_30 : decode cX3_open 30 = .ok (.aload_n 0, 1) := by decide +kernel
theorem dX3_open_31 : decode cX3_open 31 = .ok (.iconst 0, 1) := by decide +kernel
theorem dX3_open_32 : decode cX3_open 32 = .ok (.putfield 38, 3) := by decide +kernel
theorem dX3_open_35 : decode cX3_open 35 = .ok (.aload_n 0, 1) := by decide +kernel
theorem dX3_open_36 : decode cX3_open 36 = .ok (.invokevirtual 41, 3) := by decide +kernel
theorem dX3_open_39 : decode cX3_open 39 = .ok (.return_, 1) := by decide +kernel
set_option maxHeartbeats 4000000 in
set_option maxRecDepth 100000 in
theorem k_open (l : Launch) (dC : Nat → ClassId) (dI : Nat → Nat → Nat) (k : Nat → ClassId) (pg : Nat) (pR : Int) (pC : Int) (pW : Int) (pL : Int) (pH : Int) (pN : Int) (pQ : Int) (pT : Int) (pB : Int) (pX : Int) (pY : Int) (pM : Int) (pU : Int) (T : Nat → Int → Int → Int → Int) (A : Nat → Int → Int → Nat) (X : Nat → Int → Int → Int) (tl : va_W) (M : Nat → Int → Int) (V : Nat → Int → Int) (Aw : Nat → Nat) (fr : Int) (wz : Int) (lz : Int) (hT : TI dI k T A X tl) (hK : TK T) (hR : RI k (T 0 0 0 0) M V Aw tl) (hM : MK M) (hMT : ∀ j, 0 ≤ j → j < M 0 0 → M 2 j < T 0 0 0 0) (h1 : 0 ≤ wz ∧ wz < 32) : Kn l dC dI k yX3_open (.code yX3_open cX3_open 4 none) ({ frames := 1, cells := 0, slots := 0, locals := 24 } : Room) [.ref pg, .int (iI fr), .int (iI wz), .int (iI lz)] ([(pg, .inr (3, [.ref (A 50 0 0), .ref (Aw 20), .int (iI pR), .int (iI pC), .int (iI pW), .int (iI pL), .int (iI pH), .int (iI pN), .int (iI pQ), .int (iI pT), .int (iI pB), .int (iI pX), .int (iI pY), .int (iI pM), .int (iI pU)]))] ++ tl) (fun r w gc gs => ((0 ≤ (tpZ T M wz).2.1 ∧ (tpZ T M wz).2.1 < 32 ∧ 0 ≤ (tpZ T M wz).2.2 ∧ (tpZ T M wz).2.2 ≤ 200) ∧ r = none ∧ w = ([(pg, .inr (3, [.ref (A 50 0 0), .ref (Aw 20), .int (iI fr), .int (iI 0), .int (iI wz), .int (iI lz), .int (iI ((tpZ T M wz).2.2)), .int (iI 0), .int (iI 0), .int (iI ((tpZ T M wz).2.1)), .int (iI pB), .int (iI pX), .int (iI pY), .int (iI pM), .int (iI pU)]))] ++ tl) ∧ gc = 0 ∧ gs = 0)) := by
  refine kn_of (by decide) (Nat.le_of_ble_eq_true rfl) ?_
  intro p e s m args below meth c H locs B hr hnm ls hl
  have hx := B.1.1
  have hb := B.1.2.1
  have hl : lv_has ls 4 [(0, .ref pg), (1, .int (iI fr)), (2, .int (iI wz)), (3, .int (iI lz))] := hl
  have hn0 := MK_cnt hM
  have hf0 := MK_17 hM
  refine lv_aload_n hx hb dX3_open_0 rfl (lv_at hl 0 rfl) ?_
  refine lv_iload_n hx hb dX3_open_1 rfl (lv_at hl 1 rfl) ?_
  refine x_put (ci := 3) (C := RX3) (T := TX3) (N := 15) (ty := .int) (v := .int (iI fr)) B tyX3_ok nmX3 0 rfl rfl in_X3 2 (by decide) mw_315 (fun _ h9 => h9) rfl (by decide +kernel) rfl rfl (Nat.le_of_ble_eq_true rfl) dX3_open_2 (fun H locs B => ?_)
  have B := bd_to (ws' := ([(pg, .inr (3, [.ref (A 50 0 0), .ref (Aw 20), .int (iI fr), .int (iI pC), .int (iI pW), .int (iI pL), .int (iI pH), .int (iI pN), .int (iI pQ), .int (iI pT), .int (iI pB), .int (iI pX), .int (iI pY), .int (iI pM), .int (iI pU)]))] ++ tl)) rfl B
  refine lv_aload_n hx hb dX3_open_5 rfl (lv_at hl 0 rfl) ?_
  refine lv_iconst (v := iI 0) hx hb dX3_open_6 (by decide) ?_
  refine x_put (ci := 3) (C := RX3) (T := TX3) (N := 15) (ty := .int) (v := .int (iI 0)) B tyX3_ok nmX3 0 rfl rfl in_X3 3 (by decide) mw_316 (fun _ h9 => h9) rfl (by decide +kernel) rfl rfl (Nat.le_of_ble_eq_true rfl) dX3_open_7 (fun H locs B => ?_)
  have B := bd_to (ws' := ([(pg, .inr (3, [.ref (A 50 0 0), .ref (Aw 20), .int (iI fr), .int (iI 0), .int (iI pW), .int (iI pL), .int (iI pH), .int (iI pN), .int (iI pQ), .int (iI pT), .int (iI pB), .int (iI pX), .int (iI pY), .int (iI pM), .int (iI pU)]))] ++ tl)) rfl B
  refine lv_aload_n hx hb dX3_open_10 rfl (lv_at hl 0 rfl) ?_
  refine lv_iload_n hx hb dX3_open_11 rfl (lv_at hl 2 rfl) ?_
  refine x_put (ci := 3) (C := RX3) (T := TX3) (N := 15) (ty := .int) (v := .int (iI wz)) B tyX3_ok nmX3 0 rfl rfl in_X3 4 (by decide) mw_317 (fun _ h9 => h9) rfl (by decide +kernel) rfl rfl (Nat.le_of_ble_eq_true rfl) dX3_open_12 (fun H locs B => ?_)
  have B := bd_to (ws' := ([(pg, .inr (3, [.ref (A 50 0 0), .ref (Aw 20), .int (iI fr), .int (iI 0), .int (iI wz), .int (iI pL), .int (iI pH), .int (iI pN), .int (iI pQ), .int (iI pT), .int (iI pB), .int (iI pX), .int (iI pY), .int (iI pM), .int (iI pU)]))] ++ tl)) rfl B
  refine lv_aload_n hx hb dX3_open_15 rfl (lv_at hl 0 rfl) ?_
  refine lv_iload_n hx hb dX3_open_16 rfl (lv_at hl 3 rfl) ?_
  refine x_put (ci := 3) (C := RX3) (T := TX3) (N := 15) (ty := .int) (v := .int (iI lz)) B tyX3_ok nmX3 0 rfl rfl in_X3 5 (by decide) mw_318 (fun _ h9 => h9) rfl (by decide +kernel) rfl rfl (Nat.le_of_ble_eq_true rfl) dX3_open_17 (fun H locs B => ?_)
  have B := bd_to (ws' := ([(pg, .inr (3, [.ref (A 50 0 0), .ref (Aw 20), .int (iI fr), .int (iI 0), .int (iI wz), .int (iI lz), .int (iI pH), .int (iI pN), .int (iI pQ), .int (iI pT), .int (iI pB), .int (iI pX), .int (iI pY), .int (iI pM), .int (iI pU)]))] ++ tl)) rfl B
  refine lv_aload_n hx hb dX3_open_20 rfl (lv_at hl 0 rfl) ?_
  refine lv_iconst (v := iI 0) hx hb dX3_open_21 (by decide) ?_
  refine x_put (ci := 3) (C := RX3) (T := TX3) (N := 15) (ty := .int) (v := .int (iI 0)) B tyX3_ok nmX3 0 rfl rfl in_X3 6 (by decide) mw_319 (fun _ h9 => h9) rfl (by decide +kernel) rfl rfl (Nat.le_of_ble_eq_true rfl) dX3_open_22 (fun H locs B => ?_)
  have B := bd_to (ws' := ([(pg, .inr (3, [.ref (A 50 0 0), .ref (Aw 20), .int (iI fr), .int (iI 0), .int (iI wz), .int (iI lz), .int (iI 0), .int (iI pN), .int (iI pQ), .int (iI pT), .int (iI pB), .int (iI pX), .int (iI pY), .int (iI pM), .int (iI pU)]))] ++ tl)) rfl B
  refine lv_aload_n hx hb dX3_open_25 rfl (lv_at hl 0 rfl) ?_
  refine lv_iconst (v := iI 0) hx hb dX3_open_26 (by decide) ?_
  refine x_put (ci := 3) (C := RX3) (T := TX3) (N := 15) (ty := .int) (v := .int (iI 0)) B tyX3_ok nmX3 0 rfl rfl in_X3 7 (by decide) mw_320 (fun _ h9 => h9) rfl (by decide +kernel) rfl rfl (Nat.le_of_ble_eq_true rfl) dX3_open_27 (fun H locs B => ?_)
  have B := bd_to (ws' := ([(pg, .inr (3, [.ref (A 50 0 0), .ref (Aw 20), .int (iI fr), .int (iI 0), .int (iI wz), .int (iI lz), .int (iI 0), .int (iI 0), .int (iI pQ), .int (iI pT), .int (iI pB), .int (iI pX), .int (iI pY), .int (iI pM), .int (iI pU)]))] ++ tl)) rfl B
  refine lv_aload_n hx hb dX3_open_30 rfl (lv_at hl 0 rfl) ?_
  refine lv_iconst (v := iI 0) hx hb dX3_open_31 (by decide) ?_
  refine x_put (ci := 3) (C := RX3) (T := TX3) (N := 15) (ty := .int) (v := .int (iI 0)) B tyX3_ok nmX3 0 rfl rfl in_X3 8 (by decide) mw_321 (fun _ h9 => h9) rfl (by decide +kernel) rfl rfl (Nat.le_of_ble_eq_true rfl) dX3_open_32 (fun H locs B => ?_)
  have B := bd_to (ws' := ([(pg, .inr (3, [.ref (A 50 0 0), .ref (Aw 20), .int (iI fr), .int (iI 0), .int (iI wz), .int (iI lz), .int (iI 0), .int (iI 0), .int (iI 0), .int (iI pT), .int (iI pB), .int (iI pX), .int (iI pY), .int (iI pM), .int (iI pU)]))] ++ tl)) rfl B
  refine lv_aload_n hx hb dX3_open_35 rfl (lv_at hl 0 rfl) ?_
  have B := bd_swap (a := [(pg, .inr (3, [.ref (A 50 0 0), .ref (Aw 20), .int (iI fr), .int (iI 0), .int (iI wz), .int (iI lz), .int (iI 0), .int (iI 0), .int (iI 0), .int (iI pT), .int (iI pB), .int (iI pX), .int (iI pY), .int (iI pM), .int (iI pU)]))]) (b := []) (d := tl) (bd_to rfl B)
  refine k_V (rest := []) (wc := ([(pg, .inr (3, [.ref (A 50 0 0), .ref (Aw 20), .int (iI fr), .int (iI 0), .int (iI wz), .int (iI lz), .int (iI 0), .int (iI 0), .int (iI 0), .int (iI pT), .int (iI pB), .int (iI pX), .int (iI pY), .int (iI pM), .int (iI pU)]))] ++ tl)) (wr := []) (k_standTop l dC dI k pg fr 0 wz lz pH 0 0 pT pB pX pY pM pU T A X tl M V Aw hT hK hR hM hMT h1) B mV_X3_standAtTop mw_1555 hl (q0 := 0) rfl rfl rfl ⟨Nat.le_of_ble_eq_true rfl, Nat.le_of_ble_eq_true rfl⟩ (Nat.le_of_ble_eq_true rfl) rfl dX3_open_36 ⟨Nat.le_of_ble_eq_true rfl, Nat.le_of_ble_eq_true rfl⟩ (fun r w gc gs H locs hp B => ?_)
  obtain ⟨z_1, rfl, hw9, rfl, rfl⟩ := hp
  rw [hw9] at B; clear hw9
  have B := bd_to (ws' := ([(pg, .inr (3, [.ref (A 50 0 0), .ref (Aw 20), .int (iI fr), .int (iI 0), .int (iI wz), .int (iI lz), .int (iI ((tpZ T M wz).2.2)), .int (iI 0), .int (iI 0), .int (iI ((tpZ T M wz).2.1)), .int (iI pB), .int (iI pX), .int (iI pY), .int (iI pM), .int (iI pU)]))] ++ tl)) rfl B
  exact k_vret B hr (⟨z_1, rfl, rfl, rfl, rfl⟩) ⟨Nat.le_of_ble_eq_true rfl, Nat.le_of_ble_eq_true rfl⟩ ⟨Nat.le_of_ble_eq_true rfl, Nat.le_of_ble_eq_true rfl⟩ dX3_open_39

theorem mw_255 : (Jvm.Cond.fieldLink "Galleyforge$Page" (102 : Nat) "Galleyforge$Rows" "figureRows" "[I") ∈ gt := gt_at 325 (by decide +kernel) (by decide +kernel)
theorem mw_324 : (Jvm.Cond.fieldLink "Galleyforge$Page" (96 : Nat) "Galleyforge$Page" "bottomSet" "I") ∈ gt := gt_at 394 (by decide +kernel) (by decide +kernel)
theorem mw_327 : (Jvm.Cond.fieldLink "Galleyforge$Page" (99 : Nat) "Galleyforge$Page" "waitNext" "I") ∈ gt := gt_at 397 (by decide +kernel) (by decide +kernel)
theorem mw_332 : (Jvm.Cond.fieldLink "Galleyforge$Page" (90 : Nat) "Galleyforge$Page" "used" "I") ∈ gt := gt_at 402 (by decide +kernel) (by decide +kernel)
theorem dX3_standAtBottom_0 : decode cX3_standAtBottom 0 = .ok (.iconst 0, 1) := by decide +kernel
theorem dX3_standAtBottom_1 : decode cX3_standAtBottom 1 = .ok (.istore_n 1, 1) := by decide +kernel
theorem dX3_standAtBottom_2 : decode cX3_standAtBottom 2 = .ok (.aload_n 0, 1) := by decide +kernel
theorem dX3_standAtBottom_3 : decode cX3_standAtBottom 3 = .ok (.iconst 0, 1) := by decide +kernel
theorem dX3_standAtBottom_4 : decode cX3_standAtBottom 4 = .ok (.putfield 96, 3) := by decide +kernel
theorem dX3_standAtBottom_7 : decode cX3_standAtBottom 7 = .ok (.aload_n 0, 1) := by decide +kernel
theorem dX3_standAtBottom_8 : decode cX3_standAtBottom 8 = .ok (.aload_n 0, 1) := by decide +kernel
theorem dX3_standAtBottom_9 : decode cX3_standAtBottom 9 = .ok (.getfield 26, 3) := by decide +kernel
theorem dX3_standAtBottom_12 : decode cX3_standAtBottom 12 = .ok (.aload_n 0, 1) := by decide +kernel
theorem dX3_standAtBottom_13 : decode cX3_standAtBottom 13 = .ok (.getfield 44, 3) := by decide +kernel
theorem dX3_standAtBottom_16 : decode cX3_standAtBottom 16 = .ok (.iconst (-1), 1) := by decide +kernel
theorem dX3_standAtBottom_17 : decode cX3_standAtBottom 17 = .ok (.ixor, 1) := by decide +kernel
theorem dX3_standAtBottom_18 : decode cX3_standAtBottom 18 = .ok (.iand, 1) := by decide +kernel
theorem dX3_standAtBottom_19 : decode cX3_standAtBottom 19 = .ok (.putfield 99, 3) := by decide +kernel
theorem dX3_standAtBottom_22 : decode cX3_standAtBottom 22 = .ok (.iconst 0, 1) := by decide +kernel
theorem dX3_standAtBottom_23 : decode cX3_standAtBottom 23 = .ok (.istore_n 2, 1) := by decide +kernel
theorem dX3_standAtBottom_24 : decode cX3_standAtBottom 24 = .ok (.iload_n 2, 1) := by decide +kernel
theorem dX3_standAtBottom_25 : decode cX3_standAtBottom 25 = .ok (.aload_n 0, 1) := by decide +kernel
theorem dX3_standAtBottom_26 : decode cX3_standAtBottom 26 = .ok (.getfield 15, 3) := by decide +kernel
theorem dX3_standAtBottom_29 : decode cX3_standAtBottom 29 = .ok (.getfield 47, 3) := by decide +kernel
theorem dX3_standAtBottom_32 : decode cX3_standAtBottom 32 = .ok (.if_icmp .ge 167, 3) := by decide +kernel
theorem dX3_standAtBottom_35 : decode cX3_standAtBottom 35 = .ok (.aload_n 0, 1) := by decide +kernel
theorem dX3_standAtBottom_36 : decode cX3_standAtBottom 36 = .ok (.getfield 15, 3) := by decide +kernel
theorem dX3_standAtBottom_39 : decode cX3_standAtBottom 39 = .ok (.getfield 52, 3) := by decide +kernel
theorem dX3_standAtBottom_42 : decode cX3_standAtBottom 42 = .ok (.iload_n 2, 1) := by decide +kernel
theorem dX3_standAtBottom_43 : decode cX3_standAtBottom 43 = .ok (.iaload, 1) := by decide +kernel
theorem dX3_standAtBottom_44 : decode cX3_standAtBottom 44 = .ok (.istore_n 3, 1) := by decide +kernel
theorem dX3_standAtBottom_45 : decode cX3_standAtBottom 45 = .ok (.iconst 1, 1) := by decide +kernel
theorem dX3_standAtBottom_46 : decode cX3_standAtBottom 46 = .ok (.aload_n 0, 1) := by decide +kernel
theorem dX3_standAtBottom_47 : decode cX3_standAtBottom 47 = .ok (.getfield 9, 3) := by decide +kernel
theorem dX3_standAtBottom_50 : decode cX3_standAtBottom 50 = .ok (.getfield 56, 3) := by decide +kernel
theorem dX3_standAtBottom_53 : decode cX3_standAtBottom 53 = .ok (.iload_n 3, 1) := by decide +kernel
theorem dX3_standAtBottom_54 : decode cX3_standAtBottom 54 = .ok (.iaload, 1) := by decide +kernel
theorem dX3_standAtBottom_55 : decode cX3_standAtBottom 55 = .ok (.ishl, 1) := by decide +kernel
theorem dX3_standAtBottom_56 : decode cX3_standAtBottom 56 = .ok (.istore 4, 2) := by decide +kernel
theorem dX3_standAtBottom_58 : decode cX3_standAtBottom 58 = .ok (.aload_n 0, 1) := by decide +kernel
theorem dX3_standAtBottom_59 : decode cX3_standAtBottom 59 = .ok (.getfield 15, 3) := by decide +kernel
theorem dX3_standAtBottom_62 : decode cX3_standAtBottom 62 = .ok (.getfield 102, 3) := by decide +kernel
theorem dX3_standAtBottom_65 : decode cX3_standAtBottom 65 = .ok (.iload_n 3, 1) := by decide +kernel
theorem dX3_standAtBottom_66 : decode cX3_standAtBottom 66 = .ok (.iaload, 1) := by decide +kernel
theorem dX3_standAtBottom_67 : decode cX3_standAtBottom 67 = .ok (.istore 5, 2) := by decide +kernel
theorem dX3_standAtBottom_69 : decode cX3_standAtBottom 69 = .ok (.aload_n 0, 1) := by decide +kernel
theorem dX3_standAtBottom_70 : decode cX3_standAtBottom 70 = .ok (.getfield 99, 3) := by decide +kernel
theorem dX3_standAtBottom_73 : decode cX3_standAtBottom 73 = .ok (.iload_n 2, 1) := by decide +kernel
theorem dX3_standAtBottom_74 : decode cX3_standAtBottom 74 = .ok (.ishr, 1) := by decide +kernel
theorem dX3_standAtBottom_75 : decode cX3_standAtBottom 75 = .ok (.iconst 1, 1) := by decide +kernel
theorem dX3_standAtBottom_76 : decode cX3_standAtBottom 76 = .ok (.iand, 1) := by decide +kernel
theorem dX3_standAtBottom_77 : decode cX3_standAtBottom 77 = .ok (.iconst 1, 1) := by decide +kernel
theorem dX3_standAtBottom_78 : decode cX3_standAtBottom 78 = .ok (.if_icmp .ne 11, 3) := by decide +kernel
theorem dX3_standAtBottom_81 : decode cX3_standAtBottom 81 = .ok (.iload_n 1, 1) := by decide +kernel
theorem dX3_standAtBottom_82 : decode cX3_standAtBottom 82 = .ok (.iload 4, 2) := by decide +kernel
theorem dX3_standAtBottom_84 : decode cX3_standAtBottom 84 = .ok (.ior, 1) := by decide +kernel
theorem dX3_standAtBottom_85 : decode cX3_standAtBottom 85 = .ok (.istore_n 1, 1) := by decide +kernel
theorem dX3_standAtBottom_86 : decode cX3_standAtBottom 86 = .ok (.goto 107, 3) := by decide +kernel
theorem dX3_standAtBottom_89 : decode cX3_standAtBottom 89 = .ok (.iload 5, 2) := by decide +kernel
theorem dX3_standAtBottom_91 : decode cX3_standAtBottom 91 = .ok (.aload_n 0, 1) := by decide +kernel
theorem dX3_standAtBottom_92 : decode cX3_standAtBottom 92 = .ok (.getfield 19, 3) := by decide +kernel
theorem dX3_standAtBottom_95 : decode cX3_standAtBottom 95 = .ok (.if_icmp .lt 98, 3) := by decide +kernel
theorem dX3_standAtBottom_98 : decode cX3_standAtBottom 98 = .ok (.iload 5, 2) := by decide +kernel
theorem dX3_standAtBottom_100 : decode cX3_standAtBottom 100 = .ok (.aload_n 0, 1) := by decide +kernel
theorem dX3_standAtBottom_101 : decode cX3_standAtBottom 101 = .ok (.getfield 19, 3) := by decide +kernel
theorem dX3_standAtBottom_104 : decode cX3_standAtBottom 104 = .ok (.aload_n 0, 1) := by decide +kernel
theorem dX3_standAtBottom_105 : decode cX3_standAtBottom 105 = .ok (.getfield 23, 3) := by decide +kernel
theorem dX3_standAtBottom_108 : decode cX3_standAtBottom 108 = .ok (.iadd, 1) := by decide +kernel
theorem dX3_standAtBottom_109 : decode cX3_standAtBottom 109 = .ok (.if_icmp .ge 84, 3) := by decide +kernel
theorem dX3_standAtBottom_112 : decode cX3_standAtBottom 112 = .ok (.iload_n 1, 1) := by decide +kernel
theorem dX3_standAtBottom_113 : decode cX3_standAtBottom 113 = .ok (.iload 4, 2) := by decide +kernel
theorem dX3_standAtBottom_115 : decode cX3_standAtBottom 115 = .ok (.iand, 1) := by decide +kernel
theorem dX3_standAtBottom_116 : decode cX3_standAtBottom 116 = .ok (.ifCond .ne 60, 3) := by decide +kernel
theorem dX3_standAtBottom_119 : decode cX3_standAtBottom 119 = .ok (.aload_n 0, 1) := by decide +kernel
theorem dX3_standAtBottom_120 : decode cX3_standAtBottom 120 = .ok (.getfield 90, 3) := by decide +kernel
theorem dX3_standAtBottom_123 : decode cX3_standAtBottom 123 = .ok (.aload_n 0, 1) := by decide +kernel
theorem dX3_standAtBottom_124 : decode cX3_standAtBottom 124 = .ok (.getfield 9, 3) := by decide +kernel
theorem dX3_standAtBottom_127 : decode cX3_standAtBottom 127 = .ok (.getfield 61, 3) := by decide +kernel
theorem dX3_standAtBottom_130 : decode cX3_standAtBottom 130 = .ok (.iload_n 3, 1) := by decide +kernel
theorem dX3_standAtBottom_131 : decode cX3_standAtBottom 131 = .ok (.iaload, 1) := by decide +kernel
theorem dX3_standAtBottom_132 : decode cX3_standAtBottom 132 = .ok (.iadd, 1) := by decide +kernel
theorem dX3_standAtBottom_133 : decode cX3_standAtBottom 133 = .ok (.aload_n 0, 1) := by decide +kernel
theorem dX3_standAtBottom_134 : decode cX3_standAtBottom 134 = .ok (.getfield 9, 3) := by decide +kernel
theorem dX3_standAtBottom_137 : decode cX3_standAtBottom 137 = .ok (.getfield 64, 3) := by decide +kernel
theorem dX3_standAtBottom_140 : decode cX3_standAtBottom 140 = .ok (.if_icmp .gt 36, 3) := by decide +kernel
theorem dX3_standAtBottom_143 : decode cX3_standAtBottom 143 = .ok (.aload_n 0, 1) := by decide +kernel
theorem dX3_standAtBottom_144 : decode cX3_standAtBottom 144 = .ok (.dup, 1) := by decide +kernel
theorem dX3_standAtBottom_145 : decode cX3_standAtBottom 145 = .ok (.getfield 96, 3) := by decide +kernel
theorem dX3_standAtBottom_148 : decode cX3_standAtBottom 148 = .ok (.iconst 1, 1) := by decide +kernel
theorem dX3_standAtBottom_149 : decode cX3_standAtBottom 149 = .ok (.iload_n 2, 1) := by decide +kernel
theorem dX3_standAtBottom_150 : decode cX3_standAtBottom 150 = .ok (.ishl, 1) := by decide +kernel
theorem dX3_standAtBottom_151 : decode cX3_standAtBottom 151 = .ok (.ior, 1) := by decide +kernel
theorem dX3_standAtBottom_152 : decode cX3_standAtBottom 152 = .ok (.putfield 96, 3) := by decide +kernel
theorem dX3_standAtBottom_155 : decode cX3_standAtBottom 155 = .ok (.aload_n 0, 1) := by decide +kernel
theorem dX3_standAtBottom_156 : decode cX3_standAtBottom 156 = .ok (.dup, 1) := by decide +kernel
theorem dX3_standAtBottom_157 : decode cX3_standAtBottom 157 = .ok (.getfield 90, 3) := by decide +kernel
theorem dX3_standAtBottom_160 : decode cX3_standAtBottom 160 = .ok (.aload_n 0, 1) := by decide +kernel
theorem dX3_standAtBottom_161 : decode cX3_standAtBottom 161 = .ok (.getfield 9, 3) := by decide +kernel
theorem dX3_standAtBottom_164 : decode cX3_standAtBottom 164 = .ok (.getfield 61, 3) := by decide +kernel
theorem dX3_standAtBottom_167 : decode cX3_standAtBottom 167 = .ok (.iload_n 3, 1) := by decide +kernel
theorem dX3_standAtBottom_168 : decode cX3_standAtBottom 168 = .ok (.iaload, 1) := by decide +kernel
theorem dX3_standAtBottom_169 : decode cX3_standAtBottom 169 = .ok (.iadd, 1) := by decide +kernel
theorem dX3_standAtBottom_170 : decode cX3_standAtBottom 170 = .ok (.putfield 90, 3) := by decide +kernel
theorem dX3_standAtBottom_173 : decode cX3_standAtBottom 173 = .ok (.goto 20, 3) := by decide +kernel
theorem dX3_standAtBottom_176 : decode cX3_standAtBottom 176 = .ok (.aload_n 0, 1) := by decide +kernel
theorem dX3_standAtBottom_177 : decode cX3_standAtBottom 177 = .ok (.dup, 1) := by decide +kernel
theorem dX3_standAtBottom_178 : decode cX3_standAtBottom 178 = .ok (.getfield 99, 3) := by decide +kernel
theorem dX3_standAtBottom_181 : decode cX3_standAtBottom 181 = .ok (.iconst 1, 1) := by decide +kernel
theorem dX3_standAtBottom_182 : decode cX3_standAtBottom 182 = .ok (.iload_n 2, 1) := by decide +kernel
theorem dX3_standAtBottom_183 : decode cX3_standAtBottom 183 = .ok (.ishl, 1) := by decide +kernel
theorem dX3_standAtBottom_184 : decode cX3_standAtBottom 184 = .ok (.ior, 1) := by decide +kernel
theorem dX3_standAtBottom_185 : decode cX3_standAtBottom 185 = .ok (.putfield 99, 3) := by decide +kernel
theorem dX3_standAtBottom_188 : decode cX3_standAtBottom 188 = .ok (.iload_n 1, 1) := by decide +kernel
theorem dX3_standAtBottom_189 : decode cX3_standAtBottom 189 = .ok (.iload 4, 2) := by decide +kernel
theorem dX3_standAtBottom_191 : decode cX3_standAtBottom 191 = .ok (.ior, 1) := by decide +kernel
theorem dX3_standAtBottom_192 : decode cX3_standAtBottom 192 = .ok (.istore_n 1, 1) := by decide +kernel
theorem dX3_standAtBottom_193 : decode cX3_standAtBottom 193 = .ok (.iinc 2 1, 3) := by decide +kernel
theorem dX3_standAtBottom_196 : decode cX3_standAtBottom 196 = .ok (.goto (-172), 3) := by decide +kernel
theorem dX3_standAtBottom_199 : decode cX3_standAtBottom 199 = .ok (.return_, 1) := by decide +kernel
set_option maxHeartbeats 4000000 in
set_option maxRecDepth 100000 in
theorem k_standBottom (l : Launch) (dC : Nat → ClassId) (dI : Nat → Nat → Nat) (k : Nat → ClassId) (pg : Nat) (pR : Int) (pC : Int) (pW : Int) (pL : Int) (pH : Int) (pN : Int) (pQ : Int) (pT : Int) (pB : Int) (pX : Int) (pY : Int) (pM : Int) (pU : Int) (T : Nat → Int → Int → Int → Int) (A : Nat → Int → Int → Nat) (X : Nat → Int → Int → Int) (tl : va_W) (M : Nat → Int → Int) (V : Nat → Int → Int) (Aw : Nat → Nat) (hT : TI dI k T A X tl) (hK : TK T) (hR : RI k (T 0 0 0 0) M V Aw tl) (hM : MK M) (hMT : ∀ j, 0 ≤ j → j < M 0 0 → M 2 j < T 0 0 0 0) (h1 : 0 ≤ pW ∧ pW < 32 ∧ 0 ≤ pT ∧ pT < 32 ∧ 0 ≤ pU ∧ pU < 1100000 ∧ 0 ≤ pR ∧ pR ≤ 768 ∧ 0 ≤ pC ∧ pC ≤ 768) : Kn l dC dI k yX3_standAtBottom (.code yX3_standAtBottom cX3_standAtBottom 6 none) ({ frames := 0, cells := 0, slots := 0, locals := 0 } : Room) [.ref pg] ([(pg, .inr (3, [.ref (A 50 0 0), .ref (Aw 20), .int (iI pR), .int (iI pC), .int (iI pW), .int (iI pL), .int (iI pH), .int (iI pN), .int (iI pQ), .int (iI pT), .int (iI pB), .int (iI pX), .int (iI pY), .int (iI pM), .int (iI pU)]))] ++ tl) (fun r w gc gs => ((0 ≤ (btZ T M pR pC (bDif pW pT) pU).2.1 ∧ (btZ T M pR pC (bDif pW pT) pU).2.1 < 32 ∧ 0 ≤ (btZ T M pR pC (bDif pW pT) pU).2.2.1 ∧ (btZ T M pR pC (bDif pW pT) pU).2.2.1 < 32 ∧ pU ≤ (btZ T M pR pC (bDif pW pT) pU).2.2.2 ∧ (btZ T M pR pC (bDif pW pT) pU).2.2.2 ≤ pU + 200) ∧ r = none ∧ w = ([(pg, .inr (3, [.ref (A 50 0 0), .ref (Aw 20), .int (iI pR), .int (iI pC), .int (iI pW), .int (iI pL), .int (iI pH), .int (iI pN), .int (iI pQ), .int (iI pT), .int (iI ((btZ T M pR pC (bDif pW pT) pU).2.1)), .int (iI ((btZ T M pR pC (bDif pW pT) pU).2.2.1)), .int (iI pY), .int (iI pM), .int (iI ((btZ T M pR pC (bDif pW pT) pU).2.2.2))]))] ++ tl) ∧ gc = 0 ∧ gs = 0)) := by
  refine kn_of (by decide) (Nat.le_of_ble_eq_true rfl) ?_
  intro p e s m args below meth c H locs B hr hnm ls hl
  have hx := B.1.1
  have hb := B.1.2.1
  have hl : lv_has ls 6 [(0, .ref pg)] := hl
  have hn0 := MK_cnt hM
  have hf0 := MK_17 hM
  refine lv_iconst (v := iI 0) hx hb dX3_standAtBottom_0 (by decide) ?_
  refine lv_istore_n (lv' := [(1, .int (iI 0)), (0, .ref pg)]) hx hb dX3_standAtBottom_1 rfl hl (by decide) rfl (fun ls hl => ?_)
  refine lv_aload_n hx hb dX3_standAtBottom_2 rfl (lv_at hl 1 rfl) ?_
  refine lv_iconst (v := iI 0) hx hb dX3_standAtBottom_3 (by decide) ?_
  refine x_put (ci := 3) (C := RX3) (T := TX3) (N := 15) (ty := .int) (v := .int (iI 0)) B tyX3_ok nmX3 0 rfl rfl in_X3 10 (by decide) mw_324 (fun _ h9 => h9) rfl (by decide +kernel) rfl rfl (Nat.le_of_ble_eq_true rfl) dX3_standAtBottom_4 (fun H locs B => ?_)
  have B := bd_to (ws' := ([(pg, .inr (3, [.ref (A 50 0 0), .ref (Aw 20), .int (iI pR), .int (iI pC), .int (iI pW), .int (iI pL), .int (iI pH), .int (iI pN), .int (iI pQ), .int (iI pT), .int (iI 0), .int (iI pX), .int (iI pY), .int (iI pM), .int (iI pU)]))] ++ tl)) rfl B
  refine lv_aload_n hx hb dX3_standAtBottom_7 rfl (lv_at hl 1 rfl) ?_
  refine lv_aload_n hx hb dX3_standAtBottom_8 rfl (lv_at hl 1 rfl) ?_
  refine x_get (ci := 3) (C := RX3) (T := TX3) (N := 15) (v := .int (iI pW)) B 0 rfl rfl in_X3 4 (by decide) mw_317 (fun _ h9 => h9) rfl dX3_standAtBottom_9 ?_
  refine lv_aload_n hx hb dX3_standAtBottom_12 rfl (lv_at hl 1 rfl) ?_
  refine x_get (ci := 3) (C := RX3) (T := TX3) (N := 15) (v := .int (iI pT)) B 0 rfl rfl in_X3 9 (by decide) mw_322 (fun _ h9 => h9) rfl dX3_standAtBottom_13 ?_
  refine lv_iconst (v := iI (-1)) hx hb dX3_standAtBottom_16 (by decide) ?_
  refine y_not hx hb dX3_standAtBottom_17 ?_
  refine y_dif hx hb (a := pW) (b := pT) (by omega) (by omega) dX3_standAtBottom_18 ?_
  have z_1 : 0 ≤ (bDif pW pT) ∧ (bDif pW pT) ≤ pW := bDif_le (by omega)
  refine x_put (ci := 3) (C := RX3) (T := TX3) (N := 15) (ty := .int) (v := .int (iI (bDif pW pT))) B tyX3_ok nmX3 0 rfl rfl in_X3 11 (by decide) mw_327 (fun _ h9 => h9) rfl (by decide +kernel) rfl rfl (Nat.le_of_ble_eq_true rfl) dX3_standAtBottom_19 (fun H locs B => ?_)
  have B := bd_to (ws' := ([(pg, .inr (3, [.ref (A 50 0 0), .ref (Aw 20), .int (iI pR), .int (iI pC), .int (iI pW), .int (iI pL), .int (iI pH), .int (iI pN), .int (iI pQ), .int (iI pT), .int (iI 0), .int (iI (bDif pW pT)), .int (iI pY), .int (iI pM), .int (iI pU)]))] ++ tl)) rfl B
  refine lv_iconst (v := iI 0) hx hb dX3_standAtBottom_22 (by decide) ?_
  refine lv_istore_n (lv' := [(2, .int (iI 0)), (1, .int (iI 0)), (0, .ref pg)]) hx hb dX3_standAtBottom_23 rfl hl (by decide) rfl (fun ls hl => ?_)
  refine k_loop (σ := Int × Int × Int × Int × Int) B (fun g9 : Int × Int × Int × Int × Int => (0 ≤ g9.1 ∧ g9.1 ≤ M 17 0 ∧ 0 ≤ g9.2.1 ∧ g9.2.1 < 4 ∧ 0 ≤ g9.2.2.1 ∧ g9.2.2.1 < 32 ∧ 0 ≤ g9.2.2.2.1 ∧ g9.2.2.2.1 < 32 ∧ pU ≤ g9.2.2.2.2 ∧ g9.2.2.2.2 ≤ pU + 40 * g9.1) ∧ ((g9.2.1, g9.2.2.1, g9.2.2.2.1, g9.2.2.2.2) = btS T M pR pC (bDif pW pT) pU (Int.toNat g9.1))) (fun g9 : Int × Int × Int × Int × Int => (M 17 0 - g9.1).toNat) (fun g9 : Int × Int × Int × Int × Int => [(2, .int (iI g9.1)), (1, .int (iI g9.2.1)), (0, .ref pg)]) (fun g9 : Int × Int × Int × Int × Int => ([(pg, .inr (3, [.ref (A 50 0 0), .ref (Aw 20), .int (iI pR), .int (iI pC), .int (iI pW), .int (iI pL), .int (iI pH), .int (iI pN), .int (iI pQ), .int (iI pT), .int (iI g9.2.2.1), .int (iI g9.2.2.2.1), .int (iI pY), .int (iI pM), .int (iI g9.2.2.2.2)]))] ++ tl)) ?_ (0, 0, 0, (bDif pW pT), pU) ⟨(show 0 ≤ 0 ∧ 0 ≤ M 17 0 ∧ 0 ≤ 0 ∧ 0 < 4 ∧ 0 ≤ 0 ∧ 0 < 32 ∧ 0 ≤ (bDif pW pT) ∧ (bDif pW pT) < 32 ∧ pU ≤ pU ∧ pU ≤ pU + 40 * 0 from (by omega)), (show (0, 0, (bDif pW pT), pU) = btS T M pR pC (bDif pW pT) pU (Int.toNat 0) from rfl)⟩ ls H locs (lv_sub hl [0, 1, 2] rfl) (bd_to rfl B)
  clear hl B
  rintro ⟨q, bk, bs, wx, us⟩ ⟨hq, hts⟩ ih_2 ls H locs hl B
  have hq : 0 ≤ q ∧ q ≤ M 17 0 ∧ 0 ≤ bk ∧ bk < 4 ∧ 0 ≤ bs ∧ bs < 32 ∧ 0 ≤ wx ∧ wx < 32 ∧ pU ≤ us ∧ us ≤ pU + 40 * q := hq
  have hts : (bk, bs, wx, us) = btS T M pR pC (bDif pW pT) pU (Int.toNat q) := hts
  have hl : lv_has ls 6 [(2, .int (iI q)), (1, .int (iI bk)), (0, .ref pg)] := hl
  have B := bd_to (ws' := ([(pg, .inr (3, [.ref (A 50 0 0), .ref (Aw 20), .int (iI pR), .int (iI pC), .int (iI pW), .int (iI pL), .int (iI pH), .int (iI pN), .int (iI pQ), .int (iI pT), .int (iI bs), .int (iI wx), .int (iI pY), .int (iI pM), .int (iI us)]))] ++ tl)) rfl B
  refine lv_iload_n hx hb dX3_standAtBottom_24 rfl (lv_at hl 0 rfl) ?_
  refine lv_aload_n hx hb dX3_standAtBottom_25 rfl (lv_at hl 2 rfl) ?_
  refine x_get (ci := 3) (C := RX3) (T := TX3) (N := 15) (v := .ref (Aw 20)) B 0 rfl rfl in_X3 1 (by decide) mw_314 (fun _ h9 => h9) rfl dX3_standAtBottom_26 ?_
  obtain ⟨k_3, hk_3⟩ := pk_at (hs := [(pg, .inr (3, [.ref (A 50 0 0), .ref (Aw 20), .int (iI pR), .int (iI pC), .int (iI pW), .int (iI pL), .int (iI pH), .int (iI pN), .int (iI pQ), .int (iI pT), .int (iI bs), .int (iI wx), .int (iI pY), .int (iI pM), .int (iI us)]))]) (RI_o hR)
  refine x_get (ci := 6) (C := RX6) (T := TX6) (N := 18) (v := .int (iI (M 17 0))) B k_3 hk_3 rfl in_X6 17 (by decide) mw_260 (fun _ h9 => h9) rfl dX3_standAtBottom_29 ?_
  refine lv_icmp_ge (tgt := 199) hx hb dX3_standAtBottom_32 (by decide) (fun c_4 => ?_) (fun c_4 => ?_)
  · have zc_4 : (M 17 0) ≤ q := jle (a := (M 17 0)) (b := q) (by omega) (by omega) c_4
    have e_5 : ((btZ T M pR pC (bDif pW pT) pU).2.1) = bs := (by show (btS T M pR pC (bDif pW pT) pU (Int.toNat (M 17 0))).2.1 = _; rw [show M 17 0 = q by omega, ← hts])
    have e_6 : ((btZ T M pR pC (bDif pW pT) pU).2.2.1) = wx := (by show (btS T M pR pC (bDif pW pT) pU (Int.toNat (M 17 0))).2.2.1 = _; rw [show M 17 0 = q by omega, ← hts])
    have e_7 : ((btZ T M pR pC (bDif pW pT) pU).2.2.2) = us := (by show (btS T M pR pC (bDif pW pT) pU (Int.toNat (M 17 0))).2.2.2 = _; rw [show M 17 0 = q by omega, ← hts])
    have B := bd_to (ws' := ([(pg, .inr (3, [.ref (A 50 0 0), .ref (Aw 20), .int (iI pR), .int (iI pC), .int (iI pW), .int (iI pL), .int (iI pH), .int (iI pN), .int (iI pQ), .int (iI pT), .int (iI ((btZ T M pR pC (bDif pW pT) pU).2.1)), .int (iI ((btZ T M pR pC (bDif pW pT) pU).2.2.1)), .int (iI pY), .int (iI pM), .int (iI ((btZ T M pR pC (bDif pW pT) pU).2.2.2))]))] ++ tl)) (by first | rfl | (rw [e_5, e_6, e_7]) | (rw [e_7, e_6, e_5])) B
    exact k_vret B hr (⟨(by have e9 : (btZ T M pR pC (bDif pW pT) pU) = (bk, bs, wx, us) := (by rw [hts]; show btS T M pR pC (bDif pW pT) pU (Int.toNat (M 17 0)) = _; rw [show M 17 0 = q by omega]); rw [e9]; dsimp only; omega), rfl, rfl, rfl, rfl⟩) ⟨Nat.le_of_ble_eq_true rfl, Nat.le_of_ble_eq_true rfl⟩ ⟨Nat.le_of_ble_eq_true rfl, Nat.le_of_ble_eq_true rfl⟩ dX3_standAtBottom_199
  · have zc_4 : q < (M 17 0) := jnle (a := (M 17 0)) (b := q) (by omega) (by omega) c_4
    refine lv_aload_n hx hb dX3_standAtBottom_35 rfl (lv_at hl 2 rfl) ?_
    refine x_get (ci := 3) (C := RX3) (T := TX3) (N := 15) (v := .ref (Aw 20)) B 0 rfl rfl in_X3 1 (by decide) mw_314 (fun _ h9 => h9) rfl dX3_standAtBottom_36 ?_
    obtain ⟨k_8, hk_8⟩ := pk_at (hs := [(pg, .inr (3, [.ref (A 50 0 0), .ref (Aw 20), .int (iI pR), .int (iI pC), .int (iI pW), .int (iI pL), .int (iI pH), .int (iI pN), .int (iI pQ), .int (iI pT), .int (iI bs), .int (iI wx), .int (iI pY), .int (iI pM), .int (iI us)]))]) (RI_o hR)
    refine x_get (ci := 6) (C := RX6) (T := TX6) (N := 18) (v := .ref (Aw 16)) B k_8 hk_8 rfl in_X6 16 (by decide) mw_258 (fun _ h9 => h9) rfl dX3_standAtBottom_39 ?_
    refine lv_iload_n hx hb dX3_standAtBottom_42 rfl (lv_at hl 0 rfl) ?_
    obtain ⟨k_9, hk_9⟩ := pk_at (hs := [(pg, .inr (3, [.ref (A 50 0 0), .ref (Aw 20), .int (iI pR), .int (iI pC), .int (iI pW), .int (iI pL), .int (iI pH), .int (iI pN), .int (iI pQ), .int (iI pT), .int (iI bs), .int (iI wx), .int (iI pY), .int (iI pM), .int (iI us)]))]) (RI_16 hR)
    refine x_iald' (f := (V 16)) (z := q) B k_9 hk_9 (by omega) dX3_standAtBottom_43 ?_
    refine lv_seti (y := iI (M 16 q)) (congrArg iI (show (V 16) q = M 16 q from RA_16 (RI_a hR) _ (by omega) (by omega))) ?_
    have z_10 : 0 ≤ M 16 q ∧ M 16 q ≤ 4 := MK_16 hM _
    refine lv_istore_n (lv' := [(3, .int (iI (M 16 q))), (2, .int (iI q)), (1, .int (iI bk)), (0, .ref pg)]) hx hb dX3_standAtBottom_44 rfl hl (by decide) rfl (fun ls hl => ?_)
    refine lv_iconst (v := iI 1) hx hb dX3_standAtBottom_45 (by decide) ?_
    refine lv_aload_n hx hb dX3_standAtBottom_46 rfl (lv_at hl 3 rfl) ?_
    refine x_get (ci := 3) (C := RX3) (T := TX3) (N := 15) (v := .ref (A 50 0 0)) B 0 rfl rfl in_X3 0 (by decide) mw_313 (fun _ h9 => h9) rfl dX3_standAtBottom_47 ?_
    obtain ⟨k_11, hk_11⟩ := pk_at (hs := [(pg, .inr (3, [.ref (A 50 0 0), .ref (Aw 20), .int (iI pR), .int (iI pC), .int (iI pW), .int (iI pL), .int (iI pH), .int (iI pN), .int (iI pQ), .int (iI pT), .int (iI bs), .int (iI wx), .int (iI pY), .int (iI pM), .int (iI us)]))]) hT.1.1
    refine x_get (ci := 9) (C := RX9) (T := TX9) (N := 8) (v := .ref (A 53 0 0)) B k_11 hk_11 rfl in_X9 2 (by decide) mw_83 (fun _ h9 => h9) rfl dX3_standAtBottom_50 ?_
    refine lv_iload_n hx hb dX3_standAtBottom_53 rfl (lv_at hl 0 rfl) ?_
    obtain ⟨k_12, hk_12⟩ := pk_at (hs := [(pg, .inr (3, [.ref (A 50 0 0), .ref (Aw 20), .int (iI pR), .int (iI pC), .int (iI pW), .int (iI pL), .int (iI pH), .int (iI pN), .int (iI pQ), .int (iI pT), .int (iI bs), .int (iI wx), .int (iI pY), .int (iI pM), .int (iI us)]))]) hT.1.2.1
    refine x_iald' (f := (fun j9 : Int => T 13 j9 0 0)) (z := (M 16 q)) B k_12 hk_12 (by omega) dX3_standAtBottom_54 ?_
    have z_13 : 0 ≤ (T 13 (M 16 q) 0 0) ∧ (T 13 (M 16 q) 0 0) ≤ 1 := (fun j => TK_fk hK j) (M 16 q)
    have z_14 : 0 < (bShl 1 (T 13 (M 16 q) 0 0)) ∧ (bShl 1 (T 13 (M 16 q) 0 0)) < 4 := bShl_k1 (TK_fk hK _)
    refine y_shl hx hb (a := 1) (b := (T 13 (M 16 q) 0 0)) (by omega) (by omega) (by omega) dX3_standAtBottom_55 ?_
    refine lv_istore (lv' := [(4, .int (iI (bShl 1 (T 13 (M 16 q) 0 0)))), (3, .int (iI (M 16 q))), (2, .int (iI q)), (1, .int (iI bk)), (0, .ref pg)]) hx hb dX3_standAtBottom_56 hl (by decide) rfl (fun ls hl => ?_)
    refine lv_aload_n hx hb dX3_standAtBottom_58 rfl (lv_at hl 4 rfl) ?_
    refine x_get (ci := 3) (C := RX3) (T := TX3) (N := 15) (v := .ref (Aw 20)) B 0 rfl rfl in_X3 1 (by decide) mw_314 (fun _ h9 => h9) rfl dX3_standAtBottom_59 ?_
    obtain ⟨k_15, hk_15⟩ := pk_at (hs := [(pg, .inr (3, [.ref (A 50 0 0), .ref (Aw 20), .int (iI pR), .int (iI pC), .int (iI pW), .int (iI pL), .int (iI pH), .int (iI pN), .int (iI pQ), .int (iI pT), .int (iI bs), .int (iI wx), .int (iI pY), .int (iI pM), .int (iI us)]))]) (RI_o hR)
    refine x_get (ci := 6) (C := RX6) (T := TX6) (N := 18) (v := .ref (Aw 14)) B k_15 hk_15 rfl in_X6 14 (by decide) mw_255 (fun _ h9 => h9) rfl dX3_standAtBottom_62 ?_
    refine lv_iload_n hx hb dX3_standAtBottom_65 rfl (lv_at hl 1 rfl) ?_
    obtain ⟨k_16, hk_16⟩ := pk_at (hs := [(pg, .inr (3, [.ref (A 50 0 0), .ref (Aw 20), .int (iI pR), .int (iI pC), .int (iI pW), .int (iI pL), .int (iI pH), .int (iI pN), .int (iI pQ), .int (iI pT), .int (iI bs), .int (iI wx), .int (iI pY), .int (iI pM), .int (iI us)]))]) (RI_14 hR)
    refine x_iald' (f := (V 14)) (z := (M 16 q)) B k_16 hk_16 (by omega) dX3_standAtBottom_66 ?_
    refine lv_seti (y := iI (M 14 (M 16 q))) (congrArg iI (show (V 14) (M 16 q) = M 14 (M 16 q) from RA_14 (RI_a hR) _ (by omega) (by omega))) ?_
    have z_17 : (-1) ≤ M 14 (M 16 q) ∧ M 14 (M 16 q) ≤ 767 := MK_14 hM _
    refine lv_istore (lv' := [(5, .int (iI (M 14 (M 16 q)))), (4, .int (iI (bShl 1 (T 13 (M 16 q) 0 0)))), (3, .int (iI (M 16 q))), (2, .int (iI q)), (1, .int (iI bk)), (0, .ref pg)]) hx hb dX3_standAtBottom_67 hl (by decide) rfl (fun ls hl => ?_)
    refine lv_aload_n hx hb dX3_standAtBottom_69 rfl (lv_at hl 5 rfl) ?_
    refine x_get (ci := 3) (C := RX3) (T := TX3) (N := 15) (v := .int (iI wx)) B 0 rfl rfl in_X3 11 (by decide) mw_327 (fun _ h9 => h9) rfl dX3_standAtBottom_70 ?_
    refine lv_iload_n hx hb dX3_standAtBottom_73 rfl (lv_at hl 3 rfl) ?_
    refine y_shr hx hb (a := wx) (b := q) (by omega) (by omega) dX3_standAtBottom_74 ?_
    have z_18 : 0 ≤ (bShr wx q) ∧ (bShr wx q) ≤ wx := bShr_le (by omega)
    refine lv_iconst (v := iI 1) hx hb dX3_standAtBottom_75 (by decide) ?_
    refine y_and hx hb (a := (bShr wx q)) (b := 1) (by omega) (by omega) dX3_standAtBottom_76 ?_
    have z_19 : 0 ≤ (bAnd (bShr wx q) 1) ∧ (bAnd (bShr wx q) 1) ≤ (bShr wx q) := bAnd_le (by omega)
    have z_20 : 0 ≤ (bAnd (bShr wx q) 1) ∧ (bAnd (bShr wx q) 1) ≤ 1 := bAnd_le' (by omega)
    refine lv_iconst (v := iI 1) hx hb dX3_standAtBottom_77 (by decide) ?_
    refine lv_icmp_ne (tgt := 89) hx hb dX3_standAtBottom_78 (by decide) (fun c_21 => ?_) (fun c_21 => ?_)
    · have zc_21 : (bAnd (bShr wx q) 1) ≠ 1 := jne (a := (bAnd (bShr wx q) 1)) (b := 1) (by omega) (by omega) c_21
      refine lv_iload hx hb dX3_standAtBottom_89 (lv_at hl 0 rfl) ?_
      refine lv_aload_n hx hb dX3_standAtBottom_91 rfl (lv_at hl 5 rfl) ?_
      refine x_get (ci := 3) (C := RX3) (T := TX3) (N := 15) (v := .int (iI pR)) B 0 rfl rfl in_X3 2 (by decide) mw_315 (fun _ h9 => h9) rfl dX3_standAtBottom_92 ?_
      refine lv_icmp_lt (tgt := 193) hx hb dX3_standAtBottom_95 (by decide) (fun c_22 => ?_) (fun c_22 => ?_)
      · have zc_22 : (M 14 (M 16 q)) < pR := jlt (a := (M 14 (M 16 q))) (b := pR) (by omega) (by omega) c_22
        refine lv_iinc (v := iI (q + 1)) (lv' := [(2, .int (iI (q + 1))), (5, .int (iI (M 14 (M 16 q)))), (4, .int (iI (bShl 1 (T 13 (M 16 q) 0 0)))), (3, .int (iI (M 16 q))), (1, .int (iI bk)), (0, .ref pg)]) hx hb dX3_standAtBottom_193 hl (k := 3) rfl (iI_add _ _) (by decide) rfl (fun ls hl => ?_)
        refine lv_goto (tgt := 24) hx hb dX3_standAtBottom_196 (by decide) ?_
        exact ih_2 ((q + 1), bk, bs, wx, us) ⟨(show 0 ≤ (q + 1) ∧ (q + 1) ≤ M 17 0 ∧ 0 ≤ bk ∧ bk < 4 ∧ 0 ≤ bs ∧ bs < 32 ∧ 0 ≤ wx ∧ wx < 32 ∧ pU ≤ us ∧ us ≤ pU + 40 * (q + 1) from (by omega)), (show (bk, bs, wx, us) = btS T M pR pC (bDif pW pT) pU (Int.toNat (q + 1)) from (by rw [btS_s (by omega) hts]; first | (rw [if_pos (by omega)]; done) | (rw [if_neg (by omega), if_neg (by omega)]; done) | (rw [if_neg (by omega), if_pos (by omega), if_pos (by omega)]; done) | (rw [if_neg (by omega), if_pos (by omega), if_neg (by omega)]; done)))⟩ (by first | omega | (dsimp only; omega)) _ _ _ (lv_sub hl [0, 4, 5] rfl) (bd_to rfl B)
      · have zc_22 : pR ≤ (M 14 (M 16 q)) := jnlt (a := (M 14 (M 16 q))) (b := pR) (by omega) (by omega) c_22
        refine lv_iload hx hb dX3_standAtBottom_98 (lv_at hl 0 rfl) ?_
        refine lv_aload_n hx hb dX3_standAtBottom_100 rfl (lv_at hl 5 rfl) ?_
        refine x_get (ci := 3) (C := RX3) (T := TX3) (N := 15) (v := .int (iI pR)) B 0 rfl rfl in_X3 2 (by decide) mw_315 (fun _ h9 => h9) rfl dX3_standAtBottom_101 ?_
        refine lv_aload_n hx hb dX3_standAtBottom_104 rfl (lv_at hl 5 rfl) ?_
        refine x_get (ci := 3) (C := RX3) (T := TX3) (N := 15) (v := .int (iI pC)) B 0 rfl rfl in_X3 3 (by decide) mw_316 (fun _ h9 => h9) rfl dX3_standAtBottom_105 ?_
        refine y_add hx hb dX3_standAtBottom_108 ?_
        refine lv_icmp_ge (tgt := 193) hx hb dX3_standAtBottom_109 (by decide) (fun c_23 => ?_) (fun c_23 => ?_)
        · have zc_23 : (pR + pC) ≤ (M 14 (M 16 q)) := jle (a := (pR + pC)) (b := (M 14 (M 16 q))) (by omega) (by omega) c_23
          refine lv_iinc (v := iI (q + 1)) (lv' := [(2, .int (iI (q + 1))), (5, .int (iI (M 14 (M 16 q)))), (4, .int (iI (bShl 1 (T 13 (M 16 q) 0 0)))), (3, .int (iI (M 16 q))), (1, .int (iI bk)), (0, .ref pg)]) hx hb dX3_standAtBottom_193 hl (k := 3) rfl (iI_add _ _) (by decide) rfl (fun ls hl => ?_)
          refine lv_goto (tgt := 24) hx hb dX3_standAtBottom_196 (by decide) ?_
          exact ih_2 ((q + 1), bk, bs, wx, us) ⟨(show 0 ≤ (q + 1) ∧ (q + 1) ≤ M 17 0 ∧ 0 ≤ bk ∧ bk < 4 ∧ 0 ≤ bs ∧ bs < 32 ∧ 0 ≤ wx ∧ wx < 32 ∧ pU ≤ us ∧ us ≤ pU + 40 * (q + 1) from (by omega)), (show (bk, bs, wx, us) = btS T M pR pC (bDif pW pT) pU (Int.toNat (q + 1)) from (by rw [btS_s (by omega) hts]; first | (rw [if_pos (by omega)]; done) | (rw [if_neg (by omega), if_neg (by omega)]; done) | (rw [if_neg (by omega), if_pos (by omega), if_pos (by omega)]; done) | (rw [if_neg (by omega), if_pos (by omega), if_neg (by omega)]; done)))⟩ (by first | omega | (dsimp only; omega)) _ _ _ (lv_sub hl [0, 4, 5] rfl) (bd_to rfl B)
        · have zc_23 : (M 14 (M 16 q)) < (pR + pC) := jnle (a := (pR + pC)) (b := (M 14 (M 16 q))) (by omega) (by omega) c_23
          refine lv_iload_n hx hb dX3_standAtBottom_112 rfl (lv_at hl 4 rfl) ?_
          refine lv_iload hx hb dX3_standAtBottom_113 (lv_at hl 1 rfl) ?_
          refine y_and hx hb (a := bk) (b := (bShl 1 (T 13 (M 16 q) 0 0))) (by omega) (by omega) dX3_standAtBottom_115 ?_
          have z_24 : 0 ≤ (bAnd bk (bShl 1 (T 13 (M 16 q) 0 0))) ∧ (bAnd bk (bShl 1 (T 13 (M 16 q) 0 0))) ≤ bk := bAnd_le (by omega)
          have z_25 : 0 ≤ (bAnd bk (bShl 1 (T 13 (M 16 q) 0 0))) ∧ (bAnd bk (bShl 1 (T 13 (M 16 q) 0 0))) ≤ (bShl 1 (T 13 (M 16 q) 0 0)) := bAnd_le' (by omega)
          refine lv_if_ne (tgt := 176) hx hb dX3_standAtBottom_116 (by decide) (fun c_26 => ?_) (fun c_26 => ?_)
          · have zc_26 : (bAnd bk (bShl 1 (T 13 (M 16 q) 0 0))) ≠ 0 := jne (a := (bAnd bk (bShl 1 (T 13 (M 16 q) 0 0)))) (b := 0) (by omega) (by omega) c_26
            refine lv_aload_n hx hb dX3_standAtBottom_176 rfl (lv_at hl 5 rfl) ?_
            refine lv_dup hx hb dX3_standAtBottom_177 rfl ?_
            refine x_get (ci := 3) (C := RX3) (T := TX3) (N := 15) (v := .int (iI wx)) B 0 rfl rfl in_X3 11 (by decide) mw_327 (fun _ h9 => h9) rfl dX3_standAtBottom_178 ?_
            refine lv_iconst (v := iI 1) hx hb dX3_standAtBottom_181 (by decide) ?_
            refine lv_iload_n hx hb dX3_standAtBottom_182 rfl (lv_at hl 3 rfl) ?_
            have z_27 : 0 < (bShl 1 q) ∧ (bShl 1 q) < 32 := bShl_k5 (by omega)
            refine y_shl hx hb (a := 1) (b := q) (by omega) (by omega) (by omega) dX3_standAtBottom_183 ?_
            refine y_or hx hb (a := wx) (b := (bShl 1 q)) (by omega) (by omega) dX3_standAtBottom_184 ?_
            have z_28 : 0 ≤ (bOr wx (bShl 1 q)) ∧ (bOr wx (bShl 1 q)) < 32 := bOr_lt 5 (by omega) (by omega)
            refine x_put (ci := 3) (C := RX3) (T := TX3) (N := 15) (ty := .int) (v := .int (iI (bOr wx (bShl 1 q)))) B tyX3_ok nmX3 0 rfl rfl in_X3 11 (by decide) mw_327 (fun _ h9 => h9) rfl (by decide +kernel) rfl rfl (Nat.le_of_ble_eq_true rfl) dX3_standAtBottom_185 (fun H locs B => ?_)
            have B := bd_to (ws' := ([(pg, .inr (3, [.ref (A 50 0 0), .ref (Aw 20), .int (iI pR), .int (iI pC), .int (iI pW), .int (iI pL), .int (iI pH), .int (iI pN), .int (iI pQ), .int (iI pT), .int (iI bs), .int (iI (bOr wx (bShl 1 q))), .int (iI pY), .int (iI pM), .int (iI us)]))] ++ tl)) rfl B
            refine lv_iload_n hx hb dX3_standAtBottom_188 rfl (lv_at hl 4 rfl) ?_
            refine lv_iload hx hb dX3_standAtBottom_189 (lv_at hl 1 rfl) ?_
            refine y_or hx hb (a := bk) (b := (bShl 1 (T 13 (M 16 q) 0 0))) (by omega) (by omega) dX3_standAtBottom_191 ?_
            have z_29 : 0 ≤ (bOr bk (bShl 1 (T 13 (M 16 q) 0 0))) ∧ (bOr bk (bShl 1 (T 13 (M 16 q) 0 0))) < 4 := bOr_lt 2 (by omega) (by omega)
            refine lv_istore_n (lv' := [(1, .int (iI (bOr bk (bShl 1 (T 13 (M 16 q) 0 0))))), (5, .int (iI (M 14 (M 16 q)))), (4, .int (iI (bShl 1 (T 13 (M 16 q) 0 0)))), (3, .int (iI (M 16 q))), (2, .int (iI q)), (0, .ref pg)]) hx hb dX3_standAtBottom_192 rfl hl (by decide) rfl (fun ls hl => ?_)
            refine lv_iinc (v := iI (q + 1)) (lv' := [(2, .int (iI (q + 1))), (1, .int (iI (bOr bk (bShl 1 (T 13 (M 16 q) 0 0))))), (5, .int (iI (M 14 (M 16 q)))), (4, .int (iI (bShl 1 (T 13 (M 16 q) 0 0)))), (3, .int (iI (M 16 q))), (0, .ref pg)]) hx hb dX3_standAtBottom_193 hl (k := 4) rfl (iI_add _ _) (by decide) rfl (fun ls hl => ?_)
            refine lv_goto (tgt := 24) hx hb dX3_standAtBottom_196 (by decide) ?_
            exact ih_2 ((q + 1), (bOr bk (bShl 1 (T 13 (M 16 q) 0 0))), bs, (bOr wx (bShl 1 q)), us) ⟨(show 0 ≤ (q + 1) ∧ (q + 1) ≤ M 17 0 ∧ 0 ≤ (bOr bk (bShl 1 (T 13 (M 16 q) 0 0))) ∧ (bOr bk (bShl 1 (T 13 (M 16 q) 0 0))) < 4 ∧ 0 ≤ bs ∧ bs < 32 ∧ 0 ≤ (bOr wx (bShl 1 q)) ∧ (bOr wx (bShl 1 q)) < 32 ∧ pU ≤ us ∧ us ≤ pU + 40 * (q + 1) from (by omega)), (show ((bOr bk (bShl 1 (T 13 (M 16 q) 0 0))), bs, (bOr wx (bShl 1 q)), us) = btS T M pR pC (bDif pW pT) pU (Int.toNat (q + 1)) from (by rw [btS_s (by omega) hts]; first | (rw [if_pos (by omega)]; done) | (rw [if_neg (by omega), if_neg (by omega)]; done) | (rw [if_neg (by omega), if_pos (by omega), if_pos (by omega)]; done) | (rw [if_neg (by omega), if_pos (by omega), if_neg (by omega)]; done)))⟩ (by first | omega | (dsimp only; omega)) _ _ _ (lv_sub hl [0, 1, 5] rfl) (bd_to rfl B)
          · have zc_26 : (bAnd bk (bShl 1 (T 13 (M 16 q) 0 0))) = 0 := jeq (a := (bAnd bk (bShl 1 (T 13 (M 16 q) 0 0)))) (b := 0) (by omega) (by omega) c_26
            refine lv_aload_n hx hb dX3_standAtBottom_119 rfl (lv_at hl 5 rfl) ?_
            refine x_get (ci := 3) (C := RX3) (T := TX3) (N := 15) (v := .int (iI us)) B 0 rfl rfl in_X3 14 (by decide) mw_332 (fun _ h9 => h9) rfl dX3_standAtBottom_120 ?_
            refine lv_aload_n hx hb dX3_standAtBottom_123 rfl (lv_at hl 5 rfl) ?_
            refine x_get (ci := 3) (C := RX3) (T := TX3) (N := 15) (v := .ref (A 50 0 0)) B 0 rfl rfl in_X3 0 (by decide) mw_313 (fun _ h9 => h9) rfl dX3_standAtBottom_124 ?_
            obtain ⟨k_30, hk_30⟩ := pk_at (hs := [(pg, .inr (3, [.ref (A 50 0 0), .ref (Aw 20), .int (iI pR), .int (iI pC), .int (iI pW), .int (iI pL), .int (iI pH), .int (iI pN), .int (iI pQ), .int (iI pT), .int (iI bs), .int (iI wx), .int (iI pY), .int (iI pM), .int (iI us)]))]) hT.1.1
            refine x_get (ci := 9) (C := RX9) (T := TX9) (N := 8) (v := .ref (A 54 0 0)) B k_30 hk_30 rfl in_X9 3 (by decide) mw_86 (fun _ h9 => h9) rfl dX3_standAtBottom_127 ?_
            refine lv_iload_n hx hb dX3_standAtBottom_130 rfl (lv_at hl 2 rfl) ?_
            obtain ⟨k_31, hk_31⟩ := pk_at (hs := [(pg, .inr (3, [.ref (A 50 0 0), .ref (Aw 20), .int (iI pR), .int (iI pC), .int (iI pW), .int (iI pL), .int (iI pH), .int (iI pN), .int (iI pQ), .int (iI pT), .int (iI bs), .int (iI wx), .int (iI pY), .int (iI pM), .int (iI us)]))]) hT.1.2.2.1
            refine x_iald' (f := (fun j9 : Int => T 14 j9 0 0)) (z := (M 16 q)) B k_31 hk_31 (by omega) dX3_standAtBottom_131 ?_
            have z_32 : 0 ≤ (T 14 (M 16 q) 0 0) ∧ (T 14 (M 16 q) 0 0) ≤ 40 := (fun j => TK_fh hK j) (M 16 q)
            refine y_add hx hb dX3_standAtBottom_132 ?_
            refine lv_aload_n hx hb dX3_standAtBottom_133 rfl (lv_at hl 5 rfl) ?_
            refine x_get (ci := 3) (C := RX3) (T := TX3) (N := 15) (v := .ref (A 50 0 0)) B 0 rfl rfl in_X3 0 (by decide) mw_313 (fun _ h9 => h9) rfl dX3_standAtBottom_134 ?_
            obtain ⟨k_33, hk_33⟩ := pk_at (hs := [(pg, .inr (3, [.ref (A 50 0 0), .ref (Aw 20), .int (iI pR), .int (iI pC), .int (iI pW), .int (iI pL), .int (iI pH), .int (iI pN), .int (iI pQ), .int (iI pT), .int (iI bs), .int (iI wx), .int (iI pY), .int (iI pM), .int (iI us)]))]) hT.1.1
            refine x_get (ci := 9) (C := RX9) (T := TX9) (N := 8) (v := .int (iI (T 17 0 0 0))) B k_33 hk_33 rfl in_X9 7 (by decide) mw_99 (fun _ h9 => h9) rfl dX3_standAtBottom_137 ?_
            have z_34 : 6 ≤ T 17 0 0 0 ∧ T 17 0 0 0 ≤ 40 := TK_hei hK
            refine lv_icmp_gt (tgt := 176) hx hb dX3_standAtBottom_140 (by decide) (fun c_35 => ?_) (fun c_35 => ?_)
            · have zc_35 : (T 17 0 0 0) < (us + (T 14 (M 16 q) 0 0)) := jlt (a := (T 17 0 0 0)) (b := (us + (T 14 (M 16 q) 0 0))) (by omega) (by omega) c_35
              refine lv_aload_n hx hb dX3_standAtBottom_176 rfl (lv_at hl 5 rfl) ?_
              refine lv_dup hx hb dX3_standAtBottom_177 rfl ?_
              refine x_get (ci := 3) (C := RX3) (T := TX3) (N := 15) (v := .int (iI wx)) B 0 rfl rfl in_X3 11 (by decide) mw_327 (fun _ h9 => h9) rfl dX3_standAtBottom_178 ?_
              refine lv_iconst (v := iI 1) hx hb dX3_standAtBottom_181 (by decide) ?_
              refine lv_iload_n hx hb dX3_standAtBottom_182 rfl (lv_at hl 3 rfl) ?_
              have z_36 : 0 < (bShl 1 q) ∧ (bShl 1 q) < 32 := bShl_k5 (by omega)
              refine y_shl hx hb (a := 1) (b := q) (by omega) (by omega) (by omega) dX3_standAtBottom_183 ?_
              refine y_or hx hb (a := wx) (b := (bShl 1 q)) (by omega) (by omega) dX3_standAtBottom_184 ?_
              have z_37 : 0 ≤ (bOr wx (bShl 1 q)) ∧ (bOr wx (bShl 1 q)) < 32 := bOr_lt 5 (by omega) (by omega)
              refine x_put (ci := 3) (C := RX3) (T := TX3) (N := 15) (ty := .int) (v := .int (iI (bOr wx (bShl 1 q)))) B tyX3_ok nmX3 0 rfl rfl in_X3 11 (by decide) mw_327 (fun _ h9 => h9) rfl (by decide +kernel) rfl rfl (Nat.le_of_ble_eq_true rfl) dX3_standAtBottom_185 (fun H locs B => ?_)
              have B := bd_to (ws' := ([(pg, .inr (3, [.ref (A 50 0 0), .ref (Aw 20), .int (iI pR), .int (iI pC), .int (iI pW), .int (iI pL), .int (iI pH), .int (iI pN), .int (iI pQ), .int (iI pT), .int (iI bs), .int (iI (bOr wx (bShl 1 q))), .int (iI pY), .int (iI pM), .int (iI us)]))] ++ tl)) rfl B
              refine lv_iload_n hx hb dX3_standAtBottom_188 rfl (lv_at hl 4 rfl) ?_
              refine lv_iload hx hb dX3_standAtBottom_189 (lv_at hl 1 rfl) ?_
              refine y_or hx hb (a := bk) (b := (bShl 1 (T 13 (M 16 q) 0 0))) (by omega) (by omega) dX3_standAtBottom_191 ?_
              have z_38 : 0 ≤ (bOr bk (bShl 1 (T 13 (M 16 q) 0 0))) ∧ (bOr bk (bShl 1 (T 13 (M 16 q) 0 0))) < 4 := bOr_lt 2 (by omega) (by omega)
              refine lv_istore_n (lv' := [(1, .int (iI (bOr bk (bShl 1 (T 13 (M 16 q) 0 0))))), (5, .int (iI (M 14 (M 16 q)))), (4, .int (iI (bShl 1 (T 13 (M 16 q) 0 0)))), (3, .int (iI (M 16 q))), (2, .int (iI q)), (0, .ref pg)]) hx hb dX3_standAtBottom_192 rfl hl (by decide) rfl (fun ls hl => ?_)
              refine lv_iinc (v := iI (q + 1)) (lv' := [(2, .int (iI (q + 1))), (1, .int (iI (bOr bk (bShl 1 (T 13 (M 16 q) 0 0))))), (5, .int (iI (M 14 (M 16 q)))), (4, .int (iI (bShl 1 (T 13 (M 16 q) 0 0)))), (3, .int (iI (M 16 q))), (0, .ref pg)]) hx hb dX3_standAtBottom_193 hl (k := 4) rfl (iI_add _ _) (by decide) rfl (fun ls hl => ?_)
              refine lv_goto (tgt := 24) hx hb dX3_standAtBottom_196 (by decide) ?_
              exact ih_2 ((q + 1), (bOr bk (bShl 1 (T 13 (M 16 q) 0 0))), bs, (bOr wx (bShl 1 q)), us) ⟨(show 0 ≤ (q + 1) ∧ (q + 1) ≤ M 17 0 ∧ 0 ≤ (bOr bk (bShl 1 (T 13 (M 16 q) 0 0))) ∧ (bOr bk (bShl 1 (T 13 (M 16 q) 0 0))) < 4 ∧ 0 ≤ bs ∧ bs < 32 ∧ 0 ≤ (bOr wx (bShl 1 q)) ∧ (bOr wx (bShl 1 q)) < 32 ∧ pU ≤ us ∧ us ≤ pU + 40 * (q + 1) from (by omega)), (show ((bOr bk (bShl 1 (T 13 (M 16 q) 0 0))), bs, (bOr wx (bShl 1 q)), us) = btS T M pR pC (bDif pW pT) pU (Int.toNat (q + 1)) from (by rw [btS_s (by omega) hts]; first | (rw [if_pos (by omega)]; done) | (rw [if_neg (by omega), if_neg (by omega)]; done) | (rw [if_neg (by omega), if_pos (by omega), if_pos (by omega)]; done) | (rw [if_neg (by omega), if_pos (by omega), if_neg (by omega)]; done)))⟩ (by first | omega | (dsimp only; omega)) _ _ _ (lv_sub hl [0, 1, 5] rfl) (bd_to rfl B)
            · have zc_35 : (us + (T 14 (M 16 q) 0 0)) ≤ (T 17 0 0 0) := jnlt (a := (T 17 0 0 0)) (b := (us + (T 14 (M 16 q) 0 0))) (by omega) (by omega) c_35
              refine lv_aload_n hx hb dX3_standAtBottom_143 rfl (lv_at hl 5 rfl) ?_
              refine lv_dup hx hb dX3_standAtBottom_144 rfl ?_
              refine x_get (ci := 3) (C := RX3) (T := TX3) (N := 15) (v := .int (iI bs)) B 0 rfl rfl in_X3 10 (by decide) mw_324 (fun _ h9 => h9) rfl dX3_standAtBottom_145 ?_
              refine lv_iconst (v := iI 1) hx hb dX3_standAtBottom_148 (by decide) ?_
              refine lv_iload_n hx hb dX3_standAtBottom_149 rfl (lv_at hl 3 rfl) ?_
              have z_39 : 0 < (bShl 1 q) ∧ (bShl 1 q) < 32 := bShl_k5 (by omega)
              refine y_shl hx hb (a := 1) (b := q) (by omega) (by omega) (by omega) dX3_standAtBottom_150 ?_
              refine y_or hx hb (a := bs) (b := (bShl 1 q)) (by omega) (by omega) dX3_standAtBottom_151 ?_
              have z_40 : 0 ≤ (bOr bs (bShl 1 q)) ∧ (bOr bs (bShl 1 q)) < 32 := bOr_lt 5 (by omega) (by omega)
              refine x_put (ci := 3) (C := RX3) (T := TX3) (N := 15) (ty := .int) (v := .int (iI (bOr bs (bShl 1 q)))) B tyX3_ok nmX3 0 rfl rfl in_X3 10 (by decide) mw_324 (fun _ h9 => h9) rfl (by decide +kernel) rfl rfl (Nat.le_of_ble_eq_true rfl) dX3_standAtBottom_152 (fun H locs B => ?_)
              have B := bd_to (ws' := ([(pg, .inr (3, [.ref (A 50 0 0), .ref (Aw 20), .int (iI pR), .int (iI pC), .int (iI pW), .int (iI pL), .int (iI pH), .int (iI pN), .int (iI pQ), .int (iI pT), .int (iI (bOr bs (bShl 1 q))), .int (iI wx), .int (iI pY), .int (iI pM), .int (iI us)]))] ++ tl)) rfl B
              refine lv_aload_n hx hb dX3_standAtBottom_155 rfl (lv_at hl 5 rfl) ?_
              refine lv_dup hx hb dX3_standAtBottom_156 rfl ?_
              refine x_get (ci := 3) (C := RX3) (T := TX3) (N := 15) (v := .int (iI us)) B 0 rfl rfl in_X3 14 (by decide) mw_332 (fun _ h9 => h9) rfl dX3_standAtBottom_157 ?_
              refine lv_aload_n hx hb dX3_standAtBottom_160 rfl (lv_at hl 5 rfl) ?_
              refine x_get (ci := 3) (C := RX3) (T := TX3) (N := 15) (v := .ref (A 50 0 0)) B 0 rfl rfl in_X3 0 (by decide) mw_313 (fun _ h9 => h9) rfl dX3_standAtBottom_161 ?_
              obtain ⟨k_41, hk_41⟩ := pk_at (hs := [(pg, .inr (3, [.ref (A 50 0 0), .ref (Aw 20), .int (iI pR), .int (iI pC), .int (iI pW), .int (iI pL), .int (iI pH), .int (iI pN), .int (iI pQ), .int (iI pT), .int (iI (bOr bs (bShl 1 q))), .int (iI wx), .int (iI pY), .int (iI pM), .int (iI us)]))]) hT.1.1
              refine x_get (ci := 9) (C := RX9) (T := TX9) (N := 8) (v := .ref (A 54 0 0)) B k_41 hk_41 rfl in_X9 3 (by decide) mw_86 (fun _ h9 => h9) rfl dX3_standAtBottom_164 ?_
              refine lv_iload_n hx hb dX3_standAtBottom_167 rfl (lv_at hl 2 rfl) ?_
              obtain ⟨k_42, hk_42⟩ := pk_at (hs := [(pg, .inr (3, [.ref (A 50 0 0), .ref (Aw 20), .int (iI pR), .int (iI pC), .int (iI pW), .int (iI pL), .int (iI pH), .int (iI pN), .int (iI pQ), .int (iI pT), .int (iI (bOr bs (bShl 1 q))), .int (iI wx), .int (iI pY), .int (iI pM), .int (iI us)]))]) hT.1.2.2.1
              refine x_iald' (f := (fun j9 : Int => T 14 j9 0 0)) (z := (M 16 q)) B k_42 hk_42 (by omega) dX3_standAtBottom_168 ?_
              have z_43 : 0 ≤ (T 14 (M 16 q) 0 0) ∧ (T 14 (M 16 q) 0 0) ≤ 40 := (fun j => TK_fh hK j) (M 16 q)
              refine y_add hx hb dX3_standAtBottom_169 ?_
              refine x_put (ci := 3) (C := RX3) (T := TX3) (N := 15) (ty := .int) (v := .int (iI (us + (T 14 (M 16 q) 0 0)))) B tyX3_ok nmX3 0 rfl rfl in_X3 14 (by decide) mw_332 (fun _ h9 => h9) rfl (by decide +kernel) rfl rfl (Nat.le_of_ble_eq_true rfl) dX3_standAtBottom_170 (fun H locs B => ?_)
              have B := bd_to (ws' := ([(pg, .inr (3, [.ref (A 50 0 0), .ref (Aw 20), .int (iI pR), .int (iI pC), .int (iI pW), .int (iI pL), .int (iI pH), .int (iI pN), .int (iI pQ), .int (iI pT), .int (iI (bOr bs (bShl 1 q))), .int (iI wx), .int (iI pY), .int (iI pM), .int (iI (us + (T 14 (M 16 q) 0 0)))]))] ++ tl)) rfl B
              refine lv_goto (tgt := 193) hx hb dX3_standAtBottom_173 (by decide) ?_
              refine lv_iinc (v := iI (q + 1)) (lv' := [(2, .int (iI (q + 1))), (5, .int (iI (M 14 (M 16 q)))), (4, .int (iI (bShl 1 (T 13 (M 16 q) 0 0)))), (3, .int (iI (M 16 q))), (1, .int (iI bk)), (0, .ref pg)]) hx hb dX3_standAtBottom_193 hl (k := 3) rfl (iI_add _ _) (by decide) rfl (fun ls hl => ?_)
              refine lv_goto (tgt := 24) hx hb dX3_standAtBottom_196 (by decide) ?_
              exact ih_2 ((q + 1), bk, (bOr bs (bShl 1 q)), wx, (us + (T 14 (M 16 q) 0 0))) ⟨(show 0 ≤ (q + 1) ∧ (q + 1) ≤ M 17 0 ∧ 0 ≤ bk ∧ bk < 4 ∧ 0 ≤ (bOr bs (bShl 1 q)) ∧ (bOr bs (bShl 1 q)) < 32 ∧ 0 ≤ wx ∧ wx < 32 ∧ pU ≤ (us + (T 14 (M 16 q) 0 0)) ∧ (us + (T 14 (M 16 q) 0 0)) ≤ pU + 40 * (q + 1) from (by omega)), (show (bk, (bOr bs (bShl 1 q)), wx, (us + (T 14 (M 16 q) 0 0))) = btS T M pR pC (bDif pW pT) pU (Int.toNat (q + 1)) from (by rw [btS_s (by omega) hts]; first | (rw [if_pos (by omega)]; done) | (rw [if_neg (by omega), if_neg (by omega)]; done) | (rw [if_neg (by omega), if_pos (by omega), if_pos (by omega)]; done) | (rw [if_neg (by omega), if_pos (by omega), if_neg (by omega)]; done)))⟩ (by first | omega | (dsimp only; omega)) _ _ _ (lv_sub hl [0, 4, 5] rfl) (bd_to rfl B)
    · have zc_21 : (bAnd (bShr wx q) 1) = 1 := jeq (a := (bAnd (bShr wx q) 1)) (b := 1) (by omega) (by omega) c_21
      refine lv_iload_n hx hb dX3_standAtBottom_81 rfl (lv_at hl 4 rfl) ?_
      refine lv_iload hx hb dX3_standAtBottom_82 (lv_at hl 1 rfl) ?_
      refine y_or hx hb (a := bk) (b := (bShl 1 (T 13 (M 16 q) 0 0))) (by omega) (by omega) dX3_standAtBottom_84 ?_
      have z_44 : 0 ≤ (bOr bk (bShl 1 (T 13 (M 16 q) 0 0))) ∧ (bOr bk (bShl 1 (T 13 (M 16 q) 0 0))) < 4 := bOr_lt 2 (by omega) (by omega)
      refine lv_istore_n (lv' := [(1, .int (iI (bOr bk (bShl 1 (T 13 (M 16 q) 0 0))))), (5, .int (iI (M 14 (M 16 q)))), (4, .int (iI (bShl 1 (T 13 (M 16 q) 0 0)))), (3, .int (iI (M 16 q))), (2, .int (iI q)), (0, .ref pg)]) hx hb dX3_standAtBottom_85 rfl hl (by decide) rfl (fun ls hl => ?_)
      refine lv_goto (tgt := 193) hx hb dX3_standAtBottom_86 (by decide) ?_
      refine lv_iinc (v := iI (q + 1)) (lv' := [(2, .int (iI (q + 1))), (1, .int (iI (bOr bk (bShl 1 (T 13 (M 16 q) 0 0))))), (5, .int (iI (M 14 (M 16 q)))), (4, .int (iI (bShl 1 (T 13 (M 16 q) 0 0)))), (3, .int (iI (M 16 q))), (0, .ref pg)]) hx hb dX3_standAtBottom_193 hl (k := 4) rfl (iI_add _ _) (by decide) rfl (fun ls hl => ?_)
      refine lv_goto (tgt := 24) hx hb dX3_standAtBottom_196 (by decide) ?_
      exact ih_2 ((q + 1), (bOr bk (bShl 1 (T 13 (M 16 q) 0 0))), bs, wx, us) ⟨(show 0 ≤ (q + 1) ∧ (q + 1) ≤ M 17 0 ∧ 0 ≤ (bOr bk (bShl 1 (T 13 (M 16 q) 0 0))) ∧ (bOr bk (bShl 1 (T 13 (M 16 q) 0 0))) < 4 ∧ 0 ≤ bs ∧ bs < 32 ∧ 0 ≤ wx ∧ wx < 32 ∧ pU ≤ us ∧ us ≤ pU + 40 * (q + 1) from (by omega)), (show ((bOr bk (bShl 1 (T 13 (M 16 q) 0 0))), bs, wx, us) = btS T M pR pC (bDif pW pT) pU (Int.toNat (q + 1)) from (by rw [btS_s (by omega) hts]; first | (rw [if_pos (by omega)]; done) | (rw [if_neg (by omega), if_neg (by omega)]; done) | (rw [if_neg (by omega), if_pos (by omega), if_pos (by omega)]; done) | (rw [if_neg (by omega), if_pos (by omega), if_neg (by omega)]; done)))⟩ (by first | omega | (dsimp only; omega)) _ _ _ (lv_sub hl [0, 1, 5] rfl) (bd_to rfl B)

theorem mw_329 : (Jvm.Cond.fieldLink "Galleyforge$Page" (87 : Nat) "Galleyforge$Page" "leftNext" "I") ∈ gt := gt_at 399 (by decide +kernel) (by decide +kernel)
theorem mw_330 : (Jvm.Cond.fieldLink "Galleyforge$Page" (85 : Nat) "Galleyforge$Page" "noteLines" "I") ∈ gt := gt_at 400 (by decide +kernel) (by decide +kernel)
theorem mw_1575 : (Jvm.Cond.methodLink "Galleyforge$Page" (79 : Nat) ({ cls := "java/lang/Math", name := "min", desc := "(II)I" } : Jvm.MethodName)) ∈ gt := gt_at 1645 (by decide +kernel) (by decide +kernel)
theorem mw_1576 : (Jvm.Cond.methodLink "Galleyforge$Page" (93 : Nat) ({ cls := "Galleyforge$Page", name := "standAtBottom", desc := "()V" } : Jvm.MethodName)) ∈ gt := gt_at 1646 (by decide +kernel) (by decide +kernel)
theorem mw_1578 : (Jvm.Cond.instanceMethod ({ cls := "Galleyforge$Page", name := "standAtBottom", desc := "()V" } : Jvm.MethodName)) ∈ gt := gt_at 1648 (by decide +kernel) (by decide +kernel)
theorem mw_1579 : (Jvm.Cond.code ({ cls := "Galleyforge$Page", name := "standAtBottom", desc := "()V" } : Jvm.MethodName) prog_5_method_8_code (6 : Nat) (Option.none : Option Jvm.ClassFile.FieldType)) ∈ gt := gt_at 1649 (by decide +kernel) (by decide +kernel)
theorem ms_46 : Cond.selects "Galleyforge$Page" (⟨"Galleyforge$Page", "standAtBottom", "()V"⟩ : MethodName) (⟨"Galleyforge$Page", "standAtBottom", "()V"⟩ : MethodName) ∈ gt := gt_at 46 (by decide +kernel) (by decide +kernel)
theorem mV_X3_standAtBottom : mV yX3_standAtBottom cX3_standAtBottom 6 none 0 := ⟨⟨mw_1579, mw_11, by decide, by decide, by decide +kernel⟩, mw_1578, ms_46⟩
theorem dX3_close_0 : decode cX3_close 0 = .ok (.aload_n 0, 1) := by decide +kernel
theorem dX3_close_1 : decode cX3_close 1 = .ok (.getfield 9, 3) := by decide +kernel
theorem dX3_close_4 : decode cX3_close 4 = .ok (.getfield 64, 3) := by decide +kernel
theorem dX3_close_7 : decode cX3_close 7 = .ok (.aload_n 0, 1) := by decide +kernel
theorem dX3_close_8 : decode cX3_close 8 = .ok (.getfield 32, 3) := by decide +kernel
theorem dX3_close_11 : decode cX3_close 11 = .ok (.isub, 1) := by decide +kernel
theorem dX3_close_12 : decode cX3_close 12 = .ok (.istore_n 1, 1) := by decide +kernel
theorem dX3_close_13 : decode cX3_close 13 = .ok (.aload_n 0, 1) := by decide +kernel
theorem dX3_close_14 : decode cX3_close 14 = .ok (.iload_n 1, 1) := by decide +kernel
theorem dX3_close_15 : decode cX3_close 15 = .ok (.iconst 2, 1) := by decide +kernel
theorem dX3_close_16 : decode cX3_close 16 = .ok (.if_icmp .ge 7, 3) := by decide +kernel
theorem dX3_close_19 : decode cX3_close 19 = .ok (.iconst 0, 1) := by decide +kernel
theorem dX3_close_20 : decode cX3_close 20 = .ok (.goto 18, 3) := by decide +kernel
theorem dX3_close_23 : decode cX3_close 23 = .ok (.aload_n 0, 1) := by decide +kernel
theorem dX3_close_24 : decode cX3_close 24 = .ok (.getfield 29, 3) := by decide +kernel
theorem dX3_close_27 : decode cX3_close 27 = .ok (.aload_n 0, 1) := by decide +kernel
theorem dX3_close_28 : decode cX3_close 28 = .ok (.getfield 35, 3) := by decide +kernel
theorem dX3_close_31 : decode cX3_close 31 = .ok (.iadd, 1) := by decide +kernel
theorem dX3_close_32 : decode cX3_close 32 = .ok (.iload_n 1, 1) := by decide +kernel
theorem dX3_close_33 : decode cX3_close 33 = .ok (.iconst 1, 1) := by decide +kernel
theorem dX3_close_34 : decode cX3_close 34 = .ok (.isub, 1) := by decide +kernel
theorem dX3_close_35 : decode cX3_close 35 = .ok (.invokestatic 79, 3) := by decide +kernel
theorem dX3_close_38 : decode cX3_close 38 = .ok (.putfield 85, 3) := by decide +kernel
theorem dX3_close_41 : decode cX3_close 41 = .ok (.aload_n 0, 1) := by decide +kernel
theorem dX3_close_42 : decode cX3_close 42 = .ok (.aload_n 0, 1) := by decide +kernel
theorem dX3_close_43 : decode cX3_close 43 = .ok (.getfield 29, 3) := by decide +kernel
theorem dX3_close_46 : decode cX3_close 46 = .ok (.aload_n 0, 1) := by decide +kernel
theorem dX3_close_47 : decode cX3_close 47 = .ok (.getfield 35, 3) := by decide +kernel
theorem dX3_close_50 : decode cX3_close 50 = .ok (.iadd, 1) := by decide +kernel
theorem dX3_close_51 : decode cX3_close 51 = .ok (.aload_n 0, 1) := by decide +kernel
theorem dX3_close_52 : decode cX3_close 52 = .ok (.getfield 85, 3) := by decide +kernel
theorem dX3_close_55 : decode cX3_close 55 = .ok (.isub, 1) := by decide +kernel
theorem dX3_close_56 : decode cX3_close 56 = .ok (.putfield 87, 3) := by decide +kernel
theorem dX3_close_59 : decode cX3_close 59 = .ok (.aload_n 0, 1) := by decide +kernel
theorem dX3_close_60 : decode cX3_close 60 = .ok (.aload_n 0, 1) := by decide +kernel
theorem dX3_close_61 : decode cX3_close 61 = .ok (.getfield 32, 3) := by decide +kernel
theorem dX3_close_64 : decode cX3_close 64 = .ok (.aload_n 0, 1) := by decide +kernel
theorem dX3_close_65 : decode cX3_close 65 = .ok (.getfield 85, 3) := by decide +kernel
theorem dX3_close_68 : decode cX3_close 68 = .ok (.ifCond .le 12, 3) := by decide +kernel
theorem dX3_close_71 : decode cX3_close 71 = .ok (.aload_n 0, 1) := by decide +kernel
theorem dX3_close_72 : decode cX3_close 72 = .ok (.getfield 85, 3) := by decide +kernel
theorem dX3_close_75 : decode cX3_close 75 = .ok (.iconst 1, 1) := by decide +kernel
theorem dX3_close_76 : decode cX3_close 76 = .ok (.iadd, 1) := by decide +kernel
theorem dX3_close_77 : decode cX3_close 77 = .ok (.goto 4, 3) := by decide +kernel
theorem dX3_close_80 : decode cX3_close 80 = .ok (.iconst 0, 1) := by decide +kernel
theorem dX3_close_81 : decode cX3_close 81 = .ok (.iadd, 1) := by decide +kernel
theorem dX3_close_82 : decode cX3_close 82 = .ok (.putfield 90, 3) := by decide +kernel
theorem dX3_close_85 : decode cX3_close 85 = .ok (.aload_n 0, 1) := by decide +kernel
theorem dX3_close_86 : decode cX3_close 86 = .ok (.invokevirtual 93, 3) := by decide +kernel
theorem dX3_close_89 : decode cX3_close 89 = .ok (.return_, 1) := by decide +kernel
set_option maxHeartbeats 4000000 in
set_option maxRecDepth 100000 in
theorem k_close (l : Launch) (dC : Nat → ClassId) (dI : Nat → Nat → Nat) (k : Nat → ClassId) (pg : Nat) (pR : Int) (pC : Int) (pW : Int) (pL : Int) (pH : Int) (pN : Int) (pQ : Int) (pT : Int) (pB : Int) (pX : Int) (pY : Int) (pM : Int) (pU : Int) (T : Nat → Int → Int → Int → Int) (A : Nat → Int → Int → Nat) (X : Nat → Int → Int → Int) (tl : va_W) (M : Nat → Int → Int) (V : Nat → Int → Int) (Aw : Nat → Nat) (hT : TI dI k T A X tl) (hK : TK T) (hR : RI k (T 0 0 0 0) M V Aw tl) (hM : MK M) (hMT : ∀ j, 0 ≤ j → j < M 0 0 → M 2 j < T 0 0 0 0) (h1 : 0 ≤ pH ∧ pH < 1000000) (h2 : 0 ≤ pC ∧ pC ≤ 768 ∧ 0 ≤ pR ∧ pR + pC ≤ 768) (h3 : 0 ≤ pN ∧ pN < 1000000 ∧ 0 ≤ pL ∧ pL < 1000000 ∧ 0 ≤ pQ ∧ pQ ≤ 5) (h4 : 0 ≤ pW ∧ pW < 32 ∧ 0 ≤ pT ∧ pT < 32) : Kn l dC dI k yX3_close (.code yX3_close cX3_close 2 none) ({ frames := 1, cells := 0, slots := 0, locals := 25 } : Room) [.ref pg] ([(pg, .inr (3, [.ref (A 50 0 0), .ref (Aw 20), .int (iI pR), .int (iI pC), .int (iI pW), .int (iI pL), .int (iI pH), .int (iI pN), .int (iI pQ), .int (iI pT), .int (iI pB), .int (iI pX), .int (iI pY), .int (iI pM), .int (iI pU)]))] ++ tl) (fun r w gc gs => ((0 ≤ (btZ T M pR pC (bDif pW pT) (clU T pH pL pN)).2.1 ∧ (btZ T M pR pC (bDif pW pT) (clU T pH pL pN)).2.1 < 32 ∧ 0 ≤ (btZ T M pR pC (bDif pW pT) (clU T pH pL pN)).2.2.1 ∧ (btZ T M pR pC (bDif pW pT) (clU T pH pL pN)).2.2.1 < 32 ∧ (clU T pH pL pN) ≤ (btZ T M pR pC (bDif pW pT) (clU T pH pL pN)).2.2.2 ∧ (btZ T M pR pC (bDif pW pT) (clU T pH pL pN)).2.2.2 ≤ (clU T pH pL pN) + 200) ∧ (0 ≤ (clN T pH pL pN) ∧ (clN T pH pL pN) ≤ pL + pN ∧ (clN T pH pL pN) ≤ 40) ∧ (pH ≤ (clU T pH pL pN) ∧ (clU T pH pL pN) ≤ pH + 41) ∧ r = none ∧ w = ([(pg, .inr (3, [.ref (A 50 0 0), .ref (Aw 20), .int (iI pR), .int (iI pC), .int (iI pW), .int (iI pL), .int (iI pH), .int (iI pN), .int (iI pQ), .int (iI pT), .int (iI ((btZ T M pR pC (bDif pW pT) (clU T pH pL pN)).2.1)), .int (iI ((btZ T M pR pC (bDif pW pT) (clU T pH pL pN)).2.2.1)), .int (iI ((pL + pN) - (clN T pH pL pN))), .int (iI (clN T pH pL pN)), .int (iI ((btZ T M pR pC (bDif pW pT) (clU T pH pL pN)).2.2.2))]))] ++ tl) ∧ gc = 0 ∧ gs = 0)) := by
  refine kn_of (by decide) (Nat.le_of_ble_eq_true rfl) ?_
  intro p e s m args below meth c H locs B hr hnm ls hl
  have hx := B.1.1
  have hb := B.1.2.1
  have hl : lv_has ls 2 [(0, .ref pg)] := hl
  have hn0 := MK_cnt hM
  have hf0 := MK_17 hM
  refine lv_aload_n hx hb dX3_close_0 rfl (lv_at hl 0 rfl) ?_
  refine x_get (ci := 3) (C := RX3) (T := TX3) (N := 15) (v := .ref (A 50 0 0)) B 0 rfl rfl in_X3 0 (by decide) mw_313 (fun _ h9 => h9) rfl dX3_close_1 ?_
  obtain ⟨k_1, hk_1⟩ := pk_at (hs := [(pg, .inr (3, [.ref (A 50 0 0), .ref (Aw 20), .int (iI pR), .int (iI pC), .int (iI pW), .int (iI pL), .int (iI pH), .int (iI pN), .int (iI pQ), .int (iI pT), .int (iI pB), .int (iI pX), .int (iI pY), .int (iI pM), .int (iI pU)]))]) hT.1.1
  refine x_get (ci := 9) (C := RX9) (T := TX9) (N := 8) (v := .int (iI (T 17 0 0 0))) B k_1 hk_1 rfl in_X9 7 (by decide) mw_99 (fun _ h9 => h9) rfl dX3_close_4 ?_
  have z_2 : 6 ≤ T 17 0 0 0 ∧ T 17 0 0 0 ≤ 40 := TK_hei hK
  refine lv_aload_n hx hb dX3_close_7 rfl (lv_at hl 0 rfl) ?_
  refine x_get (ci := 3) (C := RX3) (T := TX3) (N := 15) (v := .int (iI pH)) B 0 rfl rfl in_X3 6 (by decide) mw_319 (fun _ h9 => h9) rfl dX3_close_8 ?_
  refine y_sub hx hb dX3_close_11 ?_
  refine lv_istore_n (lv' := [(1, .int (iI ((T 17 0 0 0) - pH))), (0, .ref pg)]) hx hb dX3_close_12 rfl hl (by decide) rfl (fun ls hl => ?_)
  refine lv_aload_n hx hb dX3_close_13 rfl (lv_at hl 1 rfl) ?_
  refine k_join (σ := Int) B 38 (fun g9 : Int => (g9 = clN T pH pL pN) ∧ (0 ≤ g9 ∧ g9 ≤ pL + pN ∧ g9 ≤ 40)) (fun g9 : Int => [(1, .int (iI ((T 17 0 0 0) - pH))), (0, .ref pg)]) (fun g9 : Int => ([(pg, .inr (3, [.ref (A 50 0 0), .ref (Aw 20), .int (iI pR), .int (iI pC), .int (iI pW), .int (iI pL), .int (iI pH), .int (iI pN), .int (iI pQ), .int (iI pT), .int (iI pB), .int (iI pX), .int (iI pY), .int (iI pM), .int (iI pU)]))] ++ tl)) (fun g9 : Int => [.int (iI g9), .ref pg]) ?_ (fun J_3 => ?_)
  · clear hl B
    rintro nl ⟨hnl, hnb⟩ ls H locs hl B
    have hl : lv_has ls 2 [(1, .int (iI ((T 17 0 0 0) - pH))), (0, .ref pg)] := hl
    have B := bd_to (ws' := ([(pg, .inr (3, [.ref (A 50 0 0), .ref (Aw 20), .int (iI pR), .int (iI pC), .int (iI pW), .int (iI pL), .int (iI pH), .int (iI pN), .int (iI pQ), .int (iI pT), .int (iI pB), .int (iI pX), .int (iI pY), .int (iI pM), .int (iI pU)]))] ++ tl)) rfl B
    refine x_put (ci := 3) (C := RX3) (T := TX3) (N := 15) (ty := .int) (v := .int (iI nl)) B tyX3_ok nmX3 0 rfl rfl in_X3 13 (by decide) mw_330 (fun _ h9 => h9) rfl (by decide +kernel) rfl rfl (Nat.le_of_ble_eq_true rfl) dX3_close_38 (fun H locs B => ?_)
    have B := bd_to (ws' := ([(pg, .inr (3, [.ref (A 50 0 0), .ref (Aw 20), .int (iI pR), .int (iI pC), .int (iI pW), .int (iI pL), .int (iI pH), .int (iI pN), .int (iI pQ), .int (iI pT), .int (iI pB), .int (iI pX), .int (iI pY), .int (iI nl), .int (iI pU)]))] ++ tl)) rfl B
    refine lv_aload_n hx hb dX3_close_41 rfl (lv_at hl 1 rfl) ?_
    refine lv_aload_n hx hb dX3_close_42 rfl (lv_at hl 1 rfl) ?_
    refine x_get (ci := 3) (C := RX3) (T := TX3) (N := 15) (v := .int (iI pL)) B 0 rfl rfl in_X3 5 (by decide) mw_318 (fun _ h9 => h9) rfl dX3_close_43 ?_
    refine lv_aload_n hx hb dX3_close_46 rfl (lv_at hl 1 rfl) ?_
    refine x_get (ci := 3) (C := RX3) (T := TX3) (N := 15) (v := .int (iI pN)) B 0 rfl rfl in_X3 7 (by decide) mw_320 (fun _ h9 => h9) rfl dX3_close_47 ?_
    refine y_add hx hb dX3_close_50 ?_
    refine lv_aload_n hx hb dX3_close_51 rfl (lv_at hl 1 rfl) ?_
    refine x_get (ci := 3) (C := RX3) (T := TX3) (N := 15) (v := .int (iI nl)) B 0 rfl rfl in_X3 13 (by decide) mw_330 (fun _ h9 => h9) rfl dX3_close_52 ?_
    refine y_sub hx hb dX3_close_55 ?_
    refine x_put (ci := 3) (C := RX3) (T := TX3) (N := 15) (ty := .int) (v := .int (iI ((pL + pN) - nl))) B tyX3_ok nmX3 0 rfl rfl in_X3 12 (by decide) mw_329 (fun _ h9 => h9) rfl (by decide +kernel) rfl rfl (Nat.le_of_ble_eq_true rfl) dX3_close_56 (fun H locs B => ?_)
    have B := bd_to (ws' := ([(pg, .inr (3, [.ref (A 50 0 0), .ref (Aw 20), .int (iI pR), .int (iI pC), .int (iI pW), .int (iI pL), .int (iI pH), .int (iI pN), .int (iI pQ), .int (iI pT), .int (iI pB), .int (iI pX), .int (iI ((pL + pN) - nl)), .int (iI nl), .int (iI pU)]))] ++ tl)) rfl B
    refine lv_aload_n hx hb dX3_close_59 rfl (lv_at hl 1 rfl) ?_
    refine lv_aload_n hx hb dX3_close_60 rfl (lv_at hl 1 rfl) ?_
    refine x_get (ci := 3) (C := RX3) (T := TX3) (N := 15) (v := .int (iI pH)) B 0 rfl rfl in_X3 6 (by decide) mw_319 (fun _ h9 => h9) rfl dX3_close_61 ?_
    refine k_join (σ := Int) B 81 (fun g9 : Int => (g9 = (if 0 < nl then nl + 1 else 0)) ∧ (0 ≤ g9 ∧ g9 ≤ 41)) (fun g9 : Int => [(1, .int (iI ((T 17 0 0 0) - pH))), (0, .ref pg)]) (fun g9 : Int => ([(pg, .inr (3, [.ref (A 50 0 0), .ref (Aw 20), .int (iI pR), .int (iI pC), .int (iI pW), .int (iI pL), .int (iI pH), .int (iI pN), .int (iI pQ), .int (iI pT), .int (iI pB), .int (iI pX), .int (iI ((pL + pN) - nl)), .int (iI nl), .int (iI pU)]))] ++ tl)) (fun g9 : Int => [.int (iI g9), .int (iI pH), .ref pg]) ?_ (fun J_4 => ?_)
    · clear hl B
      rintro nu ⟨hnu, hub⟩ ls H locs hl B
      have hl : lv_has ls 2 [(1, .int (iI ((T 17 0 0 0) - pH))), (0, .ref pg)] := hl
      have B := bd_to (ws' := ([(pg, .inr (3, [.ref (A 50 0 0), .ref (Aw 20), .int (iI pR), .int (iI pC), .int (iI pW), .int (iI pL), .int (iI pH), .int (iI pN), .int (iI pQ), .int (iI pT), .int (iI pB), .int (iI pX), .int (iI ((pL + pN) - nl)), .int (iI nl), .int (iI pU)]))] ++ tl)) rfl B
      refine y_add hx hb dX3_close_81 ?_
      refine x_put (ci := 3) (C := RX3) (T := TX3) (N := 15) (ty := .int) (v := .int (iI (pH + nu))) B tyX3_ok nmX3 0 rfl rfl in_X3 14 (by decide) mw_332 (fun _ h9 => h9) rfl (by decide +kernel) rfl rfl (Nat.le_of_ble_eq_true rfl) dX3_close_82 (fun H locs B => ?_)
      have B := bd_to (ws' := ([(pg, .inr (3, [.ref (A 50 0 0), .ref (Aw 20), .int (iI pR), .int (iI pC), .int (iI pW), .int (iI pL), .int (iI pH), .int (iI pN), .int (iI pQ), .int (iI pT), .int (iI pB), .int (iI pX), .int (iI ((pL + pN) - nl)), .int (iI nl), .int (iI (pH + nu))]))] ++ tl)) rfl B
      refine lv_aload_n hx hb dX3_close_85 rfl (lv_at hl 1 rfl) ?_
      have B := bd_swap (a := [(pg, .inr (3, [.ref (A 50 0 0), .ref (Aw 20), .int (iI pR), .int (iI pC), .int (iI pW), .int (iI pL), .int (iI pH), .int (iI pN), .int (iI pQ), .int (iI pT), .int (iI pB), .int (iI pX), .int (iI ((pL + pN) - nl)), .int (iI nl), .int (iI (pH + nu))]))]) (b := []) (d := tl) (bd_to rfl B)
      refine k_V (rest := []) (wc := ([(pg, .inr (3, [.ref (A 50 0 0), .ref (Aw 20), .int (iI pR), .int (iI pC), .int (iI pW), .int (iI pL), .int (iI pH), .int (iI pN), .int (iI pQ), .int (iI pT), .int (iI pB), .int (iI pX), .int (iI ((pL + pN) - nl)), .int (iI nl), .int (iI (pH + nu))]))] ++ tl)) (wr := []) (k_standBottom l dC dI k pg pR pC pW pL pH pN pQ pT pB pX ((pL + pN) - nl) nl (pH + nu) T A X tl M V Aw hT hK hR hM hMT (by omega)) B mV_X3_standAtBottom mw_1576 hl (q0 := 0) rfl rfl rfl ⟨Nat.le_of_ble_eq_true rfl, Nat.le_of_ble_eq_true rfl⟩ (Nat.le_of_ble_eq_true rfl) rfl dX3_close_86 ⟨Nat.le_of_ble_eq_true rfl, Nat.le_of_ble_eq_true rfl⟩ (fun r w gc gs H locs hp B => ?_)
      obtain ⟨z_5, rfl, hw9, rfl, rfl⟩ := hp
      rw [hw9] at B; clear hw9
      have B := bd_to (ws' := ([(pg, .inr (3, [.ref (A 50 0 0), .ref (Aw 20), .int (iI pR), .int (iI pC), .int (iI pW), .int (iI pL), .int (iI pH), .int (iI pN), .int (iI pQ), .int (iI pT), .int (iI ((btZ T M pR pC (bDif pW pT) (pH + nu)).2.1)), .int (iI ((btZ T M pR pC (bDif pW pT) (pH + nu)).2.2.1)), .int (iI ((pL + pN) - nl)), .int (iI nl), .int (iI ((btZ T M pR pC (bDif pW pT) (pH + nu)).2.2.2))]))] ++ tl)) rfl B
      have e_6 : ((btZ T M pR pC (bDif pW pT) (clU T pH pL pN)).2.1) = ((btZ T M pR pC (bDif pW pT) (pH + nu)).2.1) := (by rw [show clU T pH pL pN = (pH + nu) by unfold clU; rw [hnu, hnl]])
      have e_7 : ((btZ T M pR pC (bDif pW pT) (clU T pH pL pN)).2.2.1) = ((btZ T M pR pC (bDif pW pT) (pH + nu)).2.2.1) := (by rw [show clU T pH pL pN = (pH + nu) by unfold clU; rw [hnu, hnl]])
      have e_8 : ((pL + pN) - (clN T pH pL pN)) = ((pL + pN) - nl) := (by rw [hnl])
      have e_9 : (clN T pH pL pN) = nl := hnl.symm
      have e_10 : ((btZ T M pR pC (bDif pW pT) (clU T pH pL pN)).2.2.2) = ((btZ T M pR pC (bDif pW pT) (pH + nu)).2.2.2) := (by rw [show clU T pH pL pN = (pH + nu) by unfold clU; rw [hnu, hnl]])
      have B := bd_to (ws' := ([(pg, .inr (3, [.ref (A 50 0 0), .ref (Aw 20), .int (iI pR), .int (iI pC), .int (iI pW), .int (iI pL), .int (iI pH), .int (iI pN), .int (iI pQ), .int (iI pT), .int (iI ((btZ T M pR pC (bDif pW pT) (clU T pH pL pN)).2.1)), .int (iI ((btZ T M pR pC (bDif pW pT) (clU T pH pL pN)).2.2.1)), .int (iI ((pL + pN) - (clN T pH pL pN))), .int (iI (clN T pH pL pN)), .int (iI ((btZ T M pR pC (bDif pW pT) (clU T pH pL pN)).2.2.2))]))] ++ tl)) (by first | rfl | (rw [e_6, e_7, e_8, e_9, e_10]) | (rw [e_10, e_9, e_8, e_7, e_6])) B
      exact k_vret B hr (⟨(by rw [show clU T pH pL pN = (pH + nu) by unfold clU; rw [hnu, hnl]]; exact z_5), (by rw [← hnl]; omega), (by rw [show clU T pH pL pN = (pH + nu) by unfold clU; rw [hnu, hnl]]; omega), rfl, rfl, rfl, rfl⟩) ⟨Nat.le_of_ble_eq_true rfl, Nat.le_of_ble_eq_true rfl⟩ ⟨Nat.le_of_ble_eq_true rfl, Nat.le_of_ble_eq_true rfl⟩ dX3_close_89
    refine lv_aload_n hx hb dX3_close_64 rfl (lv_at hl 1 rfl) ?_
    refine x_get (ci := 3) (C := RX3) (T := TX3) (N := 15) (v := .int (iI nl)) B 0 rfl rfl in_X3 13 (by decide) mw_330 (fun _ h9 => h9) rfl dX3_close_65 ?_
    refine lv_if_le (tgt := 80) hx hb dX3_close_68 (by decide) (fun c_11 => ?_) (fun c_11 => ?_)
    · have zc_11 : nl ≤ 0 := jle (a := nl) (b := 0) (by omega) (by omega) c_11
      refine lv_iconst (v := iI 0) hx hb dX3_close_80 (by decide) ?_
      exact J_4 0 ⟨(show 0 = (if 0 < nl then nl + 1 else 0) from (by split <;> omega)), (show 0 ≤ 0 ∧ 0 ≤ 41 from (by omega))⟩ _ _ _ (lv_sub hl [0, 1] rfl) (bd_to rfl B)
    · have zc_11 : 0 < nl := jnle (a := nl) (b := 0) (by omega) (by omega) c_11
      refine lv_aload_n hx hb dX3_close_71 rfl (lv_at hl 1 rfl) ?_
      refine x_get (ci := 3) (C := RX3) (T := TX3) (N := 15) (v := .int (iI nl)) B 0 rfl rfl in_X3 13 (by decide) mw_330 (fun _ h9 => h9) rfl dX3_close_72 ?_
      refine lv_iconst (v := iI 1) hx hb dX3_close_75 (by decide) ?_
      refine y_add hx hb dX3_close_76 ?_
      refine lv_goto (tgt := 81) hx hb dX3_close_77 (by decide) ?_
      exact J_4 (nl + 1) ⟨(show (nl + 1) = (if 0 < nl then nl + 1 else 0) from (by split <;> omega)), (show 0 ≤ (nl + 1) ∧ (nl + 1) ≤ 41 from (by omega))⟩ _ _ _ (lv_sub hl [0, 1] rfl) (bd_to rfl B)
  refine lv_iload_n hx hb dX3_close_14 rfl (lv_at hl 0 rfl) ?_
  refine lv_iconst (v := iI 2) hx hb dX3_close_15 (by decide) ?_
  refine lv_icmp_ge (tgt := 23) hx hb dX3_close_16 (by decide) (fun c_12 => ?_) (fun c_12 => ?_)
  · have zc_12 : 2 ≤ ((T 17 0 0 0) - pH) := jle (a := 2) (b := ((T 17 0 0 0) - pH)) (by omega) (by omega) c_12
    refine lv_aload_n hx hb dX3_close_23 rfl (lv_at hl 1 rfl) ?_
    refine x_get (ci := 3) (C := RX3) (T := TX3) (N := 15) (v := .int (iI pL)) B 0 rfl rfl in_X3 5 (by decide) mw_318 (fun _ h9 => h9) rfl dX3_close_24 ?_
    refine lv_aload_n hx hb dX3_close_27 rfl (lv_at hl 1 rfl) ?_
    refine x_get (ci := 3) (C := RX3) (T := TX3) (N := 15) (v := .int (iI pN)) B 0 rfl rfl in_X3 7 (by decide) mw_320 (fun _ h9 => h9) rfl dX3_close_28 ?_
    refine y_add hx hb dX3_close_31 ?_
    refine lv_iload_n hx hb dX3_close_32 rfl (lv_at hl 0 rfl) ?_
    refine lv_iconst (v := iI 1) hx hb dX3_close_33 (by decide) ?_
    refine y_sub hx hb dX3_close_34 ?_
    refine y_min (a := (pL + pN)) (b := (((T 17 0 0 0) - pH) - 1)) B hl mw_1575 mw_655 mw_26 mw_656 (Nat.le_of_ble_eq_true rfl) (Nat.le_of_ble_eq_true rfl) (Nat.le_of_ble_eq_true rfl) (Nat.le_of_ble_eq_true rfl) (by omega) (by omega) dX3_close_35 ?_
    exact J_3 (min (pL + pN) (((T 17 0 0 0) - pH) - 1)) ⟨(show (min (pL + pN) (((T 17 0 0 0) - pH) - 1)) = clN T pH pL pN from (by unfold clN; split <;> omega)), (show 0 ≤ (min (pL + pN) (((T 17 0 0 0) - pH) - 1)) ∧ (min (pL + pN) (((T 17 0 0 0) - pH) - 1)) ≤ pL + pN ∧ (min (pL + pN) (((T 17 0 0 0) - pH) - 1)) ≤ 40 from (by omega))⟩ _ _ _ (lv_sub hl [0, 1] rfl) (bd_to rfl B)
  · have zc_12 : ((T 17 0 0 0) - pH) < 2 := jnle (a := 2) (b := ((T 17 0 0 0) - pH)) (by omega) (by omega) c_12
    refine lv_iconst (v := iI 0) hx hb dX3_close_19 (by decide) ?_
    refine lv_goto (tgt := 38) hx hb dX3_close_20 (by decide) ?_
    exact J_3 0 ⟨(show 0 = clN T pH pL pN from (by unfold clN; split <;> omega)), (show 0 ≤ 0 ∧ 0 ≤ pL + pN ∧ 0 ≤ 40 from (by omega))⟩ _ _ _ (lv_sub hl [0, 1] rfl) (bd_to rfl B)

theorem mw_79 : (Jvm.Cond.fieldLink "Galleyforge$Page" (112 : Nat) "Galleyforge$Text" "blocks" "Ljava/util/ArrayList;") ∈ gt := gt_at 149 (by decide +kernel) (by decide +kernel)
theorem mw_229 : (Jvm.Cond.fieldLink "Galleyforge$Page" (109 : Nat) "Galleyforge$Rows" "blocks" "[I") ∈ gt := gt_at 299 (by decide +kernel) (by decide +kernel)
theorem mw_232 : (Jvm.Cond.fieldLink "Galleyforge$Page" (129 : Nat) "Galleyforge$Rows" "indexes" "[I") ∈ gt := gt_at 302 (by decide +kernel) (by decide +kernel)
theorem mw_244 : (Jvm.Cond.fieldLink "Galleyforge$Page" (132 : Nat) "Galleyforge$Rows" "rowCounts" "[I") ∈ gt := gt_at 314 (by decide +kernel) (by decide +kernel)
theorem mw_1170 : (Jvm.Cond.fieldLink "Galleyforge$Page" (123 : Nat) "Galleyforge$Block" "kind" "I") ∈ gt := gt_at 1240 (by decide +kernel) (by decide +kernel)
theorem mw_1176 : (Jvm.Cond.fieldLink "Galleyforge$Page" (126 : Nat) "Galleyforge$Block" "styles" "[I") ∈ gt := gt_at 1246 (by decide +kernel) (by decide +kernel)
theorem mw_1596 : (Jvm.Cond.methodLink "Galleyforge$Page" (115 : Nat) ({ cls := "java/util/ArrayList", name := "get", desc := "(I)Ljava/lang/Object;" } : Jvm.MethodName)) ∈ gt := gt_at 1666 (by decide +kernel) (by decide +kernel)
theorem mw_1597 : (Jvm.Cond.classLink "Galleyforge$Page" (121 : Nat) "Galleyforge$Block") ∈ gt := gt_at 1667 (by decide +kernel) (by decide +kernel)
theorem dX3_costsOfParting_0 : decode cX3_costsOfParting 0 = .ok (.aload_n 0, 1) := by decide +kernel
theorem dX3_costsOfParting_1 : decode cX3_costsOfParting 1 = .ok (.getfield 15, 3) := by decide +kernel
theorem dX3_costsOfParting_4 : decode cX3_costsOfParting 4 = .ok (.getfield 109, 3) := by decide +kernel
theorem dX3_costsOfParting_7 : decode cX3_costsOfParting 7 = .ok (.iload_n 1, 1) := by decide +kernel
theorem dX3_costsOfParting_8 : decode cX3_costsOfParting 8 = .ok (.iaload, 1) := by decide +kernel
theorem dX3_costsOfParting_9 : decode cX3_costsOfParting 9 = .ok (.istore_n 2, 1) := by decide +kernel
theorem dX3_costsOfParting_10 : decode cX3_costsOfParting 10 = .ok (.aload_n 0, 1) := by decide +kernel
theorem dX3_costsOfParting_11 : decode cX3_costsOfParting 11 = .ok (.getfield 9, 3) := by decide +kernel
theorem dX3_costsOfParting_14 : decode cX3_costsOfParting 14 = .ok (.getfield 112, 3) := by decide +kernel
theorem dX3_costsOfParting_17 : decode cX3_costsOfParting 17 = .ok (.iload_n 2, 1) := by decide +kernel
theorem dX3_costsOfParting_18 : decode cX3_costsOfParting 18 = .ok (.invokevirtual 115, 3) := by decide +kernel
theorem dX3_costsOfParting_21 : decode cX3_costsOfParting 21 = .ok (.checkcast 121, 3) := by decide +kernel
theorem dX3_costsOfParting_24 : decode cX3_costsOfParting 24 = .ok (.astore_n 3, 1) := by decide +kernel
theorem dX3_costsOfParting_25 : decode cX3_costsOfParting 25 = .ok (.aload_n 0, 1) := by decide +kernel
theorem dX3_costsOfParting_26 : decode cX3_costsOfParting 26 = .ok (.getfield 15, 3) := by decide +kernel
theorem dX3_costsOfParting_29 : decode cX3_costsOfParting 29 = .ok (.getfield 109, 3) := by decide +kernel
theorem dX3_costsOfParting_32 : decode cX3_costsOfParting 32 = .ok (.iload_n 1, 1) := by decide +kernel
theorem dX3_costsOfParting_33 : decode cX3_costsOfParting 33 = .ok (.iconst 1, 1) := by decide +kernel
theorem dX3_costsOfParting_34 : decode cX3_costsOfParting 34 = .ok (.iadd, 1) := by decide +kernel
theorem dX3_costsOfParting_35 : decode cX3_costsOfParting 35 = .ok (.iaload, 1) := by decide +kernel
theorem dX3_costsOfParting_36 : decode cX3_costsOfParting 36 = .ok (.iload_n 2, 1) := by decide +kernel
theorem dX3_costsOfParting_37 : decode cX3_costsOfParting 37 = .ok (.if_icmp .ne 7, 3) := by decide +kernel
theorem dX3_costsOfParting_40 : decode cX3_costsOfParting 40 = .ok (.iconst 1, 1) := by decide +kernel
theorem dX3_costsOfParting_41 : decode cX3_costsOfParting 41 = .ok (.goto 4, 3) := by decide +kernel
theorem dX3_costsOfParting_44 : decode cX3_costsOfParting 44 = .ok (.iconst 0, 1) := by decide +kernel
theorem dX3_costsOfParting_45 : decode cX3_costsOfParting 45 = .ok (.istore 4, 2) := by decide +kernel
theorem dX3_costsOfParting_47 : decode cX3_costsOfParting 47 = .ok (.aload_n 3, 1) := by decide +kernel
theorem dX3_costsOfParting_48 : decode cX3_costsOfParting 48 = .ok (.getfield 123, 3) := by decide +kernel
theorem dX3_costsOfParting_51 : decode cX3_costsOfParting 51 = .ok (.iconst 2, 1) := by decide +kernel
theorem dX3_costsOfParting_52 : decode cX3_costsOfParting 52 = .ok (.if_icmp .eq 13, 3) := by decide +kernel
theorem dX3_costsOfParting_55 : decode cX3_costsOfParting 55 = .ok (.aload_n 3, 1) := by decide +kernel
theorem dX3_costsOfParting_56 : decode cX3_costsOfParting 56 = .ok (.getfield 126, 3) := by decide +kernel
theorem dX3_costsOfParting_59 : decode cX3_costsOfParting 59 = .ok (.iconst 2, 1) := by decide +kernel
theorem dX3_costsOfParting_60 : decode cX3_costsOfParting 60 = .ok (.iaload, 1) := by decide +kernel
theorem dX3_costsOfParting_61 : decode cX3_costsOfParting 61 = .ok (.iconst 1, 1) := by decide +kernel
theorem dX3_costsOfParting_62 : decode cX3_costsOfParting 62 = .ok (.if_icmp .ne 7, 3) := by decide +kernel
theorem dX3_costsOfParting_65 : decode cX3_costsOfParting 65 = .ok (.iconst 1, 1) := by decide +kernel
theorem dX3_costsOfParting_66 : decode cX3_costsOfParting 66 = .ok (.goto 4, 3) := by decide +kernel
theorem dX3_costsOfParting_69 : decode cX3_costsOfParting 69 = .ok (.iconst 0, 1) := by decide +kernel
theorem dX3_costsOfParting_70 : decode cX3_costsOfParting 70 = .ok (.istore 5, 2) := by decide +kernel
theorem dX3_costsOfParting_72 : decode cX3_costsOfParting 72 = .ok (.aload_n 3, 1) := by decide +kernel
theorem dX3_costsOfParting_73 : decode cX3_costsOfParting 73 = .ok (.getfield 123, 3) := by decide +kernel
theorem dX3_costsOfParting_76 : decode cX3_costsOfParting 76 = .ok (.iconst 1, 1) := by decide +kernel
theorem dX3_costsOfParting_77 : decode cX3_costsOfParting 77 = .ok (.if_icmp .eq 13, 3) := by decide +kernel
theorem dX3_costsOfParting_80 : decode cX3_costsOfParting 80 = .ok (.iload 4, 2) := by decide +kernel
theorem dX3_costsOfParting_82 : decode cX3_costsOfParting 82 = .ok (.ifCond .eq 12, 3) := by decide +kernel
theorem dX3_costsOfParting_85 : decode cX3_costsOfParting 85 = .ok (.iload 5, 2) := by decide +kernel
theorem dX3_costsOfParting_87 : decode cX3_costsOfParting 87 = .ok (.ifCond .eq 7, 3) := by decide +kernel
theorem dX3_costsOfParting_90 : decode cX3_costsOfParting 90 = .ok (.sipush 10000, 3) := by decide +kernel
theorem dX3_costsOfParting_93 : decode cX3_costsOfParting 93 = .ok (.ireturn, 1) := by decide +kernel
theorem dX3_costsOfParting_94 : decode cX3_costsOfParting 94 = .ok (.iload 4, 2) := by decide +kernel
theorem dX3_costsOfParting_96 : decode cX3_costsOfParting 96 = .ok (.ifCond .ne 5, 3) := by decide +kernel
theorem dX3_costsOfParting_99 : decode cX3_costsOfParting 99 = .ok (.iconst 0, 1) := by decide +kernel
theorem dX3_costsOfParting_100 : decode cX3_costsOfParting 100 = .ok (.ireturn, 1) := by decide +kernel
theorem dX3_costsOfParting_101 : decode cX3_costsOfParting 101 = .ok (.aload_n 3, 1) := by decide +kernel
theorem dX3_costsOfParting_102 : decode cX3_costsOfParting 102 = .ok (.getfield 123, 3) := by decide +kernel
theorem dX3_costsOfParting_105 : decode cX3_costsOfParting 105 = .ok (.ifCond .ne 56, 3) := by decide +kernel
theorem dX3_costsOfParting_108 : decode cX3_costsOfParting 108 = .ok (.aload_n 0, 1) := by decide +kernel
theorem dX3_costsOfParting_109 : decode cX3_costsOfParting 109 = .ok (.getfield 15, 3) := by decide +kernel
theorem dX3_costsOfParting_112 : decode cX3_costsOfParting 112 = .ok (.getfield 129, 3) := by decide +kernel
theorem dX3_costsOfParting_115 : decode cX3_costsOfParting 115 = .ok (.iload_n 1, 1) := by decide +kernel
theorem dX3_costsOfParting_116 : decode cX3_costsOfParting 116 = .ok (.iaload, 1) := by decide +kernel
theorem dX3_costsOfParting_117 : decode cX3_costsOfParting 117 = .ok (.ifCond .ne 9, 3) := by decide +kernel
theorem dX3_costsOfParting_120 : decode cX3_costsOfParting 120 = .ok (.sipush 150, 3) := by decide +kernel
theorem dX3_costsOfParting_123 : decode cX3_costsOfParting 123 = .ok (.goto 4, 3) := by decide +kernel
theorem dX3_costsOfParting_126 : decode cX3_costsOfParting 126 = .ok (.iconst 0, 1) := by decide +kernel
theorem dX3_costsOfParting_127 : decode cX3_costsOfParting 127 = .ok (.aload_n 0, 1) := by decide +kernel
theorem dX3_costsOfParting_128 : decode cX3_costsOfParting 128 = .ok (.getfield 15, 3) := by decide +kernel
theorem dX3_costsOfParting_131 : decode cX3_costsOfParting 131 = .ok (.getfield 129, 3) := by decide +kernel
theorem dX3_costsOfParting_134 : decode cX3_costsOfParting 134 = .ok (.iload_n 1, 1) := by decide +kernel
theorem dX3_costsOfParting_135 : decode cX3_costsOfParting 135 = .ok (.iconst 1, 1) := by decide +kernel
theorem dX3_costsOfParting_136 : decode cX3_costsOfParting 136 = .ok (.iadd, 1) := by decide +kernel
theorem dX3_costsOfParting_137 : decode cX3_costsOfParting 137 = .ok (.iaload, 1) := by decide +kernel
theorem dX3_costsOfParting_138 : decode cX3_costsOfParting 138 = .ok (.aload_n 0, 1) := by decide +kernel
theorem dX3_costsOfParting_139 : decode cX3_costsOfParting 139 = .ok (.getfield 15, 3) := by decide +kernel
theorem dX3_costsOfParting_142 : decode cX3_costsOfParting 142 = .ok (.getfield 132, 3) := by decide +kernel
theorem dX3_costsOfParting_145 : decode cX3_costsOfParting 145 = .ok (.iload_n 2, 1) := by decide +kernel
theorem dX3_costsOfParting_146 : decode cX3_costsOfParting 146 = .ok (.iaload, 1) := by decide +kernel
theorem dX3_costsOfParting_147 : decode cX3_costsOfParting 147 = .ok (.iconst 1, 1) := by decide +kernel
theorem dX3_costsOfParting_148 : decode cX3_costsOfParting 148 = .ok (.isub, 1) := by decide +kernel
theorem dX3_costsOfParting_149 : decode cX3_costsOfParting 149 = .ok (.if_icmp .ne 9, 3) := by decide +kernel
theorem dX3_costsOfParting_152 : decode cX3_costsOfParting 152 = .ok (.sipush 150, 3) := by decide +kernel
theorem dX3_costsOfParting_155 : decode cX3_costsOfParting 155 = .ok (.goto 4, 3) := by decide +kernel
theorem dX3_costsOfParting_158 : decode cX3_costsOfParting 158 = .ok (.iconst 0, 1) := by decide +kernel
theorem dX3_costsOfParting_159 : decode cX3_costsOfParting 159 = .ok (.iadd, 1) := by decide +kernel
theorem dX3_costsOfParting_160 : decode cX3_costsOfParting 160 = .ok (.ireturn, 1) := by decide +kernel
theorem dX3_costsOfParting_161 : decode cX3_costsOfParting 161 = .ok (.aload_n 3, 1) := by decide +kernel
theorem dX3_costsOfParting_162 : decode cX3_costsOfParting 162 = .ok (.getfield 123, 3) := by decide +kernel
theorem dX3_costsOfParting_165 : decode cX3_costsOfParting 165 = .ok (.iconst 3, 1) := by decide +kernel
theorem dX3_costsOfParting_166 : decode cX3_costsOfParting 166 = .ok (.if_icmp .ne 8, 3) := by decide +kernel
theorem dX3_costsOfParting_169 : decode cX3_costsOfParting 169 = .ok (.bipush 100, 2) := by decide +kernel
theorem dX3_costsOfParting_171 : decode cX3_costsOfParting 171 = .ok (.goto 4, 3) := by decide +kernel
theorem dX3_costsOfParting_174 : decode cX3_costsOfParting 174 = .ok (.iconst 0, 1) := by decide +kernel
theorem dX3_costsOfParting_175 : decode cX3_costsOfParting 175 = .ok (.ireturn, 1) := by decide +kernel
set_option maxHeartbeats 4000000 in
set_option maxRecDepth 100000 in
theorem k_parting (l : Launch) (dC : Nat → ClassId) (dI : Nat → Nat → Nat) (k : Nat → ClassId) (pg : Nat) (pR : Int) (pC : Int) (pW : Int) (pL : Int) (pH : Int) (pN : Int) (pQ : Int) (pT : Int) (pB : Int) (pX : Int) (pY : Int) (pM : Int) (pU : Int) (T : Nat → Int → Int → Int → Int) (A : Nat → Int → Int → Nat) (X : Nat → Int → Int → Int) (tl : va_W) (M : Nat → Int → Int) (V : Nat → Int → Int) (Aw : Nat → Nat) (la : Int) (hT : TI dI k T A X tl) (hK : TK T) (hR : RI k (T 0 0 0 0) M V Aw tl) (hM : MK M) (hMT : ∀ j, 0 ≤ j → j < M 0 0 → M 2 j < T 0 0 0 0) (h1 : 0 ≤ la ∧ la + 1 < M 0 0) : Kn l dC dI k yX3_costsOfParting (.code yX3_costsOfParting cX3_costsOfParting 6 (some .int)) ({ frames := 3, cells := 0, slots := 0, locals := 64 } : Room) [.ref pg, .int (iI la)] ([(pg, .inr (3, [.ref (A 50 0 0), .ref (Aw 20), .int (iI pR), .int (iI pC), .int (iI pW), .int (iI pL), .int (iI pH), .int (iI pN), .int (iI pQ), .int (iI pT), .int (iI pB), .int (iI pX), .int (iI pY), .int (iI pM), .int (iI pU)]))] ++ tl) (fun r w gc gs => ((0 ≤ pcZ T M la ∧ pcZ T M la ≤ 10000) ∧ r = some (.int (iI (pcZ T M la))) ∧ w = ([(pg, .inr (3, [.ref (A 50 0 0), .ref (Aw 20), .int (iI pR), .int (iI pC), .int (iI pW), .int (iI pL), .int (iI pH), .int (iI pN), .int (iI pQ), .int (iI pT), .int (iI pB), .int (iI pX), .int (iI pY), .int (iI pM), .int (iI pU)]))] ++ tl) ∧ gc = 0 ∧ gs = 0)) := by
  refine kn_of (by decide) (Nat.le_of_ble_eq_true rfl) ?_
  intro p e s m args below meth c H locs B hr hnm ls hl
  have hx := B.1.1
  have hb := B.1.2.1
  have hl : lv_has ls 6 [(0, .ref pg), (1, .int (iI la))] := hl
  have hn0 := MK_cnt hM
  have hf0 := MK_17 hM
  refine lv_aload_n hx hb dX3_costsOfParting_0 rfl (lv_at hl 0 rfl) ?_
  refine x_get (ci := 3) (C := RX3) (T := TX3) (N := 15) (v := .ref (Aw 20)) B 0 rfl rfl in_X3 1 (by decide) mw_314 (fun _ h9 => h9) rfl dX3_costsOfParting_1 ?_
  obtain ⟨k_1, hk_1⟩ := pk_at (hs := [(pg, .inr (3, [.ref (A 50 0 0), .ref (Aw 20), .int (iI pR), .int (iI pC), .int (iI pW), .int (iI pL), .int (iI pH), .int (iI pN), .int (iI pQ), .int (iI pT), .int (iI pB), .int (iI pX), .int (iI pY), .int (iI pM), .int (iI pU)]))]) (RI_o hR)
  refine x_get (ci := 6) (C := RX6) (T := TX6) (N := 18) (v := .ref (Aw 2)) B k_1 hk_1 rfl in_X6 2 (by decide) mw_229 (fun _ h9 => h9) rfl dX3_costsOfParting_4 ?_
  refine lv_iload_n hx hb dX3_costsOfParting_7 rfl (lv_at hl 1 rfl) ?_
  obtain ⟨k_2, hk_2⟩ := pk_at (hs := [(pg, .inr (3, [.ref (A 50 0 0), .ref (Aw 20), .int (iI pR), .int (iI pC), .int (iI pW), .int (iI pL), .int (iI pH), .int (iI pN), .int (iI pQ), .int (iI pT), .int (iI pB), .int (iI pX), .int (iI pY), .int (iI pM), .int (iI pU)]))]) (RI_2 hR)
  refine x_iald' (f := (V 2)) (z := la) B k_2 hk_2 (by omega) dX3_costsOfParting_8 ?_
  refine lv_seti (y := iI (M 2 la)) (congrArg iI (show (V 2) la = M 2 la from RA_2 (RI_a hR) _ (by omega) (by omega))) ?_
  have z_3 : 0 ≤ M 2 la ∧ M 2 la ≤ 15 := MK_2 hM _
  have z_4 : M 2 la < T 0 0 0 0 := hMT _ (by omega) (by omega)
  refine lv_istore_n (lv' := [(2, .int (iI (M 2 la))), (0, .ref pg), (1, .int (iI la))]) hx hb dX3_costsOfParting_9 rfl hl (by decide) rfl (fun ls hl => ?_)
  refine lv_aload_n hx hb dX3_costsOfParting_10 rfl (lv_at hl 1 rfl) ?_
  refine x_get (ci := 3) (C := RX3) (T := TX3) (N := 15) (v := .ref (A 50 0 0)) B 0 rfl rfl in_X3 0 (by decide) mw_313 (fun _ h9 => h9) rfl dX3_costsOfParting_11 ?_
  obtain ⟨k_5, hk_5⟩ := pk_at (hs := [(pg, .inr (3, [.ref (A 50 0 0), .ref (Aw 20), .int (iI pR), .int (iI pC), .int (iI pW), .int (iI pL), .int (iI pH), .int (iI pN), .int (iI pQ), .int (iI pT), .int (iI pB), .int (iI pX), .int (iI pY), .int (iI pM), .int (iI pU)]))]) hT.1.1
  refine x_get (ci := 9) (C := RX9) (T := TX9) (N := 8) (v := .ref (A 51 0 0)) B k_5 hk_5 rfl in_X9 0 (by decide) mw_79 (fun _ h9 => h9) rfl dX3_costsOfParting_14 ?_
  refine lv_iload_n hx hb dX3_costsOfParting_17 rfl (lv_at hl 0 rfl) ?_
  have B := bd_swap (a := []) (b := [(pg, .inr (3, [.ref (A 50 0 0), .ref (Aw 20), .int (iI pR), .int (iI pC), .int (iI pW), .int (iI pL), .int (iI pH), .int (iI pN), .int (iI pQ), .int (iI pT), .int (iI pB), .int (iI pX), .int (iI pY), .int (iI pM), .int (iI pU)]))]) (d := tl) (bd_to rfl B)
  obtain ⟨k_6, fk_6, hk_6⟩ := LI_at (hs := []) hT.2.1
  refine k_V (rest := []) (wc := ([] ++ tl)) (wr := [(pg, .inr (3, [.ref (A 50 0 0), .ref (Aw 20), .int (iI pR), .int (iI pC), .int (iI pW), .int (iI pL), .int (iI pH), .int (iI pN), .int (iI pQ), .int (iI pT), .int (iI pB), .int (iI pX), .int (iI pY), .int (iI pM), .int (iI pU)]))]) (k_getB l dC dI k T A X tl (M 2 la) hT hK (by omega)) B mV_Jx4a65c_get_915e3 mw_1596 hl (q0 := k_6) (ci := 12) hk_6 rfl rfl ⟨Nat.le_of_ble_eq_true rfl, Nat.le_of_ble_eq_true rfl⟩ (Nat.le_of_ble_eq_true rfl) rfl dX3_costsOfParting_18 ⟨Nat.le_of_ble_eq_true rfl, Nat.le_of_ble_eq_true rfl⟩ (fun r w gc gs H locs hp B => ?_)
  obtain ⟨rfl, hw9, rfl, rfl⟩ := hp
  rw [hw9] at B; clear hw9
  have B := bd_to (ws' := ([(pg, .inr (3, [.ref (A 50 0 0), .ref (Aw 20), .int (iI pR), .int (iI pC), .int (iI pW), .int (iI pL), .int (iI pH), .int (iI pN), .int (iI pQ), .int (iI pT), .int (iI pB), .int (iI pX), .int (iI pY), .int (iI pM), .int (iI pU)]))] ++ tl)) rfl B
  obtain ⟨k_7, hk_7⟩ := pk_at (hs := [(pg, .inr (3, [.ref (A 50 0 0), .ref (Aw 20), .int (iI pR), .int (iI pC), .int (iI pW), .int (iI pL), .int (iI pH), .int (iI pN), .int (iI pQ), .int (iI pT), .int (iI pB), .int (iI pX), .int (iI pY), .int (iI pM), .int (iI pU)]))]) (hT.2.2.2.1 (M 2 la) (by omega) (by omega)).1
  refine x_cast (ci := 0) (C := RX0) (T := TX0) (N := 4) B k_7 hk_7 rfl mw_1597 dX3_costsOfParting_21 ?_
  refine lv_astore_n (lv' := [(3, .ref (A 0 (M 2 la) 0)), (2, .int (iI (M 2 la))), (0, .ref pg), (1, .int (iI la))]) hx hb dX3_costsOfParting_24 rfl hl (by decide) rfl (fun ls hl => ?_)
  refine lv_aload_n hx hb dX3_costsOfParting_25 rfl (lv_at hl 2 rfl) ?_
  refine x_get (ci := 3) (C := RX3) (T := TX3) (N := 15) (v := .ref (Aw 20)) B 0 rfl rfl in_X3 1 (by decide) mw_314 (fun _ h9 => h9) rfl dX3_costsOfParting_26 ?_
  obtain ⟨k_8, hk_8⟩ := pk_at (hs := [(pg, .inr (3, [.ref (A 50 0 0), .ref (Aw 20), .int (iI pR), .int (iI pC), .int (iI pW), .int (iI pL), .int (iI pH), .int (iI pN), .int (iI pQ), .int (iI pT), .int (iI pB), .int (iI pX), .int (iI pY), .int (iI pM), .int (iI pU)]))]) (RI_o hR)
  refine x_get (ci := 6) (C := RX6) (T := TX6) (N := 18) (v := .ref (Aw 2)) B k_8 hk_8 rfl in_X6 2 (by decide) mw_229 (fun _ h9 => h9) rfl dX3_costsOfParting_29 ?_
  refine lv_iload_n hx hb dX3_costsOfParting_32 rfl (lv_at hl 3 rfl) ?_
  refine lv_iconst (v := iI 1) hx hb dX3_costsOfParting_33 (by decide) ?_
  refine y_add hx hb dX3_costsOfParting_34 ?_
  obtain ⟨k_9, hk_9⟩ := pk_at (hs := [(pg, .inr (3, [.ref (A 50 0 0), .ref (Aw 20), .int (iI pR), .int (iI pC), .int (iI pW), .int (iI pL), .int (iI pH), .int (iI pN), .int (iI pQ), .int (iI pT), .int (iI pB), .int (iI pX), .int (iI pY), .int (iI pM), .int (iI pU)]))]) (RI_2 hR)
  refine x_iald' (f := (V 2)) (z := (la + 1)) B k_9 hk_9 (by omega) dX3_costsOfParting_35 ?_
  refine lv_seti (y := iI (M 2 (la + 1))) (congrArg iI (show (V 2) (la + 1) = M 2 (la + 1) from RA_2 (RI_a hR) _ (by omega) (by omega))) ?_
  have z_10 : 0 ≤ M 2 (la + 1) ∧ M 2 (la + 1) ≤ 15 := MK_2 hM _
  have z_11 : M 2 (la + 1) < T 0 0 0 0 := hMT _ (by omega) (by omega)
  refine lv_iload_n hx hb dX3_costsOfParting_36 rfl (lv_at hl 1 rfl) ?_
  refine lv_icmp_ne (tgt := 44) hx hb dX3_costsOfParting_37 (by decide) (fun c_12 => ?_) (fun c_12 => ?_)
  · have zc_12 : (M 2 (la + 1)) ≠ (M 2 la) := jne (a := (M 2 (la + 1))) (b := (M 2 la)) (by omega) (by omega) c_12
    refine lv_iconst (v := iI 0) hx hb dX3_costsOfParting_44 (by decide) ?_
    refine lv_istore (lv' := [(4, .int (iI 0)), (3, .ref (A 0 (M 2 la) 0)), (2, .int (iI (M 2 la))), (0, .ref pg), (1, .int (iI la))]) hx hb dX3_costsOfParting_45 hl (by decide) rfl (fun ls hl => ?_)
    refine lv_aload_n hx hb dX3_costsOfParting_47 rfl (lv_at hl 1 rfl) ?_
    obtain ⟨k_13, hk_13⟩ := pk_at (hs := [(pg, .inr (3, [.ref (A 50 0 0), .ref (Aw 20), .int (iI pR), .int (iI pC), .int (iI pW), .int (iI pL), .int (iI pH), .int (iI pN), .int (iI pQ), .int (iI pT), .int (iI pB), .int (iI pX), .int (iI pY), .int (iI pM), .int (iI pU)]))]) (hT.2.2.2.1 (M 2 la) (by omega) (by omega)).1
    refine x_get (ci := 0) (C := RX0) (T := TX0) (N := 4) (v := .int (iI (T 1 (M 2 la) 0 0))) B k_13 hk_13 rfl in_X0 0 (by decide) mw_1170 (fun _ h9 => h9) rfl dX3_costsOfParting_48 ?_
    have z_14 : 0 ≤ T 1 (M 2 la) 0 0 ∧ T 1 (M 2 la) 0 0 ≤ 6 := TK_kind hK (M 2 la)
    refine lv_iconst (v := iI 2) hx hb dX3_costsOfParting_51 (by decide) ?_
    refine lv_icmp_eq (tgt := 65) hx hb dX3_costsOfParting_52 (by decide) (fun c_15 => ?_) (fun c_15 => ?_)
    · have zc_15 : (T 1 (M 2 la) 0 0) = 2 := jeq (a := (T 1 (M 2 la) 0 0)) (b := 2) (by omega) (by omega) c_15
      refine lv_iconst (v := iI 1) hx hb dX3_costsOfParting_65 (by decide) ?_
      refine lv_goto (tgt := 70) hx hb dX3_costsOfParting_66 (by decide) ?_
      refine lv_istore (lv' := [(5, .int (iI 1)), (4, .int (iI 0)), (3, .ref (A 0 (M 2 la) 0)), (2, .int (iI (M 2 la))), (0, .ref pg), (1, .int (iI la))]) hx hb dX3_costsOfParting_70 hl (by decide) rfl (fun ls hl => ?_)
      refine lv_aload_n hx hb dX3_costsOfParting_72 rfl (lv_at hl 2 rfl) ?_
      obtain ⟨k_16, hk_16⟩ := pk_at (hs := [(pg, .inr (3, [.ref (A 50 0 0), .ref (Aw 20), .int (iI pR), .int (iI pC), .int (iI pW), .int (iI pL), .int (iI pH), .int (iI pN), .int (iI pQ), .int (iI pT), .int (iI pB), .int (iI pX), .int (iI pY), .int (iI pM), .int (iI pU)]))]) (hT.2.2.2.1 (M 2 la) (by omega) (by omega)).1
      refine x_get (ci := 0) (C := RX0) (T := TX0) (N := 4) (v := .int (iI (T 1 (M 2 la) 0 0))) B k_16 hk_16 rfl in_X0 0 (by decide) mw_1170 (fun _ h9 => h9) rfl dX3_costsOfParting_73 ?_
      have z_17 : 0 ≤ T 1 (M 2 la) 0 0 ∧ T 1 (M 2 la) 0 0 ≤ 6 := TK_kind hK (M 2 la)
      refine lv_iconst (v := iI 1) hx hb dX3_costsOfParting_76 (by decide) ?_
      refine lv_icmp_eq (tgt := 90) hx hb dX3_costsOfParting_77 (by decide) (fun c_18 => ?_) (fun c_18 => ?_)
      · have zc_18 : (T 1 (M 2 la) 0 0) = 1 := jeq (a := (T 1 (M 2 la) 0 0)) (b := 1) (by omega) (by omega) c_18
        refine lv_sipush (v := iI 10000) hx hb dX3_costsOfParting_90 (by decide) ?_
        have e_19 : (pcZ T M la) = 10000 := (by first | (simp only [pcZ, if_neg zc_12, if_pos zc_15, if_pos zc_18]; done) | (simp only [pcZ, if_neg zc_12, if_pos zc_15, if_pos zc_18]; omega) | (simp only [pcZ]; (repeat' split) <;> first | omega | rfl))
        skip
        exact k_iret B hr (⟨(pcZ_in T M la), (by rw [e_19]), rfl, rfl, rfl⟩) ⟨Nat.le_of_ble_eq_true rfl, Nat.le_of_ble_eq_true rfl⟩ ⟨Nat.le_of_ble_eq_true rfl, Nat.le_of_ble_eq_true rfl⟩ dX3_costsOfParting_93
      · have zc_18 : (T 1 (M 2 la) 0 0) ≠ 1 := jne (a := (T 1 (M 2 la) 0 0)) (b := 1) (by omega) (by omega) c_18
        refine lv_iload hx hb dX3_costsOfParting_80 (lv_at hl 1 rfl) ?_
        refine lv_if_eq (tgt := 94) hx hb dX3_costsOfParting_82 (by decide) (fun _ => ?_) (fun c9 => absurd (by decide) c9)
        refine lv_iload hx hb dX3_costsOfParting_94 (lv_at hl 1 rfl) ?_
        refine lv_if_ne (tgt := 101) hx hb dX3_costsOfParting_96 (by decide) (fun c9 => absurd c9 (by decide)) (fun _ => ?_)
        refine lv_iconst (v := iI 0) hx hb dX3_costsOfParting_99 (by decide) ?_
        have e_20 : (pcZ T M la) = 0 := (by first | (simp only [pcZ, if_neg zc_12, if_pos zc_15, if_neg zc_18]; done) | (simp only [pcZ, if_neg zc_12, if_pos zc_15, if_neg zc_18]; omega) | (simp only [pcZ]; (repeat' split) <;> first | omega | rfl))
        skip
        exact k_iret B hr (⟨(pcZ_in T M la), (by rw [e_20]), rfl, rfl, rfl⟩) ⟨Nat.le_of_ble_eq_true rfl, Nat.le_of_ble_eq_true rfl⟩ ⟨Nat.le_of_ble_eq_true rfl, Nat.le_of_ble_eq_true rfl⟩ dX3_costsOfParting_100
    · have zc_15 : (T 1 (M 2 la) 0 0) ≠ 2 := jne (a := (T 1 (M 2 la) 0 0)) (b := 2) (by omega) (by omega) c_15
      refine lv_aload_n hx hb dX3_costsOfParting_55 rfl (lv_at hl 1 rfl) ?_
      obtain ⟨k_21, hk_21⟩ := pk_at (hs := [(pg, .inr (3, [.ref (A 50 0 0), .ref (Aw 20), .int (iI pR), .int (iI pC), .int (iI pW), .int (iI pL), .int (iI pH), .int (iI pN), .int (iI pQ), .int (iI pT), .int (iI pB), .int (iI pX), .int (iI pY), .int (iI pM), .int (iI pU)]))]) (hT.2.2.2.1 (M 2 la) (by omega) (by omega)).1
      refine x_get (ci := 0) (C := RX0) (T := TX0) (N := 4) (v := .ref (A 1 (M 2 la) 0)) B k_21 hk_21 rfl in_X0 1 (by decide) mw_1176 (fun _ h9 => h9) rfl dX3_costsOfParting_56 ?_
      refine lv_iconst (v := iI 2) hx hb dX3_costsOfParting_59 (by decide) ?_
      obtain ⟨k_22, hk_22⟩ := pk_at (hs := [(pg, .inr (3, [.ref (A 50 0 0), .ref (Aw 20), .int (iI pR), .int (iI pC), .int (iI pW), .int (iI pL), .int (iI pH), .int (iI pN), .int (iI pQ), .int (iI pT), .int (iI pB), .int (iI pX), .int (iI pY), .int (iI pM), .int (iI pU)]))]) (hT.2.2.2.1 (M 2 la) (by omega) (by omega)).2.1
      refine x_iald' (f := (fun j9 : Int => T 2 (M 2 la) j9 0)) (z := 2) B k_22 hk_22 (by omega) dX3_costsOfParting_60 ?_
      have z_23 : (-1) ≤ (T 2 (M 2 la) 2 0) ∧ (T 2 (M 2 la) 2 0) ≤ 30 := (fun j => TK_sty hK (M 2 la) j) 2
      refine lv_iconst (v := iI 1) hx hb dX3_costsOfParting_61 (by decide) ?_
      refine lv_icmp_ne (tgt := 69) hx hb dX3_costsOfParting_62 (by decide) (fun c_24 => ?_) (fun c_24 => ?_)
      · have zc_24 : (T 2 (M 2 la) 2 0) ≠ 1 := jne (a := (T 2 (M 2 la) 2 0)) (b := 1) (by omega) (by omega) c_24
        refine lv_iconst (v := iI 0) hx hb dX3_costsOfParting_69 (by decide) ?_
        refine lv_istore (lv' := [(5, .int (iI 0)), (4, .int (iI 0)), (3, .ref (A 0 (M 2 la) 0)), (2, .int (iI (M 2 la))), (0, .ref pg), (1, .int (iI la))]) hx hb dX3_costsOfParting_70 hl (by decide) rfl (fun ls hl => ?_)
        refine lv_aload_n hx hb dX3_costsOfParting_72 rfl (lv_at hl 2 rfl) ?_
        obtain ⟨k_25, hk_25⟩ := pk_at (hs := [(pg, .inr (3, [.ref (A 50 0 0), .ref (Aw 20), .int (iI pR), .int (iI pC), .int (iI pW), .int (iI pL), .int (iI pH), .int (iI pN), .int (iI pQ), .int (iI pT), .int (iI pB), .int (iI pX), .int (iI pY), .int (iI pM), .int (iI pU)]))]) (hT.2.2.2.1 (M 2 la) (by omega) (by omega)).1
        refine x_get (ci := 0) (C := RX0) (T := TX0) (N := 4) (v := .int (iI (T 1 (M 2 la) 0 0))) B k_25 hk_25 rfl in_X0 0 (by decide) mw_1170 (fun _ h9 => h9) rfl dX3_costsOfParting_73 ?_
        have z_26 : 0 ≤ T 1 (M 2 la) 0 0 ∧ T 1 (M 2 la) 0 0 ≤ 6 := TK_kind hK (M 2 la)
        refine lv_iconst (v := iI 1) hx hb dX3_costsOfParting_76 (by decide) ?_
        refine lv_icmp_eq (tgt := 90) hx hb dX3_costsOfParting_77 (by decide) (fun c_27 => ?_) (fun c_27 => ?_)
        · have zc_27 : (T 1 (M 2 la) 0 0) = 1 := jeq (a := (T 1 (M 2 la) 0 0)) (b := 1) (by omega) (by omega) c_27
          refine lv_sipush (v := iI 10000) hx hb dX3_costsOfParting_90 (by decide) ?_
          have e_28 : (pcZ T M la) = 10000 := (by first | (simp only [pcZ, if_neg zc_12, if_neg zc_15, if_neg zc_24, if_pos zc_27]; done) | (simp only [pcZ, if_neg zc_12, if_neg zc_15, if_neg zc_24, if_pos zc_27]; omega) | (simp only [pcZ]; (repeat' split) <;> first | omega | rfl))
          skip
          exact k_iret B hr (⟨(pcZ_in T M la), (by rw [e_28]), rfl, rfl, rfl⟩) ⟨Nat.le_of_ble_eq_true rfl, Nat.le_of_ble_eq_true rfl⟩ ⟨Nat.le_of_ble_eq_true rfl, Nat.le_of_ble_eq_true rfl⟩ dX3_costsOfParting_93
        · have zc_27 : (T 1 (M 2 la) 0 0) ≠ 1 := jne (a := (T 1 (M 2 la) 0 0)) (b := 1) (by omega) (by omega) c_27
          refine lv_iload hx hb dX3_costsOfParting_80 (lv_at hl 1 rfl) ?_
          refine lv_if_eq (tgt := 94) hx hb dX3_costsOfParting_82 (by decide) (fun _ => ?_) (fun c9 => absurd (by decide) c9)
          refine lv_iload hx hb dX3_costsOfParting_94 (lv_at hl 1 rfl) ?_
          refine lv_if_ne (tgt := 101) hx hb dX3_costsOfParting_96 (by decide) (fun c9 => absurd c9 (by decide)) (fun _ => ?_)
          refine lv_iconst (v := iI 0) hx hb dX3_costsOfParting_99 (by decide) ?_
          have e_29 : (pcZ T M la) = 0 := (by first | (simp only [pcZ, if_neg zc_12, if_neg zc_15, if_neg zc_24, if_neg zc_27]; done) | (simp only [pcZ, if_neg zc_12, if_neg zc_15, if_neg zc_24, if_neg zc_27]; omega) | (simp only [pcZ]; (repeat' split) <;> first | omega | rfl))
          skip
          exact k_iret B hr (⟨(pcZ_in T M la), (by rw [e_29]), rfl, rfl, rfl⟩) ⟨Nat.le_of_ble_eq_true rfl, Nat.le_of_ble_eq_true rfl⟩ ⟨Nat.le_of_ble_eq_true rfl, Nat.le_of_ble_eq_true rfl⟩ dX3_costsOfParting_100
      · have zc_24 : (T 2 (M 2 la) 2 0) = 1 := jeq (a := (T 2 (M 2 la) 2 0)) (b := 1) (by omega) (by omega) c_24
        refine lv_iconst (v := iI 1) hx hb dX3_costsOfParting_65 (by decide) ?_
        refine lv_goto (tgt := 70) hx hb dX3_costsOfParting_66 (by decide) ?_
        refine lv_istore (lv' := [(5, .int (iI 1)), (4, .int (iI 0)), (3, .ref (A 0 (M 2 la) 0)), (2, .int (iI (M 2 la))), (0, .ref pg), (1, .int (iI la))]) hx hb dX3_costsOfParting_70 hl (by decide) rfl (fun ls hl => ?_)
        refine lv_aload_n hx hb dX3_costsOfParting_72 rfl (lv_at hl 2 rfl) ?_
        obtain ⟨k_30, hk_30⟩ := pk_at (hs := [(pg, .inr (3, [.ref (A 50 0 0), .ref (Aw 20), .int (iI pR), .int (iI pC), .int (iI pW), .int (iI pL), .int (iI pH), .int (iI pN), .int (iI pQ), .int (iI pT), .int (iI pB), .int (iI pX), .int (iI pY), .int (iI pM), .int (iI pU)]))]) (hT.2.2.2.1 (M 2 la) (by omega) (by omega)).1
        refine x_get (ci := 0) (C := RX0) (T := TX0) (N := 4) (v := .int (iI (T 1 (M 2 la) 0 0))) B k_30 hk_30 rfl in_X0 0 (by decide) mw_1170 (fun _ h9 => h9) rfl dX3_costsOfParting_73 ?_
        have z_31 : 0 ≤ T 1 (M 2 la) 0 0 ∧ T 1 (M 2 la) 0 0 ≤ 6 := TK_kind hK (M 2 la)
        refine lv_iconst (v := iI 1) hx hb dX3_costsOfParting_76 (by decide) ?_
        refine lv_icmp_eq (tgt := 90) hx hb dX3_costsOfParting_77 (by decide) (fun c_32 => ?_) (fun c_32 => ?_)
        · have zc_32 : (T 1 (M 2 la) 0 0) = 1 := jeq (a := (T 1 (M 2 la) 0 0)) (b := 1) (by omega) (by omega) c_32
          refine lv_sipush (v := iI 10000) hx hb dX3_costsOfParting_90 (by decide) ?_
          have e_33 : (pcZ T M la) = 10000 := (by first | (simp only [pcZ, if_neg zc_12, if_neg zc_15, if_pos zc_24, if_pos zc_32]; done) | (simp only [pcZ, if_neg zc_12, if_neg zc_15, if_pos zc_24, if_pos zc_32]; omega) | (simp only [pcZ]; (repeat' split) <;> first | omega | rfl))
          skip
          exact k_iret B hr (⟨(pcZ_in T M la), (by rw [e_33]), rfl, rfl, rfl⟩) ⟨Nat.le_of_ble_eq_true rfl, Nat.le_of_ble_eq_true rfl⟩ ⟨Nat.le_of_ble_eq_true rfl, Nat.le_of_ble_eq_true rfl⟩ dX3_costsOfParting_93
        · have zc_32 : (T 1 (M 2 la) 0 0) ≠ 1 := jne (a := (T 1 (M 2 la) 0 0)) (b := 1) (by omega) (by omega) c_32
          refine lv_iload hx hb dX3_costsOfParting_80 (lv_at hl 1 rfl) ?_
          refine lv_if_eq (tgt := 94) hx hb dX3_costsOfParting_82 (by decide) (fun _ => ?_) (fun c9 => absurd (by decide) c9)
          refine lv_iload hx hb dX3_costsOfParting_94 (lv_at hl 1 rfl) ?_
          refine lv_if_ne (tgt := 101) hx hb dX3_costsOfParting_96 (by decide) (fun c9 => absurd c9 (by decide)) (fun _ => ?_)
          refine lv_iconst (v := iI 0) hx hb dX3_costsOfParting_99 (by decide) ?_
          have e_34 : (pcZ T M la) = 0 := (by first | (simp only [pcZ, if_neg zc_12, if_neg zc_15, if_pos zc_24, if_neg zc_32]; done) | (simp only [pcZ, if_neg zc_12, if_neg zc_15, if_pos zc_24, if_neg zc_32]; omega) | (simp only [pcZ]; (repeat' split) <;> first | omega | rfl))
          skip
          exact k_iret B hr (⟨(pcZ_in T M la), (by rw [e_34]), rfl, rfl, rfl⟩) ⟨Nat.le_of_ble_eq_true rfl, Nat.le_of_ble_eq_true rfl⟩ ⟨Nat.le_of_ble_eq_true rfl, Nat.le_of_ble_eq_true rfl⟩ dX3_costsOfParting_100
  · have zc_12 : (M 2 (la + 1)) = (M 2 la) := jeq (a := (M 2 (la + 1))) (b := (M 2 la)) (by omega) (by omega) c_12
    refine lv_iconst (v := iI 1) hx hb dX3_costsOfParting_40 (by decide) ?_
    refine lv_goto (tgt := 45) hx hb dX3_costsOfParting_41 (by decide) ?_
    refine lv_istore (lv' := [(4, .int (iI 1)), (3, .ref (A 0 (M 2 la) 0)), (2, .int (iI (M 2 la))), (0, .ref pg), (1, .int (iI la))]) hx hb dX3_costsOfParting_45 hl (by decide) rfl (fun ls hl => ?_)
    refine lv_aload_n hx hb dX3_costsOfParting_47 rfl (lv_at hl 1 rfl) ?_
    obtain ⟨k_35, hk_35⟩ := pk_at (hs := [(pg, .inr (3, [.ref (A 50 0 0), .ref (Aw 20), .int (iI pR), .int (iI pC), .int (iI pW), .int (iI pL), .int (iI pH), .int (iI pN), .int (iI pQ), .int (iI pT), .int (iI pB), .int (iI pX), .int (iI pY), .int (iI pM), .int (iI pU)]))]) (hT.2.2.2.1 (M 2 la) (by omega) (by omega)).1
    refine x_get (ci := 0) (C := RX0) (T := TX0) (N := 4) (v := .int (iI (T 1 (M 2 la) 0 0))) B k_35 hk_35 rfl in_X0 0 (by decide) mw_1170 (fun _ h9 => h9) rfl dX3_costsOfParting_48 ?_
    have z_36 : 0 ≤ T 1 (M 2 la) 0 0 ∧ T 1 (M 2 la) 0 0 ≤ 6 := TK_kind hK (M 2 la)
    refine lv_iconst (v := iI 2) hx hb dX3_costsOfParting_51 (by decide) ?_
    refine lv_icmp_eq (tgt := 65) hx hb dX3_costsOfParting_52 (by decide) (fun c_37 => ?_) (fun c_37 => ?_)
    · have zc_37 : (T 1 (M 2 la) 0 0) = 2 := jeq (a := (T 1 (M 2 la) 0 0)) (b := 2) (by omega) (by omega) c_37
      refine lv_iconst (v := iI 1) hx hb dX3_costsOfParting_65 (by decide) ?_
      refine lv_goto (tgt := 70) hx hb dX3_costsOfParting_66 (by decide) ?_
      refine lv_istore (lv' := [(5, .int (iI 1)), (4, .int (iI 1)), (3, .ref (A 0 (M 2 la) 0)), (2, .int (iI (M 2 la))), (0, .ref pg), (1, .int (iI la))]) hx hb dX3_costsOfParting_70 hl (by decide) rfl (fun ls hl => ?_)
      refine lv_aload_n hx hb dX3_costsOfParting_72 rfl (lv_at hl 2 rfl) ?_
      obtain ⟨k_38, hk_38⟩ := pk_at (hs := [(pg, .inr (3, [.ref (A 50 0 0), .ref (Aw 20), .int (iI pR), .int (iI pC), .int (iI pW), .int (iI pL), .int (iI pH), .int (iI pN), .int (iI pQ), .int (iI pT), .int (iI pB), .int (iI pX), .int (iI pY), .int (iI pM), .int (iI pU)]))]) (hT.2.2.2.1 (M 2 la) (by omega) (by omega)).1
      refine x_get (ci := 0) (C := RX0) (T := TX0) (N := 4) (v := .int (iI (T 1 (M 2 la) 0 0))) B k_38 hk_38 rfl in_X0 0 (by decide) mw_1170 (fun _ h9 => h9) rfl dX3_costsOfParting_73 ?_
      have z_39 : 0 ≤ T 1 (M 2 la) 0 0 ∧ T 1 (M 2 la) 0 0 ≤ 6 := TK_kind hK (M 2 la)
      refine lv_iconst (v := iI 1) hx hb dX3_costsOfParting_76 (by decide) ?_
      refine lv_icmp_eq (tgt := 90) hx hb dX3_costsOfParting_77 (by decide) (fun c_40 => ?_) (fun c_40 => ?_)
      · have zc_40 : (T 1 (M 2 la) 0 0) = 1 := jeq (a := (T 1 (M 2 la) 0 0)) (b := 1) (by omega) (by omega) c_40
        refine lv_sipush (v := iI 10000) hx hb dX3_costsOfParting_90 (by decide) ?_
        have e_41 : (pcZ T M la) = 10000 := (by first | (simp only [pcZ, if_pos zc_12, if_pos zc_37, if_pos zc_40]; done) | (simp only [pcZ, if_pos zc_12, if_pos zc_37, if_pos zc_40]; omega) | (simp only [pcZ]; (repeat' split) <;> first | omega | rfl))
        skip
        exact k_iret B hr (⟨(pcZ_in T M la), (by rw [e_41]), rfl, rfl, rfl⟩) ⟨Nat.le_of_ble_eq_true rfl, Nat.le_of_ble_eq_true rfl⟩ ⟨Nat.le_of_ble_eq_true rfl, Nat.le_of_ble_eq_true rfl⟩ dX3_costsOfParting_93
      · have zc_40 : (T 1 (M 2 la) 0 0) ≠ 1 := jne (a := (T 1 (M 2 la) 0 0)) (b := 1) (by omega) (by omega) c_40
        refine lv_iload hx hb dX3_costsOfParting_80 (lv_at hl 1 rfl) ?_
        refine lv_if_eq (tgt := 94) hx hb dX3_costsOfParting_82 (by decide) (fun c9 => absurd c9 (by decide)) (fun _ => ?_)
        refine lv_iload hx hb dX3_costsOfParting_85 (lv_at hl 0 rfl) ?_
        refine lv_if_eq (tgt := 94) hx hb dX3_costsOfParting_87 (by decide) (fun c9 => absurd c9 (by decide)) (fun _ => ?_)
        refine lv_sipush (v := iI 10000) hx hb dX3_costsOfParting_90 (by decide) ?_
        have e_42 : (pcZ T M la) = 10000 := (by first | (simp only [pcZ, if_pos zc_12, if_pos zc_37, if_neg zc_40]; done) | (simp only [pcZ, if_pos zc_12, if_pos zc_37, if_neg zc_40]; omega) | (simp only [pcZ]; (repeat' split) <;> first | omega | rfl))
        skip
        exact k_iret B hr (⟨(pcZ_in T M la), (by rw [e_42]), rfl, rfl, rfl⟩) ⟨Nat.le_of_ble_eq_true rfl, Nat.le_of_ble_eq_true rfl⟩ ⟨Nat.le_of_ble_eq_true rfl, Nat.le_of_ble_eq_true rfl⟩ dX3_costsOfParting_93
    · have zc_37 : (T 1 (M 2 la) 0 0) ≠ 2 := jne (a := (T 1 (M 2 la) 0 0)) (b := 2) (by omega) (by omega) c_37
      refine lv_aload_n hx hb dX3_costsOfParting_55 rfl (lv_at hl 1 rfl) ?_
      obtain ⟨k_43, hk_43⟩ := pk_at (hs := [(pg, .inr (3, [.ref (A 50 0 0), .ref (Aw 20), .int (iI pR), .int (iI pC), .int (iI pW), .int (iI pL), .int (iI pH), .int (iI pN), .int (iI pQ), .int (iI pT), .int (iI pB), .int (iI pX), .int (iI pY), .int (iI pM), .int (iI pU)]))]) (hT.2.2.2.1 (M 2 la) (by omega) (by omega)).1
      refine x_get (ci := 0) (C := RX0) (T := TX0) (N := 4) (v := .ref (A 1 (M 2 la) 0)) B k_43 hk_43 rfl in_X0 1 (by decide) mw_1176 (fun _ h9 => h9) rfl dX3_costsOfParting_56 ?_
      refine lv_iconst (v := iI 2) hx hb dX3_costsOfParting_59 (by decide) ?_
      obtain ⟨k_44, hk_44⟩ := pk_at (hs := [(pg, .inr (3, [.ref (A 50 0 0), .ref (Aw 20), .int (iI pR), .int (iI pC), .int (iI pW), .int (iI pL), .int (iI pH), .int (iI pN), .int (iI pQ), .int (iI pT), .int (iI pB), .int (iI pX), .int (iI pY), .int (iI pM), .int (iI pU)]))]) (hT.2.2.2.1 (M 2 la) (by omega) (by omega)).2.1
      refine x_iald' (f := (fun j9 : Int => T 2 (M 2 la) j9 0)) (z := 2) B k_44 hk_44 (by omega) dX3_costsOfParting_60 ?_
      have z_45 : (-1) ≤ (T 2 (M 2 la) 2 0) ∧ (T 2 (M 2 la) 2 0) ≤ 30 := (fun j => TK_sty hK (M 2 la) j) 2
      refine lv_iconst (v := iI 1) hx hb dX3_costsOfParting_61 (by decide) ?_
      refine lv_icmp_ne (tgt := 69) hx hb dX3_costsOfParting_62 (by decide) (fun c_46 => ?_) (fun c_46 => ?_)
      · have zc_46 : (T 2 (M 2 la) 2 0) ≠ 1 := jne (a := (T 2 (M 2 la) 2 0)) (b := 1) (by omega) (by omega) c_46
        refine lv_iconst (v := iI 0) hx hb dX3_costsOfParting_69 (by decide) ?_
        refine lv_istore (lv' := [(5, .int (iI 0)), (4, .int (iI 1)), (3, .ref (A 0 (M 2 la) 0)), (2, .int (iI (M 2 la))), (0, .ref pg), (1, .int (iI la))]) hx hb dX3_costsOfParting_70 hl (by decide) rfl (fun ls hl => ?_)
        refine lv_aload_n hx hb dX3_costsOfParting_72 rfl (lv_at hl 2 rfl) ?_
        obtain ⟨k_47, hk_47⟩ := pk_at (hs := [(pg, .inr (3, [.ref (A 50 0 0), .ref (Aw 20), .int (iI pR), .int (iI pC), .int (iI pW), .int (iI pL), .int (iI pH), .int (iI pN), .int (iI pQ), .int (iI pT), .int (iI pB), .int (iI pX), .int (iI pY), .int (iI pM), .int (iI pU)]))]) (hT.2.2.2.1 (M 2 la) (by omega) (by omega)).1
        refine x_get (ci := 0) (C := RX0) (T := TX0) (N := 4) (v := .int (iI (T 1 (M 2 la) 0 0))) B k_47 hk_47 rfl in_X0 0 (by decide) mw_1170 (fun _ h9 => h9) rfl dX3_costsOfParting_73 ?_
        have z_48 : 0 ≤ T 1 (M 2 la) 0 0 ∧ T 1 (M 2 la) 0 0 ≤ 6 := TK_kind hK (M 2 la)
        refine lv_iconst (v := iI 1) hx hb dX3_costsOfParting_76 (by decide) ?_
        refine lv_icmp_eq (tgt := 90) hx hb dX3_costsOfParting_77 (by decide) (fun c_49 => ?_) (fun c_49 => ?_)
        · have zc_49 : (T 1 (M 2 la) 0 0) = 1 := jeq (a := (T 1 (M 2 la) 0 0)) (b := 1) (by omega) (by omega) c_49
          refine lv_sipush (v := iI 10000) hx hb dX3_costsOfParting_90 (by decide) ?_
          have e_50 : (pcZ T M la) = 10000 := (by first | (simp only [pcZ, if_pos zc_12, if_neg zc_37, if_neg zc_46, if_pos zc_49]; done) | (simp only [pcZ, if_pos zc_12, if_neg zc_37, if_neg zc_46, if_pos zc_49]; omega) | (simp only [pcZ]; (repeat' split) <;> first | omega | rfl))
          skip
          exact k_iret B hr (⟨(pcZ_in T M la), (by rw [e_50]), rfl, rfl, rfl⟩) ⟨Nat.le_of_ble_eq_true rfl, Nat.le_of_ble_eq_true rfl⟩ ⟨Nat.le_of_ble_eq_true rfl, Nat.le_of_ble_eq_true rfl⟩ dX3_costsOfParting_93
        · have zc_49 : (T 1 (M 2 la) 0 0) ≠ 1 := jne (a := (T 1 (M 2 la) 0 0)) (b := 1) (by omega) (by omega) c_49
          refine lv_iload hx hb dX3_costsOfParting_80 (lv_at hl 1 rfl) ?_
          refine lv_if_eq (tgt := 94) hx hb dX3_costsOfParting_82 (by decide) (fun c9 => absurd c9 (by decide)) (fun _ => ?_)
          refine lv_iload hx hb dX3_costsOfParting_85 (lv_at hl 0 rfl) ?_
          refine lv_if_eq (tgt := 94) hx hb dX3_costsOfParting_87 (by decide) (fun _ => ?_) (fun c9 => absurd (by decide) c9)
          refine lv_iload hx hb dX3_costsOfParting_94 (lv_at hl 1 rfl) ?_
          refine lv_if_ne (tgt := 101) hx hb dX3_costsOfParting_96 (by decide) (fun _ => ?_) (fun c9 => absurd c9 (by decide))
          refine lv_aload_n hx hb dX3_costsOfParting_101 rfl (lv_at hl 2 rfl) ?_
          obtain ⟨k_51, hk_51⟩ := pk_at (hs := [(pg, .inr (3, [.ref (A 50 0 0), .ref (Aw 20), .int (iI pR), .int (iI pC), .int (iI pW), .int (iI pL), .int (iI pH), .int (iI pN), .int (iI pQ), .int (iI pT), .int (iI pB), .int (iI pX), .int (iI pY), .int (iI pM), .int (iI pU)]))]) (hT.2.2.2.1 (M 2 la) (by omega) (by omega)).1
          refine x_get (ci := 0) (C := RX0) (T := TX0) (N := 4) (v := .int (iI (T 1 (M 2 la) 0 0))) B k_51 hk_51 rfl in_X0 0 (by decide) mw_1170 (fun _ h9 => h9) rfl dX3_costsOfParting_102 ?_
          have z_52 : 0 ≤ T 1 (M 2 la) 0 0 ∧ T 1 (M 2 la) 0 0 ≤ 6 := TK_kind hK (M 2 la)
          refine lv_if_ne (tgt := 161) hx hb dX3_costsOfParting_105 (by decide) (fun c_53 => ?_) (fun c_53 => ?_)
          · have zc_53 : (T 1 (M 2 la) 0 0) ≠ 0 := jne (a := (T 1 (M 2 la) 0 0)) (b := 0) (by omega) (by omega) c_53
            refine lv_aload_n hx hb dX3_costsOfParting_161 rfl (lv_at hl 2 rfl) ?_
            obtain ⟨k_54, hk_54⟩ := pk_at (hs := [(pg, .inr (3, [.ref (A 50 0 0), .ref (Aw 20), .int (iI pR), .int (iI pC), .int (iI pW), .int (iI pL), .int (iI pH), .int (iI pN), .int (iI pQ), .int (iI pT), .int (iI pB), .int (iI pX), .int (iI pY), .int (iI pM), .int (iI pU)]))]) (hT.2.2.2.1 (M 2 la) (by omega) (by omega)).1
            refine x_get (ci := 0) (C := RX0) (T := TX0) (N := 4) (v := .int (iI (T 1 (M 2 la) 0 0))) B k_54 hk_54 rfl in_X0 0 (by decide) mw_1170 (fun _ h9 => h9) rfl dX3_costsOfParting_162 ?_
            have z_55 : 0 ≤ T 1 (M 2 la) 0 0 ∧ T 1 (M 2 la) 0 0 ≤ 6 := TK_kind hK (M 2 la)
            refine lv_iconst (v := iI 3) hx hb dX3_costsOfParting_165 (by decide) ?_
            refine lv_icmp_ne (tgt := 174) hx hb dX3_costsOfParting_166 (by decide) (fun c_56 => ?_) (fun c_56 => ?_)
            · have zc_56 : (T 1 (M 2 la) 0 0) ≠ 3 := jne (a := (T 1 (M 2 la) 0 0)) (b := 3) (by omega) (by omega) c_56
              refine lv_iconst (v := iI 0) hx hb dX3_costsOfParting_174 (by decide) ?_
              have e_57 : (pcZ T M la) = 0 := (by first | (simp only [pcZ, if_pos zc_12, if_neg zc_37, if_neg zc_46, if_neg zc_49, if_neg zc_53, if_neg zc_56]; done) | (simp only [pcZ, if_pos zc_12, if_neg zc_37, if_neg zc_46, if_neg zc_49, if_neg zc_53, if_neg zc_56]; omega) | (simp only [pcZ]; (repeat' split) <;> first | omega | rfl))
              skip
              exact k_iret B hr (⟨(pcZ_in T M la), (by rw [e_57]), rfl, rfl, rfl⟩) ⟨Nat.le_of_ble_eq_true rfl, Nat.le_of_ble_eq_true rfl⟩ ⟨Nat.le_of_ble_eq_true rfl, Nat.le_of_ble_eq_true rfl⟩ dX3_costsOfParting_175
            · have zc_56 : (T 1 (M 2 la) 0 0) = 3 := jeq (a := (T 1 (M 2 la) 0 0)) (b := 3) (by omega) (by omega) c_56
              refine lv_bipush (v := iI 100) hx hb dX3_costsOfParting_169 (by decide) ?_
              refine lv_goto (tgt := 175) hx hb dX3_costsOfParting_171 (by decide) ?_
              have e_58 : (pcZ T M la) = 100 := (by first | (simp only [pcZ, if_pos zc_12, if_neg zc_37, if_neg zc_46, if_neg zc_49, if_neg zc_53, if_pos zc_56]; done) | (simp only [pcZ, if_pos zc_12, if_neg zc_37, if_neg zc_46, if_neg zc_49, if_neg zc_53, if_pos zc_56]; omega) | (simp only [pcZ]; (repeat' split) <;> first | omega | rfl))
              skip
              exact k_iret B hr (⟨(pcZ_in T M la), (by rw [e_58]), rfl, rfl, rfl⟩) ⟨Nat.le_of_ble_eq_true rfl, Nat.le_of_ble_eq_true rfl⟩ ⟨Nat.le_of_ble_eq_true rfl, Nat.le_of_ble_eq_true rfl⟩ dX3_costsOfParting_175
          · have zc_53 : (T 1 (M 2 la) 0 0) = 0 := jeq (a := (T 1 (M 2 la) 0 0)) (b := 0) (by omega) (by omega) c_53
            refine lv_aload_n hx hb dX3_costsOfParting_108 rfl (lv_at hl 4 rfl) ?_
            refine x_get (ci := 3) (C := RX3) (T := TX3) (N := 15) (v := .ref (Aw 20)) B 0 rfl rfl in_X3 1 (by decide) mw_314 (fun _ h9 => h9) rfl dX3_costsOfParting_109 ?_
            obtain ⟨k_59, hk_59⟩ := pk_at (hs := [(pg, .inr (3, [.ref (A 50 0 0), .ref (Aw 20), .int (iI pR), .int (iI pC), .int (iI pW), .int (iI pL), .int (iI pH), .int (iI pN), .int (iI pQ), .int (iI pT), .int (iI pB), .int (iI pX), .int (iI pY), .int (iI pM), .int (iI pU)]))]) (RI_o hR)
            refine x_get (ci := 6) (C := RX6) (T := TX6) (N := 18) (v := .ref (Aw 3)) B k_59 hk_59 rfl in_X6 3 (by decide) mw_232 (fun _ h9 => h9) rfl dX3_costsOfParting_112 ?_
            refine lv_iload_n hx hb dX3_costsOfParting_115 rfl (lv_at hl 5 rfl) ?_
            obtain ⟨k_60, hk_60⟩ := pk_at (hs := [(pg, .inr (3, [.ref (A 50 0 0), .ref (Aw 20), .int (iI pR), .int (iI pC), .int (iI pW), .int (iI pL), .int (iI pH), .int (iI pN), .int (iI pQ), .int (iI pT), .int (iI pB), .int (iI pX), .int (iI pY), .int (iI pM), .int (iI pU)]))]) (RI_3 hR)
            refine x_iald' (f := (V 3)) (z := la) B k_60 hk_60 (by omega) dX3_costsOfParting_116 ?_
            refine lv_seti (y := iI (M 3 la)) (congrArg iI (show (V 3) la = M 3 la from RA_3 (RI_a hR) _ (by omega) (by omega))) ?_
            have z_61 : 0 ≤ M 3 la ∧ M 3 la ≤ 47 := MK_3 hM _
            refine lv_if_ne (tgt := 126) hx hb dX3_costsOfParting_117 (by decide) (fun c_62 => ?_) (fun c_62 => ?_)
            · have zc_62 : (M 3 la) ≠ 0 := jne (a := (M 3 la)) (b := 0) (by omega) (by omega) c_62
              refine lv_iconst (v := iI 0) hx hb dX3_costsOfParting_126 (by decide) ?_
              refine lv_aload_n hx hb dX3_costsOfParting_127 rfl (lv_at hl 4 rfl) ?_
              refine x_get (ci := 3) (C := RX3) (T := TX3) (N := 15) (v := .ref (Aw 20)) B 0 rfl rfl in_X3 1 (by decide) mw_314 (fun _ h9 => h9) rfl dX3_costsOfParting_128 ?_
              obtain ⟨k_63, hk_63⟩ := pk_at (hs := [(pg, .inr (3, [.ref (A 50 0 0), .ref (Aw 20), .int (iI pR), .int (iI pC), .int (iI pW), .int (iI pL), .int (iI pH), .int (iI pN), .int (iI pQ), .int (iI pT), .int (iI pB), .int (iI pX), .int (iI pY), .int (iI pM), .int (iI pU)]))]) (RI_o hR)
              refine x_get (ci := 6) (C := RX6) (T := TX6) (N := 18) (v := .ref (Aw 3)) B k_63 hk_63 rfl in_X6 3 (by decide) mw_232 (fun _ h9 => h9) rfl dX3_costsOfParting_131 ?_
              refine lv_iload_n hx hb dX3_costsOfParting_134 rfl (lv_at hl 5 rfl) ?_
              refine lv_iconst (v := iI 1) hx hb dX3_costsOfParting_135 (by decide) ?_
              refine y_add hx hb dX3_costsOfParting_136 ?_
              obtain ⟨k_64, hk_64⟩ := pk_at (hs := [(pg, .inr (3, [.ref (A 50 0 0), .ref (Aw 20), .int (iI pR), .int (iI pC), .int (iI pW), .int (iI pL), .int (iI pH), .int (iI pN), .int (iI pQ), .int (iI pT), .int (iI pB), .int (iI pX), .int (iI pY), .int (iI pM), .int (iI pU)]))]) (RI_3 hR)
              refine x_iald' (f := (V 3)) (z := (la + 1)) B k_64 hk_64 (by omega) dX3_costsOfParting_137 ?_
              refine lv_seti (y := iI (M 3 (la + 1))) (congrArg iI (show (V 3) (la + 1) = M 3 (la + 1) from RA_3 (RI_a hR) _ (by omega) (by omega))) ?_
              have z_65 : 0 ≤ M 3 (la + 1) ∧ M 3 (la + 1) ≤ 47 := MK_3 hM _
              refine lv_aload_n hx hb dX3_costsOfParting_138 rfl (lv_at hl 4 rfl) ?_
              refine x_get (ci := 3) (C := RX3) (T := TX3) (N := 15) (v := .ref (Aw 20)) B 0 rfl rfl in_X3 1 (by decide) mw_314 (fun _ h9 => h9) rfl dX3_costsOfParting_139 ?_
              obtain ⟨k_66, hk_66⟩ := pk_at (hs := [(pg, .inr (3, [.ref (A 50 0 0), .ref (Aw 20), .int (iI pR), .int (iI pC), .int (iI pW), .int (iI pL), .int (iI pH), .int (iI pN), .int (iI pQ), .int (iI pT), .int (iI pB), .int (iI pX), .int (iI pY), .int (iI pM), .int (iI pU)]))]) (RI_o hR)
              refine x_get (ci := 6) (C := RX6) (T := TX6) (N := 18) (v := .ref (Aw 8)) B k_66 hk_66 rfl in_X6 8 (by decide) mw_244 (fun _ h9 => h9) rfl dX3_costsOfParting_142 ?_
              refine lv_iload_n hx hb dX3_costsOfParting_145 rfl (lv_at hl 3 rfl) ?_
              obtain ⟨k_67, hk_67⟩ := pk_at (hs := [(pg, .inr (3, [.ref (A 50 0 0), .ref (Aw 20), .int (iI pR), .int (iI pC), .int (iI pW), .int (iI pL), .int (iI pH), .int (iI pN), .int (iI pQ), .int (iI pT), .int (iI pB), .int (iI pX), .int (iI pY), .int (iI pM), .int (iI pU)]))]) (RI_8 hR)
              refine x_iald' (f := (V 8)) (z := (M 2 la)) B k_67 hk_67 (by omega) dX3_costsOfParting_146 ?_
              refine lv_seti (y := iI (M 8 (M 2 la))) (congrArg iI (show (V 8) (M 2 la) = M 8 (M 2 la) from RA_8 (RI_a hR) _ (by omega) (by omega))) ?_
              have z_68 : 0 ≤ M 8 (M 2 la) ∧ M 8 (M 2 la) ≤ 48 := MK_8 hM _
              refine lv_iconst (v := iI 1) hx hb dX3_costsOfParting_147 (by decide) ?_
              refine y_sub hx hb dX3_costsOfParting_148 ?_
              refine lv_icmp_ne (tgt := 158) hx hb dX3_costsOfParting_149 (by decide) (fun c_69 => ?_) (fun c_69 => ?_)
              · have zc_69 : (M 3 (la + 1)) ≠ ((M 8 (M 2 la)) - 1) := jne (a := (M 3 (la + 1))) (b := ((M 8 (M 2 la)) - 1)) (by omega) (by omega) c_69
                refine lv_iconst (v := iI 0) hx hb dX3_costsOfParting_158 (by decide) ?_
                refine lv_iadd hx hb dX3_costsOfParting_159 ?_
                refine lv_seti (y := iI 0) (by decide) ?_
                have e_70 : (pcZ T M la) = 0 := (by first | (simp only [pcZ, if_pos zc_12, if_neg zc_37, if_neg zc_46, if_neg zc_49, if_pos zc_53, if_neg zc_62, if_neg zc_69]; done) | (simp only [pcZ, if_pos zc_12, if_neg zc_37, if_neg zc_46, if_neg zc_49, if_pos zc_53, if_neg zc_62, if_neg zc_69]; omega) | (simp only [pcZ]; (repeat' split) <;> first | omega | rfl))
                skip
                exact k_iret B hr (⟨(pcZ_in T M la), (by rw [e_70]), rfl, rfl, rfl⟩) ⟨Nat.le_of_ble_eq_true rfl, Nat.le_of_ble_eq_true rfl⟩ ⟨Nat.le_of_ble_eq_true rfl, Nat.le_of_ble_eq_true rfl⟩ dX3_costsOfParting_160
              · have zc_69 : (M 3 (la + 1)) = ((M 8 (M 2 la)) - 1) := jeq (a := (M 3 (la + 1))) (b := ((M 8 (M 2 la)) - 1)) (by omega) (by omega) c_69
                refine lv_sipush (v := iI 150) hx hb dX3_costsOfParting_152 (by decide) ?_
                refine lv_goto (tgt := 159) hx hb dX3_costsOfParting_155 (by decide) ?_
                refine lv_iadd hx hb dX3_costsOfParting_159 ?_
                refine lv_seti (y := iI 150) (by decide) ?_
                have e_71 : (pcZ T M la) = 150 := (by first | (simp only [pcZ, if_pos zc_12, if_neg zc_37, if_neg zc_46, if_neg zc_49, if_pos zc_53, if_neg zc_62, if_pos zc_69]; done) | (simp only [pcZ, if_pos zc_12, if_neg zc_37, if_neg zc_46, if_neg zc_49, if_pos zc_53, if_neg zc_62, if_pos zc_69]; omega) | (simp only [pcZ]; (repeat' split) <;> first | omega | rfl))
                skip
                exact k_iret B hr (⟨(pcZ_in T M la), (by rw [e_71]), rfl, rfl, rfl⟩) ⟨Nat.le_of_ble_eq_true rfl, Nat.le_of_ble_eq_true rfl⟩ ⟨Nat.le_of_ble_eq_true rfl, Nat.le_of_ble_eq_true rfl⟩ dX3_costsOfParting_160
            · have zc_62 : (M 3 la) = 0 := jeq (a := (M 3 la)) (b := 0) (by omega) (by omega) c_62
              refine lv_sipush (v := iI 150) hx hb dX3_costsOfParting_120 (by decide) ?_
              refine lv_goto (tgt := 127) hx hb dX3_costsOfParting_123 (by decide) ?_
              refine lv_aload_n hx hb dX3_costsOfParting_127 rfl (lv_at hl 4 rfl) ?_
              refine x_get (ci := 3) (C := RX3) (T := TX3) (N := 15) (v := .ref (Aw 20)) B 0 rfl rfl in_X3 1 (by decide) mw_314 (fun _ h9 => h9) rfl dX3_costsOfParting_128 ?_
              obtain ⟨k_72, hk_72⟩ := pk_at (hs := [(pg, .inr (3, [.ref (A 50 0 0), .ref (Aw 20), .int (iI pR), .int (iI pC), .int (iI pW), .int (iI pL), .int (iI pH), .int (iI pN), .int (iI pQ), .int (iI pT), .int (iI pB), .int (iI pX), .int (iI pY), .int (iI pM), .int (iI pU)]))]) (RI_o hR)
              refine x_get (ci := 6) (C := RX6) (T := TX6) (N := 18) (v := .ref (Aw 3)) B k_72 hk_72 rfl in_X6 3 (by decide) mw_232 (fun _ h9 => h9) rfl dX3_costsOfParting_131 ?_
              refine lv_iload_n hx hb dX3_costsOfParting_134 rfl (lv_at hl 5 rfl) ?_
              refine lv_iconst (v := iI 1) hx hb dX3_costsOfParting_135 (by decide) ?_
              refine y_add hx hb dX3_costsOfParting_136 ?_
              obtain ⟨k_73, hk_73⟩ := pk_at (hs := [(pg, .inr (3, [.ref (A 50 0 0), .ref (Aw 20), .int (iI pR), .int (iI pC), .int (iI pW), .int (iI pL), .int (iI pH), .int (iI pN), .int (iI pQ), .int (iI pT), .int (iI pB), .int (iI pX), .int (iI pY), .int (iI pM), .int (iI pU)]))]) (RI_3 hR)
              refine x_iald' (f := (V 3)) (z := (la + 1)) B k_73 hk_73 (by omega) dX3_costsOfParting_137 ?_
              refine lv_seti (y := iI (M 3 (la + 1))) (congrArg iI (show (V 3) (la + 1) = M 3 (la + 1) from RA_3 (RI_a hR) _ (by omega) (by omega))) ?_
              have z_74 : 0 ≤ M 3 (la + 1) ∧ M 3 (la + 1) ≤ 47 := MK_3 hM _
              refine lv_aload_n hx hb dX3_costsOfParting_138 rfl (lv_at hl 4 rfl) ?_
              refine x_get (ci := 3) (C := RX3) (T := TX3) (N := 15) (v := .ref (Aw 20)) B 0 rfl rfl in_X3 1 (by decide) mw_314 (fun _ h9 => h9) rfl dX3_costsOfParting_139 ?_
              obtain ⟨k_75, hk_75⟩ := pk_at (hs := [(pg, .inr (3, [.ref (A 50 0 0), .ref (Aw 20), .int (iI pR), .int (iI pC), .int (iI pW), .int (iI pL), .int (iI pH), .int (iI pN), .int (iI pQ), .int (iI pT), .int (iI pB), .int (iI pX), .int (iI pY), .int (iI pM), .int (iI pU)]))]) (RI_o hR)
              refine x_get (ci := 6) (C := RX6) (T := TX6) (N := 18) (v := .ref (Aw 8)) B k_75 hk_75 rfl in_X6 8 (by decide) mw_244 (fun _ h9 => h9) rfl dX3_costsOfParting_142 ?_
              refine lv_iload_n hx hb dX3_costsOfParting_145 rfl (lv_at hl 3 rfl) ?_
              obtain ⟨k_76, hk_76⟩ := pk_at (hs := [(pg, .inr (3, [.ref (A 50 0 0), .ref (Aw 20), .int (iI pR), .int (iI pC), .int (iI pW), .int (iI pL), .int (iI pH), .int (iI pN), .int (iI pQ), .int (iI pT), .int (iI pB), .int (iI pX), .int (iI pY), .int (iI pM), .int (iI pU)]))]) (RI_8 hR)
              refine x_iald' (f := (V 8)) (z := (M 2 la)) B k_76 hk_76 (by omega) dX3_costsOfParting_146 ?_
              refine lv_seti (y := iI (M 8 (M 2 la))) (congrArg iI (show (V 8) (M 2 la) = M 8 (M 2 la) from RA_8 (RI_a hR) _ (by omega) (by omega))) ?_
              have z_77 : 0 ≤ M 8 (M 2 la) ∧ M 8 (M 2 la) ≤ 48 := MK_8 hM _
              refine lv_iconst (v := iI 1) hx hb dX3_costsOfParting_147 (by decide) ?_
              refine y_sub hx hb dX3_costsOfParting_148 ?_
              refine lv_icmp_ne (tgt := 158) hx hb dX3_costsOfParting_149 (by decide) (fun c_78 => ?_) (fun c_78 => ?_)
              · have zc_78 : (M 3 (la + 1)) ≠ ((M 8 (M 2 la)) - 1) := jne (a := (M 3 (la + 1))) (b := ((M 8 (M 2 la)) - 1)) (by omega) (by omega) c_78
                refine lv_iconst (v := iI 0) hx hb dX3_costsOfParting_158 (by decide) ?_
                refine lv_iadd hx hb dX3_costsOfParting_159 ?_
                refine lv_seti (y := iI 150) (by decide) ?_
                have e_79 : (pcZ T M la) = 150 := (by first | (simp only [pcZ, if_pos zc_12, if_neg zc_37, if_neg zc_46, if_neg zc_49, if_pos zc_53, if_pos zc_62, if_neg zc_78]; done) | (simp only [pcZ, if_pos zc_12, if_neg zc_37, if_neg zc_46, if_neg zc_49, if_pos zc_53, if_pos zc_62, if_neg zc_78]; omega) | (simp only [pcZ]; (repeat' split) <;> first | omega | rfl))
                skip
                exact k_iret B hr (⟨(pcZ_in T M la), (by rw [e_79]), rfl, rfl, rfl⟩) ⟨Nat.le_of_ble_eq_true rfl, Nat.le_of_ble_eq_true rfl⟩ ⟨Nat.le_of_ble_eq_true rfl, Nat.le_of_ble_eq_true rfl⟩ dX3_costsOfParting_160
              · have zc_78 : (M 3 (la + 1)) = ((M 8 (M 2 la)) - 1) := jeq (a := (M 3 (la + 1))) (b := ((M 8 (M 2 la)) - 1)) (by omega) (by omega) c_78
                refine lv_sipush (v := iI 150) hx hb dX3_costsOfParting_152 (by decide) ?_
                refine lv_goto (tgt := 159) hx hb dX3_costsOfParting_155 (by decide) ?_
                refine lv_iadd hx hb dX3_costsOfParting_159 ?_
                refine lv_seti (y := iI 300) (by decide) ?_
                have e_80 : (pcZ T M la) = 300 := (by first | (simp only [pcZ, if_pos zc_12, if_neg zc_37, if_neg zc_46, if_neg zc_49, if_pos zc_53, if_pos zc_62, if_pos zc_78]; done) | (simp only [pcZ, if_pos zc_12, if_neg zc_37, if_neg zc_46, if_neg zc_49, if_pos zc_53, if_pos zc_62, if_pos zc_78]; omega) | (simp only [pcZ]; (repeat' split) <;> first | omega | rfl))
                skip
                exact k_iret B hr (⟨(pcZ_in T M la), (by rw [e_80]), rfl, rfl, rfl⟩) ⟨Nat.le_of_ble_eq_true rfl, Nat.le_of_ble_eq_true rfl⟩ ⟨Nat.le_of_ble_eq_true rfl, Nat.le_of_ble_eq_true rfl⟩ dX3_costsOfParting_160
      · have zc_46 : (T 2 (M 2 la) 2 0) = 1 := jeq (a := (T 2 (M 2 la) 2 0)) (b := 1) (by omega) (by omega) c_46
        refine lv_iconst (v := iI 1) hx hb dX3_costsOfParting_65 (by decide) ?_
        refine lv_goto (tgt := 70) hx hb dX3_costsOfParting_66 (by decide) ?_
        refine lv_istore (lv' := [(5, .int (iI 1)), (4, .int (iI 1)), (3, .ref (A 0 (M 2 la) 0)), (2, .int (iI (M 2 la))), (0, .ref pg), (1, .int (iI la))]) hx hb dX3_costsOfParting_70 hl (by decide) rfl (fun ls hl => ?_)
        refine lv_aload_n hx hb dX3_costsOfParting_72 rfl (lv_at hl 2 rfl) ?_
        obtain ⟨k_81, hk_81⟩ := pk_at (hs := [(pg, .inr (3, [.ref (A 50 0 0), .ref (Aw 20), .int (iI pR), .int (iI pC), .int (iI pW), .int (iI pL), .int (iI pH), .int (iI pN), .int (iI pQ), .int (iI pT), .int (iI pB), .int (iI pX), .int (iI pY), .int (iI pM), .int (iI pU)]))]) (hT.2.2.2.1 (M 2 la) (by omega) (by omega)).1
        refine x_get (ci := 0) (C := RX0) (T := TX0) (N := 4) (v := .int (iI (T 1 (M 2 la) 0 0))) B k_81 hk_81 rfl in_X0 0 (by decide) mw_1170 (fun _ h9 => h9) rfl dX3_costsOfParting_73 ?_
        have z_82 : 0 ≤ T 1 (M 2 la) 0 0 ∧ T 1 (M 2 la) 0 0 ≤ 6 := TK_kind hK (M 2 la)
        refine lv_iconst (v := iI 1) hx hb dX3_costsOfParting_76 (by decide) ?_
        refine lv_icmp_eq (tgt := 90) hx hb dX3_costsOfParting_77 (by decide) (fun c_83 => ?_) (fun c_83 => ?_)
        · have zc_83 : (T 1 (M 2 la) 0 0) = 1 := jeq (a := (T 1 (M 2 la) 0 0)) (b := 1) (by omega) (by omega) c_83
          refine lv_sipush (v := iI 10000) hx hb dX3_costsOfParting_90 (by decide) ?_
          have e_84 : (pcZ T M la) = 10000 := (by first | (simp only [pcZ, if_pos zc_12, if_neg zc_37, if_pos zc_46, if_pos zc_83]; done) | (simp only [pcZ, if_pos zc_12, if_neg zc_37, if_pos zc_46, if_pos zc_83]; omega) | (simp only [pcZ]; (repeat' split) <;> first | omega | rfl))
          skip
          exact k_iret B hr (⟨(pcZ_in T M la), (by rw [e_84]), rfl, rfl, rfl⟩) ⟨Nat.le_of_ble_eq_true rfl, Nat.le_of_ble_eq_true rfl⟩ ⟨Nat.le_of_ble_eq_true rfl, Nat.le_of_ble_eq_true rfl⟩ dX3_costsOfParting_93
        · have zc_83 : (T 1 (M 2 la) 0 0) ≠ 1 := jne (a := (T 1 (M 2 la) 0 0)) (b := 1) (by omega) (by omega) c_83
          refine lv_iload hx hb dX3_costsOfParting_80 (lv_at hl 1 rfl) ?_
          refine lv_if_eq (tgt := 94) hx hb dX3_costsOfParting_82 (by decide) (fun c9 => absurd c9 (by decide)) (fun _ => ?_)
          refine lv_iload hx hb dX3_costsOfParting_85 (lv_at hl 0 rfl) ?_
          refine lv_if_eq (tgt := 94) hx hb dX3_costsOfParting_87 (by decide) (fun c9 => absurd c9 (by decide)) (fun _ => ?_)
          refine lv_sipush (v := iI 10000) hx hb dX3_costsOfParting_90 (by decide) ?_
          have e_85 : (pcZ T M la) = 10000 := (by first | (simp only [pcZ, if_pos zc_12, if_neg zc_37, if_pos zc_46, if_neg zc_83]; done) | (simp only [pcZ, if_pos zc_12, if_neg zc_37, if_pos zc_46, if_neg zc_83]; omega) | (simp only [pcZ]; (repeat' split) <;> first | omega | rfl))
          skip
          exact k_iret B hr (⟨(pcZ_in T M la), (by rw [e_85]), rfl, rfl, rfl⟩) ⟨Nat.le_of_ble_eq_true rfl, Nat.le_of_ble_eq_true rfl⟩ ⟨Nat.le_of_ble_eq_true rfl, Nat.le_of_ble_eq_true rfl⟩ dX3_costsOfParting_93

theorem mw_1592 : (Jvm.Cond.methodLink "Galleyforge$Page" (105 : Nat) ({ cls := "Galleyforge$Page", name := "costsOfParting", desc := "(I)I" } : Jvm.MethodName)) ∈ gt := gt_at 1662 (by decide +kernel) (by decide +kernel)
theorem mw_1594 : (Jvm.Cond.instanceMethod ({ cls := "Galleyforge$Page", name := "costsOfParting", desc := "(I)I" } : Jvm.MethodName)) ∈ gt := gt_at 1664 (by decide +kernel) (by decide +kernel)
theorem mw_1595 : (Jvm.Cond.code ({ cls := "Galleyforge$Page", name := "costsOfParting", desc := "(I)I" } : Jvm.MethodName) prog_5_method_10_code (6 : Nat) (Option.some Jvm.ClassFile.FieldType.int)) ∈ gt := gt_at 1665 (by decide +kernel) (by decide +kernel)
theorem ms_49 : Cond.selects "Galleyforge$Page" (⟨"Galleyforge$Page", "costsOfParting", "(I)I"⟩ : MethodName) (⟨"Galleyforge$Page", "costsOfParting", "(I)I"⟩ : MethodName) ∈ gt := gt_at 49 (by decide +kernel) (by decide +kernel)
theorem mV_X3_costsOfParting : mV yX3_costsOfParting cX3_costsOfParting 6 (some .int) 1 := ⟨⟨mw_1595, mw_11, by decide, by decide, by decide +kernel⟩, mw_1594, ms_49⟩
theorem dX3_costs_0 : decode cX3_costs 0 = .ok (.aload_n 0, 1) := by decide +kernel
theorem dX3_costs_1 : decode cX3_costs 1 = .ok (.getfield 19, 3) := by decide +kernel
theorem dX3_costs_4 : decode cX3_costs 4 = .ok (.aload_n 0, 1) := by decide +kernel
theorem dX3_costs_5 : decode cX3_costs 5 = .ok (.getfield 23, 3) := by decide +kernel
theorem dX3_costs_8 : decode cX3_costs 8 = .ok (.iadd, 1) := by decide +kernel
theorem dX3_costs_9 : decode cX3_costs 9 = .ok (.iconst 1, 1) := by decide +kernel
theorem dX3_costs_10 : decode cX3_costs 10 = .ok (.isub, 1) := by decide +kernel
theorem dX3_costs_11 : decode cX3_costs 11 = .ok (.istore_n 1, 1) := by decide +kernel
theorem dX3_costs_12 : decode cX3_costs 12 = .ok (.aload_n 0, 1) := by decide +kernel
theorem dX3_costs_13 : decode cX3_costs 13 = .ok (.getfield 87, 3) := by decide +kernel
theorem dX3_costs_16 : decode cX3_costs 16 = .ok (.ifCond .le 8, 3) := by decide +kernel
theorem dX3_costs_19 : decode cX3_costs 19 = .ok (.bipush 100, 2) := by decide +kernel
theorem dX3_costs_21 : decode cX3_costs 21 = .ok (.goto 4, 3) := by decide +kernel
theorem dX3_costs_24 : decode cX3_costs 24 = .ok (.iconst 0, 1) := by decide +kernel
theorem dX3_costs_25 : decode cX3_costs 25 = .ok (.istore_n 2, 1) := by decide +kernel
theorem dX3_costs_26 : decode cX3_costs 26 = .ok (.aload_n 0, 1) := by decide +kernel
theorem dX3_costs_27 : decode cX3_costs 27 = .ok (.getfield 90, 3) := by decide +kernel
theorem dX3_costs_30 : decode cX3_costs 30 = .ok (.aload_n 0, 1) := by decide +kernel
theorem dX3_costs_31 : decode cX3_costs 31 = .ok (.getfield 9, 3) := by decide +kernel
theorem dX3_costs_34 : decode cX3_costs 34 = .ok (.getfield 64, 3) := by decide +kernel
theorem dX3_costs_37 : decode cX3_costs 37 = .ok (.if_icmp .le 21, 3) := by decide +kernel
theorem dX3_costs_40 : decode cX3_costs 40 = .ok (.iload_n 2, 1) := by decide +kernel
theorem dX3_costs_41 : decode cX3_costs 41 = .ok (.bipush 100, 2) := by decide +kernel
theorem dX3_costs_43 : decode cX3_costs 43 = .ok (.aload_n 0, 1) := by decide +kernel
theorem dX3_costs_44 : decode cX3_costs 44 = .ok (.getfield 90, 3) := by decide +kernel
theorem dX3_costs_47 : decode cX3_costs 47 = .ok (.aload_n 0, 1) := by decide +kernel
theorem dX3_costs_48 : decode cX3_costs 48 = .ok (.getfield 9, 3) := by decide +kernel
theorem dX3_costs_51 : decode cX3_costs 51 = .ok (.getfield 64, 3) := by decide +kernel
theorem dX3_costs_54 : decode cX3_costs 54 = .ok (.isub, 1) := by decide +kernel
theorem dX3_costs_55 : decode cX3_costs 55 = .ok (.imul, 1) := by decide +kernel
theorem dX3_costs_56 : decode cX3_costs 56 = .ok (.iadd, 1) := by decide +kernel
theorem dX3_costs_57 : decode cX3_costs 57 = .ok (.istore_n 2, 1) := by decide +kernel
theorem dX3_costs_58 : decode cX3_costs 58 = .ok (.iload_n 1, 1) := by decide +kernel
theorem dX3_costs_59 : decode cX3_costs 59 = .ok (.ifCond .lt 28, 3) := by decide +kernel
theorem dX3_costs_62 : decode cX3_costs 62 = .ok (.iload_n 1, 1) := by decide +kernel
theorem dX3_costs_63 : decode cX3_costs 63 = .ok (.iconst 1, 1) := by decide +kernel
theorem dX3_costs_64 : decode cX3_costs 64 = .ok (.iadd, 1) := by decide +kernel
theorem dX3_costs_65 : decode cX3_costs 65 = .ok (.aload_n 0, 1) := by decide +kernel
theorem dX3_costs_66 : decode cX3_costs 66 = .ok (.getfield 15, 3) := by decide +kernel
theorem dX3_costs_69 : decode cX3_costs 69 = .ok (.getfield 65, 3) := by decide +kernel
theorem dX3_costs_72 : decode cX3_costs 72 = .ok (.if_icmp .ge 15, 3) := by decide +kernel
theorem dX3_costs_75 : decode cX3_costs 75 = .ok (.aload_n 0, 1) := by decide +kernel
theorem dX3_costs_76 : decode cX3_costs 76 = .ok (.getfield 15, 3) := by decide +kernel
theorem dX3_costs_79 : decode cX3_costs 79 = .ok (.getfield 66, 3) := by decide +kernel
theorem dX3_costs_82 : decode cX3_costs 82 = .ok (.iload_n 1, 1) := by decide +kernel
theorem dX3_costs_83 : decode cX3_costs 83 = .ok (.baload, 1) := by decide +kernel
theorem dX3_costs_84 : decode cX3_costs 84 = .ok (.ifCond .eq 5, 3) := by decide +kernel
theorem dX3_costs_87 : decode cX3_costs 87 = .ok (.iload_n 2, 1) := by decide +kernel
theorem dX3_costs_88 : decode cX3_costs 88 = .ok (.ireturn, 1) := by decide +kernel
theorem dX3_costs_89 : decode cX3_costs 89 = .ok (.aload_n 0, 1) := by decide +kernel
theorem dX3_costs_90 : decode cX3_costs 90 = .ok (.getfield 90, 3) := by decide +kernel
theorem dX3_costs_93 : decode cX3_costs 93 = .ok (.aload_n 0, 1) := by decide +kernel
theorem dX3_costs_94 : decode cX3_costs 94 = .ok (.getfield 9, 3) := by decide +kernel
theorem dX3_costs_97 : decode cX3_costs 97 = .ok (.getfield 64, 3) := by decide +kernel
theorem dX3_costs_100 : decode cX3_costs 100 = .ok (.if_icmp .ge 31, 3) := by decide +kernel
theorem dX3_costs_103 : decode cX3_costs 103 = .ok (.iload_n 2, 1) := by decide +kernel
theorem dX3_costs_104 : decode cX3_costs 104 = .ok (.aload_n 0, 1) := by decide +kernel
theorem dX3_costs_105 : decode cX3_costs 105 = .ok (.getfield 9, 3) := by decide +kernel
theorem dX3_costs_108 : decode cX3_costs 108 = .ok (.getfield 64, 3) := by decide +kernel
theorem dX3_costs_111 : decode cX3_costs 111 = .ok (.aload_n 0, 1) := by decide +kernel
theorem dX3_costs_112 : decode cX3_costs 112 = .ok (.getfield 90, 3) := by decide +kernel
theorem dX3_costs_115 : decode cX3_costs 115 = .ok (.isub, 1) := by decide +kernel
theorem dX3_costs_116 : decode cX3_costs 116 = .ok (.aload_n 0, 1) := by decide +kernel
theorem dX3_costs_117 : decode cX3_costs 117 = .ok (.getfield 9, 3) := by decide +kernel
theorem dX3_costs_120 : decode cX3_costs 120 = .ok (.getfield 64, 3) := by decide +kernel
theorem dX3_costs_123 : decode cX3_costs 123 = .ok (.aload_n 0, 1) := by decide +kernel
theorem dX3_costs_124 : decode cX3_costs 124 = .ok (.getfield 90, 3) := by decide +kernel
theorem dX3_costs_127 : decode cX3_costs 127 = .ok (.isub, 1) := by decide +kernel
theorem dX3_costs_128 : decode cX3_costs 128 = .ok (.imul, 1) := by decide +kernel
theorem dX3_costs_129 : decode cX3_costs 129 = .ok (.iadd, 1) := by decide +kernel
theorem dX3_costs_130 : decode cX3_costs 130 = .ok (.istore_n 2, 1) := by decide +kernel
theorem dX3_costs_131 : decode cX3_costs 131 = .ok (.iload_n 2, 1) := by decide +kernel
theorem dX3_costs_132 : decode cX3_costs 132 = .ok (.aload_n 0, 1) := by decide +kernel
theorem dX3_costs_133 : decode cX3_costs 133 = .ok (.iload_n 1, 1) := by decide +kernel
theorem dX3_costs_134 : decode cX3_costs 134 = .ok (.invokevirtual 105, 3) := by decide +kernel
theorem dX3_costs_137 : decode cX3_costs 137 = .ok (.iadd, 1) := by decide +kernel
theorem dX3_costs_138 : decode cX3_costs 138 = .ok (.ireturn, 1) := by decide +kernel
set_option maxHeartbeats 4000000 in
set_option maxRecDepth 100000 in
theorem k_costs (l : Launch) (dC : Nat → ClassId) (dI : Nat → Nat → Nat) (k : Nat → ClassId) (pg : Nat) (pR : Int) (pC : Int) (pW : Int) (pL : Int) (pH : Int) (pN : Int) (pQ : Int) (pT : Int) (pB : Int) (pX : Int) (pY : Int) (pM : Int) (pU : Int) (T : Nat → Int → Int → Int → Int) (A : Nat → Int → Int → Nat) (X : Nat → Int → Int → Int) (tl : va_W) (M : Nat → Int → Int) (V : Nat → Int → Int) (Aw : Nat → Nat) (hT : TI dI k T A X tl) (hK : TK T) (hR : RI k (T 0 0 0 0) M V Aw tl) (hM : MK M) (hMT : ∀ j, 0 ≤ j → j < M 0 0 → M 2 j < T 0 0 0 0) (h1 : 0 ≤ pH ∧ pH < 1000000) (h2 : 0 ≤ pC ∧ pC ≤ 768 ∧ 0 ≤ pR ∧ pR + pC ≤ 768) (h3 : 0 ≤ pN ∧ pN < 1000000 ∧ 0 ≤ pL ∧ pL < 1000000 ∧ 0 ≤ pQ ∧ pQ ≤ 5) (h4 : 0 ≤ pY ∧ pY < 1000000 ∧ 0 ≤ pU ∧ pU ≤ 10000) : Kn l dC dI k yX3_costs (.code yX3_costs cX3_costs 3 (some .int)) ({ frames := 4, cells := 0, slots := 0, locals := 89 } : Room) [.ref pg] ([(pg, .inr (3, [.ref (A 50 0 0), .ref (Aw 20), .int (iI pR), .int (iI pC), .int (iI pW), .int (iI pL), .int (iI pH), .int (iI pN), .int (iI pQ), .int (iI pT), .int (iI pB), .int (iI pX), .int (iI pY), .int (iI pM), .int (iI pU)]))] ++ tl) (fun r w gc gs => ((0 ≤ (csZ T M ((pR + pC) - 1) pU pY) ∧ (csZ T M ((pR + pC) - 1) pU pY) ≤ 11700 + 100 * pU) ∧ r = some (.int (iI (csZ T M ((pR + pC) - 1) pU pY))) ∧ w = ([(pg, .inr (3, [.ref (A 50 0 0), .ref (Aw 20), .int (iI pR), .int (iI pC), .int (iI pW), .int (iI pL), .int (iI pH), .int (iI pN), .int (iI pQ), .int (iI pT), .int (iI pB), .int (iI pX), .int (iI pY), .int (iI pM), .int (iI pU)]))] ++ tl) ∧ gc = 0 ∧ gs = 0)) := by
  refine kn_of (by decide) (Nat.le_of_ble_eq_true rfl) ?_
  intro p e s m args below meth c H locs B hr hnm ls hl
  have hx := B.1.1
  have hb := B.1.2.1
  have hl : lv_has ls 3 [(0, .ref pg)] := hl
  have hn0 := MK_cnt hM
  have hf0 := MK_17 hM
  refine lv_aload_n hx hb dX3_costs_0 rfl (lv_at hl 0 rfl) ?_
  refine x_get (ci := 3) (C := RX3) (T := TX3) (N := 15) (v := .int (iI pR)) B 0 rfl rfl in_X3 2 (by decide) mw_315 (fun _ h9 => h9) rfl dX3_costs_1 ?_
  refine lv_aload_n hx hb dX3_costs_4 rfl (lv_at hl 0 rfl) ?_
  refine x_get (ci := 3) (C := RX3) (T := TX3) (N := 15) (v := .int (iI pC)) B 0 rfl rfl in_X3 3 (by decide) mw_316 (fun _ h9 => h9) rfl dX3_costs_5 ?_
  refine y_add hx hb dX3_costs_8 ?_
  refine lv_iconst (v := iI 1) hx hb dX3_costs_9 (by decide) ?_
  refine y_sub hx hb dX3_costs_10 ?_
  refine lv_istore_n (lv' := [(1, .int (iI ((pR + pC) - 1))), (0, .ref pg)]) hx hb dX3_costs_11 rfl hl (by decide) rfl (fun ls hl => ?_)
  refine lv_aload_n hx hb dX3_costs_12 rfl (lv_at hl 1 rfl) ?_
  refine x_get (ci := 3) (C := RX3) (T := TX3) (N := 15) (v := .int (iI pY)) B 0 rfl rfl in_X3 12 (by decide) mw_329 (fun _ h9 => h9) rfl dX3_costs_13 ?_
  refine lv_if_le (tgt := 24) hx hb dX3_costs_16 (by decide) (fun c_1 => ?_) (fun c_1 => ?_)
  · have zc_1 : pY ≤ 0 := jle (a := pY) (b := 0) (by omega) (by omega) c_1
    refine lv_iconst (v := iI 0) hx hb dX3_costs_24 (by decide) ?_
    refine lv_istore_n (lv' := [(2, .int (iI 0)), (1, .int (iI ((pR + pC) - 1))), (0, .ref pg)]) hx hb dX3_costs_25 rfl hl (by decide) rfl (fun ls hl => ?_)
    refine lv_aload_n hx hb dX3_costs_26 rfl (lv_at hl 2 rfl) ?_
    refine x_get (ci := 3) (C := RX3) (T := TX3) (N := 15) (v := .int (iI pU)) B 0 rfl rfl in_X3 14 (by decide) mw_332 (fun _ h9 => h9) rfl dX3_costs_27 ?_
    refine lv_aload_n hx hb dX3_costs_30 rfl (lv_at hl 2 rfl) ?_
    refine x_get (ci := 3) (C := RX3) (T := TX3) (N := 15) (v := .ref (A 50 0 0)) B 0 rfl rfl in_X3 0 (by decide) mw_313 (fun _ h9 => h9) rfl dX3_costs_31 ?_
    obtain ⟨k_2, hk_2⟩ := pk_at (hs := [(pg, .inr (3, [.ref (A 50 0 0), .ref (Aw 20), .int (iI pR), .int (iI pC), .int (iI pW), .int (iI pL), .int (iI pH), .int (iI pN), .int (iI pQ), .int (iI pT), .int (iI pB), .int (iI pX), .int (iI pY), .int (iI pM), .int (iI pU)]))]) hT.1.1
    refine x_get (ci := 9) (C := RX9) (T := TX9) (N := 8) (v := .int (iI (T 17 0 0 0))) B k_2 hk_2 rfl in_X9 7 (by decide) mw_99 (fun _ h9 => h9) rfl dX3_costs_34 ?_
    have z_3 : 6 ≤ T 17 0 0 0 ∧ T 17 0 0 0 ≤ 40 := TK_hei hK
    refine lv_icmp_le (tgt := 58) hx hb dX3_costs_37 (by decide) (fun c_4 => ?_) (fun c_4 => ?_)
    · have zc_4 : pU ≤ (T 17 0 0 0) := jle (a := pU) (b := (T 17 0 0 0)) (by omega) (by omega) c_4
      refine lv_iload_n hx hb dX3_costs_58 rfl (lv_at hl 1 rfl) ?_
      refine lv_if_lt (tgt := 87) hx hb dX3_costs_59 (by decide) (fun c_5 => ?_) (fun c_5 => ?_)
      · have zc_5 : ((pR + pC) - 1) < 0 := jlt (a := ((pR + pC) - 1)) (b := 0) (by omega) (by omega) c_5
        refine lv_iload_n hx hb dX3_costs_87 rfl (lv_at hl 0 rfl) ?_
        have e_6 : (csZ T M ((pR + pC) - 1) pU pY) = 0 := (by first | (simp only [csZ, if_pos zc_1, if_neg (Int.not_lt.mpr zc_1), if_pos zc_4, if_neg (Int.not_lt.mpr zc_4), if_pos zc_5, if_neg (Int.not_le.mpr zc_5)]; done) | (simp only [csZ, if_pos zc_1, if_neg (Int.not_lt.mpr zc_1), if_pos zc_4, if_neg (Int.not_lt.mpr zc_4), if_pos zc_5, if_neg (Int.not_le.mpr zc_5)]; omega) | (simp only [csZ]; (repeat' split) <;> first | omega | rfl))
        skip
        exact k_iret B hr (⟨(csZ_in hK (by omega)), (by rw [e_6]), rfl, rfl, rfl⟩) ⟨Nat.le_of_ble_eq_true rfl, Nat.le_of_ble_eq_true rfl⟩ ⟨Nat.le_of_ble_eq_true rfl, Nat.le_of_ble_eq_true rfl⟩ dX3_costs_88
      · have zc_5 : 0 ≤ ((pR + pC) - 1) := jnlt (a := ((pR + pC) - 1)) (b := 0) (by omega) (by omega) c_5
        refine lv_iload_n hx hb dX3_costs_62 rfl (lv_at hl 1 rfl) ?_
        refine lv_iconst (v := iI 1) hx hb dX3_costs_63 (by decide) ?_
        refine y_add hx hb dX3_costs_64 ?_
        refine lv_aload_n hx hb dX3_costs_65 rfl (lv_at hl 2 rfl) ?_
        refine x_get (ci := 3) (C := RX3) (T := TX3) (N := 15) (v := .ref (Aw 20)) B 0 rfl rfl in_X3 1 (by decide) mw_314 (fun _ h9 => h9) rfl dX3_costs_66 ?_
        obtain ⟨k_7, hk_7⟩ := pk_at (hs := [(pg, .inr (3, [.ref (A 50 0 0), .ref (Aw 20), .int (iI pR), .int (iI pC), .int (iI pW), .int (iI pL), .int (iI pH), .int (iI pN), .int (iI pQ), .int (iI pT), .int (iI pB), .int (iI pX), .int (iI pY), .int (iI pM), .int (iI pU)]))]) (RI_o hR)
        refine x_get (ci := 6) (C := RX6) (T := TX6) (N := 18) (v := .int (iI (M 0 0))) B k_7 hk_7 rfl in_X6 0 (by decide) mw_225 (fun _ h9 => h9) rfl dX3_costs_69 ?_
        refine lv_icmp_ge (tgt := 87) hx hb dX3_costs_72 (by decide) (fun c_8 => ?_) (fun c_8 => ?_)
        · have zc_8 : (M 0 0) ≤ (((pR + pC) - 1) + 1) := jle (a := (M 0 0)) (b := (((pR + pC) - 1) + 1)) (by omega) (by omega) c_8
          refine lv_iload_n hx hb dX3_costs_87 rfl (lv_at hl 0 rfl) ?_
          have e_9 : (csZ T M ((pR + pC) - 1) pU pY) = 0 := (by first | (simp only [csZ, if_pos zc_1, if_neg (Int.not_lt.mpr zc_1), if_pos zc_4, if_neg (Int.not_lt.mpr zc_4), if_pos zc_5, if_neg (Int.not_lt.mpr zc_5), if_pos zc_8, if_neg (Int.not_lt.mpr zc_8)]; done) | (simp only [csZ, if_pos zc_1, if_neg (Int.not_lt.mpr zc_1), if_pos zc_4, if_neg (Int.not_lt.mpr zc_4), if_pos zc_5, if_neg (Int.not_lt.mpr zc_5), if_pos zc_8, if_neg (Int.not_lt.mpr zc_8)]; omega) | (simp only [csZ]; (repeat' split) <;> first | omega | rfl))
          skip
          exact k_iret B hr (⟨(csZ_in hK (by omega)), (by rw [e_9]), rfl, rfl, rfl⟩) ⟨Nat.le_of_ble_eq_true rfl, Nat.le_of_ble_eq_true rfl⟩ ⟨Nat.le_of_ble_eq_true rfl, Nat.le_of_ble_eq_true rfl⟩ dX3_costs_88
        · have zc_8 : (((pR + pC) - 1) + 1) < (M 0 0) := jnle (a := (M 0 0)) (b := (((pR + pC) - 1) + 1)) (by omega) (by omega) c_8
          refine lv_aload_n hx hb dX3_costs_75 rfl (lv_at hl 2 rfl) ?_
          refine x_get (ci := 3) (C := RX3) (T := TX3) (N := 15) (v := .ref (Aw 20)) B 0 rfl rfl in_X3 1 (by decide) mw_314 (fun _ h9 => h9) rfl dX3_costs_76 ?_
          obtain ⟨k_10, hk_10⟩ := pk_at (hs := [(pg, .inr (3, [.ref (A 50 0 0), .ref (Aw 20), .int (iI pR), .int (iI pC), .int (iI pW), .int (iI pL), .int (iI pH), .int (iI pN), .int (iI pQ), .int (iI pT), .int (iI pB), .int (iI pX), .int (iI pY), .int (iI pM), .int (iI pU)]))]) (RI_o hR)
          refine x_get (ci := 6) (C := RX6) (T := TX6) (N := 18) (v := .ref (Aw 6)) B k_10 hk_10 rfl in_X6 6 (by decide) mw_239 (fun _ h9 => h9) rfl dX3_costs_79 ?_
          refine lv_iload_n hx hb dX3_costs_82 rfl (lv_at hl 1 rfl) ?_
          obtain ⟨k_11, hk_11⟩ := pk_at (hs := [(pg, .inr (3, [.ref (A 50 0 0), .ref (Aw 20), .int (iI pR), .int (iI pC), .int (iI pW), .int (iI pL), .int (iI pH), .int (iI pN), .int (iI pQ), .int (iI pT), .int (iI pB), .int (iI pX), .int (iI pY), .int (iI pM), .int (iI pU)]))]) (RI_6 hR)
          refine x_zald' (f := (V 6)) (z := ((pR + pC) - 1)) B k_11 hk_11 (by omega) dX3_costs_83 ?_
          refine lv_seti (y := iI (M 6 ((pR + pC) - 1))) (congrArg iI (show (V 6) ((pR + pC) - 1) = M 6 ((pR + pC) - 1) from RA_6 (RI_a hR) _ (by omega) (by omega))) ?_
          have z_12 : 0 ≤ M 6 ((pR + pC) - 1) ∧ M 6 ((pR + pC) - 1) ≤ 1 := MK_6 hM _
          refine lv_if_eq (tgt := 89) hx hb dX3_costs_84 (by decide) (fun c_13 => ?_) (fun c_13 => ?_)
          · have zc_13 : (M 6 ((pR + pC) - 1)) = 0 := jeq (a := (M 6 ((pR + pC) - 1))) (b := 0) (by omega) (by omega) c_13
            refine lv_aload_n hx hb dX3_costs_89 rfl (lv_at hl 2 rfl) ?_
            refine x_get (ci := 3) (C := RX3) (T := TX3) (N := 15) (v := .int (iI pU)) B 0 rfl rfl in_X3 14 (by decide) mw_332 (fun _ h9 => h9) rfl dX3_costs_90 ?_
            refine lv_aload_n hx hb dX3_costs_93 rfl (lv_at hl 2 rfl) ?_
            refine x_get (ci := 3) (C := RX3) (T := TX3) (N := 15) (v := .ref (A 50 0 0)) B 0 rfl rfl in_X3 0 (by decide) mw_313 (fun _ h9 => h9) rfl dX3_costs_94 ?_
            obtain ⟨k_14, hk_14⟩ := pk_at (hs := [(pg, .inr (3, [.ref (A 50 0 0), .ref (Aw 20), .int (iI pR), .int (iI pC), .int (iI pW), .int (iI pL), .int (iI pH), .int (iI pN), .int (iI pQ), .int (iI pT), .int (iI pB), .int (iI pX), .int (iI pY), .int (iI pM), .int (iI pU)]))]) hT.1.1
            refine x_get (ci := 9) (C := RX9) (T := TX9) (N := 8) (v := .int (iI (T 17 0 0 0))) B k_14 hk_14 rfl in_X9 7 (by decide) mw_99 (fun _ h9 => h9) rfl dX3_costs_97 ?_
            have z_15 : 6 ≤ T 17 0 0 0 ∧ T 17 0 0 0 ≤ 40 := TK_hei hK
            refine lv_icmp_ge (tgt := 131) hx hb dX3_costs_100 (by decide) (fun c_16 => ?_) (fun c_16 => ?_)
            · have zc_16 : (T 17 0 0 0) ≤ pU := jle (a := (T 17 0 0 0)) (b := pU) (by omega) (by omega) c_16
              refine lv_iload_n hx hb dX3_costs_131 rfl (lv_at hl 0 rfl) ?_
              refine lv_aload_n hx hb dX3_costs_132 rfl (lv_at hl 2 rfl) ?_
              refine lv_iload_n hx hb dX3_costs_133 rfl (lv_at hl 1 rfl) ?_
              have B := bd_swap (a := [(pg, .inr (3, [.ref (A 50 0 0), .ref (Aw 20), .int (iI pR), .int (iI pC), .int (iI pW), .int (iI pL), .int (iI pH), .int (iI pN), .int (iI pQ), .int (iI pT), .int (iI pB), .int (iI pX), .int (iI pY), .int (iI pM), .int (iI pU)]))]) (b := []) (d := tl) (bd_to rfl B)
              refine k_V (rest := [.int (iI 0)]) (wc := ([(pg, .inr (3, [.ref (A 50 0 0), .ref (Aw 20), .int (iI pR), .int (iI pC), .int (iI pW), .int (iI pL), .int (iI pH), .int (iI pN), .int (iI pQ), .int (iI pT), .int (iI pB), .int (iI pX), .int (iI pY), .int (iI pM), .int (iI pU)]))] ++ tl)) (wr := []) (k_parting l dC dI k pg pR pC pW pL pH pN pQ pT pB pX pY pM pU T A X tl M V Aw ((pR + pC) - 1) hT hK hR hM hMT (by omega)) B mV_X3_costsOfParting mw_1592 hl (q0 := 0) rfl rfl rfl ⟨Nat.le_of_ble_eq_true rfl, Nat.le_of_ble_eq_true rfl⟩ (Nat.le_of_ble_eq_true rfl) rfl dX3_costs_134 ⟨Nat.le_of_ble_eq_true rfl, Nat.le_of_ble_eq_true rfl⟩ (fun r w gc gs H locs hp B => ?_)
              obtain ⟨z_17, rfl, hw9, rfl, rfl⟩ := hp
              rw [hw9] at B; clear hw9
              have B := bd_to (ws' := ([(pg, .inr (3, [.ref (A 50 0 0), .ref (Aw 20), .int (iI pR), .int (iI pC), .int (iI pW), .int (iI pL), .int (iI pH), .int (iI pN), .int (iI pQ), .int (iI pT), .int (iI pB), .int (iI pX), .int (iI pY), .int (iI pM), .int (iI pU)]))] ++ tl)) rfl B
              refine y_add hx hb dX3_costs_137 ?_
              have e_18 : (csZ T M ((pR + pC) - 1) pU pY) = (0 + (pcZ T M ((pR + pC) - 1))) := (by first | (simp only [csZ, if_pos zc_1, if_neg (Int.not_lt.mpr zc_1), if_pos zc_4, if_neg (Int.not_lt.mpr zc_4), if_pos zc_5, if_neg (Int.not_lt.mpr zc_5), if_pos zc_8, if_neg (Int.not_le.mpr zc_8), if_pos zc_13, if_pos zc_16, if_neg (Int.not_lt.mpr zc_16)]; done) | (simp only [csZ, if_pos zc_1, if_neg (Int.not_lt.mpr zc_1), if_pos zc_4, if_neg (Int.not_lt.mpr zc_4), if_pos zc_5, if_neg (Int.not_lt.mpr zc_5), if_pos zc_8, if_neg (Int.not_le.mpr zc_8), if_pos zc_13, if_pos zc_16, if_neg (Int.not_lt.mpr zc_16)]; omega) | (simp only [csZ]; (repeat' split) <;> first | omega | rfl))
              skip
              exact k_iret B hr (⟨(csZ_in hK (by omega)), (by rw [e_18]), rfl, rfl, rfl⟩) ⟨Nat.le_of_ble_eq_true rfl, Nat.le_of_ble_eq_true rfl⟩ ⟨Nat.le_of_ble_eq_true rfl, Nat.le_of_ble_eq_true rfl⟩ dX3_costs_138
            · have zc_16 : pU < (T 17 0 0 0) := jnle (a := (T 17 0 0 0)) (b := pU) (by omega) (by omega) c_16
              refine lv_iload_n hx hb dX3_costs_103 rfl (lv_at hl 0 rfl) ?_
              refine lv_aload_n hx hb dX3_costs_104 rfl (lv_at hl 2 rfl) ?_
              refine x_get (ci := 3) (C := RX3) (T := TX3) (N := 15) (v := .ref (A 50 0 0)) B 0 rfl rfl in_X3 0 (by decide) mw_313 (fun _ h9 => h9) rfl dX3_costs_105 ?_
              obtain ⟨k_19, hk_19⟩ := pk_at (hs := [(pg, .inr (3, [.ref (A 50 0 0), .ref (Aw 20), .int (iI pR), .int (iI pC), .int (iI pW), .int (iI pL), .int (iI pH), .int (iI pN), .int (iI pQ), .int (iI pT), .int (iI pB), .int (iI pX), .int (iI pY), .int (iI pM), .int (iI pU)]))]) hT.1.1
              refine x_get (ci := 9) (C := RX9) (T := TX9) (N := 8) (v := .int (iI (T 17 0 0 0))) B k_19 hk_19 rfl in_X9 7 (by decide) mw_99 (fun _ h9 => h9) rfl dX3_costs_108 ?_
              have z_20 : 6 ≤ T 17 0 0 0 ∧ T 17 0 0 0 ≤ 40 := TK_hei hK
              refine lv_aload_n hx hb dX3_costs_111 rfl (lv_at hl 2 rfl) ?_
              refine x_get (ci := 3) (C := RX3) (T := TX3) (N := 15) (v := .int (iI pU)) B 0 rfl rfl in_X3 14 (by decide) mw_332 (fun _ h9 => h9) rfl dX3_costs_112 ?_
              refine y_sub hx hb dX3_costs_115 ?_
              refine lv_aload_n hx hb dX3_costs_116 rfl (lv_at hl 2 rfl) ?_
              refine x_get (ci := 3) (C := RX3) (T := TX3) (N := 15) (v := .ref (A 50 0 0)) B 0 rfl rfl in_X3 0 (by decide) mw_313 (fun _ h9 => h9) rfl dX3_costs_117 ?_
              obtain ⟨k_21, hk_21⟩ := pk_at (hs := [(pg, .inr (3, [.ref (A 50 0 0), .ref (Aw 20), .int (iI pR), .int (iI pC), .int (iI pW), .int (iI pL), .int (iI pH), .int (iI pN), .int (iI pQ), .int (iI pT), .int (iI pB), .int (iI pX), .int (iI pY), .int (iI pM), .int (iI pU)]))]) hT.1.1
              refine x_get (ci := 9) (C := RX9) (T := TX9) (N := 8) (v := .int (iI (T 17 0 0 0))) B k_21 hk_21 rfl in_X9 7 (by decide) mw_99 (fun _ h9 => h9) rfl dX3_costs_120 ?_
              have z_22 : 6 ≤ T 17 0 0 0 ∧ T 17 0 0 0 ≤ 40 := TK_hei hK
              refine lv_aload_n hx hb dX3_costs_123 rfl (lv_at hl 2 rfl) ?_
              refine x_get (ci := 3) (C := RX3) (T := TX3) (N := 15) (v := .int (iI pU)) B 0 rfl rfl in_X3 14 (by decide) mw_332 (fun _ h9 => h9) rfl dX3_costs_124 ?_
              refine y_sub hx hb dX3_costs_127 ?_
              refine y_mul hx hb dX3_costs_128 ?_
              refine y_add hx hb dX3_costs_129 ?_
              refine lv_istore_n (lv' := [(2, .int (iI (0 + (((T 17 0 0 0) - pU) * ((T 17 0 0 0) - pU))))), (1, .int (iI ((pR + pC) - 1))), (0, .ref pg)]) hx hb dX3_costs_130 rfl hl (by decide) rfl (fun ls hl => ?_)
              refine lv_iload_n hx hb dX3_costs_131 rfl (lv_at hl 0 rfl) ?_
              refine lv_aload_n hx hb dX3_costs_132 rfl (lv_at hl 2 rfl) ?_
              refine lv_iload_n hx hb dX3_costs_133 rfl (lv_at hl 1 rfl) ?_
              have B := bd_swap (a := [(pg, .inr (3, [.ref (A 50 0 0), .ref (Aw 20), .int (iI pR), .int (iI pC), .int (iI pW), .int (iI pL), .int (iI pH), .int (iI pN), .int (iI pQ), .int (iI pT), .int (iI pB), .int (iI pX), .int (iI pY), .int (iI pM), .int (iI pU)]))]) (b := []) (d := tl) (bd_to rfl B)
              refine k_V (rest := [.int (iI (0 + (((T 17 0 0 0) - pU) * ((T 17 0 0 0) - pU))))]) (wc := ([(pg, .inr (3, [.ref (A 50 0 0), .ref (Aw 20), .int (iI pR), .int (iI pC), .int (iI pW), .int (iI pL), .int (iI pH), .int (iI pN), .int (iI pQ), .int (iI pT), .int (iI pB), .int (iI pX), .int (iI pY), .int (iI pM), .int (iI pU)]))] ++ tl)) (wr := []) (k_parting l dC dI k pg pR pC pW pL pH pN pQ pT pB pX pY pM pU T A X tl M V Aw ((pR + pC) - 1) hT hK hR hM hMT (by omega)) B mV_X3_costsOfParting mw_1592 hl (q0 := 0) rfl rfl rfl ⟨Nat.le_of_ble_eq_true rfl, Nat.le_of_ble_eq_true rfl⟩ (Nat.le_of_ble_eq_true rfl) rfl dX3_costs_134 ⟨Nat.le_of_ble_eq_true rfl, Nat.le_of_ble_eq_true rfl⟩ (fun r w gc gs H locs hp B => ?_)
              obtain ⟨z_23, rfl, hw9, rfl, rfl⟩ := hp
              rw [hw9] at B; clear hw9
              have B := bd_to (ws' := ([(pg, .inr (3, [.ref (A 50 0 0), .ref (Aw 20), .int (iI pR), .int (iI pC), .int (iI pW), .int (iI pL), .int (iI pH), .int (iI pN), .int (iI pQ), .int (iI pT), .int (iI pB), .int (iI pX), .int (iI pY), .int (iI pM), .int (iI pU)]))] ++ tl)) rfl B
              refine y_add hx hb dX3_costs_137 ?_
              have e_24 : (csZ T M ((pR + pC) - 1) pU pY) = ((0 + (((T 17 0 0 0) - pU) * ((T 17 0 0 0) - pU))) + (pcZ T M ((pR + pC) - 1))) := (by first | (simp only [csZ, if_pos zc_1, if_neg (Int.not_lt.mpr zc_1), if_pos zc_4, if_neg (Int.not_lt.mpr zc_4), if_pos zc_5, if_neg (Int.not_lt.mpr zc_5), if_pos zc_8, if_neg (Int.not_le.mpr zc_8), if_pos zc_13, if_pos zc_16, if_neg (Int.not_le.mpr zc_16)]; done) | (simp only [csZ, if_pos zc_1, if_neg (Int.not_lt.mpr zc_1), if_pos zc_4, if_neg (Int.not_lt.mpr zc_4), if_pos zc_5, if_neg (Int.not_lt.mpr zc_5), if_pos zc_8, if_neg (Int.not_le.mpr zc_8), if_pos zc_13, if_pos zc_16, if_neg (Int.not_le.mpr zc_16)]; omega) | (simp only [csZ]; (repeat' split) <;> first | omega | rfl))
              skip
              exact k_iret B hr (⟨(csZ_in hK (by omega)), (by rw [e_24]), rfl, rfl, rfl⟩) ⟨Nat.le_of_ble_eq_true rfl, Nat.le_of_ble_eq_true rfl⟩ ⟨Nat.le_of_ble_eq_true rfl, Nat.le_of_ble_eq_true rfl⟩ dX3_costs_138
          · have zc_13 : (M 6 ((pR + pC) - 1)) ≠ 0 := jne (a := (M 6 ((pR + pC) - 1))) (b := 0) (by omega) (by omega) c_13
            refine lv_iload_n hx hb dX3_costs_87 rfl (lv_at hl 0 rfl) ?_
            have e_25 : (csZ T M ((pR + pC) - 1) pU pY) = 0 := (by first | (simp only [csZ, if_pos zc_1, if_neg (Int.not_lt.mpr zc_1), if_pos zc_4, if_neg (Int.not_lt.mpr zc_4), if_pos zc_5, if_neg (Int.not_lt.mpr zc_5), if_pos zc_8, if_neg (Int.not_le.mpr zc_8), if_neg zc_13]; done) | (simp only [csZ, if_pos zc_1, if_neg (Int.not_lt.mpr zc_1), if_pos zc_4, if_neg (Int.not_lt.mpr zc_4), if_pos zc_5, if_neg (Int.not_lt.mpr zc_5), if_pos zc_8, if_neg (Int.not_le.mpr zc_8), if_neg zc_13]; omega) | (simp only [csZ]; (repeat' split) <;> first | omega | rfl))
            skip
            exact k_iret B hr (⟨(csZ_in hK (by omega)), (by rw [e_25]), rfl, rfl, rfl⟩) ⟨Nat.le_of_ble_eq_true rfl, Nat.le_of_ble_eq_true rfl⟩ ⟨Nat.le_of_ble_eq_true rfl, Nat.le_of_ble_eq_true rfl⟩ dX3_costs_88
    · have zc_4 : (T 17 0 0 0) < pU := jnle (a := pU) (b := (T 17 0 0 0)) (by omega) (by omega) c_4
      refine lv_iload_n hx hb dX3_costs_40 rfl (lv_at hl 0 rfl) ?_
      refine lv_bipush (v := iI 100) hx hb dX3_costs_41 (by decide) ?_
      refine lv_aload_n hx hb dX3_costs_43 rfl (lv_at hl 2 rfl) ?_
      refine x_get (ci := 3) (C := RX3) (T := TX3) (N := 15) (v := .int (iI pU)) B 0 rfl rfl in_X3 14 (by decide) mw_332 (fun _ h9 => h9) rfl dX3_costs_44 ?_
      refine lv_aload_n hx hb dX3_costs_47 rfl (lv_at hl 2 rfl) ?_
      refine x_get (ci := 3) (C := RX3) (T := TX3) (N := 15) (v := .ref (A 50 0 0)) B 0 rfl rfl in_X3 0 (by decide) mw_313 (fun _ h9 => h9) rfl dX3_costs_48 ?_
      obtain ⟨k_26, hk_26⟩ := pk_at (hs := [(pg, .inr (3, [.ref (A 50 0 0), .ref (Aw 20), .int (iI pR), .int (iI pC), .int (iI pW), .int (iI pL), .int (iI pH), .int (iI pN), .int (iI pQ), .int (iI pT), .int (iI pB), .int (iI pX), .int (iI pY), .int (iI pM), .int (iI pU)]))]) hT.1.1
      refine x_get (ci := 9) (C := RX9) (T := TX9) (N := 8) (v := .int (iI (T 17 0 0 0))) B k_26 hk_26 rfl in_X9 7 (by decide) mw_99 (fun _ h9 => h9) rfl dX3_costs_51 ?_
      have z_27 : 6 ≤ T 17 0 0 0 ∧ T 17 0 0 0 ≤ 40 := TK_hei hK
      refine y_sub hx hb dX3_costs_54 ?_
      refine y_mul hx hb dX3_costs_55 ?_
      refine y_add hx hb dX3_costs_56 ?_
      refine lv_istore_n (lv' := [(2, .int (iI (0 + (100 * (pU - (T 17 0 0 0)))))), (1, .int (iI ((pR + pC) - 1))), (0, .ref pg)]) hx hb dX3_costs_57 rfl hl (by decide) rfl (fun ls hl => ?_)
      refine lv_iload_n hx hb dX3_costs_58 rfl (lv_at hl 1 rfl) ?_
      refine lv_if_lt (tgt := 87) hx hb dX3_costs_59 (by decide) (fun c_28 => ?_) (fun c_28 => ?_)
      · have zc_28 : ((pR + pC) - 1) < 0 := jlt (a := ((pR + pC) - 1)) (b := 0) (by omega) (by omega) c_28
        refine lv_iload_n hx hb dX3_costs_87 rfl (lv_at hl 0 rfl) ?_
        have e_29 : (csZ T M ((pR + pC) - 1) pU pY) = (0 + (100 * (pU - (T 17 0 0 0)))) := (by first | (simp only [csZ, if_pos zc_1, if_neg (Int.not_lt.mpr zc_1), if_pos zc_4, if_neg (Int.not_le.mpr zc_4), if_pos zc_28, if_neg (Int.not_le.mpr zc_28)]; done) | (simp only [csZ, if_pos zc_1, if_neg (Int.not_lt.mpr zc_1), if_pos zc_4, if_neg (Int.not_le.mpr zc_4), if_pos zc_28, if_neg (Int.not_le.mpr zc_28)]; omega) | (simp only [csZ]; (repeat' split) <;> first | omega | rfl))
        skip
        exact k_iret B hr (⟨(csZ_in hK (by omega)), (by rw [e_29]), rfl, rfl, rfl⟩) ⟨Nat.le_of_ble_eq_true rfl, Nat.le_of_ble_eq_true rfl⟩ ⟨Nat.le_of_ble_eq_true rfl, Nat.le_of_ble_eq_true rfl⟩ dX3_costs_88
      · have zc_28 : 0 ≤ ((pR + pC) - 1) := jnlt (a := ((pR + pC) - 1)) (b := 0) (by omega) (by omega) c_28
        refine lv_iload_n hx hb dX3_costs_62 rfl (lv_at hl 1 rfl) ?_
        refine lv_iconst (v := iI 1) hx hb dX3_costs_63 (by decide) ?_
        refine y_add hx hb dX3_costs_64 ?_
        refine lv_aload_n hx hb dX3_costs_65 rfl (lv_at hl 2 rfl) ?_
        refine x_get (ci := 3) (C := RX3) (T := TX3) (N := 15) (v := .ref (Aw 20)) B 0 rfl rfl in_X3 1 (by decide) mw_314 (fun _ h9 => h9) rfl dX3_costs_66 ?_
        obtain ⟨k_30, hk_30⟩ := pk_at (hs := [(pg, .inr (3, [.ref (A 50 0 0), .ref (Aw 20), .int (iI pR), .int (iI pC), .int (iI pW), .int (iI pL), .int (iI pH), .int (iI pN), .int (iI pQ), .int (iI pT), .int (iI pB), .int (iI pX), .int (iI pY), .int (iI pM), .int (iI pU)]))]) (RI_o hR)
        refine x_get (ci := 6) (C := RX6) (T := TX6) (N := 18) (v := .int (iI (M 0 0))) B k_30 hk_30 rfl in_X6 0 (by decide) mw_225 (fun _ h9 => h9) rfl dX3_costs_69 ?_
        refine lv_icmp_ge (tgt := 87) hx hb dX3_costs_72 (by decide) (fun c_31 => ?_) (fun c_31 => ?_)
        · have zc_31 : (M 0 0) ≤ (((pR + pC) - 1) + 1) := jle (a := (M 0 0)) (b := (((pR + pC) - 1) + 1)) (by omega) (by omega) c_31
          refine lv_iload_n hx hb dX3_costs_87 rfl (lv_at hl 0 rfl) ?_
          have e_32 : (csZ T M ((pR + pC) - 1) pU pY) = (0 + (100 * (pU - (T 17 0 0 0)))) := (by first | (simp only [csZ, if_pos zc_1, if_neg (Int.not_lt.mpr zc_1), if_pos zc_4, if_neg (Int.not_le.mpr zc_4), if_pos zc_28, if_neg (Int.not_lt.mpr zc_28), if_pos zc_31, if_neg (Int.not_lt.mpr zc_31)]; done) | (simp only [csZ, if_pos zc_1, if_neg (Int.not_lt.mpr zc_1), if_pos zc_4, if_neg (Int.not_le.mpr zc_4), if_pos zc_28, if_neg (Int.not_lt.mpr zc_28), if_pos zc_31, if_neg (Int.not_lt.mpr zc_31)]; omega) | (simp only [csZ]; (repeat' split) <;> first | omega | rfl))
          skip
          exact k_iret B hr (⟨(csZ_in hK (by omega)), (by rw [e_32]), rfl, rfl, rfl⟩) ⟨Nat.le_of_ble_eq_true rfl, Nat.le_of_ble_eq_true rfl⟩ ⟨Nat.le_of_ble_eq_true rfl, Nat.le_of_ble_eq_true rfl⟩ dX3_costs_88
        · have zc_31 : (((pR + pC) - 1) + 1) < (M 0 0) := jnle (a := (M 0 0)) (b := (((pR + pC) - 1) + 1)) (by omega) (by omega) c_31
          refine lv_aload_n hx hb dX3_costs_75 rfl (lv_at hl 2 rfl) ?_
          refine x_get (ci := 3) (C := RX3) (T := TX3) (N := 15) (v := .ref (Aw 20)) B 0 rfl rfl in_X3 1 (by decide) mw_314 (fun _ h9 => h9) rfl dX3_costs_76 ?_
          obtain ⟨k_33, hk_33⟩ := pk_at (hs := [(pg, .inr (3, [.ref (A 50 0 0), .ref (Aw 20), .int (iI pR), .int (iI pC), .int (iI pW), .int (iI pL), .int (iI pH), .int (iI pN), .int (iI pQ), .int (iI pT), .int (iI pB), .int (iI pX), .int (iI pY), .int (iI pM), .int (iI pU)]))]) (RI_o hR)
          refine x_get (ci := 6) (C := RX6) (T := TX6) (N := 18) (v := .ref (Aw 6)) B k_33 hk_33 rfl in_X6 6 (by decide) mw_239 (fun _ h9 => h9) rfl dX3_costs_79 ?_
          refine lv_iload_n hx hb dX3_costs_82 rfl (lv_at hl 1 rfl) ?_
          obtain ⟨k_34, hk_34⟩ := pk_at (hs := [(pg, .inr (3, [.ref (A 50 0 0), .ref (Aw 20), .int (iI pR), .int (iI pC), .int (iI pW), .int (iI pL), .int (iI pH), .int (iI pN), .int (iI pQ), .int (iI pT), .int (iI pB), .int (iI pX), .int (iI pY), .int (iI pM), .int (iI pU)]))]) (RI_6 hR)
          refine x_zald' (f := (V 6)) (z := ((pR + pC) - 1)) B k_34 hk_34 (by omega) dX3_costs_83 ?_
          refine lv_seti (y := iI (M 6 ((pR + pC) - 1))) (congrArg iI (show (V 6) ((pR + pC) - 1) = M 6 ((pR + pC) - 1) from RA_6 (RI_a hR) _ (by omega) (by omega))) ?_
          have z_35 : 0 ≤ M 6 ((pR + pC) - 1) ∧ M 6 ((pR + pC) - 1) ≤ 1 := MK_6 hM _
          refine lv_if_eq (tgt := 89) hx hb dX3_costs_84 (by decide) (fun c_36 => ?_) (fun c_36 => ?_)
          · have zc_36 : (M 6 ((pR + pC) - 1)) = 0 := jeq (a := (M 6 ((pR + pC) - 1))) (b := 0) (by omega) (by omega) c_36
            refine lv_aload_n hx hb dX3_costs_89 rfl (lv_at hl 2 rfl) ?_
            refine x_get (ci := 3) (C := RX3) (T := TX3) (N := 15) (v := .int (iI pU)) B 0 rfl rfl in_X3 14 (by decide) mw_332 (fun _ h9 => h9) rfl dX3_costs_90 ?_
            refine lv_aload_n hx hb dX3_costs_93 rfl (lv_at hl 2 rfl) ?_
            refine x_get (ci := 3) (C := RX3) (T := TX3) (N := 15) (v := .ref (A 50 0 0)) B 0 rfl rfl in_X3 0 (by decide) mw_313 (fun _ h9 => h9) rfl dX3_costs_94 ?_
            obtain ⟨k_37, hk_37⟩ := pk_at (hs := [(pg, .inr (3, [.ref (A 50 0 0), .ref (Aw 20), .int (iI pR), .int (iI pC), .int (iI pW), .int (iI pL), .int (iI pH), .int (iI pN), .int (iI pQ), .int (iI pT), .int (iI pB), .int (iI pX), .int (iI pY), .int (iI pM), .int (iI pU)]))]) hT.1.1
            refine x_get (ci := 9) (C := RX9) (T := TX9) (N := 8) (v := .int (iI (T 17 0 0 0))) B k_37 hk_37 rfl in_X9 7 (by decide) mw_99 (fun _ h9 => h9) rfl dX3_costs_97 ?_
            have z_38 : 6 ≤ T 17 0 0 0 ∧ T 17 0 0 0 ≤ 40 := TK_hei hK
            refine lv_icmp_ge (tgt := 131) hx hb dX3_costs_100 (by decide) (fun c_39 => ?_) (fun c_39 => ?_)
            · have zc_39 : (T 17 0 0 0) ≤ pU := jle (a := (T 17 0 0 0)) (b := pU) (by omega) (by omega) c_39
              refine lv_iload_n hx hb dX3_costs_131 rfl (lv_at hl 0 rfl) ?_
              refine lv_aload_n hx hb dX3_costs_132 rfl (lv_at hl 2 rfl) ?_
              refine lv_iload_n hx hb dX3_costs_133 rfl (lv_at hl 1 rfl) ?_
              have B := bd_swap (a := [(pg, .inr (3, [.ref (A 50 0 0), .ref (Aw 20), .int (iI pR), .int (iI pC), .int (iI pW), .int (iI pL), .int (iI pH), .int (iI pN), .int (iI pQ), .int (iI pT), .int (iI pB), .int (iI pX), .int (iI pY), .int (iI pM), .int (iI pU)]))]) (b := []) (d := tl) (bd_to rfl B)
              refine k_V (rest := [.int (iI (0 + (100 * (pU - (T 17 0 0 0)))))]) (wc := ([(pg, .inr (3, [.ref (A 50 0 0), .ref (Aw 20), .int (iI pR), .int (iI pC), .int (iI pW), .int (iI pL), .int (iI pH), .int (iI pN), .int (iI pQ), .int (iI pT), .int (iI pB), .int (iI pX), .int (iI pY), .int (iI pM), .int (iI pU)]))] ++ tl)) (wr := []) (k_parting l dC dI k pg pR pC pW pL pH pN pQ pT pB pX pY pM pU T A X tl M V Aw ((pR + pC) - 1) hT hK hR hM hMT (by omega)) B mV_X3_costsOfParting mw_1592 hl (q0 := 0) rfl rfl rfl ⟨Nat.le_of_ble_eq_true rfl, Nat.le_of_ble_eq_true rfl⟩ (Nat.le_of_ble_eq_true rfl) rfl dX3_costs_134 ⟨Nat.le_of_ble_eq_true rfl, Nat.le_of_ble_eq_true rfl⟩ (fun r w gc gs H locs hp B => ?_)
              obtain ⟨z_40, rfl, hw9, rfl, rfl⟩ := hp
              rw [hw9] at B; clear hw9
              have B := bd_to (ws' := ([(pg, .inr (3, [.ref (A 50 0 0), .ref (Aw 20), .int (iI pR), .int (iI pC), .int (iI pW), .int (iI pL), .int (iI pH), .int (iI pN), .int (iI pQ), .int (iI pT), .int (iI pB), .int (iI pX), .int (iI pY), .int (iI pM), .int (iI pU)]))] ++ tl)) rfl B
              refine y_add hx hb dX3_costs_137 ?_
              have e_41 : (csZ T M ((pR + pC) - 1) pU pY) = ((0 + (100 * (pU - (T 17 0 0 0)))) + (pcZ T M ((pR + pC) - 1))) := (by first | (simp only [csZ, if_pos zc_1, if_neg (Int.not_lt.mpr zc_1), if_pos zc_4, if_neg (Int.not_le.mpr zc_4), if_pos zc_28, if_neg (Int.not_lt.mpr zc_28), if_pos zc_31, if_neg (Int.not_le.mpr zc_31), if_pos zc_36, if_pos zc_39, if_neg (Int.not_lt.mpr zc_39)]; done) | (simp only [csZ, if_pos zc_1, if_neg (Int.not_lt.mpr zc_1), if_pos zc_4, if_neg (Int.not_le.mpr zc_4), if_pos zc_28, if_neg (Int.not_lt.mpr zc_28), if_pos zc_31, if_neg (Int.not_le.mpr zc_31), if_pos zc_36, if_pos zc_39, if_neg (Int.not_lt.mpr zc_39)]; omega) | (simp only [csZ]; (repeat' split) <;> first | omega | rfl))
              skip
              exact k_iret B hr (⟨(csZ_in hK (by omega)), (by rw [e_41]), rfl, rfl, rfl⟩) ⟨Nat.le_of_ble_eq_true rfl, Nat.le_of_ble_eq_true rfl⟩ ⟨Nat.le_of_ble_eq_true rfl, Nat.le_of_ble_eq_true rfl⟩ dX3_costs_138
            · have zc_39 : pU < (T 17 0 0 0) := jnle (a := (T 17 0 0 0)) (b := pU) (by omega) (by omega) c_39
              exfalso; omega
          · have zc_36 : (M 6 ((pR + pC) - 1)) ≠ 0 := jne (a := (M 6 ((pR + pC) - 1))) (b := 0) (by omega) (by omega) c_36
            refine lv_iload_n hx hb dX3_costs_87 rfl (lv_at hl 0 rfl) ?_
            have e_42 : (csZ T M ((pR + pC) - 1) pU pY) = (0 + (100 * (pU - (T 17 0 0 0)))) := (by first | (simp only [csZ, if_pos zc_1, if_neg (Int.not_lt.mpr zc_1), if_pos zc_4, if_neg (Int.not_le.mpr zc_4), if_pos zc_28, if_neg (Int.not_lt.mpr zc_28), if_pos zc_31, if_neg (Int.not_le.mpr zc_31), if_neg zc_36]; done) | (simp only [csZ, if_pos zc_1, if_neg (Int.not_lt.mpr zc_1), if_pos zc_4, if_neg (Int.not_le.mpr zc_4), if_pos zc_28, if_neg (Int.not_lt.mpr zc_28), if_pos zc_31, if_neg (Int.not_le.mpr zc_31), if_neg zc_36]; omega) | (simp only [csZ]; (repeat' split) <;> first | omega | rfl))
            skip
            exact k_iret B hr (⟨(csZ_in hK (by omega)), (by rw [e_42]), rfl, rfl, rfl⟩) ⟨Nat.le_of_ble_eq_true rfl, Nat.le_of_ble_eq_true rfl⟩ ⟨Nat.le_of_ble_eq_true rfl, Nat.le_of_ble_eq_true rfl⟩ dX3_costs_88
  · have zc_1 : 0 < pY := jnle (a := pY) (b := 0) (by omega) (by omega) c_1
    refine lv_bipush (v := iI 100) hx hb dX3_costs_19 (by decide) ?_
    refine lv_goto (tgt := 25) hx hb dX3_costs_21 (by decide) ?_
    refine lv_istore_n (lv' := [(2, .int (iI 100)), (1, .int (iI ((pR + pC) - 1))), (0, .ref pg)]) hx hb dX3_costs_25 rfl hl (by decide) rfl (fun ls hl => ?_)
    refine lv_aload_n hx hb dX3_costs_26 rfl (lv_at hl 2 rfl) ?_
    refine x_get (ci := 3) (C := RX3) (T := TX3) (N := 15) (v := .int (iI pU)) B 0 rfl rfl in_X3 14 (by decide) mw_332 (fun _ h9 => h9) rfl dX3_costs_27 ?_
    refine lv_aload_n hx hb dX3_costs_30 rfl (lv_at hl 2 rfl) ?_
    refine x_get (ci := 3) (C := RX3) (T := TX3) (N := 15) (v := .ref (A 50 0 0)) B 0 rfl rfl in_X3 0 (by decide) mw_313 (fun _ h9 => h9) rfl dX3_costs_31 ?_
    obtain ⟨k_43, hk_43⟩ := pk_at (hs := [(pg, .inr (3, [.ref (A 50 0 0), .ref (Aw 20), .int (iI pR), .int (iI pC), .int (iI pW), .int (iI pL), .int (iI pH), .int (iI pN), .int (iI pQ), .int (iI pT), .int (iI pB), .int (iI pX), .int (iI pY), .int (iI pM), .int (iI pU)]))]) hT.1.1
    refine x_get (ci := 9) (C := RX9) (T := TX9) (N := 8) (v := .int (iI (T 17 0 0 0))) B k_43 hk_43 rfl in_X9 7 (by decide) mw_99 (fun _ h9 => h9) rfl dX3_costs_34 ?_
    have z_44 : 6 ≤ T 17 0 0 0 ∧ T 17 0 0 0 ≤ 40 := TK_hei hK
    refine lv_icmp_le (tgt := 58) hx hb dX3_costs_37 (by decide) (fun c_45 => ?_) (fun c_45 => ?_)
    · have zc_45 : pU ≤ (T 17 0 0 0) := jle (a := pU) (b := (T 17 0 0 0)) (by omega) (by omega) c_45
      refine lv_iload_n hx hb dX3_costs_58 rfl (lv_at hl 1 rfl) ?_
      refine lv_if_lt (tgt := 87) hx hb dX3_costs_59 (by decide) (fun c_46 => ?_) (fun c_46 => ?_)
      · have zc_46 : ((pR + pC) - 1) < 0 := jlt (a := ((pR + pC) - 1)) (b := 0) (by omega) (by omega) c_46
        refine lv_iload_n hx hb dX3_costs_87 rfl (lv_at hl 0 rfl) ?_
        have e_47 : (csZ T M ((pR + pC) - 1) pU pY) = 100 := (by first | (simp only [csZ, if_pos zc_1, if_neg (Int.not_le.mpr zc_1), if_pos zc_45, if_neg (Int.not_lt.mpr zc_45), if_pos zc_46, if_neg (Int.not_le.mpr zc_46)]; done) | (simp only [csZ, if_pos zc_1, if_neg (Int.not_le.mpr zc_1), if_pos zc_45, if_neg (Int.not_lt.mpr zc_45), if_pos zc_46, if_neg (Int.not_le.mpr zc_46)]; omega) | (simp only [csZ]; (repeat' split) <;> first | omega | rfl))
        skip
        exact k_iret B hr (⟨(csZ_in hK (by omega)), (by rw [e_47]), rfl, rfl, rfl⟩) ⟨Nat.le_of_ble_eq_true rfl, Nat.le_of_ble_eq_true rfl⟩ ⟨Nat.le_of_ble_eq_true rfl, Nat.le_of_ble_eq_true rfl⟩ dX3_costs_88
      · have zc_46 : 0 ≤ ((pR + pC) - 1) := jnlt (a := ((pR + pC) - 1)) (b := 0) (by omega) (by omega) c_46
        refine lv_iload_n hx hb dX3_costs_62 rfl (lv_at hl 1 rfl) ?_
        refine lv_iconst (v := iI 1) hx hb dX3_costs_63 (by decide) ?_
        refine y_add hx hb dX3_costs_64 ?_
        refine lv_aload_n hx hb dX3_costs_65 rfl (lv_at hl 2 rfl) ?_
        refine x_get (ci := 3) (C := RX3) (T := TX3) (N := 15) (v := .ref (Aw 20)) B 0 rfl rfl in_X3 1 (by decide) mw_314 (fun _ h9 => h9) rfl dX3_costs_66 ?_
        obtain ⟨k_48, hk_48⟩ := pk_at (hs := [(pg, .inr (3, [.ref (A 50 0 0), .ref (Aw 20), .int (iI pR), .int (iI pC), .int (iI pW), .int (iI pL), .int (iI pH), .int (iI pN), .int (iI pQ), .int (iI pT), .int (iI pB), .int (iI pX), .int (iI pY), .int (iI pM), .int (iI pU)]))]) (RI_o hR)
        refine x_get (ci := 6) (C := RX6) (T := TX6) (N := 18) (v := .int (iI (M 0 0))) B k_48 hk_48 rfl in_X6 0 (by decide) mw_225 (fun _ h9 => h9) rfl dX3_costs_69 ?_
        refine lv_icmp_ge (tgt := 87) hx hb dX3_costs_72 (by decide) (fun c_49 => ?_) (fun c_49 => ?_)
        · have zc_49 : (M 0 0) ≤ (((pR + pC) - 1) + 1) := jle (a := (M 0 0)) (b := (((pR + pC) - 1) + 1)) (by omega) (by omega) c_49
          refine lv_iload_n hx hb dX3_costs_87 rfl (lv_at hl 0 rfl) ?_
          have e_50 : (csZ T M ((pR + pC) - 1) pU pY) = 100 := (by first | (simp only [csZ, if_pos zc_1, if_neg (Int.not_le.mpr zc_1), if_pos zc_45, if_neg (Int.not_lt.mpr zc_45), if_pos zc_46, if_neg (Int.not_lt.mpr zc_46), if_pos zc_49, if_neg (Int.not_lt.mpr zc_49)]; done) | (simp only [csZ, if_pos zc_1, if_neg (Int.not_le.mpr zc_1), if_pos zc_45, if_neg (Int.not_lt.mpr zc_45), if_pos zc_46, if_neg (Int.not_lt.mpr zc_46), if_pos zc_49, if_neg (Int.not_lt.mpr zc_49)]; omega) | (simp only [csZ]; (repeat' split) <;> first | omega | rfl))
          skip
          exact k_iret B hr (⟨(csZ_in hK (by omega)), (by rw [e_50]), rfl, rfl, rfl⟩) ⟨Nat.le_of_ble_eq_true rfl, Nat.le_of_ble_eq_true rfl⟩ ⟨Nat.le_of_ble_eq_true rfl, Nat.le_of_ble_eq_true rfl⟩ dX3_costs_88
        · have zc_49 : (((pR + pC) - 1) + 1) < (M 0 0) := jnle (a := (M 0 0)) (b := (((pR + pC) - 1) + 1)) (by omega) (by omega) c_49
          refine lv_aload_n hx hb dX3_costs_75 rfl (lv_at hl 2 rfl) ?_
          refine x_get (ci := 3) (C := RX3) (T := TX3) (N := 15) (v := .ref (Aw 20)) B 0 rfl rfl in_X3 1 (by decide) mw_314 (fun _ h9 => h9) rfl dX3_costs_76 ?_
          obtain ⟨k_51, hk_51⟩ := pk_at (hs := [(pg, .inr (3, [.ref (A 50 0 0), .ref (Aw 20), .int (iI pR), .int (iI pC), .int (iI pW), .int (iI pL), .int (iI pH), .int (iI pN), .int (iI pQ), .int (iI pT), .int (iI pB), .int (iI pX), .int (iI pY), .int (iI pM), .int (iI pU)]))]) (RI_o hR)
          refine x_get (ci := 6) (C := RX6) (T := TX6) (N := 18) (v := .ref (Aw 6)) B k_51 hk_51 rfl in_X6 6 (by decide) mw_239 (fun _ h9 => h9) rfl dX3_costs_79 ?_
          refine lv_iload_n hx hb dX3_costs_82 rfl (lv_at hl 1 rfl) ?_
          obtain ⟨k_52, hk_52⟩ := pk_at (hs := [(pg, .inr (3, [.ref (A 50 0 0), .ref (Aw 20), .int (iI pR), .int (iI pC), .int (iI pW), .int (iI pL), .int (iI pH), .int (iI pN), .int (iI pQ), .int (iI pT), .int (iI pB), .int (iI pX), .int (iI pY), .int (iI pM), .int (iI pU)]))]) (RI_6 hR)
          refine x_zald' (f := (V 6)) (z := ((pR + pC) - 1)) B k_52 hk_52 (by omega) dX3_costs_83 ?_
          refine lv_seti (y := iI (M 6 ((pR + pC) - 1))) (congrArg iI (show (V 6) ((pR + pC) - 1) = M 6 ((pR + pC) - 1) from RA_6 (RI_a hR) _ (by omega) (by omega))) ?_
          have z_53 : 0 ≤ M 6 ((pR + pC) - 1) ∧ M 6 ((pR + pC) - 1) ≤ 1 := MK_6 hM _
          refine lv_if_eq (tgt := 89) hx hb dX3_costs_84 (by decide) (fun c_54 => ?_) (fun c_54 => ?_)
          · have zc_54 : (M 6 ((pR + pC) - 1)) = 0 := jeq (a := (M 6 ((pR + pC) - 1))) (b := 0) (by omega) (by omega) c_54
            refine lv_aload_n hx hb dX3_costs_89 rfl (lv_at hl 2 rfl) ?_
            refine x_get (ci := 3) (C := RX3) (T := TX3) (N := 15) (v := .int (iI pU)) B 0 rfl rfl in_X3 14 (by decide) mw_332 (fun _ h9 => h9) rfl dX3_costs_90 ?_
            refine lv_aload_n hx hb dX3_costs_93 rfl (lv_at hl 2 rfl) ?_
            refine x_get (ci := 3) (C := RX3) (T := TX3) (N := 15) (v := .ref (A 50 0 0)) B 0 rfl rfl in_X3 0 (by decide) mw_313 (fun _ h9 => h9) rfl dX3_costs_94 ?_
            obtain ⟨k_55, hk_55⟩ := pk_at (hs := [(pg, .inr (3, [.ref (A 50 0 0), .ref (Aw 20), .int (iI pR), .int (iI pC), .int (iI pW), .int (iI pL), .int (iI pH), .int (iI pN), .int (iI pQ), .int (iI pT), .int (iI pB), .int (iI pX), .int (iI pY), .int (iI pM), .int (iI pU)]))]) hT.1.1
            refine x_get (ci := 9) (C := RX9) (T := TX9) (N := 8) (v := .int (iI (T 17 0 0 0))) B k_55 hk_55 rfl in_X9 7 (by decide) mw_99 (fun _ h9 => h9) rfl dX3_costs_97 ?_
            have z_56 : 6 ≤ T 17 0 0 0 ∧ T 17 0 0 0 ≤ 40 := TK_hei hK
            refine lv_icmp_ge (tgt := 131) hx hb dX3_costs_100 (by decide) (fun c_57 => ?_) (fun c_57 => ?_)
            · have zc_57 : (T 17 0 0 0) ≤ pU := jle (a := (T 17 0 0 0)) (b := pU) (by omega) (by omega) c_57
              refine lv_iload_n hx hb dX3_costs_131 rfl (lv_at hl 0 rfl) ?_
              refine lv_aload_n hx hb dX3_costs_132 rfl (lv_at hl 2 rfl) ?_
              refine lv_iload_n hx hb dX3_costs_133 rfl (lv_at hl 1 rfl) ?_
              have B := bd_swap (a := [(pg, .inr (3, [.ref (A 50 0 0), .ref (Aw 20), .int (iI pR), .int (iI pC), .int (iI pW), .int (iI pL), .int (iI pH), .int (iI pN), .int (iI pQ), .int (iI pT), .int (iI pB), .int (iI pX), .int (iI pY), .int (iI pM), .int (iI pU)]))]) (b := []) (d := tl) (bd_to rfl B)
              refine k_V (rest := [.int (iI 100)]) (wc := ([(pg, .inr (3, [.ref (A 50 0 0), .ref (Aw 20), .int (iI pR), .int (iI pC), .int (iI pW), .int (iI pL), .int (iI pH), .int (iI pN), .int (iI pQ), .int (iI pT), .int (iI pB), .int (iI pX), .int (iI pY), .int (iI pM), .int (iI pU)]))] ++ tl)) (wr := []) (k_parting l dC dI k pg pR pC pW pL pH pN pQ pT pB pX pY pM pU T A X tl M V Aw ((pR + pC) - 1) hT hK hR hM hMT (by omega)) B mV_X3_costsOfParting mw_1592 hl (q0 := 0) rfl rfl rfl ⟨Nat.le_of_ble_eq_true rfl, Nat.le_of_ble_eq_true rfl⟩ (Nat.le_of_ble_eq_true rfl) rfl dX3_costs_134 ⟨Nat.le_of_ble_eq_true rfl, Nat.le_of_ble_eq_true rfl⟩ (fun r w gc gs H locs hp B => ?_)
              obtain ⟨z_58, rfl, hw9, rfl, rfl⟩ := hp
              rw [hw9] at B; clear hw9
              have B := bd_to (ws' := ([(pg, .inr (3, [.ref (A 50 0 0), .ref (Aw 20), .int (iI pR), .int (iI pC), .int (iI pW), .int (iI pL), .int (iI pH), .int (iI pN), .int (iI pQ), .int (iI pT), .int (iI pB), .int (iI pX), .int (iI pY), .int (iI pM), .int (iI pU)]))] ++ tl)) rfl B
              refine y_add hx hb dX3_costs_137 ?_
              have e_59 : (csZ T M ((pR + pC) - 1) pU pY) = (100 + (pcZ T M ((pR + pC) - 1))) := (by first | (simp only [csZ, if_pos zc_1, if_neg (Int.not_le.mpr zc_1), if_pos zc_45, if_neg (Int.not_lt.mpr zc_45), if_pos zc_46, if_neg (Int.not_lt.mpr zc_46), if_pos zc_49, if_neg (Int.not_le.mpr zc_49), if_pos zc_54, if_pos zc_57, if_neg (Int.not_lt.mpr zc_57)]; done) | (simp only [csZ, if_pos zc_1, if_neg (Int.not_le.mpr zc_1), if_pos zc_45, if_neg (Int.not_lt.mpr zc_45), if_pos zc_46, if_neg (Int.not_lt.mpr zc_46), if_pos zc_49, if_neg (Int.not_le.mpr zc_49), if_pos zc_54, if_pos zc_57, if_neg (Int.not_lt.mpr zc_57)]; omega) | (simp only [csZ]; (repeat' split) <;> first | omega | rfl))
              skip
              exact k_iret B hr (⟨(csZ_in hK (by omega)), (by rw [e_59]), rfl, rfl, rfl⟩) ⟨Nat.le_of_ble_eq_true rfl, Nat.le_of_ble_eq_true rfl⟩ ⟨Nat.le_of_ble_eq_true rfl, Nat.le_of_ble_eq_true rfl⟩ dX3_costs_138
            · have zc_57 : pU < (T 17 0 0 0) := jnle (a := (T 17 0 0 0)) (b := pU) (by omega) (by omega) c_57
              refine lv_iload_n hx hb dX3_costs_103 rfl (lv_at hl 0 rfl) ?_
              refine lv_aload_n hx hb dX3_costs_104 rfl (lv_at hl 2 rfl) ?_
              refine x_get (ci := 3) (C := RX3) (T := TX3) (N := 15) (v := .ref (A 50 0 0)) B 0 rfl rfl in_X3 0 (by decide) mw_313 (fun _ h9 => h9) rfl dX3_costs_105 ?_
              obtain ⟨k_60, hk_60⟩ := pk_at (hs := [(pg, .inr (3, [.ref (A 50 0 0), .ref (Aw 20), .int (iI pR), .int (iI pC), .int (iI pW), .int (iI pL), .int (iI pH), .int (iI pN), .int (iI pQ), .int (iI pT), .int (iI pB), .int (iI pX), .int (iI pY), .int (iI pM), .int (iI pU)]))]) hT.1.1
              refine x_get (ci := 9) (C := RX9) (T := TX9) (N := 8) (v := .int (iI (T 17 0 0 0))) B k_60 hk_60 rfl in_X9 7 (by decide) mw_99 (fun _ h9 => h9) rfl dX3_costs_108 ?_
              have z_61 : 6 ≤ T 17 0 0 0 ∧ T 17 0 0 0 ≤ 40 := TK_hei hK
              refine lv_aload_n hx hb dX3_costs_111 rfl (lv_at hl 2 rfl) ?_
              refine x_get (ci := 3) (C := RX3) (T := TX3) (N := 15) (v := .int (iI pU)) B 0 rfl rfl in_X3 14 (by decide) mw_332 (fun _ h9 => h9) rfl dX3_costs_112 ?_
              refine y_sub hx hb dX3_costs_115 ?_
              refine lv_aload_n hx hb dX3_costs_116 rfl (lv_at hl 2 rfl) ?_
              refine x_get (ci := 3) (C := RX3) (T := TX3) (N := 15) (v := .ref (A 50 0 0)) B 0 rfl rfl in_X3 0 (by decide) mw_313 (fun _ h9 => h9) rfl dX3_costs_117 ?_
              obtain ⟨k_62, hk_62⟩ := pk_at (hs := [(pg, .inr (3, [.ref (A 50 0 0), .ref (Aw 20), .int (iI pR), .int (iI pC), .int (iI pW), .int (iI pL), .int (iI pH), .int (iI pN), .int (iI pQ), .int (iI pT), .int (iI pB), .int (iI pX), .int (iI pY), .int (iI pM), .int (iI pU)]))]) hT.1.1
              refine x_get (ci := 9) (C := RX9) (T := TX9) (N := 8) (v := .int (iI (T 17 0 0 0))) B k_62 hk_62 rfl in_X9 7 (by decide) mw_99 (fun _ h9 => h9) rfl dX3_costs_120 ?_
              have z_63 : 6 ≤ T 17 0 0 0 ∧ T 17 0 0 0 ≤ 40 := TK_hei hK
              refine lv_aload_n hx hb dX3_costs_123 rfl (lv_at hl 2 rfl) ?_
              refine x_get (ci := 3) (C := RX3) (T := TX3) (N := 15) (v := .int (iI pU)) B 0 rfl rfl in_X3 14 (by decide) mw_332 (fun _ h9 => h9) rfl dX3_costs_124 ?_
              refine y_sub hx hb dX3_costs_127 ?_
              refine y_mul hx hb dX3_costs_128 ?_
              refine y_add hx hb dX3_costs_129 ?_
              refine lv_istore_n (lv' := [(2, .int (iI (100 + (((T 17 0 0 0) - pU) * ((T 17 0 0 0) - pU))))), (1, .int (iI ((pR + pC) - 1))), (0, .ref pg)]) hx hb dX3_costs_130 rfl hl (by decide) rfl (fun ls hl => ?_)
              refine lv_iload_n hx hb dX3_costs_131 rfl (lv_at hl 0 rfl) ?_
              refine lv_aload_n hx hb dX3_costs_132 rfl (lv_at hl 2 rfl) ?_
              refine lv_iload_n hx hb dX3_costs_133 rfl (lv_at hl 1 rfl) ?_
              have B := bd_swap (a := [(pg, .inr (3, [.ref (A 50 0 0), .ref (Aw 20), .int (iI pR), .int (iI pC), .int (iI pW), .int (iI pL), .int (iI pH), .int (iI pN), .int (iI pQ), .int (iI pT), .int (iI pB), .int (iI pX), .int (iI pY), .int (iI pM), .int (iI pU)]))]) (b := []) (d := tl) (bd_to rfl B)
              refine k_V (rest := [.int (iI (100 + (((T 17 0 0 0) - pU) * ((T 17 0 0 0) - pU))))]) (wc := ([(pg, .inr (3, [.ref (A 50 0 0), .ref (Aw 20), .int (iI pR), .int (iI pC), .int (iI pW), .int (iI pL), .int (iI pH), .int (iI pN), .int (iI pQ), .int (iI pT), .int (iI pB), .int (iI pX), .int (iI pY), .int (iI pM), .int (iI pU)]))] ++ tl)) (wr := []) (k_parting l dC dI k pg pR pC pW pL pH pN pQ pT pB pX pY pM pU T A X tl M V Aw ((pR + pC) - 1) hT hK hR hM hMT (by omega)) B mV_X3_costsOfParting mw_1592 hl (q0 := 0) rfl rfl rfl ⟨Nat.le_of_ble_eq_true rfl, Nat.le_of_ble_eq_true rfl⟩ (Nat.le_of_ble_eq_true rfl) rfl dX3_costs_134 ⟨Nat.le_of_ble_eq_true rfl, Nat.le_of_ble_eq_true rfl⟩ (fun r w gc gs H locs hp B => ?_)
              obtain ⟨z_64, rfl, hw9, rfl, rfl⟩ := hp
              rw [hw9] at B; clear hw9
              have B := bd_to (ws' := ([(pg, .inr (3, [.ref (A 50 0 0), .ref (Aw 20), .int (iI pR), .int (iI pC), .int (iI pW), .int (iI pL), .int (iI pH), .int (iI pN), .int (iI pQ), .int (iI pT), .int (iI pB), .int (iI pX), .int (iI pY), .int (iI pM), .int (iI pU)]))] ++ tl)) rfl B
              refine y_add hx hb dX3_costs_137 ?_
              have e_65 : (csZ T M ((pR + pC) - 1) pU pY) = ((100 + (((T 17 0 0 0) - pU) * ((T 17 0 0 0) - pU))) + (pcZ T M ((pR + pC) - 1))) := (by first | (simp only [csZ, if_pos zc_1, if_neg (Int.not_le.mpr zc_1), if_pos zc_45, if_neg (Int.not_lt.mpr zc_45), if_pos zc_46, if_neg (Int.not_lt.mpr zc_46), if_pos zc_49, if_neg (Int.not_le.mpr zc_49), if_pos zc_54, if_pos zc_57, if_neg (Int.not_le.mpr zc_57)]; done) | (simp only [csZ, if_pos zc_1, if_neg (Int.not_le.mpr zc_1), if_pos zc_45, if_neg (Int.not_lt.mpr zc_45), if_pos zc_46, if_neg (Int.not_lt.mpr zc_46), if_pos zc_49, if_neg (Int.not_le.mpr zc_49), if_pos zc_54, if_pos zc_57, if_neg (Int.not_le.mpr zc_57)]; omega) | (simp only [csZ]; (repeat' split) <;> first | omega | rfl))
              skip
              exact k_iret B hr (⟨(csZ_in hK (by omega)), (by rw [e_65]), rfl, rfl, rfl⟩) ⟨Nat.le_of_ble_eq_true rfl, Nat.le_of_ble_eq_true rfl⟩ ⟨Nat.le_of_ble_eq_true rfl, Nat.le_of_ble_eq_true rfl⟩ dX3_costs_138
          · have zc_54 : (M 6 ((pR + pC) - 1)) ≠ 0 := jne (a := (M 6 ((pR + pC) - 1))) (b := 0) (by omega) (by omega) c_54
            refine lv_iload_n hx hb dX3_costs_87 rfl (lv_at hl 0 rfl) ?_
            have e_66 : (csZ T M ((pR + pC) - 1) pU pY) = 100 := (by first | (simp only [csZ, if_pos zc_1, if_neg (Int.not_le.mpr zc_1), if_pos zc_45, if_neg (Int.not_lt.mpr zc_45), if_pos zc_46, if_neg (Int.not_lt.mpr zc_46), if_pos zc_49, if_neg (Int.not_le.mpr zc_49), if_neg zc_54]; done) | (simp only [csZ, if_pos zc_1, if_neg (Int.not_le.mpr zc_1), if_pos zc_45, if_neg (Int.not_lt.mpr zc_45), if_pos zc_46, if_neg (Int.not_lt.mpr zc_46), if_pos zc_49, if_neg (Int.not_le.mpr zc_49), if_neg zc_54]; omega) | (simp only [csZ]; (repeat' split) <;> first | omega | rfl))
            skip
            exact k_iret B hr (⟨(csZ_in hK (by omega)), (by rw [e_66]), rfl, rfl, rfl⟩) ⟨Nat.le_of_ble_eq_true rfl, Nat.le_of_ble_eq_true rfl⟩ ⟨Nat.le_of_ble_eq_true rfl, Nat.le_of_ble_eq_true rfl⟩ dX3_costs_88
    · have zc_45 : (T 17 0 0 0) < pU := jnle (a := pU) (b := (T 17 0 0 0)) (by omega) (by omega) c_45
      refine lv_iload_n hx hb dX3_costs_40 rfl (lv_at hl 0 rfl) ?_
      refine lv_bipush (v := iI 100) hx hb dX3_costs_41 (by decide) ?_
      refine lv_aload_n hx hb dX3_costs_43 rfl (lv_at hl 2 rfl) ?_
      refine x_get (ci := 3) (C := RX3) (T := TX3) (N := 15) (v := .int (iI pU)) B 0 rfl rfl in_X3 14 (by decide) mw_332 (fun _ h9 => h9) rfl dX3_costs_44 ?_
      refine lv_aload_n hx hb dX3_costs_47 rfl (lv_at hl 2 rfl) ?_
      refine x_get (ci := 3) (C := RX3) (T := TX3) (N := 15) (v := .ref (A 50 0 0)) B 0 rfl rfl in_X3 0 (by decide) mw_313 (fun _ h9 => h9) rfl dX3_costs_48 ?_
      obtain ⟨k_67, hk_67⟩ := pk_at (hs := [(pg, .inr (3, [.ref (A 50 0 0), .ref (Aw 20), .int (iI pR), .int (iI pC), .int (iI pW), .int (iI pL), .int (iI pH), .int (iI pN), .int (iI pQ), .int (iI pT), .int (iI pB), .int (iI pX), .int (iI pY), .int (iI pM), .int (iI pU)]))]) hT.1.1
      refine x_get (ci := 9) (C := RX9) (T := TX9) (N := 8) (v := .int (iI (T 17 0 0 0))) B k_67 hk_67 rfl in_X9 7 (by decide) mw_99 (fun _ h9 => h9) rfl dX3_costs_51 ?_
      have z_68 : 6 ≤ T 17 0 0 0 ∧ T 17 0 0 0 ≤ 40 := TK_hei hK
      refine y_sub hx hb dX3_costs_54 ?_
      refine y_mul hx hb dX3_costs_55 ?_
      refine y_add hx hb dX3_costs_56 ?_
      refine lv_istore_n (lv' := [(2, .int (iI (100 + (100 * (pU - (T 17 0 0 0)))))), (1, .int (iI ((pR + pC) - 1))), (0, .ref pg)]) hx hb dX3_costs_57 rfl hl (by decide) rfl (fun ls hl => ?_)
      refine lv_iload_n hx hb dX3_costs_58 rfl (lv_at hl 1 rfl) ?_
      refine lv_if_lt (tgt := 87) hx hb dX3_costs_59 (by decide) (fun c_69 => ?_) (fun c_69 => ?_)
      · have zc_69 : ((pR + pC) - 1) < 0 := jlt (a := ((pR + pC) - 1)) (b := 0) (by omega) (by omega) c_69
        refine lv_iload_n hx hb dX3_costs_87 rfl (lv_at hl 0 rfl) ?_
        have e_70 : (csZ T M ((pR + pC) - 1) pU pY) = (100 + (100 * (pU - (T 17 0 0 0)))) := (by first | (simp only [csZ, if_pos zc_1, if_neg (Int.not_le.mpr zc_1), if_pos zc_45, if_neg (Int.not_le.mpr zc_45), if_pos zc_69, if_neg (Int.not_le.mpr zc_69)]; done) | (simp only [csZ, if_pos zc_1, if_neg (Int.not_le.mpr zc_1), if_pos zc_45, if_neg (Int.not_le.mpr zc_45), if_pos zc_69, if_neg (Int.not_le.mpr zc_69)]; omega) | (simp only [csZ]; (repeat' split) <;> first | omega | rfl))
        skip
        exact k_iret B hr (⟨(csZ_in hK (by omega)), (by rw [e_70]), rfl, rfl, rfl⟩) ⟨Nat.le_of_ble_eq_true rfl, Nat.le_of_ble_eq_true rfl⟩ ⟨Nat.le_of_ble_eq_true rfl, Nat.le_of_ble_eq_true rfl⟩ dX3_costs_88
      · have zc_69 : 0 ≤ ((pR + pC) - 1) := jnlt (a := ((pR + pC) - 1)) (b := 0) (by omega) (by omega) c_69
        refine lv_iload_n hx hb dX3_costs_62 rfl (lv_at hl 1 rfl) ?_
        refine lv_iconst (v := iI 1) hx hb dX3_costs_63 (by decide) ?_
        refine y_add hx hb dX3_costs_64 ?_
        refine lv_aload_n hx hb dX3_costs_65 rfl (lv_at hl 2 rfl) ?_
        refine x_get (ci := 3) (C := RX3) (T := TX3) (N := 15) (v := .ref (Aw 20)) B 0 rfl rfl in_X3 1 (by decide) mw_314 (fun _ h9 => h9) rfl dX3_costs_66 ?_
        obtain ⟨k_71, hk_71⟩ := pk_at (hs := [(pg, .inr (3, [.ref (A 50 0 0), .ref (Aw 20), .int (iI pR), .int (iI pC), .int (iI pW), .int (iI pL), .int (iI pH), .int (iI pN), .int (iI pQ), .int (iI pT), .int (iI pB), .int (iI pX), .int (iI pY), .int (iI pM), .int (iI pU)]))]) (RI_o hR)
        refine x_get (ci := 6) (C := RX6) (T := TX6) (N := 18) (v := .int (iI (M 0 0))) B k_71 hk_71 rfl in_X6 0 (by decide) mw_225 (fun _ h9 => h9) rfl dX3_costs_69 ?_
        refine lv_icmp_ge (tgt := 87) hx hb dX3_costs_72 (by decide) (fun c_72 => ?_) (fun c_72 => ?_)
        · have zc_72 : (M 0 0) ≤ (((pR + pC) - 1) + 1) := jle (a := (M 0 0)) (b := (((pR + pC) - 1) + 1)) (by omega) (by omega) c_72
          refine lv_iload_n hx hb dX3_costs_87 rfl (lv_at hl 0 rfl) ?_
          have e_73 : (csZ T M ((pR + pC) - 1) pU pY) = (100 + (100 * (pU - (T 17 0 0 0)))) := (by first | (simp only [csZ, if_pos zc_1, if_neg (Int.not_le.mpr zc_1), if_pos zc_45, if_neg (Int.not_le.mpr zc_45), if_pos zc_69, if_neg (Int.not_lt.mpr zc_69), if_pos zc_72, if_neg (Int.not_lt.mpr zc_72)]; done) | (simp only [csZ, if_pos zc_1, if_neg (Int.not_le.mpr zc_1), if_pos zc_45, if_neg (Int.not_le.mpr zc_45), if_pos zc_69, if_neg (Int.not_lt.mpr zc_69), if_pos zc_72, if_neg (Int.not_lt.mpr zc_72)]; omega) | (simp only [csZ]; (repeat' split) <;> first | omega | rfl))
          skip
          exact k_iret B hr (⟨(csZ_in hK (by omega)), (by rw [e_73]), rfl, rfl, rfl⟩) ⟨Nat.le_of_ble_eq_true rfl, Nat.le_of_ble_eq_true rfl⟩ ⟨Nat.le_of_ble_eq_true rfl, Nat.le_of_ble_eq_true rfl⟩ dX3_costs_88
        · have zc_72 : (((pR + pC) - 1) + 1) < (M 0 0) := jnle (a := (M 0 0)) (b := (((pR + pC) - 1) + 1)) (by omega) (by omega) c_72
          refine lv_aload_n hx hb dX3_costs_75 rfl (lv_at hl 2 rfl) ?_
          refine x_get (ci := 3) (C := RX3) (T := TX3) (N := 15) (v := .ref (Aw 20)) B 0 rfl rfl in_X3 1 (by decide) mw_314 (fun _ h9 => h9) rfl dX3_costs_76 ?_
          obtain ⟨k_74, hk_74⟩ := pk_at (hs := [(pg, .inr (3, [.ref (A 50 0 0), .ref (Aw 20), .int (iI pR), .int (iI pC), .int (iI pW), .int (iI pL), .int (iI pH), .int (iI pN), .int (iI pQ), .int (iI pT), .int (iI pB), .int (iI pX), .int (iI pY), .int (iI pM), .int (iI pU)]))]) (RI_o hR)
          refine x_get (ci := 6) (C := RX6) (T := TX6) (N := 18) (v := .ref (Aw 6)) B k_74 hk_74 rfl in_X6 6 (by decide) mw_239 (fun _ h9 => h9) rfl dX3_costs_79 ?_
          refine lv_iload_n hx hb dX3_costs_82 rfl (lv_at hl 1 rfl) ?_
          obtain ⟨k_75, hk_75⟩ := pk_at (hs := [(pg, .inr (3, [.ref (A 50 0 0), .ref (Aw 20), .int (iI pR), .int (iI pC), .int (iI pW), .int (iI pL), .int (iI pH), .int (iI pN), .int (iI pQ), .int (iI pT), .int (iI pB), .int (iI pX), .int (iI pY), .int (iI pM), .int (iI pU)]))]) (RI_6 hR)
          refine x_zald' (f := (V 6)) (z := ((pR + pC) - 1)) B k_75 hk_75 (by omega) dX3_costs_83 ?_
          refine lv_seti (y := iI (M 6 ((pR + pC) - 1))) (congrArg iI (show (V 6) ((pR + pC) - 1) = M 6 ((pR + pC) - 1) from RA_6 (RI_a hR) _ (by omega) (by omega))) ?_
          have z_76 : 0 ≤ M 6 ((pR + pC) - 1) ∧ M 6 ((pR + pC) - 1) ≤ 1 := MK_6 hM _
          refine lv_if_eq (tgt := 89) hx hb dX3_costs_84 (by decide) (fun c_77 => ?_) (fun c_77 => ?_)
          · have zc_77 : (M 6 ((pR + pC) - 1)) = 0 := jeq (a := (M 6 ((pR + pC) - 1))) (b := 0) (by omega) (by omega) c_77
            refine lv_aload_n hx hb dX3_costs_89 rfl (lv_at hl 2 rfl) ?_
            refine x_get (ci := 3) (C := RX3) (T := TX3) (N := 15) (v := .int (iI pU)) B 0 rfl rfl in_X3 14 (by decide) mw_332 (fun _ h9 => h9) rfl dX3_costs_90 ?_
            refine lv_aload_n hx hb dX3_costs_93 rfl (lv_at hl 2 rfl) ?_
            refine x_get (ci := 3) (C := RX3) (T := TX3) (N := 15) (v := .ref (A 50 0 0)) B 0 rfl rfl in_X3 0 (by decide) mw_313 (fun _ h9 => h9) rfl dX3_costs_94 ?_
            obtain ⟨k_78, hk_78⟩ := pk_at (hs := [(pg, .inr (3, [.ref (A 50 0 0), .ref (Aw 20), .int (iI pR), .int (iI pC), .int (iI pW), .int (iI pL), .int (iI pH), .int (iI pN), .int (iI pQ), .int (iI pT), .int (iI pB), .int (iI pX), .int (iI pY), .int (iI pM), .int (iI pU)]))]) hT.1.1
            refine x_get (ci := 9) (C := RX9) (T := TX9) (N := 8) (v := .int (iI (T 17 0 0 0))) B k_78 hk_78 rfl in_X9 7 (by decide) mw_99 (fun _ h9 => h9) rfl dX3_costs_97 ?_
            have z_79 : 6 ≤ T 17 0 0 0 ∧ T 17 0 0 0 ≤ 40 := TK_hei hK
            refine lv_icmp_ge (tgt := 131) hx hb dX3_costs_100 (by decide) (fun c_80 => ?_) (fun c_80 => ?_)
            · have zc_80 : (T 17 0 0 0) ≤ pU := jle (a := (T 17 0 0 0)) (b := pU) (by omega) (by omega) c_80
              refine lv_iload_n hx hb dX3_costs_131 rfl (lv_at hl 0 rfl) ?_
              refine lv_aload_n hx hb dX3_costs_132 rfl (lv_at hl 2 rfl) ?_
              refine lv_iload_n hx hb dX3_costs_133 rfl (lv_at hl 1 rfl) ?_
              have B := bd_swap (a := [(pg, .inr (3, [.ref (A 50 0 0), .ref (Aw 20), .int (iI pR), .int (iI pC), .int (iI pW), .int (iI pL), .int (iI pH), .int (iI pN), .int (iI pQ), .int (iI pT), .int (iI pB), .int (iI pX), .int (iI pY), .int (iI pM), .int (iI pU)]))]) (b := []) (d := tl) (bd_to rfl B)
              refine k_V (rest := [.int (iI (100 + (100 * (pU - (T 17 0 0 0)))))]) (wc := ([(pg, .inr (3, [.ref (A 50 0 0), .ref (Aw 20), .int (iI pR), .int (iI pC), .int (iI pW), .int (iI pL), .int (iI pH), .int (iI pN), .int (iI pQ), .int (iI pT), .int (iI pB), .int (iI pX), .int (iI pY), .int (iI pM), .int (iI pU)]))] ++ tl)) (wr := []) (k_parting l dC dI k pg pR pC pW pL pH pN pQ pT pB pX pY pM pU T A X tl M V Aw ((pR + pC) - 1) hT hK hR hM hMT (by omega)) B mV_X3_costsOfParting mw_1592 hl (q0 := 0) rfl rfl rfl ⟨Nat.le_of_ble_eq_true rfl, Nat.le_of_ble_eq_true rfl⟩ (Nat.le_of_ble_eq_true rfl) rfl dX3_costs_134 ⟨Nat.le_of_ble_eq_true rfl, Nat.le_of_ble_eq_true rfl⟩ (fun r w gc gs H locs hp B => ?_)
              obtain ⟨z_81, rfl, hw9, rfl, rfl⟩ := hp
              rw [hw9] at B; clear hw9
              have B := bd_to (ws' := ([(pg, .inr (3, [.ref (A 50 0 0), .ref (Aw 20), .int (iI pR), .int (iI pC), .int (iI pW), .int (iI pL), .int (iI pH), .int (iI pN), .int (iI pQ), .int (iI pT), .int (iI pB), .int (iI pX), .int (iI pY), .int (iI pM), .int (iI pU)]))] ++ tl)) rfl B
              refine y_add hx hb dX3_costs_137 ?_
              have e_82 : (csZ T M ((pR + pC) - 1) pU pY) = ((100 + (100 * (pU - (T 17 0 0 0)))) + (pcZ T M ((pR + pC) - 1))) := (by first | (simp only [csZ, if_pos zc_1, if_neg (Int.not_le.mpr zc_1), if_pos zc_45, if_neg (Int.not_le.mpr zc_45), if_pos zc_69, if_neg (Int.not_lt.mpr zc_69), if_pos zc_72, if_neg (Int.not_le.mpr zc_72), if_pos zc_77, if_pos zc_80, if_neg (Int.not_lt.mpr zc_80)]; done) | (simp only [csZ, if_pos zc_1, if_neg (Int.not_le.mpr zc_1), if_pos zc_45, if_neg (Int.not_le.mpr zc_45), if_pos zc_69, if_neg (Int.not_lt.mpr zc_69), if_pos zc_72, if_neg (Int.not_le.mpr zc_72), if_pos zc_77, if_pos zc_80, if_neg (Int.not_lt.mpr zc_80)]; omega) | (simp only [csZ]; (repeat' split) <;> first | omega | rfl))
              skip
              exact k_iret B hr (⟨(csZ_in hK (by omega)), (by rw [e_82]), rfl, rfl, rfl⟩) ⟨Nat.le_of_ble_eq_true rfl, Nat.le_of_ble_eq_true rfl⟩ ⟨Nat.le_of_ble_eq_true rfl, Nat.le_of_ble_eq_true rfl⟩ dX3_costs_138
            · have zc_80 : pU < (T 17 0 0 0) := jnle (a := (T 17 0 0 0)) (b := pU) (by omega) (by omega) c_80
              exfalso; omega
          · have zc_77 : (M 6 ((pR + pC) - 1)) ≠ 0 := jne (a := (M 6 ((pR + pC) - 1))) (b := 0) (by omega) (by omega) c_77
            refine lv_iload_n hx hb dX3_costs_87 rfl (lv_at hl 0 rfl) ?_
            have e_83 : (csZ T M ((pR + pC) - 1) pU pY) = (100 + (100 * (pU - (T 17 0 0 0)))) := (by first | (simp only [csZ, if_pos zc_1, if_neg (Int.not_le.mpr zc_1), if_pos zc_45, if_neg (Int.not_le.mpr zc_45), if_pos zc_69, if_neg (Int.not_lt.mpr zc_69), if_pos zc_72, if_neg (Int.not_le.mpr zc_72), if_neg zc_77]; done) | (simp only [csZ, if_pos zc_1, if_neg (Int.not_le.mpr zc_1), if_pos zc_45, if_neg (Int.not_le.mpr zc_45), if_pos zc_69, if_neg (Int.not_lt.mpr zc_69), if_pos zc_72, if_neg (Int.not_le.mpr zc_72), if_neg zc_77]; omega) | (simp only [csZ]; (repeat' split) <;> first | omega | rfl))
            skip
            exact k_iret B hr (⟨(csZ_in hK (by omega)), (by rw [e_83]), rfl, rfl, rfl⟩) ⟨Nat.le_of_ble_eq_true rfl, Nat.le_of_ble_eq_true rfl⟩ ⟨Nat.le_of_ble_eq_true rfl, Nat.le_of_ble_eq_true rfl⟩ dX3_costs_88

end
