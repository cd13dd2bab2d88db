section
section CGB
variable {k : Nat → ClassId} {A : Nat → Int → Int → Nat} {Y : Nat → Int → Nat} {Lv Lw : Nat → Int → Int} {v : Int}
theorem cg_ly (h : Lw 0 = Lv 0) : lyCl A Y Lw v = lyCl A Y Lv v := by unfold lyCl; rw [h]
theorem cg_la (h : ∀ c, 1 ≤ c → c ≤ 7 → c ≠ 6 → Lw c = Lv c) : laCl k Y Lw v = laCl k Y Lv v := by unfold laCl; rw [h 1 (by omega) (by omega) (by omega), h 2 (by omega) (by omega) (by omega), h 3 (by omega) (by omega) (by omega), h 4 (by omega) (by omega) (by omega), h 5 (by omega) (by omega) (by omega), h 7 (by omega) (by omega) (by omega)]
theorem cg_l6 (h : Lw 6 = Lv 6) : l6Cl k Y Lw v = l6Cl k Y Lv v := by unfold l6Cl; rw [h]
theorem cg_rw (h : ∀ c, 30 ≤ c → c ≤ 47 → Lw c = Lv c) : rwCl k Y Lw v = rwCl k Y Lv v := by unfold rwCl; rw [h 30 (by omega) (by omega), h 42 (by omega) (by omega), h 43 (by omega) (by omega), h 47 (by omega) (by omega), h 31 (by omega) (by omega), h 32 (by omega) (by omega), h 33 (by omega) (by omega), h 34 (by omega) (by omega), h 35 (by omega) (by omega), h 36 (by omega) (by omega), h 37 (by omega) (by omega), h 38 (by omega) (by omega), h 39 (by omega) (by omega), h 40 (by omega) (by omega), h 41 (by omega) (by omega), h 44 (by omega) (by omega), h 45 (by omega) (by omega), h 46 (by omega) (by omega)]
theorem cg_pp (h : ∀ c, 50 ≤ c → c ≤ 56 → Lw c = Lv c) : ppCl k A Y Lw v = ppCl k A Y Lv v := by unfold ppCl; rw [h 50 (by omega) (by omega), h 51 (by omega) (by omega), h 52 (by omega) (by omega), h 53 (by omega) (by omega), h 54 (by omega) (by omega), h 55 (by omega) (by omega), h 56 (by omega) (by omega)]
theorem cg_pg (h : Lw 57 = Lv 57) : pgCl A Y Lw v = pgCl A Y Lv v := by unfold pgCl; rw [h]
end CGB

theorem k_headOfP (l : Launch) (dC : Nat → ClassId) (dI : Nat → Nat → Nat) (k : Nat → ClassId) (T : Nat → Int → Int → Int → Int) (A : Nat → Int → Int → Nat) (X : Nat → Int → Int → Int) (tl : va_W) (G : Nat → Int → Nat) (Mc : Nat → Int → Int) (Y : Nat → Int → Nat) (O : Nat → Nat) (L : Int → Nat → Int → Int) (C : Nat → Int → Int) (K : Nat → Int → Int) (cp : Nat) (v : Int) (pg_ : Int) (hPR : PR dI k T A X G Mc Y O L C K cp tl) (hK : TK T) (hLD : LD T v (L v)) (hv : 0 ≤ v ∧ v ≤ 1) (hb : -2147483648 ≤ pg_ ∧ pg_ < 2147483648) : Kn l dC dI k yX1_headOf (.code yX1_headOf cX1_headOf 5 (some .int)) ({ frames := 4, cells := 0, slots := 0, locals := 86 } : Room) [.ref (Y 4 v), .int (iI pg_)] ([] ++ tl) (fun r w gc gs => ((-1 ≤ hoZ T (moC T v (dgN T v)) (mkZ T (moC T v (dgN T v))) v pg_ ∧ hoZ T (moC T v (dgN T v)) (mkZ T (moC T v (dgN T v))) v pg_ < T 0 0 0 0) ∧ r = some (.int (iI (hoZ T (moC T v (dgN T v)) (mkZ T (moC T v (dgN T v))) v pg_))) ∧ w = ([] ++ tl) ∧ gc = 0 ∧ gs = 0)) := by
  have hdg : L v 0 4 = dgN T v := hLD.1.2.2.2
  have e50 : L v 50 0 = (mkZ T (moC T v (dgN T v))) 0 0 := hLD.2.2.2.2.1.1
  have e51 : L v 50 1 = (mkZ T (moC T v (dgN T v))) 0 1 := hLD.2.2.2.2.1.2
  have K0 := k_headOf l dC dI k (Y 4 v) (Y 5 0) (Y 60 v) (Y 61 v) (Y 21 v) (Y 22 v) (Y 23 v) (Y 24 v) (Y 25 v) (Y 26 v) (Y 27 v) v (L v 0 0) (L v 0 1) (L v 0 2) (L v 0 3) (L v 0 4) (L v 1) (L v 2) (L v 3) (L v 4) (L v 5) (L v 6) (L v 7) (Y 62 v) (Y 13 0) (Y 63 v) (Y 64 v) (Y 65 v) (Y 66 v) (Y 67 v) (Y 68 v) T A X (laCl k Y (L v) v ++ (l6Cl k Y (L v) v ++ (rwCl k Y (L v) v ++ (pgCl A Y (L v) v ++ (lyCl A Y (L (1 - v)) (1 - v) ++ (laCl k Y (L (1 - v)) (1 - v) ++ (l6Cl k Y (L (1 - v)) (1 - v) ++ (rwCl k Y (L (1 - v)) (1 - v) ++ (ppCl k A Y (L (1 - v)) (1 - v) ++ (pgCl A Y (L (1 - v)) (1 - v) ++ (gCl k A Y K ++ (lnCl k Y C ++ (stCl k Y O C cp ++ (txC k T A X G Mc)))))))))))))) (moC T v (dgN T v)) (fun q9 : Nat => L v (30 + q9)) (fun q9 : Nat => Y (40 + q9) v) (L v 51) (L v 52) (L v 53) (L v 54) (L v 55) (L v 56) (mkZ T (moC T v (dgN T v))) pg_ (TI_in hPR (fun e he => (List.mem_append_right _ (List.mem_append_right _ (List.mem_append_right _ (List.mem_append_right _ (List.mem_append_right _ (List.mem_append_right _ (List.mem_append_right _ (List.mem_append_right _ (List.mem_append_right _ (List.mem_append_right _ (List.mem_append_right _ (List.mem_append_right _ (List.mem_append_right _ he))))))))))))))) hK (RI_in hv hLD.2 (fun e he => (List.mem_append_right _ (List.mem_append_right _ (List.mem_append_left _ he))))) (moC_in hK).1 (moC_in hK).2 hLD.2.2.2.2.2 mk_P5 hv (moC_7h hK) hb
  have hp := hPR.1.trans (prB_h2 (k := k) (T := T) (A := A) (X := X) (G := G) (Mc := Mc) (Y := Y) (O := O) (L := L) (C := C) (K := K) (cp := cp) hv)
  rw [← e50, ← e51] at K0
  refine kn_post (kn_perm hp K0) ?_
  rintro r w gc gs ⟨q0, hr, hw, hgc, hgs⟩
  exact ⟨[] ++ tl, by rw [hw]; exact hp.symm, q0, hr, rfl, hgc, hgs⟩

section PGO
end PGO

theorem k_rangeOfP (l : Launch) (dC : Nat → ClassId) (dI : Nat → Nat → Nat) (k : Nat → ClassId) (T : Nat → Int → Int → Int → Int) (A : Nat → Int → Int → Nat) (X : Nat → Int → Int → Int) (tl : va_W) (G : Nat → Int → Nat) (Mc : Nat → Int → Int) (Y : Nat → Int → Nat) (O : Nat → Nat) (L : Int → Nat → Int → Int) (C : Nat → Int → Int) (K : Nat → Int → Int) (cp : Nat) (v : Int) (t : Int) (ix : Int) (hPR : PR dI k T A X G Mc Y O L C K cp tl) (hK : TK T) (hLD : LD T v (L v)) (hv : 0 ≤ v ∧ v ≤ 1) (h1 : -1 ≤ t ∧ t ≤ 1000) (h2 : -2147483648 ≤ ix ∧ ix < 2147483648) : Kn l dC dI k yX1_rangeOf (.code yX1_rangeOf cX1_rangeOf 6 (some .int)) ({ frames := 4, cells := 0, slots := 0, locals := 89 } : Room) [.ref (Y 4 v), .int (iI t), .int (iI ix)] ([] ++ tl) (fun r w gc gs => (∃ (L2 : Int → Nat → Int → Int) (tl2 : va_W), (PR dI k T A X G Mc Y O L2 C K cp tl2) ∧ (∀ u c, u ≠ v ∨ c ≠ 6 → L2 u c = L u c) ∧ (-1 ≤ (rgZ (fpZ T (moC T v (dgN T v)) (mkZ T (moC T v (dgN T v))) t) ix ((mkZ T (moC T v (dgN T v))) 0 0)) ∧ (rgZ (fpZ T (moC T v (dgN T v)) (mkZ T (moC T v (dgN T v))) t) ix ((mkZ T (moC T v (dgN T v))) 0 0)) ≤ 1000000) ∧ r = some (.int (iI (rgZ (fpZ T (moC T v (dgN T v)) (mkZ T (moC T v (dgN T v))) t) ix ((mkZ T (moC T v (dgN T v))) 0 0)))) ∧ w = ([] ++ tl2) ∧ gc = 0 ∧ gs = 0)) := by
  have hdg : L v 0 4 = dgN T v := hLD.1.2.2.2
  have e50 : L v 50 0 = (mkZ T (moC T v (dgN T v))) 0 0 := hLD.2.2.2.2.1.1
  have e51 : L v 50 1 = (mkZ T (moC T v (dgN T v))) 0 1 := hLD.2.2.2.2.1.2
  have K0 := k_rangeOf l dC dI k (Y 4 v) (Y 5 0) (Y 60 v) (Y 61 v) (Y 21 v) (Y 22 v) (Y 23 v) (Y 24 v) (Y 25 v) (Y 26 v) (Y 27 v) v (L v 0 0) (L v 0 1) (L v 0 2) (L v 0 3) (L v 0 4) (L v 1) (L v 2) (L v 3) (L v 4) (L v 5) (L v 6) (L v 7) (Y 62 v) (Y 13 0) (Y 63 v) (Y 64 v) (Y 65 v) (Y 66 v) (Y 67 v) (Y 68 v) T A X (laCl k Y (L v) v ++ (rwCl k Y (L v) v ++ (pgCl A Y (L v) v ++ (lyCl A Y (L (1 - v)) (1 - v) ++ (laCl k Y (L (1 - v)) (1 - v) ++ (l6Cl k Y (L (1 - v)) (1 - v) ++ (rwCl k Y (L (1 - v)) (1 - v) ++ (ppCl k A Y (L (1 - v)) (1 - v) ++ (pgCl A Y (L (1 - v)) (1 - v) ++ (gCl k A Y K ++ (lnCl k Y C ++ (stCl k Y O C cp ++ (txC k T A X G Mc))))))))))))) (moC T v (dgN T v)) (fun q9 : Nat => L v (30 + q9)) (fun q9 : Nat => Y (40 + q9) v) (L v 51) (L v 52) (L v 53) (L v 54) (L v 55) (L v 56) (mkZ T (moC T v (dgN T v))) t ix (TI_in hPR (fun e he => (List.mem_append_right _ (List.mem_append_right _ (List.mem_append_right _ (List.mem_append_right _ (List.mem_append_right _ (List.mem_append_right _ (List.mem_append_right _ (List.mem_append_right _ (List.mem_append_right _ (List.mem_append_right _ (List.mem_append_right _ (List.mem_append_right _ he)))))))))))))) hK (RI_in hv hLD.2 (fun e he => (List.mem_append_right _ (List.mem_append_left _ he)))) (moC_in hK).1 (moC_in hK).2 hLD.2.2.2.2.2 mk_P5 (moC_9l hK) (hPR.2.2.1.2.2 v) h1 h2
  have hp := hPR.1.trans (prB_h6 (k := k) (T := T) (A := A) (X := X) (G := G) (Mc := Mc) (Y := Y) (O := O) (L := L) (C := C) (K := K) (cp := cp) hv)
  rw [← e50, ← e51] at K0
  refine kn_post (kn_perm (hp.trans (List.Perm.append_right _ (perm_eq (by simp only [lyCl_eq, laCl_eq, l6Cl_eq, rwCl_eq, ppCl_eq, pgCl_eq, lnCl_eq, stCl_eq, gCl_eq, List.cons_append, List.nil_append] <;> rfl)))) K0) ?_
  clear K0 hp
  intro r w gc gs h9
  obtain ⟨u6, q0, q1, hr, hw, hgc, hgs⟩ := h9
  obtain ⟨LN, hN6, hNo⟩ : ∃ LN : Nat → Int → Int, LN 6 = u6 ∧ ∀ c, c ≠ 6 → LN c = L v c := ⟨fun c => if c = 6 then u6 else L v c, rfl, fun c h => if_neg h⟩
  subst hN6
  have e1 : uz L v LN v = LN := uz_s
  have e2 : uz L v LN (1 - v) = L (1 - v) := uz_n (by omega)
  rw [e50] at q0 hr
  refine ⟨w, List.Perm.refl _, uz L v LN, w, ?_, fun u c huc => ?_, q0, hr, rfl, hgc, hgs⟩
  · have hpb := prB_h6 (k := k) (T := T) (A := A) (X := X) (G := G) (Mc := Mc) (Y := Y) (O := O) (L := uz L v LN) (C := C) (K := K) (cp := cp) hv
    rw [e1, e2, cg_ly (Lv := L v) (hNo 0 (by omega)), cg_la (Lv := L v) (fun c _ _ h => hNo c h), cg_rw (Lv := L v) (fun c _ _ => hNo c (by omega)), cg_pp (Lv := L v) (fun c _ _ => hNo c (by omega)), cg_pg (Lv := L v) (hNo 57 (by omega))] at hpb
    have hw2 : w = (lyCl A Y (L v) v ++ (l6Cl k Y LN v ++ ppCl k A Y (L v) v)) ++ (laCl k Y (L v) v ++ (rwCl k Y (L v) v ++ (pgCl A Y (L v) v ++ (lyCl A Y (L (1 - v)) (1 - v) ++ (laCl k Y (L (1 - v)) (1 - v) ++ (l6Cl k Y (L (1 - v)) (1 - v) ++ (rwCl k Y (L (1 - v)) (1 - v) ++ (ppCl k A Y (L (1 - v)) (1 - v) ++ (pgCl A Y (L (1 - v)) (1 - v) ++ (gCl k A Y K ++ (lnCl k Y C ++ (stCl k Y O C cp ++ (txC k T A X G Mc))))))))))))) := by
      rw [hw]
      generalize (laCl k Y (L v) v ++ (rwCl k Y (L v) v ++ (pgCl A Y (L v) v ++ (lyCl A Y (L (1 - v)) (1 - v) ++ (laCl k Y (L (1 - v)) (1 - v) ++ (l6Cl k Y (L (1 - v)) (1 - v) ++ (rwCl k Y (L (1 - v)) (1 - v) ++ (ppCl k A Y (L (1 - v)) (1 - v) ++ (pgCl A Y (L (1 - v)) (1 - v) ++ (gCl k A Y K ++ (lnCl k Y C ++ (stCl k Y O C cp ++ (txC k T A X G Mc))))))))))))) = rs
      simp only [lyCl_eq, laCl_eq, l6Cl_eq, rwCl_eq, ppCl_eq, pgCl_eq, lnCl_eq, stCl_eq, gCl_eq, List.cons_append, List.nil_append] <;> rfl
    refine ⟨?_, hPR.2.1, ⟨hPR.2.2.1.1, fun u => ?_, fun u => ?_⟩, hPR.2.2.2⟩
    · rw [hw2]; exact hpb.symm
    · by_cases e : u = v
      · subst e; rw [uz_s, hNo 31 (by omega), hNo 32 (by omega), hNo 33 (by omega), hNo 34 (by omega), hNo 35 (by omega), hNo 36 (by omega), hNo 37 (by omega), hNo 38 (by omega), hNo 39 (by omega), hNo 40 (by omega), hNo 41 (by omega), hNo 44 (by omega), hNo 45 (by omega), hNo 46 (by omega)]; exact hPR.2.2.1.2.1 u
      · rw [uz_n e]; exact hPR.2.2.1.2.1 u
    · by_cases e : u = v
      · subst e; rw [uz_s]; exact q1
      · rw [uz_n e]; exact hPR.2.2.1.2.2 u
  · by_cases e : u = v
    · subst e; rw [uz_s]; exact hNo c (by rcases huc with h | h; (exact absurd rfl h); exact h)
    · rw [uz_n e]

theorem k_forgetP (l : Launch) (dC : Nat → ClassId) (dI : Nat → Nat → Nat) (k : Nat → ClassId) (T : Nat → Int → Int → Int → Int) (A : Nat → Int → Int → Nat) (X : Nat → Int → Int → Int) (tl : va_W) (G : Nat → Int → Nat) (Mc : Nat → Int → Int) (Y : Nat → Int → Nat) (O : Nat → Nat) (L : Int → Nat → Int → Int) (C : Nat → Int → Int) (K : Nat → Int → Int) (cp : Nat) (v : Int) (hPR : PR dI k T A X G Mc Y O L C K cp tl) (hK : TK T) (hv : 0 ≤ v ∧ v ≤ 1) : Kn l dC dI k yX1_forget (.code yX1_forget cX1_forget 1 none) ({ frames := 0, cells := 0, slots := 0, locals := 0 } : Room) [.ref (Y 4 v)] ([] ++ tl) (fun r w gc gs => (∃ (L2 : Int → Nat → Int → Int) (tl2 : va_W), (PR dI k T A X G Mc Y O L2 C K cp tl2) ∧ (∀ u c, u ≠ v ∨ c ≠ 0 → L2 u c = L u c) ∧ (LF (L2 v)) ∧ r = none ∧ w = ([] ++ tl2) ∧ gc = 0 ∧ gs = 0)) := by
  have K0 := k_forget l dC dI k (Y 4 v) (Y 5 0) (Y 60 v) (Y 61 v) (Y 21 v) (Y 22 v) (Y 23 v) (Y 24 v) (Y 25 v) (Y 26 v) (Y 27 v) v (L v 0 0) (L v 0 1) (L v 0 2) (L v 0 3) (L v 0 4) (L v 1) (L v 2) (L v 3) (L v 4) (L v 5) (L v 6) (L v 7) A 
  have hp := hPR.1.trans (prB_h1 (k := k) (T := T) (A := A) (X := X) (G := G) (Mc := Mc) (Y := Y) (O := O) (L := L) (C := C) (K := K) (cp := cp) hv)
  refine kn_post (kn_perm hp (kn_frame (laCl k Y (L v) v ++ (l6Cl k Y (L v) v ++ (rwCl k Y (L v) v ++ (ppCl k A Y (L v) v ++ (pgCl A Y (L v) v ++ (lyCl A Y (L (1 - v)) (1 - v) ++ (laCl k Y (L (1 - v)) (1 - v) ++ (l6Cl k Y (L (1 - v)) (1 - v) ++ (rwCl k Y (L (1 - v)) (1 - v) ++ (ppCl k A Y (L (1 - v)) (1 - v) ++ (pgCl A Y (L (1 - v)) (1 - v) ++ (gCl k A Y K ++ (lnCl k Y C ++ (stCl k Y O C cp ++ (txC k T A X G Mc))))))))))))))) K0)) ?_
  clear K0 hp
  intro r w gc gs h9
  obtain ⟨w1, ⟨hr, hw1, hgc, hgs⟩, hw⟩ := h9
  obtain ⟨LN, hN0, hNo⟩ : ∃ LN : Nat → Int → Int, LF LN ∧ ∀ c, c ≠ 0 → LN c = L v c := ⟨fun c j => if c = 0 then (if j = 0 then 1 else if j = 4 then 1365 else 0) else L v c j, ⟨rfl, rfl, rfl, rfl, rfl⟩, fun c h => by funext j; exact if_neg h⟩
  obtain ⟨n0, n1, n2, n3, n4⟩ := hN0
  have e1 : uz L v LN v = LN := uz_s
  have e2 : uz L v LN (1 - v) = L (1 - v) := uz_n (by omega)
  refine ⟨w, List.Perm.refl _, uz L v LN, w, ?_, fun u c huc => ?_, by rw [e1]; exact ⟨n0, n1, n2, n3, n4⟩, hr, rfl, hgc, hgs⟩
  · have hpb := prB_h1 (k := k) (T := T) (A := A) (X := X) (G := G) (Mc := Mc) (Y := Y) (O := O) (L := uz L v LN) (C := C) (K := K) (cp := cp) hv
    rw [e1, e2, cg_la (Lv := L v) (fun c _ _ _ => hNo c (by omega)), cg_l6 (Lv := L v) (hNo 6 (by omega)), cg_rw (Lv := L v) (fun c _ _ => hNo c (by omega)), cg_pp (Lv := L v) (fun c _ _ => hNo c (by omega)), cg_pg (Lv := L v) (hNo 57 (by omega))] at hpb
    have hw2 : w1 = lyCl A Y LN v := by
      rw [hw1, lyCl_eq, n0, n1, n2, n3, n4]
    refine ⟨?_, hPR.2.1, ⟨hPR.2.2.1.1, fun u => ?_, fun u => ?_⟩, hPR.2.2.2⟩
    · rw [hw, hw2]; exact List.perm_append_comm.trans hpb.symm
    · by_cases e : u = v
      · subst e; rw [uz_s, hNo 31 (by omega), hNo 32 (by omega), hNo 33 (by omega), hNo 34 (by omega), hNo 35 (by omega), hNo 36 (by omega), hNo 37 (by omega), hNo 38 (by omega), hNo 39 (by omega), hNo 40 (by omega), hNo 41 (by omega), hNo 44 (by omega), hNo 45 (by omega), hNo 46 (by omega)]; exact hPR.2.2.1.2.1 u
      · rw [uz_n e]; exact hPR.2.2.1.2.1 u
    · by_cases e : u = v
      · subst e; rw [uz_s, hNo 6 (by omega)]; exact hPR.2.2.1.2.2 u
      · rw [uz_n e]; exact hPR.2.2.1.2.2 u
  · by_cases e : u = v
    · subst e; rw [uz_s]; exact hNo c (by rcases huc with h | h; (exact absurd rfl h); exact h)
    · rw [uz_n e]

theorem k_byAllP (l : Launch) (dC : Nat → ClassId) (dI : Nat → Nat → Nat) (k : Nat → ClassId) (T : Nat → Int → Int → Int → Int) (A : Nat → Int → Int → Nat) (X : Nat → Int → Int → Int) (tl : va_W) (G : Nat → Int → Nat) (Mc : Nat → Int → Int) (Y : Nat → Int → Nat) (O : Nat → Nat) (L : Int → Nat → Int → Int) (C : Nat → Int → Int) (K : Nat → Int → Int) (cp : Nat) (v : Int) (i : Int) (hPR : PR dI k T A X G Mc Y O L C K cp tl) (hK : TK T) (hLD : LD T v (L v)) (hv : 0 ≤ v ∧ v ≤ 1) (hi : 0 ≤ i ∧ i < T 0 0 0 0) : Kn l dC dI k yX1_demeritsByAllWays (.code yX1_demeritsByAllWays cX1_demeritsByAllWays 2 (some .long)) ({ frames := 4, cells := 0, slots := 0, locals := 92 } : Room) [.ref (Y 4 v), .int (iI i)] ([] ++ tl) (fun r w gc gs => (∃ (C2 : Nat → Int → Int) (tl2 : va_W), (PR dI k T A X G Mc Y O L C2 K cp tl2) ∧ r = some (.long (lI (byZ T v (dgN T v) i))) ∧ w = ([] ++ tl2) ∧ gc = 0 ∧ gs = 0)) := by
  have hdg : L v 0 4 = dgN T v := hLD.1.2.2.2
  have hdn : 0 ≤ dgN T v ∧ dgN T v < 4096 := dgN_in
  have e50 : L v 50 0 = (mkZ T (moC T v (dgN T v))) 0 0 := hLD.2.2.2.2.1.1
  have e51 : L v 50 1 = (mkZ T (moC T v (dgN T v))) 0 1 := hLD.2.2.2.2.1.2
  have K0 := k_demeritsByAllWays l dC dI k (Y 4 v) (Y 5 0) (Y 60 v) (Y 61 v) (Y 21 v) (Y 22 v) (Y 23 v) (Y 24 v) (Y 25 v) (Y 26 v) (Y 27 v) v (L v 0 0) (L v 0 1) (L v 0 2) (L v 0 3) (L v 0 4) (L v 1) (L v 2) (L v 3) (L v 4) (L v 5) (L v 6) (L v 7) (Y 6 0) (Y 7 0) (Y 8 0) (Y 9 0) (Y 10 0) (Y 11 0) (Y 12 0) (C 8 0) (C 8 1) (C 8 2) (C 8 3) (C 8 4) (C 8 5) (C 9) (C 10) (C 11) (C 12) (C 13) (C 14) (C 15) T A X (laCl k Y (L v) v ++ (l6Cl k Y (L v) v ++ (rwCl k Y (L v) v ++ (ppCl k A Y (L v) v ++ (pgCl A Y (L v) v ++ (lyCl A Y (L (1 - v)) (1 - v) ++ (laCl k Y (L (1 - v)) (1 - v) ++ (l6Cl k Y (L (1 - v)) (1 - v) ++ (rwCl k Y (L (1 - v)) (1 - v) ++ (ppCl k A Y (L (1 - v)) (1 - v) ++ (pgCl A Y (L (1 - v)) (1 - v) ++ (gCl k A Y K ++ (stCl k Y O C cp ++ (txC k T A X G Mc)))))))))))))) i (TI_in hPR (fun e he => (List.mem_append_right _ (List.mem_append_right _ (List.mem_append_right _ (List.mem_append_right _ (List.mem_append_right _ (List.mem_append_right _ (List.mem_append_right _ (List.mem_append_right _ (List.mem_append_right _ (List.mem_append_right _ (List.mem_append_right _ (List.mem_append_right _ (List.mem_append_right _ he))))))))))))))) hK hi hPR.2.2.1.1.1 hPR.2.2.1.1.2.1 hPR.2.2.1.1.2.2.1 hPR.2.2.1.1.2.2.2.1 hPR.2.2.1.1.2.2.2.2.1 hPR.2.2.1.1.2.2.2.2.2.1 hPR.2.2.1.1.2.2.2.2.2.2.1 hPR.2.2.1.1.2.2.2.2.2.2.2 ⟨hv.1, hv.2, by rw [hdg]; exact hdn.1, by rw [hdg]; exact hdn.2, by have := TK_nb hK; omega⟩
  have hp := hPR.1.trans (prB_hn (k := k) (T := T) (A := A) (X := X) (G := G) (Mc := Mc) (Y := Y) (O := O) (L := L) (C := C) (K := K) (cp := cp) hv)
  refine kn_post (kn_perm (hp.trans (List.Perm.append_right _ (perm_eq (by simp only [lyCl_eq, laCl_eq, l6Cl_eq, rwCl_eq, ppCl_eq, pgCl_eq, lnCl_eq, stCl_eq, gCl_eq, List.cons_append, List.nil_append] <;> rfl)))) K0) ?_
  clear K0 hp
  intro r w gc gs h9
  obtain ⟨qn, qw, qa, qd, qs, qc, xa, xg, xw, xo, h9⟩ := h9
  obtain ⟨xD, xL, xE, q0, q1, q2, q3, q4, q5, q6, h9⟩ := h9
  obtain ⟨q7, hr, hw, hgc, hgs⟩ := h9
  rw [hdg] at hr
  obtain ⟨C2, h9⟩ : ∃ C2 : Nat → Int → Int, C2 9 = xa ∧ C2 10 = xg ∧ C2 11 = xw ∧ C2 12 = xo ∧ C2 13 = xD ∧ C2 14 = xL ∧ C2 15 = xE ∧ C2 8 0 = qn ∧ C2 8 1 = qw ∧ C2 8 2 = qa ∧ C2 8 3 = qd ∧ C2 8 4 = qs ∧ C2 8 5 = qc ∧ ∀ c, 15 < c → C2 c = C c := ⟨fun c j => if c = 8 then (if j = 0 then qn else if j = 1 then qw else if j = 2 then qa else if j = 3 then qd else if j = 4 then qs else qc) else if c = 9 then xa j else if c = 10 then xg j else if c = 11 then xw j else if c = 12 then xo j else if c = 13 then xD j else if c = 14 then xL j else if c = 15 then xE j else C c j, rfl, rfl, rfl, rfl, rfl, rfl, rfl, rfl, rfl, rfl, rfl, rfl, rfl, fun c h => by funext j; simp only []; rw [if_neg (by omega), if_neg (by omega), if_neg (by omega), if_neg (by omega), if_neg (by omega), if_neg (by omega), if_neg (by omega), if_neg (by omega)]⟩
  obtain ⟨hC0, hC1, hC2, hC3, hC4, hC5, hC6, hD0, hD1, hD2, h9⟩ := h9
  obtain ⟨hD3, hD4, hD5, hCo⟩ := h9
  subst hC0
  subst hC1
  subst hC2
  subst hC3
  subst hC4
  subst hC5
  subst hC6
  subst hD0
  subst hD1
  subst hD2
  subst hD3
  subst hD4
  subst hD5
  refine ⟨w, List.Perm.refl _, C2, w, ?_, hr, rfl, hgc, hgs⟩
  have hpb := prB_hn (k := k) (T := T) (A := A) (X := X) (G := G) (Mc := Mc) (Y := Y) (O := O) (L := L) (C := C2) (K := K) (cp := cp) hv
  have e9 : stCl k Y O C2 cp = stCl k Y O C cp := by unfold stCl; rw [hCo 16 (by omega), hCo 17 (by omega), hCo 18 (by omega), hCo 19 (by omega), hCo 20 (by omega), hCo 21 (by omega), hCo 22 (by omega), hCo 23 (by omega)]
  rw [e9] at hpb
  have hw2 : w = (lyCl A Y (L v) v ++ lnCl k Y C2) ++ (laCl k Y (L v) v ++ (l6Cl k Y (L v) v ++ (rwCl k Y (L v) v ++ (ppCl k A Y (L v) v ++ (pgCl A Y (L v) v ++ (lyCl A Y (L (1 - v)) (1 - v) ++ (laCl k Y (L (1 - v)) (1 - v) ++ (l6Cl k Y (L (1 - v)) (1 - v) ++ (rwCl k Y (L (1 - v)) (1 - v) ++ (ppCl k A Y (L (1 - v)) (1 - v) ++ (pgCl A Y (L (1 - v)) (1 - v) ++ (gCl k A Y K ++ (stCl k Y O C cp ++ (txC k T A X G Mc)))))))))))))) := by
    rw [hw]
    generalize (laCl k Y (L v) v ++ (l6Cl k Y (L v) v ++ (rwCl k Y (L v) v ++ (ppCl k A Y (L v) v ++ (pgCl A Y (L v) v ++ (lyCl A Y (L (1 - v)) (1 - v) ++ (laCl k Y (L (1 - v)) (1 - v) ++ (l6Cl k Y (L (1 - v)) (1 - v) ++ (rwCl k Y (L (1 - v)) (1 - v) ++ (ppCl k A Y (L (1 - v)) (1 - v) ++ (pgCl A Y (L (1 - v)) (1 - v) ++ (gCl k A Y K ++ (stCl k Y O C cp ++ (txC k T A X G Mc)))))))))))))) = rs
    simp only [lyCl_eq, laCl_eq, l6Cl_eq, rwCl_eq, ppCl_eq, pgCl_eq, lnCl_eq, stCl_eq, gCl_eq, List.cons_append, List.nil_append] <;> rfl
  refine ⟨?_, hPR.2.1, ⟨⟨q0, q1, q2, q3, q4, q5, q6, q7⟩, hPR.2.2.1.2⟩, hPR.2.2.2⟩
  rw [hw2]; exact hpb.symm

end
