section
/-- what a word's marks tell of its row -/
abbrev mkP (T : Nat → Int → Int → Int → Int) (Q : Nat → Int → Int) (i j ro : Int) (c : Nat) (m : Int) : Prop := T 7 i j m ≠ -1 ∧ (Q c (T 7 i j m) = -1 ∨ ro < Q c (T 7 i j m))
def mkQ (T : Nat → Int → Int → Int → Int) (Q : Nat → Int → Int) (i j ro ix : Int) : Nat → Int → Int := fun c x =>
  if c = 4 then (if T 7 i j 0 = -1 then Q 4 x else uz (Q 4) ro (Q 4 ro + T 7 i j 0) x) else if c = 5 then (if T 7 i j 0 = -1 then Q 5 x else uz (Q 5) ro (T 7 i j 0) x)
  else if c = 10 then (if mkP T Q i j ro 10 2 then uz (Q 10) (T 7 i j 2) ro x else Q 10 x) else if c = 14 then (if mkP T Q i j ro 14 1 then uz (Q 14) (T 7 i j 1) ro x else Q 14 x)
  else if c = 15 then (if mkP T Q i j ro 14 1 then uz (Q 15) (T 7 i j 1) ix x else Q 15 x) else Q c x
def RQw (Q : Nat → Int → Int) (v4 v5 v9 v10 v14 v15 : Int → Int) : Prop := (∀ x, 0 ≤ x → x < Q 0 0 → v4 x = Q 4 x ∧ v5 x = Q 5 x) ∧ (∀ x, 0 ≤ x → x < 192 → v9 x = Q 9 x) ∧ (∀ x, 0 ≤ x → x < 6 → v10 x = Q 10 x) ∧ (∀ x, 0 ≤ x → x < 5 → v14 x = Q 14 x) ∧ (∀ x, 0 ≤ x → x < 5 → Q 14 x ≠ -1 → v15 x = Q 15 x)
section MQ1
variable {T : Nat → Int → Int → Int → Int} {Q : Nat → Int → Int} {v4 v5 v9 v10 v14 v15 : Int → Int} {i j ro ix : Int}
theorem mk45y (h : RQw Q v4 v5 v9 v10 v14 v15) (hr : 0 ≤ ro ∧ ro < Q 0 0) (hn : T 7 i j 0 ≠ -1) : ∀ x, 0 ≤ x → x < Q 0 0 → uz v4 ro (v4 ro + T 7 i j 0) x = mkQ T Q i j ro ix 4 x ∧ uz v5 ro (T 7 i j 0) x = mkQ T Q i j ro ix 5 x := fun x a b => by
  show _ = (if T 7 i j 0 = -1 then Q 4 x else uz (Q 4) ro (Q 4 ro + T 7 i j 0) x) ∧ _ = (if T 7 i j 0 = -1 then Q 5 x else uz (Q 5) ro (T 7 i j 0) x)
  rw [if_neg hn, if_neg hn, (h.1 ro hr.1 hr.2).1]
  by_cases e : x = ro
  · rw [e, uz_s, uz_s, uz_s, uz_s]; exact ⟨rfl, rfl⟩
  · rw [uz_n e, uz_n e, uz_n e, uz_n e]; exact h.1 x a b
theorem mk45n (h : RQw Q v4 v5 v9 v10 v14 v15) (hn : T 7 i j 0 = -1) : ∀ x, 0 ≤ x → x < Q 0 0 → v4 x = mkQ T Q i j ro ix 4 x ∧ v5 x = mkQ T Q i j ro ix 5 x := fun x a b => by
  show _ = (if T 7 i j 0 = -1 then Q 4 x else uz (Q 4) ro (Q 4 ro + T 7 i j 0) x) ∧ _ = (if T 7 i j 0 = -1 then Q 5 x else uz (Q 5) ro (T 7 i j 0) x)
  rw [if_pos hn, if_pos hn]
  exact h.1 x a b
theorem mk10y (h : RQw Q v4 v5 v9 v10 v14 v15) (hl : 0 ≤ T 7 i j 2 ∧ T 7 i j 2 < 6) (hc : v10 (T 7 i j 2) = -1 ∨ ro < v10 (T 7 i j 2)) : ∀ x, 0 ≤ x → x < 6 → uz v10 (T 7 i j 2) ro x = mkQ T Q i j ro ix 10 x := fun x a b => by
  show _ = (if mkP T Q i j ro 10 2 then uz (Q 10) (T 7 i j 2) ro x else Q 10 x)
  rw [h.2.2.1 _ hl.1 hl.2] at hc
  rw [if_pos ⟨by omega, hc⟩]
  by_cases e : x = T 7 i j 2
  · rw [e, uz_s, uz_s]
  · rw [uz_n e, uz_n e]; exact h.2.2.1 x a b
theorem mk10n (h : RQw Q v4 v5 v9 v10 v14 v15) (hl : T 7 i j 2 = -1 ∨ (0 ≤ T 7 i j 2 ∧ T 7 i j 2 < 6 ∧ v10 (T 7 i j 2) ≠ -1 ∧ v10 (T 7 i j 2) ≤ ro)) : ∀ x, 0 ≤ x → x < 6 → v10 x = mkQ T Q i j ro ix 10 x := fun x a b => by
  show _ = (if mkP T Q i j ro 10 2 then uz (Q 10) (T 7 i j 2) ro x else Q 10 x)
  rw [if_neg ?_]
  · exact h.2.2.1 x a b
  · rintro ⟨g1, g2⟩
    rcases hl with e | ⟨e1, e2, e3, e4⟩
    · exact g1 e
    · rw [h.2.2.1 _ e1 e2] at e3 e4
      omega
theorem mk14y (h : RQw Q v4 v5 v9 v10 v14 v15) (hl : 0 ≤ T 7 i j 1 ∧ T 7 i j 1 < 5) (hr : ro ≠ -1) (hc : v14 (T 7 i j 1) = -1 ∨ ro < v14 (T 7 i j 1)) : (∀ x, 0 ≤ x → x < 5 → uz v14 (T 7 i j 1) ro x = mkQ T Q i j ro ix 14 x) ∧ (∀ x, 0 ≤ x → x < 5 → mkQ T Q i j ro ix 14 x ≠ -1 → uz v15 (T 7 i j 1) ix x = mkQ T Q i j ro ix 15 x) := by
  have e14 : ∀ x, mkQ T Q i j ro ix 14 x = (if mkP T Q i j ro 14 1 then uz (Q 14) (T 7 i j 1) ro x else Q 14 x) := fun _ => rfl
  have e15 : ∀ x, mkQ T Q i j ro ix 15 x = (if mkP T Q i j ro 14 1 then uz (Q 15) (T 7 i j 1) ix x else Q 15 x) := fun _ => rfl
  rw [h.2.2.2.1 _ hl.1 hl.2] at hc
  have hp : mkP T Q i j ro 14 1 := ⟨by omega, hc⟩
  refine ⟨fun x a b => ?_, fun x a b c => ?_⟩
  · rw [e14, if_pos hp]
    by_cases e : x = T 7 i j 1
    · rw [e, uz_s, uz_s]
    · rw [uz_n e, uz_n e]; exact h.2.2.2.1 x a b
  · rw [e14, if_pos hp] at c
    rw [e15, if_pos hp]
    by_cases e : x = T 7 i j 1
    · rw [e, uz_s, uz_s]
    · rw [uz_n e] at c
      rw [uz_n e, uz_n e]; exact h.2.2.2.2 x a b c
theorem mk14n (h : RQw Q v4 v5 v9 v10 v14 v15) (hl : T 7 i j 1 = -1 ∨ (0 ≤ T 7 i j 1 ∧ T 7 i j 1 < 5 ∧ v14 (T 7 i j 1) ≠ -1 ∧ v14 (T 7 i j 1) ≤ ro)) : (∀ x, 0 ≤ x → x < 5 → v14 x = mkQ T Q i j ro ix 14 x) ∧ (∀ x, 0 ≤ x → x < 5 → mkQ T Q i j ro ix 14 x ≠ -1 → v15 x = mkQ T Q i j ro ix 15 x) := by
  have e14 : ∀ x, mkQ T Q i j ro ix 14 x = (if mkP T Q i j ro 14 1 then uz (Q 14) (T 7 i j 1) ro x else Q 14 x) := fun _ => rfl
  have e15 : ∀ x, mkQ T Q i j ro ix 15 x = (if mkP T Q i j ro 14 1 then uz (Q 15) (T 7 i j 1) ix x else Q 15 x) := fun _ => rfl
  have hp : ¬ mkP T Q i j ro 14 1 := by
    rintro ⟨g1, g2⟩
    rcases hl with e | ⟨e1, e2, e3, e4⟩
    · exact g1 e
    · rw [h.2.2.2.1 _ e1 e2] at e3 e4
      omega
  refine ⟨fun x a b => ?_, fun x a b c => ?_⟩
  · rw [e14, if_neg hp]; exact h.2.2.2.1 x a b
  · rw [e14, if_neg hp] at c
    rw [e15, if_neg hp]; exact h.2.2.2.2 x a b c
end MQ1

theorem mw_248 : (Jvm.Cond.fieldLink "Galleyforge$Rows" (40 : Nat) "Galleyforge$Rows" "labelRows" "[I") ∈ gt := gt_at 318 (by decide +kernel) (by decide +kernel)
theorem dX6_markRow_0 : decode cX6_markRow 0 = .ok (.aload_n 3, 1) := by decide +kernel
theorem dX6_markRow_1 : decode cX6_markRow 1 = .ok (.getfield 129, 3) := by decide +kernel
theorem dX6_markRow_4 : decode cX6_markRow 4 = .ok (.iconst 0, 1) := by decide +kernel
theorem dX6_markRow_5 : decode cX6_markRow 5 = .ok (.iaload, 1) := by decide +kernel
theorem dX6_markRow_6 : decode cX6_markRow 6 = .ok (.iconst (-1), 1) := by decide +kernel
theorem dX6_markRow_7 : decode cX6_markRow 7 = .ok (.if_icmp .eq 30, 3) := by decide +kernel
theorem dX6_markRow_10 : decode cX6_markRow 10 = .ok (.aload_n 0, 1) := by decide +kernel
theorem dX6_markRow_11 : decode cX6_markRow 11 = .ok (.getfield 21, 3) := by decide +kernel
theorem dX6_markRow_14 : decode cX6_markRow 14 = .ok (.iload_n 1, 1) := by decide +kernel
theorem dX6_markRow_15 : decode cX6_markRow 15 = .ok (.dup2, 1) := by decide +kernel
theorem dX6_markRow_16 : decode cX6_markRow 16 = .ok (.iaload, 1) := by decide +kernel
theorem dX6_markRow_17 : decode cX6_markRow 17 = .ok (.aload_n 3, 1) := by decide +kernel
theorem dX6_markRow_18 : decode cX6_markRow 18 = .ok (.getfield 129, 3) := by decide +kernel
theorem dX6_markRow_21 : decode cX6_markRow 21 = .ok (.iconst 0, 1) := by decide +kernel
theorem dX6_markRow_22 : decode cX6_markRow 22 = .ok (.iaload, 1) := by decide +kernel
theorem dX6_markRow_23 : decode cX6_markRow 23 = .ok (.iadd, 1) := by decide +kernel
theorem dX6_markRow_24 : decode cX6_markRow 24 = .ok (.iastore, 1) := by decide +kernel
theorem dX6_markRow_25 : decode cX6_markRow 25 = .ok (.aload_n 0, 1) := by decide +kernel
theorem dX6_markRow_26 : decode cX6_markRow 26 = .ok (.getfield 24, 3) := by decide +kernel
theorem dX6_markRow_29 : decode cX6_markRow 29 = .ok (.iload_n 1, 1) := by decide +kernel
theorem dX6_markRow_30 : decode cX6_markRow 30 = .ok (.aload_n 3, 1) := by decide +kernel
theorem dX6_markRow_31 : decode cX6_markRow 31 = .ok (.getfield 129, 3) := by decide +kernel
theorem dX6_markRow_34 : decode cX6_markRow 34 = .ok (.iconst 0, 1) := by decide +kernel
theorem dX6_markRow_35 : decode cX6_markRow 35 = .ok (.iaload, 1) := by decide +kernel
theorem dX6_markRow_36 : decode cX6_markRow 36 = .ok (.iastore, 1) := by decide +kernel
theorem dX6_markRow_37 : decode cX6_markRow 37 = .ok (.aload_n 3, 1) := by decide +kernel
theorem dX6_markRow_38 : decode cX6_markRow 38 = .ok (.getfield 129, 3) := by decide +kernel
theorem dX6_markRow_41 : decode cX6_markRow 41 = .ok (.iconst 2, 1) := by decide +kernel
theorem dX6_markRow_42 : decode cX6_markRow 42 = .ok (.iaload, 1) := by decide +kernel
theorem dX6_markRow_43 : decode cX6_markRow 43 = .ok (.istore 4, 2) := by decide +kernel
theorem dX6_markRow_45 : decode cX6_markRow 45 = .ok (.iload 4, 2) := by decide +kernel
theorem dX6_markRow_47 : decode cX6_markRow 47 = .ok (.iconst (-1), 1) := by decide +kernel
theorem dX6_markRow_48 : decode cX6_markRow 48 = .ok (.if_icmp .eq 33, 3) := by decide +kernel
theorem dX6_markRow_51 : decode cX6_markRow 51 = .ok (.aload_n 0, 1) := by decide +kernel
theorem dX6_markRow_52 : decode cX6_markRow 52 = .ok (.getfield 40, 3) := by decide +kernel
theorem dX6_markRow_55 : decode cX6_markRow 55 = .ok (.iload 4, 2) := by decide +kernel
theorem dX6_markRow_57 : decode cX6_markRow 57 = .ok (.iaload, 1) := by decide +kernel
theorem dX6_markRow_58 : decode cX6_markRow 58 = .ok (.iconst (-1), 1) := by decide +kernel
theorem dX6_markRow_59 : decode cX6_markRow 59 = .ok (.if_icmp .eq 14, 3) := by decide +kernel
theorem dX6_markRow_62 : decode cX6_markRow 62 = .ok (.iload_n 1, 1) := by decide +kernel
theorem dX6_markRow_63 : decode cX6_markRow 63 = .ok (.aload_n 0, 1) := by decide +kernel
theorem dX6_markRow_64 : decode cX6_markRow 64 = .ok (.getfield 40, 3) := by decide +kernel
theorem dX6_markRow_67 : decode cX6_markRow 67 = .ok (.iload 4, 2) := by decide +kernel
theorem dX6_markRow_69 : decode cX6_markRow 69 = .ok (.iaload, 1) := by decide +kernel
theorem dX6_markRow_70 : decode cX6_markRow 70 = .ok (.if_icmp .ge 11, 3) := by decide +kernel
theorem dX6_markRow_73 : decode cX6_markRow 73 = .ok (.aload_n 0, 1) := by decide +kernel
theorem dX6_markRow_74 : decode cX6_markRow 74 = .ok (.getfield 40, 3) := by decide +kernel
theorem dX6_markRow_77 : decode cX6_markRow 77 = .ok (.iload 4, 2) := by decide +kernel
theorem dX6_markRow_79 : decode cX6_markRow 79 = .ok (.iload_n 1, 1) := by decide +kernel
theorem dX6_markRow_80 : decode cX6_markRow 80 = .ok (.iastore, 1) := by decide +kernel
theorem dX6_markRow_81 : decode cX6_markRow 81 = .ok (.aload_n 3, 1) := by decide +kernel
theorem dX6_markRow_82 : decode cX6_markRow 82 = .ok (.getfield 129, 3) := by decide +kernel
theorem dX6_markRow_85 : decode cX6_markRow 85 = .ok (.iconst 1, 1) := by decide +kernel
theorem dX6_markRow_86 : decode cX6_markRow 86 = .ok (.iaload, 1) := by decide +kernel
theorem dX6_markRow_87 : decode cX6_markRow 87 = .ok (.istore 5, 2) := by decide +kernel
theorem dX6_markRow_89 : decode cX6_markRow 89 = .ok (.iload 5, 2) := by decide +kernel
theorem dX6_markRow_91 : decode cX6_markRow 91 = .ok (.iconst (-1), 1) := by decide +kernel
theorem dX6_markRow_92 : decode cX6_markRow 92 = .ok (.if_icmp .eq 41, 3) := by decide +kernel
theorem dX6_markRow_95 : decode cX6_markRow 95 = .ok (.aload_n 0, 1) := by decide +kernel
theorem dX6_markRow_96 : decode cX6_markRow 96 = .ok (.getfield 46, 3) := by decide +kernel
theorem dX6_markRow_99 : decode cX6_markRow 99 = .ok (.iload 5, 2) := by decide +kernel
theorem dX6_markRow_101 : decode cX6_markRow 101 = .ok (.iaload, 1) := by decide +kernel
theorem dX6_markRow_102 : decode cX6_markRow 102 = .ok (.iconst (-1), 1) := by decide +kernel
theorem dX6_markRow_103 : decode cX6_markRow 103 = .ok (.if_icmp .eq 14, 3) := by decide +kernel
theorem dX6_markRow_106 : decode cX6_markRow 106 = .ok (.iload_n 1, 1) := by decide +kernel
theorem dX6_markRow_107 : decode cX6_markRow 107 = .ok (.aload_n 0, 1) := by decide +kernel
theorem dX6_markRow_108 : decode cX6_markRow 108 = .ok (.getfield 46, 3) := by decide +kernel
theorem dX6_markRow_111 : decode cX6_markRow 111 = .ok (.iload 5, 2) := by decide +kernel
theorem dX6_markRow_113 : decode cX6_markRow 113 = .ok (.iaload, 1) := by decide +kernel
theorem dX6_markRow_114 : decode cX6_markRow 114 = .ok (.if_icmp .ge 19, 3) := by decide +kernel
theorem dX6_markRow_117 : decode cX6_markRow 117 = .ok (.aload_n 0, 1) := by decide +kernel
theorem dX6_markRow_118 : decode cX6_markRow 118 = .ok (.getfield 46, 3) := by decide +kernel
theorem dX6_markRow_121 : decode cX6_markRow 121 = .ok (.iload 5, 2) := by decide +kernel
theorem dX6_markRow_123 : decode cX6_markRow 123 = .ok (.iload_n 1, 1) := by decide +kernel
theorem dX6_markRow_124 : decode cX6_markRow 124 = .ok (.iastore, 1) := by decide +kernel
theorem dX6_markRow_125 : decode cX6_markRow 125 = .ok (.aload_n 0, 1) := by decide +kernel
theorem dX6_markRow_126 : decode cX6_markRow 126 = .ok (.getfield 49, 3) := by decide +kernel
theorem dX6_markRow_129 : decode cX6_markRow 129 = .ok (.iload 5, 2) := by decide +kernel
theorem dX6_markRow_131 : decode cX6_markRow 131 = .ok (.iload_n 2, 1) := by decide +kernel
theorem dX6_markRow_132 : decode cX6_markRow 132 = .ok (.iastore, 1) := by decide +kernel
theorem dX6_markRow_133 : decode cX6_markRow 133 = .ok (.return_, 1) := by decide +kernel
set_option maxHeartbeats 4000000 in
set_option maxRecDepth 100000 in
theorem k_markRow (l : Launch) (dC : Nat → ClassId) (dI : Nat → Nat → Nat) (k : Nat → ClassId) (rw : Nat) (w1 : Nat) (w2 : Nat) (w3 : Nat) (w4 : Nat) (w5 : Nat) (w6 : Nat) (w7 : Nat) (w8 : Nat) (w9 : Nat) (w10 : Nat) (w11 : Nat) (w14 : Nat) (w15 : Nat) (w16 : Nat) (hn : Int) (tn : Int) (fn : Int) (v4 : Int → Int) (v5 : Int → Int) (v9 : Int → Int) (v10 : Int → Int) (v14 : Int → Int) (v15 : Int → Int) (Q : Nat → Int → Int) (T : Nat → Int → Int → Int → Int) (A : Nat → Int → Int → Nat) (X : Nat → Int → Int → Int) (tl : va_W) (ro : Int) (ix : Int) (i : Int) (j : Int) (hT : TI dI k T A X tl) (hK : TK T) (hi : 0 ≤ i ∧ i < T 0 0 0 0) (hj : 0 ≤ j ∧ j < T 3 i 0 0) (hQw : RQw Q v4 v5 v9 v10 v14 v15) (hv4 : Bd 0 1000 v4) (hv5 : Bd 0 5 v5) (hv9 : Bd (-1) 767 v9) (hv10 : Bd (-1) 767 v10) (hv14 : Bd (-1) 767 v14) (hv15 : Bd 0 191 v15) (h1 : 0 ≤ ro ∧ ro < Q 0 0 ∧ Q 0 0 ≤ 768 ∧ 0 ≤ ix ∧ ix ≤ 191 ∧ v4 ro ≤ 955) : Kn l dC dI k yX6_markRow (.code yX6_markRow cX6_markRow 6 none) ({ frames := 0, cells := 0, slots := 0, locals := 0 } : Room) [.ref rw, .int (iI ro), .int (iI ix), .ref (A 4 i j)] ([(rw, .inr (6, [.int (iI (Q 0 0)), .ref w1, .ref w2, .ref w3, .ref w4, .ref w5, .ref w6, .ref w7, .ref w8, .ref w9, .ref w10, .ref w11, .int (iI hn), .int (iI tn), .ref w14, .ref w15, .ref w16, .int (iI fn)])), (w4, .inl (k 0, 768, .inl (fun i9 : Nat => iI (v4 i9)))), (w5, .inl (k 0, 768, .inl (fun i9 : Nat => iI (v5 i9)))), (w9, .inl (k 0, 192, .inl (fun i9 : Nat => iI (v9 i9)))), (w10, .inl (k 0, 6, .inl (fun i9 : Nat => iI (v10 i9)))), (w14, .inl (k 0, 5, .inl (fun i9 : Nat => iI (v14 i9)))), (w15, .inl (k 0, 5, .inl (fun i9 : Nat => iI (v15 i9))))] ++ tl) (fun r w gc gs => (∃ (Q2 : Nat → Int → Int) (g4 : Int → Int) (g5 : Int → Int) (g10 : Int → Int) (g14 : Int → Int) (g15 : Int → Int), (Q2 = mkQ T Q i j ro ix) ∧ (RQw Q2 g4 g5 v9 g10 g14 g15) ∧ (∀ x, 0 ≤ x → x < Q 0 0 → g4 x ≤ v4 x + 5) ∧ (Bd 0 1000 g4) ∧ (Bd 0 5 g5) ∧ (Bd (-1) 767 g10) ∧ (Bd (-1) 767 g14) ∧ (Bd 0 191 g15) ∧ r = none ∧ w = ([(rw, .inr (6, [.int (iI (Q2 0 0)), .ref w1, .ref w2, .ref w3, .ref w4, .ref w5, .ref w6, .ref w7, .ref w8, .ref w9, .ref w10, .ref w11, .int (iI hn), .int (iI tn), .ref w14, .ref w15, .ref w16, .int (iI fn)])), (w4, .inl (k 0, 768, .inl (fun i9 : Nat => iI (g4 i9)))), (w5, .inl (k 0, 768, .inl (fun i9 : Nat => iI (g5 i9)))), (w9, .inl (k 0, 192, .inl (fun i9 : Nat => iI (v9 i9)))), (w10, .inl (k 0, 6, .inl (fun i9 : Nat => iI (g10 i9)))), (w14, .inl (k 0, 5, .inl (fun i9 : Nat => iI (g14 i9)))), (w15, .inl (k 0, 5, .inl (fun i9 : Nat => iI (g15 i9))))] ++ tl) ∧ gc = 0 ∧ gs = 0)) := by
  refine kn_of (by decide) (Nat.le_of_ble_eq_true rfl) ?_
  intro p e s m args below meth c H locs B hr hnm ls hl
  have hx := B.1.1
  have hb := B.1.2.1
  have hl : lv_has ls 6 [(0, .ref rw), (1, .int (iI ro)), (2, .int (iI ix)), (3, .ref (A 4 i j))] := hl
  have hno := TK_note hK i j
  have hme := TK_men hK i j
  have hfc := TK_fc hK
  have hml := TK_mlab hK i j
  refine lv_aload_n hx hb dX6_markRow_0 rfl (lv_at hl 3 rfl) ?_
  obtain ⟨k_1, hk_1⟩ := pk_at (hs := [(rw, .inr (6, [.int (iI (Q 0 0)), .ref w1, .ref w2, .ref w3, .ref w4, .ref w5, .ref w6, .ref w7, .ref w8, .ref w9, .ref w10, .ref w11, .int (iI hn), .int (iI tn), .ref w14, .ref w15, .ref w16, .int (iI fn)])), (w4, .inl (k 0, 768, .inl (fun i9 : Nat => iI (v4 i9)))), (w5, .inl (k 0, 768, .inl (fun i9 : Nat => iI (v5 i9)))), (w9, .inl (k 0, 192, .inl (fun i9 : Nat => iI (v9 i9)))), (w10, .inl (k 0, 6, .inl (fun i9 : Nat => iI (v10 i9)))), (w14, .inl (k 0, 5, .inl (fun i9 : Nat => iI (v14 i9)))), (w15, .inl (k 0, 5, .inl (fun i9 : Nat => iI (v15 i9))))]) (hT.2.2.2.2.1 i j (by omega) (by omega) (by omega) (by omega)).1
  refine x_get (ci := 10) (C := RX10) (T := TX10) (N := 4) (v := .ref (A 6 i j)) B k_1 hk_1 rfl in_X10 2 (by decide) mw_827 (fun _ h9 => h9) rfl dX6_markRow_1 ?_
  refine lv_iconst (v := iI 0) hx hb dX6_markRow_4 (by decide) ?_
  obtain ⟨k_2, hk_2⟩ := pk_at (hs := [(rw, .inr (6, [.int (iI (Q 0 0)), .ref w1, .ref w2, .ref w3, .ref w4, .ref w5, .ref w6, .ref w7, .ref w8, .ref w9, .ref w10, .ref w11, .int (iI hn), .int (iI tn), .ref w14, .ref w15, .ref w16, .int (iI fn)])), (w4, .inl (k 0, 768, .inl (fun i9 : Nat => iI (v4 i9)))), (w5, .inl (k 0, 768, .inl (fun i9 : Nat => iI (v5 i9)))), (w9, .inl (k 0, 192, .inl (fun i9 : Nat => iI (v9 i9)))), (w10, .inl (k 0, 6, .inl (fun i9 : Nat => iI (v10 i9)))), (w14, .inl (k 0, 5, .inl (fun i9 : Nat => iI (v14 i9)))), (w15, .inl (k 0, 5, .inl (fun i9 : Nat => iI (v15 i9))))]) (hT.2.2.2.2.1 i j (by omega) (by omega) (by omega) (by omega)).2.2
  refine x_iald' (f := (fun j9 : Int => T 7 i j j9)) (z := 0) B k_2 hk_2 (by omega) dX6_markRow_5 ?_
  have z_3 : (-1) ≤ (T 7 i j 0) ∧ (T 7 i j 0) ≤ 7 := (fun q => TK_mrk hK i j q) 0
  refine lv_iconst (v := iI (-1)) hx hb dX6_markRow_6 (by decide) ?_
  refine lv_icmp_eq (tgt := 37) hx hb dX6_markRow_7 (by decide) (fun c_4 => ?_) (fun c_4 => ?_)
  · have zc_4 : (T 7 i j 0) = (-1) := jeq (a := (T 7 i j 0)) (b := (-1)) (by omega) (by omega) c_4
    refine lv_aload_n hx hb dX6_markRow_37 rfl (lv_at hl 3 rfl) ?_
    obtain ⟨k_5, hk_5⟩ := pk_at (hs := [(rw, .inr (6, [.int (iI (Q 0 0)), .ref w1, .ref w2, .ref w3, .ref w4, .ref w5, .ref w6, .ref w7, .ref w8, .ref w9, .ref w10, .ref w11, .int (iI hn), .int (iI tn), .ref w14, .ref w15, .ref w16, .int (iI fn)])), (w4, .inl (k 0, 768, .inl (fun i9 : Nat => iI (v4 i9)))), (w5, .inl (k 0, 768, .inl (fun i9 : Nat => iI (v5 i9)))), (w9, .inl (k 0, 192, .inl (fun i9 : Nat => iI (v9 i9)))), (w10, .inl (k 0, 6, .inl (fun i9 : Nat => iI (v10 i9)))), (w14, .inl (k 0, 5, .inl (fun i9 : Nat => iI (v14 i9)))), (w15, .inl (k 0, 5, .inl (fun i9 : Nat => iI (v15 i9))))]) (hT.2.2.2.2.1 i j (by omega) (by omega) (by omega) (by omega)).1
    refine x_get (ci := 10) (C := RX10) (T := TX10) (N := 4) (v := .ref (A 6 i j)) B k_5 hk_5 rfl in_X10 2 (by decide) mw_827 (fun _ h9 => h9) rfl dX6_markRow_38 ?_
    refine lv_iconst (v := iI 2) hx hb dX6_markRow_41 (by decide) ?_
    obtain ⟨k_6, hk_6⟩ := pk_at (hs := [(rw, .inr (6, [.int (iI (Q 0 0)), .ref w1, .ref w2, .ref w3, .ref w4, .ref w5, .ref w6, .ref w7, .ref w8, .ref w9, .ref w10, .ref w11, .int (iI hn), .int (iI tn), .ref w14, .ref w15, .ref w16, .int (iI fn)])), (w4, .inl (k 0, 768, .inl (fun i9 : Nat => iI (v4 i9)))), (w5, .inl (k 0, 768, .inl (fun i9 : Nat => iI (v5 i9)))), (w9, .inl (k 0, 192, .inl (fun i9 : Nat => iI (v9 i9)))), (w10, .inl (k 0, 6, .inl (fun i9 : Nat => iI (v10 i9)))), (w14, .inl (k 0, 5, .inl (fun i9 : Nat => iI (v14 i9)))), (w15, .inl (k 0, 5, .inl (fun i9 : Nat => iI (v15 i9))))]) (hT.2.2.2.2.1 i j (by omega) (by omega) (by omega) (by omega)).2.2
    refine x_iald' (f := (fun j9 : Int => T 7 i j j9)) (z := 2) B k_6 hk_6 (by omega) dX6_markRow_42 ?_
    have z_7 : (-1) ≤ (T 7 i j 2) ∧ (T 7 i j 2) ≤ 7 := (fun q => TK_mrk hK i j q) 2
    refine lv_istore (lv' := [(4, .int (iI (T 7 i j 2))), (0, .ref rw), (1, .int (iI ro)), (2, .int (iI ix)), (3, .ref (A 4 i j))]) hx hb dX6_markRow_43 hl (by decide) rfl (fun ls hl => ?_)
    refine lv_iload hx hb dX6_markRow_45 (lv_at hl 0 rfl) ?_
    refine lv_iconst (v := iI (-1)) hx hb dX6_markRow_47 (by decide) ?_
    refine lv_icmp_eq (tgt := 81) hx hb dX6_markRow_48 (by decide) (fun c_8 => ?_) (fun c_8 => ?_)
    · have zc_8 : (T 7 i j 2) = (-1) := jeq (a := (T 7 i j 2)) (b := (-1)) (by omega) (by omega) c_8
      refine lv_aload_n hx hb dX6_markRow_81 rfl (lv_at hl 4 rfl) ?_
      obtain ⟨k_9, hk_9⟩ := pk_at (hs := [(rw, .inr (6, [.int (iI (Q 0 0)), .ref w1, .ref w2, .ref w3, .ref w4, .ref w5, .ref w6, .ref w7, .ref w8, .ref w9, .ref w10, .ref w11, .int (iI hn), .int (iI tn), .ref w14, .ref w15, .ref w16, .int (iI fn)])), (w4, .inl (k 0, 768, .inl (fun i9 : Nat => iI (v4 i9)))), (w5, .inl (k 0, 768, .inl (fun i9 : Nat => iI (v5 i9)))), (w9, .inl (k 0, 192, .inl (fun i9 : Nat => iI (v9 i9)))), (w10, .inl (k 0, 6, .inl (fun i9 : Nat => iI (v10 i9)))), (w14, .inl (k 0, 5, .inl (fun i9 : Nat => iI (v14 i9)))), (w15, .inl (k 0, 5, .inl (fun i9 : Nat => iI (v15 i9))))]) (hT.2.2.2.2.1 i j (by omega) (by omega) (by omega) (by omega)).1
      refine x_get (ci := 10) (C := RX10) (T := TX10) (N := 4) (v := .ref (A 6 i j)) B k_9 hk_9 rfl in_X10 2 (by decide) mw_827 (fun _ h9 => h9) rfl dX6_markRow_82 ?_
      refine lv_iconst (v := iI 1) hx hb dX6_markRow_85 (by decide) ?_
      obtain ⟨k_10, hk_10⟩ := pk_at (hs := [(rw, .inr (6, [.int (iI (Q 0 0)), .ref w1, .ref w2, .ref w3, .ref w4, .ref w5, .ref w6, .ref w7, .ref w8, .ref w9, .ref w10, .ref w11, .int (iI hn), .int (iI tn), .ref w14, .ref w15, .ref w16, .int (iI fn)])), (w4, .inl (k 0, 768, .inl (fun i9 : Nat => iI (v4 i9)))), (w5, .inl (k 0, 768, .inl (fun i9 : Nat => iI (v5 i9)))), (w9, .inl (k 0, 192, .inl (fun i9 : Nat => iI (v9 i9)))), (w10, .inl (k 0, 6, .inl (fun i9 : Nat => iI (v10 i9)))), (w14, .inl (k 0, 5, .inl (fun i9 : Nat => iI (v14 i9)))), (w15, .inl (k 0, 5, .inl (fun i9 : Nat => iI (v15 i9))))]) (hT.2.2.2.2.1 i j (by omega) (by omega) (by omega) (by omega)).2.2
      refine x_iald' (f := (fun j9 : Int => T 7 i j j9)) (z := 1) B k_10 hk_10 (by omega) dX6_markRow_86 ?_
      have z_11 : (-1) ≤ (T 7 i j 1) ∧ (T 7 i j 1) ≤ 7 := (fun q => TK_mrk hK i j q) 1
      refine lv_istore (lv' := [(5, .int (iI (T 7 i j 1))), (4, .int (iI (T 7 i j 2))), (0, .ref rw), (1, .int (iI ro)), (2, .int (iI ix)), (3, .ref (A 4 i j))]) hx hb dX6_markRow_87 hl (by decide) rfl (fun ls hl => ?_)
      refine lv_iload hx hb dX6_markRow_89 (lv_at hl 0 rfl) ?_
      refine lv_iconst (v := iI (-1)) hx hb dX6_markRow_91 (by decide) ?_
      refine lv_icmp_eq (tgt := 133) hx hb dX6_markRow_92 (by decide) (fun c_12 => ?_) (fun c_12 => ?_)
      · have zc_12 : (T 7 i j 1) = (-1) := jeq (a := (T 7 i j 1)) (b := (-1)) (by omega) (by omega) c_12
        have e_13 : ((mkQ T Q i j ro ix) 0 0) = (Q 0 0) := rfl
        have B := bd_to (ws' := ([(rw, .inr (6, [.int (iI ((mkQ T Q i j ro ix) 0 0)), .ref w1, .ref w2, .ref w3, .ref w4, .ref w5, .ref w6, .ref w7, .ref w8, .ref w9, .ref w10, .ref w11, .int (iI hn), .int (iI tn), .ref w14, .ref w15, .ref w16, .int (iI fn)])), (w4, .inl (k 0, 768, .inl (fun i9 : Nat => iI (v4 i9)))), (w5, .inl (k 0, 768, .inl (fun i9 : Nat => iI (v5 i9)))), (w9, .inl (k 0, 192, .inl (fun i9 : Nat => iI (v9 i9)))), (w10, .inl (k 0, 6, .inl (fun i9 : Nat => iI (v10 i9)))), (w14, .inl (k 0, 5, .inl (fun i9 : Nat => iI (v14 i9)))), (w15, .inl (k 0, 5, .inl (fun i9 : Nat => iI (v15 i9))))] ++ tl)) (by first | rfl | (rw [e_13])) B
        exact k_vret B hr (⟨(mkQ T Q i j ro ix), v4, v5, v10, v14, v15, rfl, ⟨(mk45n hQw (by omega)), hQw.2.1, (mk10n hQw (by omega)), (mk14n hQw (by omega)).1, (mk14n hQw (by omega)).2⟩, (fun x a9 b9 => by first | exact Int.le_add_of_nonneg_right (by omega) | (by_cases e9 : x = ro; (rw [e9, uz_s]; omega); (rw [uz_n e9]; omega))), hv4, hv5, hv10, hv14, hv15, rfl, rfl, rfl, rfl⟩) ⟨Nat.le_of_ble_eq_true rfl, Nat.le_of_ble_eq_true rfl⟩ ⟨Nat.le_of_ble_eq_true rfl, Nat.le_of_ble_eq_true rfl⟩ dX6_markRow_133
      · have zc_12 : (T 7 i j 1) ≠ (-1) := jne (a := (T 7 i j 1)) (b := (-1)) (by omega) (by omega) c_12
        refine lv_aload_n hx hb dX6_markRow_95 rfl (lv_at hl 2 rfl) ?_
        refine x_get (ci := 6) (C := RX6) (T := TX6) (N := 18) (v := .ref w14) B 0 rfl rfl in_X6 14 (by decide) mw_254 (fun _ h9 => h9) rfl dX6_markRow_96 ?_
        refine lv_iload hx hb dX6_markRow_99 (lv_at hl 0 rfl) ?_
        refine x_iald' (f := v14) (z := (T 7 i j 1)) B 5 rfl (by omega) dX6_markRow_101 ?_
        have z_14 : (-1) ≤ (v14 (T 7 i j 1)) ∧ (v14 (T 7 i j 1)) ≤ 767 := hv14 (T 7 i j 1)
        refine lv_iconst (v := iI (-1)) hx hb dX6_markRow_102 (by decide) ?_
        refine lv_icmp_eq (tgt := 117) hx hb dX6_markRow_103 (by decide) (fun c_15 => ?_) (fun c_15 => ?_)
        · have zc_15 : (v14 (T 7 i j 1)) = (-1) := jeq (a := (v14 (T 7 i j 1))) (b := (-1)) (by omega) (by omega) c_15
          refine lv_aload_n hx hb dX6_markRow_117 rfl (lv_at hl 2 rfl) ?_
          refine x_get (ci := 6) (C := RX6) (T := TX6) (N := 18) (v := .ref w14) B 0 rfl rfl in_X6 14 (by decide) mw_254 (fun _ h9 => h9) rfl dX6_markRow_118 ?_
          refine lv_iload hx hb dX6_markRow_121 (lv_at hl 0 rfl) ?_
          refine lv_iload_n hx hb dX6_markRow_123 rfl (lv_at hl 3 rfl) ?_
          refine x_iast' (f := v14) (z := (T 7 i j 1)) (v := ro) B 5 rfl (by omega) dX6_markRow_124 (fun H locs B => ?_)
          have b_16 : Bd (-1) 767 (uz v14 (T 7 i j 1) ro) := Bd_uz hv14 (by omega)
          have B := bd_to (ws' := ([(rw, .inr (6, [.int (iI (Q 0 0)), .ref w1, .ref w2, .ref w3, .ref w4, .ref w5, .ref w6, .ref w7, .ref w8, .ref w9, .ref w10, .ref w11, .int (iI hn), .int (iI tn), .ref w14, .ref w15, .ref w16, .int (iI fn)])), (w4, .inl (k 0, 768, .inl (fun i9 : Nat => iI (v4 i9)))), (w5, .inl (k 0, 768, .inl (fun i9 : Nat => iI (v5 i9)))), (w9, .inl (k 0, 192, .inl (fun i9 : Nat => iI (v9 i9)))), (w10, .inl (k 0, 6, .inl (fun i9 : Nat => iI (v10 i9)))), (w14, .inl (k 0, 5, .inl (fun i9 : Nat => iI ((uz v14 (T 7 i j 1) ro) i9)))), (w15, .inl (k 0, 5, .inl (fun i9 : Nat => iI (v15 i9))))] ++ tl)) rfl B
          refine lv_aload_n hx hb dX6_markRow_125 rfl (lv_at hl 2 rfl) ?_
          refine x_get (ci := 6) (C := RX6) (T := TX6) (N := 18) (v := .ref w15) B 0 rfl rfl in_X6 15 (by decide) mw_256 (fun _ h9 => h9) rfl dX6_markRow_126 ?_
          refine lv_iload hx hb dX6_markRow_129 (lv_at hl 0 rfl) ?_
          refine lv_iload_n hx hb dX6_markRow_131 rfl (lv_at hl 4 rfl) ?_
          refine x_iast' (f := v15) (z := (T 7 i j 1)) (v := ix) B 6 rfl (by omega) dX6_markRow_132 (fun H locs B => ?_)
          have b_17 : Bd 0 191 (uz v15 (T 7 i j 1) ix) := Bd_uz hv15 (by omega)
          have B := bd_to (ws' := ([(rw, .inr (6, [.int (iI (Q 0 0)), .ref w1, .ref w2, .ref w3, .ref w4, .ref w5, .ref w6, .ref w7, .ref w8, .ref w9, .ref w10, .ref w11, .int (iI hn), .int (iI tn), .ref w14, .ref w15, .ref w16, .int (iI fn)])), (w4, .inl (k 0, 768, .inl (fun i9 : Nat => iI (v4 i9)))), (w5, .inl (k 0, 768, .inl (fun i9 : Nat => iI (v5 i9)))), (w9, .inl (k 0, 192, .inl (fun i9 : Nat => iI (v9 i9)))), (w10, .inl (k 0, 6, .inl (fun i9 : Nat => iI (v10 i9)))), (w14, .inl (k 0, 5, .inl (fun i9 : Nat => iI ((uz v14 (T 7 i j 1) ro) i9)))), (w15, .inl (k 0, 5, .inl (fun i9 : Nat => iI ((uz v15 (T 7 i j 1) ix) i9))))] ++ tl)) rfl B
          have e_18 : ((mkQ T Q i j ro ix) 0 0) = (Q 0 0) := rfl
          have B := bd_to (ws' := ([(rw, .inr (6, [.int (iI ((mkQ T Q i j ro ix) 0 0)), .ref w1, .ref w2, .ref w3, .ref w4, .ref w5, .ref w6, .ref w7, .ref w8, .ref w9, .ref w10, .ref w11, .int (iI hn), .int (iI tn), .ref w14, .ref w15, .ref w16, .int (iI fn)])), (w4, .inl (k 0, 768, .inl (fun i9 : Nat => iI (v4 i9)))), (w5, .inl (k 0, 768, .inl (fun i9 : Nat => iI (v5 i9)))), (w9, .inl (k 0, 192, .inl (fun i9 : Nat => iI (v9 i9)))), (w10, .inl (k 0, 6, .inl (fun i9 : Nat => iI (v10 i9)))), (w14, .inl (k 0, 5, .inl (fun i9 : Nat => iI ((uz v14 (T 7 i j 1) ro) i9)))), (w15, .inl (k 0, 5, .inl (fun i9 : Nat => iI ((uz v15 (T 7 i j 1) ix) i9))))] ++ tl)) (by first | rfl | (rw [e_18])) B
          exact k_vret B hr (⟨(mkQ T Q i j ro ix), v4, v5, v10, (uz v14 (T 7 i j 1) ro), (uz v15 (T 7 i j 1) ix), rfl, ⟨(mk45n hQw (by omega)), hQw.2.1, (mk10n hQw (by omega)), (mk14y hQw (by omega) (by omega) (by omega)).1, (mk14y hQw (by omega) (by omega) (by omega)).2⟩, (fun x a9 b9 => by first | exact Int.le_add_of_nonneg_right (by omega) | (by_cases e9 : x = ro; (rw [e9, uz_s]; omega); (rw [uz_n e9]; omega))), hv4, hv5, hv10, b_16, b_17, rfl, rfl, rfl, rfl⟩) ⟨Nat.le_of_ble_eq_true rfl, Nat.le_of_ble_eq_true rfl⟩ ⟨Nat.le_of_ble_eq_true rfl, Nat.le_of_ble_eq_true rfl⟩ dX6_markRow_133
        · have zc_15 : (v14 (T 7 i j 1)) ≠ (-1) := jne (a := (v14 (T 7 i j 1))) (b := (-1)) (by omega) (by omega) c_15
          refine lv_iload_n hx hb dX6_markRow_106 rfl (lv_at hl 3 rfl) ?_
          refine lv_aload_n hx hb dX6_markRow_107 rfl (lv_at hl 2 rfl) ?_
          refine x_get (ci := 6) (C := RX6) (T := TX6) (N := 18) (v := .ref w14) B 0 rfl rfl in_X6 14 (by decide) mw_254 (fun _ h9 => h9) rfl dX6_markRow_108 ?_
          refine lv_iload hx hb dX6_markRow_111 (lv_at hl 0 rfl) ?_
          refine x_iald' (f := v14) (z := (T 7 i j 1)) B 5 rfl (by omega) dX6_markRow_113 ?_
          have z_19 : (-1) ≤ (v14 (T 7 i j 1)) ∧ (v14 (T 7 i j 1)) ≤ 767 := hv14 (T 7 i j 1)
          refine lv_icmp_ge (tgt := 133) hx hb dX6_markRow_114 (by decide) (fun c_20 => ?_) (fun c_20 => ?_)
          · have zc_20 : (v14 (T 7 i j 1)) ≤ ro := jle (a := (v14 (T 7 i j 1))) (b := ro) (by omega) (by omega) c_20
            have e_21 : ((mkQ T Q i j ro ix) 0 0) = (Q 0 0) := rfl
            have B := bd_to (ws' := ([(rw, .inr (6, [.int (iI ((mkQ T Q i j ro ix) 0 0)), .ref w1, .ref w2, .ref w3, .ref w4, .ref w5, .ref w6, .ref w7, .ref w8, .ref w9, .ref w10, .ref w11, .int (iI hn), .int (iI tn), .ref w14, .ref w15, .ref w16, .int (iI fn)])), (w4, .inl (k 0, 768, .inl (fun i9 : Nat => iI (v4 i9)))), (w5, .inl (k 0, 768, .inl (fun i9 : Nat => iI (v5 i9)))), (w9, .inl (k 0, 192, .inl (fun i9 : Nat => iI (v9 i9)))), (w10, .inl (k 0, 6, .inl (fun i9 : Nat => iI (v10 i9)))), (w14, .inl (k 0, 5, .inl (fun i9 : Nat => iI (v14 i9)))), (w15, .inl (k 0, 5, .inl (fun i9 : Nat => iI (v15 i9))))] ++ tl)) (by first | rfl | (rw [e_21])) B
            exact k_vret B hr (⟨(mkQ T Q i j ro ix), v4, v5, v10, v14, v15, rfl, ⟨(mk45n hQw (by omega)), hQw.2.1, (mk10n hQw (by omega)), (mk14n hQw (by omega)).1, (mk14n hQw (by omega)).2⟩, (fun x a9 b9 => by first | exact Int.le_add_of_nonneg_right (by omega) | (by_cases e9 : x = ro; (rw [e9, uz_s]; omega); (rw [uz_n e9]; omega))), hv4, hv5, hv10, hv14, hv15, rfl, rfl, rfl, rfl⟩) ⟨Nat.le_of_ble_eq_true rfl, Nat.le_of_ble_eq_true rfl⟩ ⟨Nat.le_of_ble_eq_true rfl, Nat.le_of_ble_eq_true rfl⟩ dX6_markRow_133
          · have zc_20 : ro < (v14 (T 7 i j 1)) := jnle (a := (v14 (T 7 i j 1))) (b := ro) (by omega) (by omega) c_20
            refine lv_aload_n hx hb dX6_markRow_117 rfl (lv_at hl 2 rfl) ?_
            refine x_get (ci := 6) (C := RX6) (T := TX6) (N := 18) (v := .ref w14) B 0 rfl rfl in_X6 14 (by decide) mw_254 (fun _ h9 => h9) rfl dX6_markRow_118 ?_
            refine lv_iload hx hb dX6_markRow_121 (lv_at hl 0 rfl) ?_
            refine lv_iload_n hx hb dX6_markRow_123 rfl (lv_at hl 3 rfl) ?_
            refine x_iast' (f := v14) (z := (T 7 i j 1)) (v := ro) B 5 rfl (by omega) dX6_markRow_124 (fun H locs B => ?_)
            have b_22 : Bd (-1) 767 (uz v14 (T 7 i j 1) ro) := Bd_uz hv14 (by omega)
            have B := bd_to (ws' := ([(rw, .inr (6, [.int (iI (Q 0 0)), .ref w1, .ref w2, .ref w3, .ref w4, .ref w5, .ref w6, .ref w7, .ref w8, .ref w9, .ref w10, .ref w11, .int (iI hn), .int (iI tn), .ref w14, .ref w15, .ref w16, .int (iI fn)])), (w4, .inl (k 0, 768, .inl (fun i9 : Nat => iI (v4 i9)))), (w5, .inl (k 0, 768, .inl (fun i9 : Nat => iI (v5 i9)))), (w9, .inl (k 0, 192, .inl (fun i9 : Nat => iI (v9 i9)))), (w10, .inl (k 0, 6, .inl (fun i9 : Nat => iI (v10 i9)))), (w14, .inl (k 0, 5, .inl (fun i9 : Nat => iI ((uz v14 (T 7 i j 1) ro) i9)))), (w15, .inl (k 0, 5, .inl (fun i9 : Nat => iI (v15 i9))))] ++ tl)) rfl B
            refine lv_aload_n hx hb dX6_markRow_125 rfl (lv_at hl 2 rfl) ?_
            refine x_get (ci := 6) (C := RX6) (T := TX6) (N := 18) (v := .ref w15) B 0 rfl rfl in_X6 15 (by decide) mw_256 (fun _ h9 => h9) rfl dX6_markRow_126 ?_
            refine lv_iload hx hb dX6_markRow_129 (lv_at hl 0 rfl) ?_
            refine lv_iload_n hx hb dX6_markRow_131 rfl (lv_at hl 4 rfl) ?_
            refine x_iast' (f := v15) (z := (T 7 i j 1)) (v := ix) B 6 rfl (by omega) dX6_markRow_132 (fun H locs B => ?_)
            have b_23 : Bd 0 191 (uz v15 (T 7 i j 1) ix) := Bd_uz hv15 (by omega)
            have B := bd_to (ws' := ([(rw, .inr (6, [.int (iI (Q 0 0)), .ref w1, .ref w2, .ref w3, .ref w4, .ref w5, .ref w6, .ref w7, .ref w8, .ref w9, .ref w10, .ref w11, .int (iI hn), .int (iI tn), .ref w14, .ref w15, .ref w16, .int (iI fn)])), (w4, .inl (k 0, 768, .inl (fun i9 : Nat => iI (v4 i9)))), (w5, .inl (k 0, 768, .inl (fun i9 : Nat => iI (v5 i9)))), (w9, .inl (k 0, 192, .inl (fun i9 : Nat => iI (v9 i9)))), (w10, .inl (k 0, 6, .inl (fun i9 : Nat => iI (v10 i9)))), (w14, .inl (k 0, 5, .inl (fun i9 : Nat => iI ((uz v14 (T 7 i j 1) ro) i9)))), (w15, .inl (k 0, 5, .inl (fun i9 : Nat => iI ((uz v15 (T 7 i j 1) ix) i9))))] ++ tl)) rfl B
            have e_24 : ((mkQ T Q i j ro ix) 0 0) = (Q 0 0) := rfl
            have B := bd_to (ws' := ([(rw, .inr (6, [.int (iI ((mkQ T Q i j ro ix) 0 0)), .ref w1, .ref w2, .ref w3, .ref w4, .ref w5, .ref w6, .ref w7, .ref w8, .ref w9, .ref w10, .ref w11, .int (iI hn), .int (iI tn), .ref w14, .ref w15, .ref w16, .int (iI fn)])), (w4, .inl (k 0, 768, .inl (fun i9 : Nat => iI (v4 i9)))), (w5, .inl (k 0, 768, .inl (fun i9 : Nat => iI (v5 i9)))), (w9, .inl (k 0, 192, .inl (fun i9 : Nat => iI (v9 i9)))), (w10, .inl (k 0, 6, .inl (fun i9 : Nat => iI (v10 i9)))), (w14, .inl (k 0, 5, .inl (fun i9 : Nat => iI ((uz v14 (T 7 i j 1) ro) i9)))), (w15, .inl (k 0, 5, .inl (fun i9 : Nat => iI ((uz v15 (T 7 i j 1) ix) i9))))] ++ tl)) (by first | rfl | (rw [e_24])) B
            exact k_vret B hr (⟨(mkQ T Q i j ro ix), v4, v5, v10, (uz v14 (T 7 i j 1) ro), (uz v15 (T 7 i j 1) ix), rfl, ⟨(mk45n hQw (by omega)), hQw.2.1, (mk10n hQw (by omega)), (mk14y hQw (by omega) (by omega) (by omega)).1, (mk14y hQw (by omega) (by omega) (by omega)).2⟩, (fun x a9 b9 => by first | exact Int.le_add_of_nonneg_right (by omega) | (by_cases e9 : x = ro; (rw [e9, uz_s]; omega); (rw [uz_n e9]; omega))), hv4, hv5, hv10, b_22, b_23, rfl, rfl, rfl, rfl⟩) ⟨Nat.le_of_ble_eq_true rfl, Nat.le_of_ble_eq_true rfl⟩ ⟨Nat.le_of_ble_eq_true rfl, Nat.le_of_ble_eq_true rfl⟩ dX6_markRow_133
    · have zc_8 : (T 7 i j 2) ≠ (-1) := jne (a := (T 7 i j 2)) (b := (-1)) (by omega) (by omega) c_8
      refine lv_aload_n hx hb dX6_markRow_51 rfl (lv_at hl 1 rfl) ?_
      refine x_get (ci := 6) (C := RX6) (T := TX6) (N := 18) (v := .ref w10) B 0 rfl rfl in_X6 10 (by decide) mw_248 (fun _ h9 => h9) rfl dX6_markRow_52 ?_
      refine lv_iload hx hb dX6_markRow_55 (lv_at hl 0 rfl) ?_
      refine x_iald' (f := v10) (z := (T 7 i j 2)) B 4 rfl (by omega) dX6_markRow_57 ?_
      have z_25 : (-1) ≤ (v10 (T 7 i j 2)) ∧ (v10 (T 7 i j 2)) ≤ 767 := hv10 (T 7 i j 2)
      refine lv_iconst (v := iI (-1)) hx hb dX6_markRow_58 (by decide) ?_
      refine lv_icmp_eq (tgt := 73) hx hb dX6_markRow_59 (by decide) (fun c_26 => ?_) (fun c_26 => ?_)
      · have zc_26 : (v10 (T 7 i j 2)) = (-1) := jeq (a := (v10 (T 7 i j 2))) (b := (-1)) (by omega) (by omega) c_26
        refine lv_aload_n hx hb dX6_markRow_73 rfl (lv_at hl 1 rfl) ?_
        refine x_get (ci := 6) (C := RX6) (T := TX6) (N := 18) (v := .ref w10) B 0 rfl rfl in_X6 10 (by decide) mw_248 (fun _ h9 => h9) rfl dX6_markRow_74 ?_
        refine lv_iload hx hb dX6_markRow_77 (lv_at hl 0 rfl) ?_
        refine lv_iload_n hx hb dX6_markRow_79 rfl (lv_at hl 2 rfl) ?_
        refine x_iast' (f := v10) (z := (T 7 i j 2)) (v := ro) B 4 rfl (by omega) dX6_markRow_80 (fun H locs B => ?_)
        have b_27 : Bd (-1) 767 (uz v10 (T 7 i j 2) ro) := Bd_uz hv10 (by omega)
        have B := bd_to (ws' := ([(rw, .inr (6, [.int (iI (Q 0 0)), .ref w1, .ref w2, .ref w3, .ref w4, .ref w5, .ref w6, .ref w7, .ref w8, .ref w9, .ref w10, .ref w11, .int (iI hn), .int (iI tn), .ref w14, .ref w15, .ref w16, .int (iI fn)])), (w4, .inl (k 0, 768, .inl (fun i9 : Nat => iI (v4 i9)))), (w5, .inl (k 0, 768, .inl (fun i9 : Nat => iI (v5 i9)))), (w9, .inl (k 0, 192, .inl (fun i9 : Nat => iI (v9 i9)))), (w10, .inl (k 0, 6, .inl (fun i9 : Nat => iI ((uz v10 (T 7 i j 2) ro) i9)))), (w14, .inl (k 0, 5, .inl (fun i9 : Nat => iI (v14 i9)))), (w15, .inl (k 0, 5, .inl (fun i9 : Nat => iI (v15 i9))))] ++ tl)) rfl B
        refine lv_aload_n hx hb dX6_markRow_81 rfl (lv_at hl 4 rfl) ?_
        obtain ⟨k_28, hk_28⟩ := pk_at (hs := [(rw, .inr (6, [.int (iI (Q 0 0)), .ref w1, .ref w2, .ref w3, .ref w4, .ref w5, .ref w6, .ref w7, .ref w8, .ref w9, .ref w10, .ref w11, .int (iI hn), .int (iI tn), .ref w14, .ref w15, .ref w16, .int (iI fn)])), (w4, .inl (k 0, 768, .inl (fun i9 : Nat => iI (v4 i9)))), (w5, .inl (k 0, 768, .inl (fun i9 : Nat => iI (v5 i9)))), (w9, .inl (k 0, 192, .inl (fun i9 : Nat => iI (v9 i9)))), (w10, .inl (k 0, 6, .inl (fun i9 : Nat => iI ((uz v10 (T 7 i j 2) ro) i9)))), (w14, .inl (k 0, 5, .inl (fun i9 : Nat => iI (v14 i9)))), (w15, .inl (k 0, 5, .inl (fun i9 : Nat => iI (v15 i9))))]) (hT.2.2.2.2.1 i j (by omega) (by omega) (by omega) (by omega)).1
        refine x_get (ci := 10) (C := RX10) (T := TX10) (N := 4) (v := .ref (A 6 i j)) B k_28 hk_28 rfl in_X10 2 (by decide) mw_827 (fun _ h9 => h9) rfl dX6_markRow_82 ?_
        refine lv_iconst (v := iI 1) hx hb dX6_markRow_85 (by decide) ?_
        obtain ⟨k_29, hk_29⟩ := pk_at (hs := [(rw, .inr (6, [.int (iI (Q 0 0)), .ref w1, .ref w2, .ref w3, .ref w4, .ref w5, .ref w6, .ref w7, .ref w8, .ref w9, .ref w10, .ref w11, .int (iI hn), .int (iI tn), .ref w14, .ref w15, .ref w16, .int (iI fn)])), (w4, .inl (k 0, 768, .inl (fun i9 : Nat => iI (v4 i9)))), (w5, .inl (k 0, 768, .inl (fun i9 : Nat => iI (v5 i9)))), (w9, .inl (k 0, 192, .inl (fun i9 : Nat => iI (v9 i9)))), (w10, .inl (k 0, 6, .inl (fun i9 : Nat => iI ((uz v10 (T 7 i j 2) ro) i9)))), (w14, .inl (k 0, 5, .inl (fun i9 : Nat => iI (v14 i9)))), (w15, .inl (k 0, 5, .inl (fun i9 : Nat => iI (v15 i9))))]) (hT.2.2.2.2.1 i j (by omega) (by omega) (by omega) (by omega)).2.2
        refine x_iald' (f := (fun j9 : Int => T 7 i j j9)) (z := 1) B k_29 hk_29 (by omega) dX6_markRow_86 ?_
        have z_30 : (-1) ≤ (T 7 i j 1) ∧ (T 7 i j 1) ≤ 7 := (fun q => TK_mrk hK i j q) 1
        refine lv_istore (lv' := [(5, .int (iI (T 7 i j 1))), (4, .int (iI (T 7 i j 2))), (0, .ref rw), (1, .int (iI ro)), (2, .int (iI ix)), (3, .ref (A 4 i j))]) hx hb dX6_markRow_87 hl (by decide) rfl (fun ls hl => ?_)
        refine lv_iload hx hb dX6_markRow_89 (lv_at hl 0 rfl) ?_
        refine lv_iconst (v := iI (-1)) hx hb dX6_markRow_91 (by decide) ?_
        refine lv_icmp_eq (tgt := 133) hx hb dX6_markRow_92 (by decide) (fun c_31 => ?_) (fun c_31 => ?_)
        · have zc_31 : (T 7 i j 1) = (-1) := jeq (a := (T 7 i j 1)) (b := (-1)) (by omega) (by omega) c_31
          have e_32 : ((mkQ T Q i j ro ix) 0 0) = (Q 0 0) := rfl
          have B := bd_to (ws' := ([(rw, .inr (6, [.int (iI ((mkQ T Q i j ro ix) 0 0)), .ref w1, .ref w2, .ref w3, .ref w4, .ref w5, .ref w6, .ref w7, .ref w8, .ref w9, .ref w10, .ref w11, .int (iI hn), .int (iI tn), .ref w14, .ref w15, .ref w16, .int (iI fn)])), (w4, .inl (k 0, 768, .inl (fun i9 : Nat => iI (v4 i9)))), (w5, .inl (k 0, 768, .inl (fun i9 : Nat => iI (v5 i9)))), (w9, .inl (k 0, 192, .inl (fun i9 : Nat => iI (v9 i9)))), (w10, .inl (k 0, 6, .inl (fun i9 : Nat => iI ((uz v10 (T 7 i j 2) ro) i9)))), (w14, .inl (k 0, 5, .inl (fun i9 : Nat => iI (v14 i9)))), (w15, .inl (k 0, 5, .inl (fun i9 : Nat => iI (v15 i9))))] ++ tl)) (by first | rfl | (rw [e_32])) B
          exact k_vret B hr (⟨(mkQ T Q i j ro ix), v4, v5, (uz v10 (T 7 i j 2) ro), v14, v15, rfl, ⟨(mk45n hQw (by omega)), hQw.2.1, (mk10y hQw (by omega) (by omega)), (mk14n hQw (by omega)).1, (mk14n hQw (by omega)).2⟩, (fun x a9 b9 => by first | exact Int.le_add_of_nonneg_right (by omega) | (by_cases e9 : x = ro; (rw [e9, uz_s]; omega); (rw [uz_n e9]; omega))), hv4, hv5, b_27, hv14, hv15, rfl, rfl, rfl, rfl⟩) ⟨Nat.le_of_ble_eq_true rfl, Nat.le_of_ble_eq_true rfl⟩ ⟨Nat.le_of_ble_eq_true rfl, Nat.le_of_ble_eq_true rfl⟩ dX6_markRow_133
        · have zc_31 : (T 7 i j 1) ≠ (-1) := jne (a := (T 7 i j 1)) (b := (-1)) (by omega) (by omega) c_31
          refine lv_aload_n hx hb dX6_markRow_95 rfl (lv_at hl 2 rfl) ?_
          refine x_get (ci := 6) (C := RX6) (T := TX6) (N := 18) (v := .ref w14) B 0 rfl rfl in_X6 14 (by decide) mw_254 (fun _ h9 => h9) rfl dX6_markRow_96 ?_
          refine lv_iload hx hb dX6_markRow_99 (lv_at hl 0 rfl) ?_
          refine x_iald' (f := v14) (z := (T 7 i j 1)) B 5 rfl (by omega) dX6_markRow_101 ?_
          have z_33 : (-1) ≤ (v14 (T 7 i j 1)) ∧ (v14 (T 7 i j 1)) ≤ 767 := hv14 (T 7 i j 1)
          refine lv_iconst (v := iI (-1)) hx hb dX6_markRow_102 (by decide) ?_
          refine lv_icmp_eq (tgt := 117) hx hb dX6_markRow_103 (by decide) (fun c_34 => ?_) (fun c_34 => ?_)
          · have zc_34 : (v14 (T 7 i j 1)) = (-1) := jeq (a := (v14 (T 7 i j 1))) (b := (-1)) (by omega) (by omega) c_34
            refine lv_aload_n hx hb dX6_markRow_117 rfl (lv_at hl 2 rfl) ?_
            refine x_get (ci := 6) (C := RX6) (T := TX6) (N := 18) (v := .ref w14) B 0 rfl rfl in_X6 14 (by decide) mw_254 (fun _ h9 => h9) rfl dX6_markRow_118 ?_
            refine lv_iload hx hb dX6_markRow_121 (lv_at hl 0 rfl) ?_
            refine lv_iload_n hx hb dX6_markRow_123 rfl (lv_at hl 3 rfl) ?_
            refine x_iast' (f := v14) (z := (T 7 i j 1)) (v := ro) B 5 rfl (by omega) dX6_markRow_124 (fun H locs B => ?_)
            have b_35 : Bd (-1) 767 (uz v14 (T 7 i j 1) ro) := Bd_uz hv14 (by omega)
            have B := bd_to (ws' := ([(rw, .inr (6, [.int (iI (Q 0 0)), .ref w1, .ref w2, .ref w3, .ref w4, .ref w5, .ref w6, .ref w7, .ref w8, .ref w9, .ref w10, .ref w11, .int (iI hn), .int (iI tn), .ref w14, .ref w15, .ref w16, .int (iI fn)])), (w4, .inl (k 0, 768, .inl (fun i9 : Nat => iI (v4 i9)))), (w5, .inl (k 0, 768, .inl (fun i9 : Nat => iI (v5 i9)))), (w9, .inl (k 0, 192, .inl (fun i9 : Nat => iI (v9 i9)))), (w10, .inl (k 0, 6, .inl (fun i9 : Nat => iI ((uz v10 (T 7 i j 2) ro) i9)))), (w14, .inl (k 0, 5, .inl (fun i9 : Nat => iI ((uz v14 (T 7 i j 1) ro) i9)))), (w15, .inl (k 0, 5, .inl (fun i9 : Nat => iI (v15 i9))))] ++ tl)) rfl B
            refine lv_aload_n hx hb dX6_markRow_125 rfl (lv_at hl 2 rfl) ?_
            refine x_get (ci := 6) (C := RX6) (T := TX6) (N := 18) (v := .ref w15) B 0 rfl rfl in_X6 15 (by decide) mw_256 (fun _ h9 => h9) rfl dX6_markRow_126 ?_
            refine lv_iload hx hb dX6_markRow_129 (lv_at hl 0 rfl) ?_
            refine lv_iload_n hx hb dX6_markRow_131 rfl (lv_at hl 4 rfl) ?_
            refine x_iast' (f := v15) (z := (T 7 i j 1)) (v := ix) B 6 rfl (by omega) dX6_markRow_132 (fun H locs B => ?_)
            have b_36 : Bd 0 191 (uz v15 (T 7 i j 1) ix) := Bd_uz hv15 (by omega)
            have B := bd_to (ws' := ([(rw, .inr (6, [.int (iI (Q 0 0)), .ref w1, .ref w2, .ref w3, .ref w4, .ref w5, .ref w6, .ref w7, .ref w8, .ref w9, .ref w10, .ref w11, .int (iI hn), .int (iI tn), .ref w14, .ref w15, .ref w16, .int (iI fn)])), (w4, .inl (k 0, 768, .inl (fun i9 : Nat => iI (v4 i9)))), (w5, .inl (k 0, 768, .inl (fun i9 : Nat => iI (v5 i9)))), (w9, .inl (k 0, 192, .inl (fun i9 : Nat => iI (v9 i9)))), (w10, .inl (k 0, 6, .inl (fun i9 : Nat => iI ((uz v10 (T 7 i j 2) ro) i9)))), (w14, .inl (k 0, 5, .inl (fun i9 : Nat => iI ((uz v14 (T 7 i j 1) ro) i9)))), (w15, .inl (k 0, 5, .inl (fun i9 : Nat => iI ((uz v15 (T 7 i j 1) ix) i9))))] ++ tl)) rfl B
            have e_37 : ((mkQ T Q i j ro ix) 0 0) = (Q 0 0) := rfl
            have B := bd_to (ws' := ([(rw, .inr (6, [.int (iI ((mkQ T Q i j ro ix) 0 0)), .ref w1, .ref w2, .ref w3, .ref w4, .ref w5, .ref w6, .ref w7, .ref w8, .ref w9, .ref w10, .ref w11, .int (iI hn), .int (iI tn), .ref w14, .ref w15, .ref w16, .int (iI fn)])), (w4, .inl (k 0, 768, .inl (fun i9 : Nat => iI (v4 i9)))), (w5, .inl (k 0, 768, .inl (fun i9 : Nat => iI (v5 i9)))), (w9, .inl (k 0, 192, .inl (fun i9 : Nat => iI (v9 i9)))), (w10, .inl (k 0, 6, .inl (fun i9 : Nat => iI ((uz v10 (T 7 i j 2) ro) i9)))), (w14, .inl (k 0, 5, .inl (fun i9 : Nat => iI ((uz v14 (T 7 i j 1) ro) i9)))), (w15, .inl (k 0, 5, .inl (fun i9 : Nat => iI ((uz v15 (T 7 i j 1) ix) i9))))] ++ tl)) (by first | rfl | (rw [e_37])) B
            exact k_vret B hr (⟨(mkQ T Q i j ro ix), v4, v5, (uz v10 (T 7 i j 2) ro), (uz v14 (T 7 i j 1) ro), (uz v15 (T 7 i j 1) ix), rfl, ⟨(mk45n hQw (by omega)), hQw.2.1, (mk10y hQw (by omega) (by omega)), (mk14y hQw (by omega) (by omega) (by omega)).1, (mk14y hQw (by omega) (by omega) (by omega)).2⟩, (fun x a9 b9 => by first | exact Int.le_add_of_nonneg_right (by omega) | (by_cases e9 : x = ro; (rw [e9, uz_s]; omega); (rw [uz_n e9]; omega))), hv4, hv5, b_27, b_35, b_36, rfl, rfl, rfl, rfl⟩) ⟨Nat.le_of_ble_eq_true rfl, Nat.le_of_ble_eq_true rfl⟩ ⟨Nat.le_of_ble_eq_true rfl, Nat.le_of_ble_eq_true rfl⟩ dX6_markRow_133
          · have zc_34 : (v14 (T 7 i j 1)) ≠ (-1) := jne (a := (v14 (T 7 i j 1))) (b := (-1)) (by omega) (by omega) c_34
            refine lv_iload_n hx hb dX6_markRow_106 rfl (lv_at hl 3 rfl) ?_
            refine lv_aload_n hx hb dX6_markRow_107 rfl (lv_at hl 2 rfl) ?_
            refine x_get (ci := 6) (C := RX6) (T := TX6) (N := 18) (v := .ref w14) B 0 rfl rfl in_X6 14 (by decide) mw_254 (fun _ h9 => h9) rfl dX6_markRow_108 ?_
            refine lv_iload hx hb dX6_markRow_111 (lv_at hl 0 rfl) ?_
            refine x_iald' (f := v14) (z := (T 7 i j 1)) B 5 rfl (by omega) dX6_markRow_113 ?_
            have z_38 : (-1) ≤ (v14 (T 7 i j 1)) ∧ (v14 (T 7 i j 1)) ≤ 767 := hv14 (T 7 i j 1)
            refine lv_icmp_ge (tgt := 133) hx hb dX6_markRow_114 (by decide) (fun c_39 => ?_) (fun c_39 => ?_)
            · have zc_39 : (v14 (T 7 i j 1)) ≤ ro := jle (a := (v14 (T 7 i j 1))) (b := ro) (by omega) (by omega) c_39
              have e_40 : ((mkQ T Q i j ro ix) 0 0) = (Q 0 0) := rfl
              have B := bd_to (ws' := ([(rw, .inr (6, [.int (iI ((mkQ T Q i j ro ix) 0 0)), .ref w1, .ref w2, .ref w3, .ref w4, .ref w5, .ref w6, .ref w7, .ref w8, .ref w9, .ref w10, .ref w11, .int (iI hn), .int (iI tn), .ref w14, .ref w15, .ref w16, .int (iI fn)])), (w4, .inl (k 0, 768, .inl (fun i9 : Nat => iI (v4 i9)))), (w5, .inl (k 0, 768, .inl (fun i9 : Nat => iI (v5 i9)))), (w9, .inl (k 0, 192, .inl (fun i9 : Nat => iI (v9 i9)))), (w10, .inl (k 0, 6, .inl (fun i9 : Nat => iI ((uz v10 (T 7 i j 2) ro) i9)))), (w14, .inl (k 0, 5, .inl (fun i9 : Nat => iI (v14 i9)))), (w15, .inl (k 0, 5, .inl (fun i9 : Nat => iI (v15 i9))))] ++ tl)) (by first | rfl | (rw [e_40])) B
              exact k_vret B hr (⟨(mkQ T Q i j ro ix), v4, v5, (uz v10 (T 7 i j 2) ro), v14, v15, rfl, ⟨(mk45n hQw (by omega)), hQw.2.1, (mk10y hQw (by omega) (by omega)), (mk14n hQw (by omega)).1, (mk14n hQw (by omega)).2⟩, (fun x a9 b9 => by first | exact Int.le_add_of_nonneg_right (by omega) | (by_cases e9 : x = ro; (rw [e9, uz_s]; omega); (rw [uz_n e9]; omega))), hv4, hv5, b_27, hv14, hv15, rfl, rfl, rfl, rfl⟩) ⟨Nat.le_of_ble_eq_true rfl, Nat.le_of_ble_eq_true rfl⟩ ⟨Nat.le_of_ble_eq_true rfl, Nat.le_of_ble_eq_true rfl⟩ dX6_markRow_133
            · have zc_39 : ro < (v14 (T 7 i j 1)) := jnle (a := (v14 (T 7 i j 1))) (b := ro) (by omega) (by omega) c_39
              refine lv_aload_n hx hb dX6_markRow_117 rfl (lv_at hl 2 rfl) ?_
              refine x_get (ci := 6) (C := RX6) (T := TX6) (N := 18) (v := .ref w14) B 0 rfl rfl in_X6 14 (by decide) mw_254 (fun _ h9 => h9) rfl dX6_markRow_118 ?_
              refine lv_iload hx hb dX6_markRow_121 (lv_at hl 0 rfl) ?_
              refine lv_iload_n hx hb dX6_markRow_123 rfl (lv_at hl 3 rfl) ?_
              refine x_iast' (f := v14) (z := (T 7 i j 1)) (v := ro) B 5 rfl (by omega) dX6_markRow_124 (fun H locs B => ?_)
              have b_41 : Bd (-1) 767 (uz v14 (T 7 i j 1) ro) := Bd_uz hv14 (by omega)
              have B := bd_to (ws' := ([(rw, .inr (6, [.int (iI (Q 0 0)), .ref w1, .ref w2, .ref w3, .ref w4, .ref w5, .ref w6, .ref w7, .ref w8, .ref w9, .ref w10, .ref w11, .int (iI hn), .int (iI tn), .ref w14, .ref w15, .ref w16, .int (iI fn)])), (w4, .inl (k 0, 768, .inl (fun i9 : Nat => iI (v4 i9)))), (w5, .inl (k 0, 768, .inl (fun i9 : Nat => iI (v5 i9)))), (w9, .inl (k 0, 192, .inl (fun i9 : Nat => iI (v9 i9)))), (w10, .inl (k 0, 6, .inl (fun i9 : Nat => iI ((uz v10 (T 7 i j 2) ro) i9)))), (w14, .inl (k 0, 5, .inl (fun i9 : Nat => iI ((uz v14 (T 7 i j 1) ro) i9)))), (w15, .inl (k 0, 5, .inl (fun i9 : Nat => iI (v15 i9))))] ++ tl)) rfl B
              refine lv_aload_n hx hb dX6_markRow_125 rfl (lv_at hl 2 rfl) ?_
              refine x_get (ci := 6) (C := RX6) (T := TX6) (N := 18) (v := .ref w15) B 0 rfl rfl in_X6 15 (by decide) mw_256 (fun _ h9 => h9) rfl dX6_markRow_126 ?_
              refine lv_iload hx hb dX6_markRow_129 (lv_at hl 0 rfl) ?_
              refine lv_iload_n hx hb dX6_markRow_131 rfl (lv_at hl 4 rfl) ?_
              refine x_iast' (f := v15) (z := (T 7 i j 1)) (v := ix) B 6 rfl (by omega) dX6_markRow_132 (fun H locs B => ?_)
              have b_42 : Bd 0 191 (uz v15 (T 7 i j 1) ix) := Bd_uz hv15 (by omega)
              have B := bd_to (ws' := ([(rw, .inr (6, [.int (iI (Q 0 0)), .ref w1, .ref w2, .ref w3, .ref w4, .ref w5, .ref w6, .ref w7, .ref w8, .ref w9, .ref w10, .ref w11, .int (iI hn), .int (iI tn), .ref w14, .ref w15, .ref w16, .int (iI fn)])), (w4, .inl (k 0, 768, .inl (fun i9 : Nat => iI (v4 i9)))), (w5, .inl (k 0, 768, .inl (fun i9 : Nat => iI (v5 i9)))), (w9, .inl (k 0, 192, .inl (fun i9 : Nat => iI (v9 i9)))), (w10, .inl (k 0, 6, .inl (fun i9 : Nat => iI ((uz v10 (T 7 i j 2) ro) i9)))), (w14, .inl (k 0, 5, .inl (fun i9 : Nat => iI ((uz v14 (T 7 i j 1) ro) i9)))), (w15, .inl (k 0, 5, .inl (fun i9 : Nat => iI ((uz v15 (T 7 i j 1) ix) i9))))] ++ tl)) rfl B
              have e_43 : ((mkQ T Q i j ro ix) 0 0) = (Q 0 0) := rfl
              have B := bd_to (ws' := ([(rw, .inr (6, [.int (iI ((mkQ T Q i j ro ix) 0 0)), .ref w1, .ref w2, .ref w3, .ref w4, .ref w5, .ref w6, .ref w7, .ref w8, .ref w9, .ref w10, .ref w11, .int (iI hn), .int (iI tn), .ref w14, .ref w15, .ref w16, .int (iI fn)])), (w4, .inl (k 0, 768, .inl (fun i9 : Nat => iI (v4 i9)))), (w5, .inl (k 0, 768, .inl (fun i9 : Nat => iI (v5 i9)))), (w9, .inl (k 0, 192, .inl (fun i9 : Nat => iI (v9 i9)))), (w10, .inl (k 0, 6, .inl (fun i9 : Nat => iI ((uz v10 (T 7 i j 2) ro) i9)))), (w14, .inl (k 0, 5, .inl (fun i9 : Nat => iI ((uz v14 (T 7 i j 1) ro) i9)))), (w15, .inl (k 0, 5, .inl (fun i9 : Nat => iI ((uz v15 (T 7 i j 1) ix) i9))))] ++ tl)) (by first | rfl | (rw [e_43])) B
              exact k_vret B hr (⟨(mkQ T Q i j ro ix), v4, v5, (uz v10 (T 7 i j 2) ro), (uz v14 (T 7 i j 1) ro), (uz v15 (T 7 i j 1) ix), rfl, ⟨(mk45n hQw (by omega)), hQw.2.1, (mk10y hQw (by omega) (by omega)), (mk14y hQw (by omega) (by omega) (by omega)).1, (mk14y hQw (by omega) (by omega) (by omega)).2⟩, (fun x a9 b9 => by first | exact Int.le_add_of_nonneg_right (by omega) | (by_cases e9 : x = ro; (rw [e9, uz_s]; omega); (rw [uz_n e9]; omega))), hv4, hv5, b_27, b_41, b_42, rfl, rfl, rfl, rfl⟩) ⟨Nat.le_of_ble_eq_true rfl, Nat.le_of_ble_eq_true rfl⟩ ⟨Nat.le_of_ble_eq_true rfl, Nat.le_of_ble_eq_true rfl⟩ dX6_markRow_133
      · have zc_26 : (v10 (T 7 i j 2)) ≠ (-1) := jne (a := (v10 (T 7 i j 2))) (b := (-1)) (by omega) (by omega) c_26
        refine lv_iload_n hx hb dX6_markRow_62 rfl (lv_at hl 2 rfl) ?_
        refine lv_aload_n hx hb dX6_markRow_63 rfl (lv_at hl 1 rfl) ?_
        refine x_get (ci := 6) (C := RX6) (T := TX6) (N := 18) (v := .ref w10) B 0 rfl rfl in_X6 10 (by decide) mw_248 (fun _ h9 => h9) rfl dX6_markRow_64 ?_
        refine lv_iload hx hb dX6_markRow_67 (lv_at hl 0 rfl) ?_
        refine x_iald' (f := v10) (z := (T 7 i j 2)) B 4 rfl (by omega) dX6_markRow_69 ?_
        have z_44 : (-1) ≤ (v10 (T 7 i j 2)) ∧ (v10 (T 7 i j 2)) ≤ 767 := hv10 (T 7 i j 2)
        refine lv_icmp_ge (tgt := 81) hx hb dX6_markRow_70 (by decide) (fun c_45 => ?_) (fun c_45 => ?_)
        · have zc_45 : (v10 (T 7 i j 2)) ≤ ro := jle (a := (v10 (T 7 i j 2))) (b := ro) (by omega) (by omega) c_45
          refine lv_aload_n hx hb dX6_markRow_81 rfl (lv_at hl 4 rfl) ?_
          obtain ⟨k_46, hk_46⟩ := pk_at (hs := [(rw, .inr (6, [.int (iI (Q 0 0)), .ref w1, .ref w2, .ref w3, .ref w4, .ref w5, .ref w6, .ref w7, .ref w8, .ref w9, .ref w10, .ref w11, .int (iI hn), .int (iI tn), .ref w14, .ref w15, .ref w16, .int (iI fn)])), (w4, .inl (k 0, 768, .inl (fun i9 : Nat => iI (v4 i9)))), (w5, .inl (k 0, 768, .inl (fun i9 : Nat => iI (v5 i9)))), (w9, .inl (k 0, 192, .inl (fun i9 : Nat => iI (v9 i9)))), (w10, .inl (k 0, 6, .inl (fun i9 : Nat => iI (v10 i9)))), (w14, .inl (k 0, 5, .inl (fun i9 : Nat => iI (v14 i9)))), (w15, .inl (k 0, 5, .inl (fun i9 : Nat => iI (v15 i9))))]) (hT.2.2.2.2.1 i j (by omega) (by omega) (by omega) (by omega)).1
          refine x_get (ci := 10) (C := RX10) (T := TX10) (N := 4) (v := .ref (A 6 i j)) B k_46 hk_46 rfl in_X10 2 (by decide) mw_827 (fun _ h9 => h9) rfl dX6_markRow_82 ?_
          refine lv_iconst (v := iI 1) hx hb dX6_markRow_85 (by decide) ?_
          obtain ⟨k_47, hk_47⟩ := pk_at (hs := [(rw, .inr (6, [.int (iI (Q 0 0)), .ref w1, .ref w2, .ref w3, .ref w4, .ref w5, .ref w6, .ref w7, .ref w8, .ref w9, .ref w10, .ref w11, .int (iI hn), .int (iI tn), .ref w14, .ref w15, .ref w16, .int (iI fn)])), (w4, .inl (k 0, 768, .inl (fun i9 : Nat => iI (v4 i9)))), (w5, .inl (k 0, 768, .inl (fun i9 : Nat => iI (v5 i9)))), (w9, .inl (k 0, 192, .inl (fun i9 : Nat => iI (v9 i9)))), (w10, .inl (k 0, 6, .inl (fun i9 : Nat => iI (v10 i9)))), (w14, .inl (k 0, 5, .inl (fun i9 : Nat => iI (v14 i9)))), (w15, .inl (k 0, 5, .inl (fun i9 : Nat => iI (v15 i9))))]) (hT.2.2.2.2.1 i j (by omega) (by omega) (by omega) (by omega)).2.2
          refine x_iald' (f := (fun j9 : Int => T 7 i j j9)) (z := 1) B k_47 hk_47 (by omega) dX6_markRow_86 ?_
          have z_48 : (-1) ≤ (T 7 i j 1) ∧ (T 7 i j 1) ≤ 7 := (fun q => TK_mrk hK i j q) 1
          refine lv_istore (lv' := [(5, .int (iI (T 7 i j 1))), (4, .int (iI (T 7 i j 2))), (0, .ref rw), (1, .int (iI ro)), (2, .int (iI ix)), (3, .ref (A 4 i j))]) hx hb dX6_markRow_87 hl (by decide) rfl (fun ls hl => ?_)
          refine lv_iload hx hb dX6_markRow_89 (lv_at hl 0 rfl) ?_
          refine lv_iconst (v := iI (-1)) hx hb dX6_markRow_91 (by decide) ?_
          refine lv_icmp_eq (tgt := 133) hx hb dX6_markRow_92 (by decide) (fun c_49 => ?_) (fun c_49 => ?_)
          · have zc_49 : (T 7 i j 1) = (-1) := jeq (a := (T 7 i j 1)) (b := (-1)) (by omega) (by omega) c_49
            have e_50 : ((mkQ T Q i j ro ix) 0 0) = (Q 0 0) := rfl
            have B := bd_to (ws' := ([(rw, .inr (6, [.int (iI ((mkQ T Q i j ro ix) 0 0)), .ref w1, .ref w2, .ref w3, .ref w4, .ref w5, .ref w6, .ref w7, .ref w8, .ref w9, .ref w10, .ref w11, .int (iI hn), .int (iI tn), .ref w14, .ref w15, .ref w16, .int (iI fn)])), (w4, .inl (k 0, 768, .inl (fun i9 : Nat => iI (v4 i9)))), (w5, .inl (k 0, 768, .inl (fun i9 : Nat => iI (v5 i9)))), (w9, .inl (k 0, 192, .inl (fun i9 : Nat => iI (v9 i9)))), (w10, .inl (k 0, 6, .inl (fun i9 : Nat => iI (v10 i9)))), (w14, .inl (k 0, 5, .inl (fun i9 : Nat => iI (v14 i9)))), (w15, .inl (k 0, 5, .inl (fun i9 : Nat => iI (v15 i9))))] ++ tl)) (by first | rfl | (rw [e_50])) B
            exact k_vret B hr (⟨(mkQ T Q i j ro ix), v4, v5, v10, v14, v15, rfl, ⟨(mk45n hQw (by omega)), hQw.2.1, (mk10n hQw (by omega)), (mk14n hQw (by omega)).1, (mk14n hQw (by omega)).2⟩, (fun x a9 b9 => by first | exact Int.le_add_of_nonneg_right (by omega) | (by_cases e9 : x = ro; (rw [e9, uz_s]; omega); (rw [uz_n e9]; omega))), hv4, hv5, hv10, hv14, hv15, rfl, rfl, rfl, rfl⟩) ⟨Nat.le_of_ble_eq_true rfl, Nat.le_of_ble_eq_true rfl⟩ ⟨Nat.le_of_ble_eq_true rfl, Nat.le_of_ble_eq_true rfl⟩ dX6_markRow_133
          · have zc_49 : (T 7 i j 1) ≠ (-1) := jne (a := (T 7 i j 1)) (b := (-1)) (by omega) (by omega) c_49
            refine lv_aload_n hx hb dX6_markRow_95 rfl (lv_at hl 2 rfl) ?_
            refine x_get (ci := 6) (C := RX6) (T := TX6) (N := 18) (v := .ref w14) B 0 rfl rfl in_X6 14 (by decide) mw_254 (fun _ h9 => h9) rfl dX6_markRow_96 ?_
            refine lv_iload hx hb dX6_markRow_99 (lv_at hl 0 rfl) ?_
            refine x_iald' (f := v14) (z := (T 7 i j 1)) B 5 rfl (by omega) dX6_markRow_101 ?_
            have z_51 : (-1) ≤ (v14 (T 7 i j 1)) ∧ (v14 (T 7 i j 1)) ≤ 767 := hv14 (T 7 i j 1)
            refine lv_iconst (v := iI (-1)) hx hb dX6_markRow_102 (by decide) ?_
            refine lv_icmp_eq (tgt := 117) hx hb dX6_markRow_103 (by decide) (fun c_52 => ?_) (fun c_52 => ?_)
            · have zc_52 : (v14 (T 7 i j 1)) = (-1) := jeq (a := (v14 (T 7 i j 1))) (b := (-1)) (by omega) (by omega) c_52
              refine lv_aload_n hx hb dX6_markRow_117 rfl (lv_at hl 2 rfl) ?_
              refine x_get (ci := 6) (C := RX6) (T := TX6) (N := 18) (v := .ref w14) B 0 rfl rfl in_X6 14 (by decide) mw_254 (fun _ h9 => h9) rfl dX6_markRow_118 ?_
              refine lv_iload hx hb dX6_markRow_121 (lv_at hl 0 rfl) ?_
              refine lv_iload_n hx hb dX6_markRow_123 rfl (lv_at hl 3 rfl) ?_
              refine x_iast' (f := v14) (z := (T 7 i j 1)) (v := ro) B 5 rfl (by omega) dX6_markRow_124 (fun H locs B => ?_)
              have b_53 : Bd (-1) 767 (uz v14 (T 7 i j 1) ro) := Bd_uz hv14 (by omega)
              have B := bd_to (ws' := ([(rw, .inr (6, [.int (iI (Q 0 0)), .ref w1, .ref w2, .ref w3, .ref w4, .ref w5, .ref w6, .ref w7, .ref w8, .ref w9, .ref w10, .ref w11, .int (iI hn), .int (iI tn), .ref w14, .ref w15, .ref w16, .int (iI fn)])), (w4, .inl (k 0, 768, .inl (fun i9 : Nat => iI (v4 i9)))), (w5, .inl (k 0, 768, .inl (fun i9 : Nat => iI (v5 i9)))), (w9, .inl (k 0, 192, .inl (fun i9 : Nat => iI (v9 i9)))), (w10, .inl (k 0, 6, .inl (fun i9 : Nat => iI (v10 i9)))), (w14, .inl (k 0, 5, .inl (fun i9 : Nat => iI ((uz v14 (T 7 i j 1) ro) i9)))), (w15, .inl (k 0, 5, .inl (fun i9 : Nat => iI (v15 i9))))] ++ tl)) rfl B
              refine lv_aload_n hx hb dX6_markRow_125 rfl (lv_at hl 2 rfl) ?_
              refine x_get (ci := 6) (C := RX6) (T := TX6) (N := 18) (v := .ref w15) B 0 rfl rfl in_X6 15 (by decide) mw_256 (fun _ h9 => h9) rfl dX6_markRow_126 ?_
              refine lv_iload hx hb dX6_markRow_129 (lv_at hl 0 rfl) ?_
              refine lv_iload_n hx hb dX6_markRow_131 rfl (lv_at hl 4 rfl) ?_
              refine x_iast' (f := v15) (z := (T 7 i j 1)) (v := ix) B 6 rfl (by omega) dX6_markRow_132 (fun H locs B => ?_)
              have b_54 : Bd 0 191 (uz v15 (T 7 i j 1) ix) := Bd_uz hv15 (by omega)
              have B := bd_to (ws' := ([(rw, .inr (6, [.int (iI (Q 0 0)), .ref w1, .ref w2, .ref w3, .ref w4, .ref w5, .ref w6, .ref w7, .ref w8, .ref w9, .ref w10, .ref w11, .int (iI hn), .int (iI tn), .ref w14, .ref w15, .ref w16, .int (iI fn)])), (w4, .inl (k 0, 768, .inl (fun i9 : Nat => iI (v4 i9)))), (w5, .inl (k 0, 768, .inl (fun i9 : Nat => iI (v5 i9)))), (w9, .inl (k 0, 192, .inl (fun i9 : Nat => iI (v9 i9)))), (w10, .inl (k 0, 6, .inl (fun i9 : Nat => iI (v10 i9)))), (w14, .inl (k 0, 5, .inl (fun i9 : Nat => iI ((uz v14 (T 7 i j 1) ro) i9)))), (w15, .inl (k 0, 5, .inl (fun i9 : Nat => iI ((uz v15 (T 7 i j 1) ix) i9))))] ++ tl)) rfl B
              have e_55 : ((mkQ T Q i j ro ix) 0 0) = (Q 0 0) := rfl
              have B := bd_to (ws' := ([(rw, .inr (6, [.int (iI ((mkQ T Q i j ro ix) 0 0)), .ref w1, .ref w2, .ref w3, .ref w4, .ref w5, .ref w6, .ref w7, .ref w8, .ref w9, .ref w10, .ref w11, .int (iI hn), .int (iI tn), .ref w14, .ref w15, .ref w16, .int (iI fn)])), (w4, .inl (k 0, 768, .inl (fun i9 : Nat => iI (v4 i9)))), (w5, .inl (k 0, 768, .inl (fun i9 : Nat => iI (v5 i9)))), (w9, .inl (k 0, 192, .inl (fun i9 : Nat => iI (v9 i9)))), (w10, .inl (k 0, 6, .inl (fun i9 : Nat => iI (v10 i9)))), (w14, .inl (k 0, 5, .inl (fun i9 : Nat => iI ((uz v14 (T 7 i j 1) ro) i9)))), (w15, .inl (k 0, 5, .inl (fun i9 : Nat => iI ((uz v15 (T 7 i j 1) ix) i9))))] ++ tl)) (by first | rfl | (rw [e_55])) B
              exact k_vret B hr (⟨(mkQ T Q i j ro ix), v4, v5, v10, (uz v14 (T 7 i j 1) ro), (uz v15 (T 7 i j 1) ix), rfl, ⟨(mk45n hQw (by omega)), hQw.2.1, (mk10n hQw (by omega)), (mk14y hQw (by omega) (by omega) (by omega)).1, (mk14y hQw (by omega) (by omega) (by omega)).2⟩, (fun x a9 b9 => by first | exact Int.le_add_of_nonneg_right (by omega) | (by_cases e9 : x = ro; (rw [e9, uz_s]; omega); (rw [uz_n e9]; omega))), hv4, hv5, hv10, b_53, b_54, rfl, rfl, rfl, rfl⟩) ⟨Nat.le_of_ble_eq_true rfl, Nat.le_of_ble_eq_true rfl⟩ ⟨Nat.le_of_ble_eq_true rfl, Nat.le_of_ble_eq_true rfl⟩ dX6_markRow_133
            · have zc_52 : (v14 (T 7 i j 1)) ≠ (-1) := jne (a := (v14 (T 7 i j 1))) (b := (-1)) (by omega) (by omega) c_52
              refine lv_iload_n hx hb dX6_markRow_106 rfl (lv_at hl 3 rfl) ?_
              refine lv_aload_n hx hb dX6_markRow_107 rfl (lv_at hl 2 rfl) ?_
              refine x_get (ci := 6) (C := RX6) (T := TX6) (N := 18) (v := .ref w14) B 0 rfl rfl in_X6 14 (by decide) mw_254 (fun _ h9 => h9) rfl dX6_markRow_108 ?_
              refine lv_iload hx hb dX6_markRow_111 (lv_at hl 0 rfl) ?_
              refine x_iald' (f := v14) (z := (T 7 i j 1)) B 5 rfl (by omega) dX6_markRow_113 ?_
              have z_56 : (-1) ≤ (v14 (T 7 i j 1)) ∧ (v14 (T 7 i j 1)) ≤ 767 := hv14 (T 7 i j 1)
              refine lv_icmp_ge (tgt := 133) hx hb dX6_markRow_114 (by decide) (fun c_57 => ?_) (fun c_57 => ?_)
              · have zc_57 : (v14 (T 7 i j 1)) ≤ ro := jle (a := (v14 (T 7 i j 1))) (b := ro) (by omega) (by omega) c_57
                have e_58 : ((mkQ T Q i j ro ix) 0 0) = (Q 0 0) := rfl
                have B := bd_to (ws' := ([(rw, .inr (6, [.int (iI ((mkQ T Q i j ro ix) 0 0)), .ref w1, .ref w2, .ref w3, .ref w4, .ref w5, .ref w6, .ref w7, .ref w8, .ref w9, .ref w10, .ref w11, .int (iI hn), .int (iI tn), .ref w14, .ref w15, .ref w16, .int (iI fn)])), (w4, .inl (k 0, 768, .inl (fun i9 : Nat => iI (v4 i9)))), (w5, .inl (k 0, 768, .inl (fun i9 : Nat => iI (v5 i9)))), (w9, .inl (k 0, 192, .inl (fun i9 : Nat => iI (v9 i9)))), (w10, .inl (k 0, 6, .inl (fun i9 : Nat => iI (v10 i9)))), (w14, .inl (k 0, 5, .inl (fun i9 : Nat => iI (v14 i9)))), (w15, .inl (k 0, 5, .inl (fun i9 : Nat => iI (v15 i9))))] ++ tl)) (by first | rfl | (rw [e_58])) B
                exact k_vret B hr (⟨(mkQ T Q i j ro ix), v4, v5, v10, v14, v15, rfl, ⟨(mk45n hQw (by omega)), hQw.2.1, (mk10n hQw (by omega)), (mk14n hQw (by omega)).1, (mk14n hQw (by omega)).2⟩, (fun x a9 b9 => by first | exact Int.le_add_of_nonneg_right (by omega) | (by_cases e9 : x = ro; (rw [e9, uz_s]; omega); (rw [uz_n e9]; omega))), hv4, hv5, hv10, hv14, hv15, rfl, rfl, rfl, rfl⟩) ⟨Nat.le_of_ble_eq_true rfl, Nat.le_of_ble_eq_true rfl⟩ ⟨Nat.le_of_ble_eq_true rfl, Nat.le_of_ble_eq_true rfl⟩ dX6_markRow_133
              · have zc_57 : ro < (v14 (T 7 i j 1)) := jnle (a := (v14 (T 7 i j 1))) (b := ro) (by omega) (by omega) c_57
                refine lv_aload_n hx hb dX6_markRow_117 rfl (lv_at hl 2 rfl) ?_
                refine x_get (ci := 6) (C := RX6) (T := TX6) (N := 18) (v := .ref w14) B 0 rfl rfl in_X6 14 (by decide) mw_254 (fun _ h9 => h9) rfl dX6_markRow_118 ?_
                refine lv_iload hx hb dX6_markRow_121 (lv_at hl 0 rfl) ?_
                refine lv_iload_n hx hb dX6_markRow_123 rfl (lv_at hl 3 rfl) ?_
                refine x_iast' (f := v14) (z := (T 7 i j 1)) (v := ro) B 5 rfl (by omega) dX6_markRow_124 (fun H locs B => ?_)
                have b_59 : Bd (-1) 767 (uz v14 (T 7 i j 1) ro) := Bd_uz hv14 (by omega)
                have B := bd_to (ws' := ([(rw, .inr (6, [.int (iI (Q 0 0)), .ref w1, .ref w2, .ref w3, .ref w4, .ref w5, .ref w6, .ref w7, .ref w8, .ref w9, .ref w10, .ref w11, .int (iI hn), .int (iI tn), .ref w14, .ref w15, .ref w16, .int (iI fn)])), (w4, .inl (k 0, 768, .inl (fun i9 : Nat => iI (v4 i9)))), (w5, .inl (k 0, 768, .inl (fun i9 : Nat => iI (v5 i9)))), (w9, .inl (k 0, 192, .inl (fun i9 : Nat => iI (v9 i9)))), (w10, .inl (k 0, 6, .inl (fun i9 : Nat => iI (v10 i9)))), (w14, .inl (k 0, 5, .inl (fun i9 : Nat => iI ((uz v14 (T 7 i j 1) ro) i9)))), (w15, .inl (k 0, 5, .inl (fun i9 : Nat => iI (v15 i9))))] ++ tl)) rfl B
                refine lv_aload_n hx hb dX6_markRow_125 rfl (lv_at hl 2 rfl) ?_
                refine x_get (ci := 6) (C := RX6) (T := TX6) (N := 18) (v := .ref w15) B 0 rfl rfl in_X6 15 (by decide) mw_256 (fun _ h9 => h9) rfl dX6_markRow_126 ?_
                refine lv_iload hx hb dX6_markRow_129 (lv_at hl 0 rfl) ?_
                refine lv_iload_n hx hb dX6_markRow_131 rfl (lv_at hl 4 rfl) ?_
                refine x_iast' (f := v15) (z := (T 7 i j 1)) (v := ix) B 6 rfl (by omega) dX6_markRow_132 (fun H locs B => ?_)
                have b_60 : Bd 0 191 (uz v15 (T 7 i j 1) ix) := Bd_uz hv15 (by omega)
                have B := bd_to (ws' := ([(rw, .inr (6, [.int (iI (Q 0 0)), .ref w1, .ref w2, .ref w3, .ref w4, .ref w5, .ref w6, .ref w7, .ref w8, .ref w9, .ref w10, .ref w11, .int (iI hn), .int (iI tn), .ref w14, .ref w15, .ref w16, .int (iI fn)])), (w4, .inl (k 0, 768, .inl (fun i9 : Nat => iI (v4 i9)))), (w5, .inl (k 0, 768, .inl (fun i9 : Nat => iI (v5 i9)))), (w9, .inl (k 0, 192, .inl (fun i9 : Nat => iI (v9 i9)))), (w10, .inl (k 0, 6, .inl (fun i9 : Nat => iI (v10 i9)))), (w14, .inl (k 0, 5, .inl (fun i9 : Nat => iI ((uz v14 (T 7 i j 1) ro) i9)))), (w15, .inl (k 0, 5, .inl (fun i9 : Nat => iI ((uz v15 (T 7 i j 1) ix) i9))))] ++ tl)) rfl B
                have e_61 : ((mkQ T Q i j ro ix) 0 0) = (Q 0 0) := rfl
                have B := bd_to (ws' := ([(rw, .inr (6, [.int (iI ((mkQ T Q i j ro ix) 0 0)), .ref w1, .ref w2, .ref w3, .ref w4, .ref w5, .ref w6, .ref w7, .ref w8, .ref w9, .ref w10, .ref w11, .int (iI hn), .int (iI tn), .ref w14, .ref w15, .ref w16, .int (iI fn)])), (w4, .inl (k 0, 768, .inl (fun i9 : Nat => iI (v4 i9)))), (w5, .inl (k 0, 768, .inl (fun i9 : Nat => iI (v5 i9)))), (w9, .inl (k 0, 192, .inl (fun i9 : Nat => iI (v9 i9)))), (w10, .inl (k 0, 6, .inl (fun i9 : Nat => iI (v10 i9)))), (w14, .inl (k 0, 5, .inl (fun i9 : Nat => iI ((uz v14 (T 7 i j 1) ro) i9)))), (w15, .inl (k 0, 5, .inl (fun i9 : Nat => iI ((uz v15 (T 7 i j 1) ix) i9))))] ++ tl)) (by first | rfl | (rw [e_61])) B
                exact k_vret B hr (⟨(mkQ T Q i j ro ix), v4, v5, v10, (uz v14 (T 7 i j 1) ro), (uz v15 (T 7 i j 1) ix), rfl, ⟨(mk45n hQw (by omega)), hQw.2.1, (mk10n hQw (by omega)), (mk14y hQw (by omega) (by omega) (by omega)).1, (mk14y hQw (by omega) (by omega) (by omega)).2⟩, (fun x a9 b9 => by first | exact Int.le_add_of_nonneg_right (by omega) | (by_cases e9 : x = ro; (rw [e9, uz_s]; omega); (rw [uz_n e9]; omega))), hv4, hv5, hv10, b_59, b_60, rfl, rfl, rfl, rfl⟩) ⟨Nat.le_of_ble_eq_true rfl, Nat.le_of_ble_eq_true rfl⟩ ⟨Nat.le_of_ble_eq_true rfl, Nat.le_of_ble_eq_true rfl⟩ dX6_markRow_133
        · have zc_45 : ro < (v10 (T 7 i j 2)) := jnle (a := (v10 (T 7 i j 2))) (b := ro) (by omega) (by omega) c_45
          refine lv_aload_n hx hb dX6_markRow_73 rfl (lv_at hl 1 rfl) ?_
          refine x_get (ci := 6) (C := RX6) (T := TX6) (N := 18) (v := .ref w10) B 0 rfl rfl in_X6 10 (by decide) mw_248 (fun _ h9 => h9) rfl dX6_markRow_74 ?_
          refine lv_iload hx hb dX6_markRow_77 (lv_at hl 0 rfl) ?_
          refine lv_iload_n hx hb dX6_markRow_79 rfl (lv_at hl 2 rfl) ?_
          refine x_iast' (f := v10) (z := (T 7 i j 2)) (v := ro) B 4 rfl (by omega) dX6_markRow_80 (fun H locs B => ?_)
          have b_62 : Bd (-1) 767 (uz v10 (T 7 i j 2) ro) := Bd_uz hv10 (by omega)
          have B := bd_to (ws' := ([(rw, .inr (6, [.int (iI (Q 0 0)), .ref w1, .ref w2, .ref w3, .ref w4, .ref w5, .ref w6, .ref w7, .ref w8, .ref w9, .ref w10, .ref w11, .int (iI hn), .int (iI tn), .ref w14, .ref w15, .ref w16, .int (iI fn)])), (w4, .inl (k 0, 768, .inl (fun i9 : Nat => iI (v4 i9)))), (w5, .inl (k 0, 768, .inl (fun i9 : Nat => iI (v5 i9)))), (w9, .inl (k 0, 192, .inl (fun i9 : Nat => iI (v9 i9)))), (w10, .inl (k 0, 6, .inl (fun i9 : Nat => iI ((uz v10 (T 7 i j 2) ro) i9)))), (w14, .inl (k 0, 5, .inl (fun i9 : Nat => iI (v14 i9)))), (w15, .inl (k 0, 5, .inl (fun i9 : Nat => iI (v15 i9))))] ++ tl)) rfl B
          refine lv_aload_n hx hb dX6_markRow_81 rfl (lv_at hl 4 rfl) ?_
          obtain ⟨k_63, hk_63⟩ := pk_at (hs := [(rw, .inr (6, [.int (iI (Q 0 0)), .ref w1, .ref w2, .ref w3, .ref w4, .ref w5, .ref w6, .ref w7, .ref w8, .ref w9, .ref w10, .ref w11, .int (iI hn), .int (iI tn), .ref w14, .ref w15, .ref w16, .int (iI fn)])), (w4, .inl (k 0, 768, .inl (fun i9 : Nat => iI (v4 i9)))), (w5, .inl (k 0, 768, .inl (fun i9 : Nat => iI (v5 i9)))), (w9, .inl (k 0, 192, .inl (fun i9 : Nat => iI (v9 i9)))), (w10, .inl (k 0, 6, .inl (fun i9 : Nat => iI ((uz v10 (T 7 i j 2) ro) i9)))), (w14, .inl (k 0, 5, .inl (fun i9 : Nat => iI (v14 i9)))), (w15, .inl (k 0, 5, .inl (fun i9 : Nat => iI (v15 i9))))]) (hT.2.2.2.2.1 i j (by omega) (by omega) (by omega) (by omega)).1
          refine x_get (ci := 10) (C := RX10) (T := TX10) (N := 4) (v := .ref (A 6 i j)) B k_63 hk_63 rfl in_X10 2 (by decide) mw_827 (fun _ h9 => h9) rfl dX6_markRow_82 ?_
          refine lv_iconst (v := iI 1) hx hb dX6_markRow_85 (by decide) ?_
          obtain ⟨k_64, hk_64⟩ := pk_at (hs := [(rw, .inr (6, [.int (iI (Q 0 0)), .ref w1, .ref w2, .ref w3, .ref w4, .ref w5, .ref w6, .ref w7, .ref w8, .ref w9, .ref w10, .ref w11, .int (iI hn), .int (iI tn), .ref w14, .ref w15, .ref w16, .int (iI fn)])), (w4, .inl (k 0, 768, .inl (fun i9 : Nat => iI (v4 i9)))), (w5, .inl (k 0, 768, .inl (fun i9 : Nat => iI (v5 i9)))), (w9, .inl (k 0, 192, .inl (fun i9 : Nat => iI (v9 i9)))), (w10, .inl (k 0, 6, .inl (fun i9 : Nat => iI ((uz v10 (T 7 i j 2) ro) i9)))), (w14, .inl (k 0, 5, .inl (fun i9 : Nat => iI (v14 i9)))), (w15, .inl (k 0, 5, .inl (fun i9 : Nat => iI (v15 i9))))]) (hT.2.2.2.2.1 i j (by omega) (by omega) (by omega) (by omega)).2.2
          refine x_iald' (f := (fun j9 : Int => T 7 i j j9)) (z := 1) B k_64 hk_64 (by omega) dX6_markRow_86 ?_
          have z_65 : (-1) ≤ (T 7 i j 1) ∧ (T 7 i j 1) ≤ 7 := (fun q => TK_mrk hK i j q) 1
          refine lv_istore (lv' := [(5, .int (iI (T 7 i j 1))), (4, .int (iI (T 7 i j 2))), (0, .ref rw), (1, .int (iI ro)), (2, .int (iI ix)), (3, .ref (A 4 i j))]) hx hb dX6_markRow_87 hl (by decide) rfl (fun ls hl => ?_)
          refine lv_iload hx hb dX6_markRow_89 (lv_at hl 0 rfl) ?_
          refine lv_iconst (v := iI (-1)) hx hb dX6_markRow_91 (by decide) ?_
          refine lv_icmp_eq (tgt := 133) hx hb dX6_markRow_92 (by decide) (fun c_66 => ?_) (fun c_66 => ?_)
          · have zc_66 : (T 7 i j 1) = (-1) := jeq (a := (T 7 i j 1)) (b := (-1)) (by omega) (by omega) c_66
            have e_67 : ((mkQ T Q i j ro ix) 0 0) = (Q 0 0) := rfl
            have B := bd_to (ws' := ([(rw, .inr (6, [.int (iI ((mkQ T Q i j ro ix) 0 0)), .ref w1, .ref w2, .ref w3, .ref w4, .ref w5, .ref w6, .ref w7, .ref w8, .ref w9, .ref w10, .ref w11, .int (iI hn), .int (iI tn), .ref w14, .ref w15, .ref w16, .int (iI fn)])), (w4, .inl (k 0, 768, .inl (fun i9 : Nat => iI (v4 i9)))), (w5, .inl (k 0, 768, .inl (fun i9 : Nat => iI (v5 i9)))), (w9, .inl (k 0, 192, .inl (fun i9 : Nat => iI (v9 i9)))), (w10, .inl (k 0, 6, .inl (fun i9 : Nat => iI ((uz v10 (T 7 i j 2) ro) i9)))), (w14, .inl (k 0, 5, .inl (fun i9 : Nat => iI (v14 i9)))), (w15, .inl (k 0, 5, .inl (fun i9 : Nat => iI (v15 i9))))] ++ tl)) (by first | rfl | (rw [e_67])) B
            exact k_vret B hr (⟨(mkQ T Q i j ro ix), v4, v5, (uz v10 (T 7 i j 2) ro), v14, v15, rfl, ⟨(mk45n hQw (by omega)), hQw.2.1, (mk10y hQw (by omega) (by omega)), (mk14n hQw (by omega)).1, (mk14n hQw (by omega)).2⟩, (fun x a9 b9 => by first | exact Int.le_add_of_nonneg_right (by omega) | (by_cases e9 : x = ro; (rw [e9, uz_s]; omega); (rw [uz_n e9]; omega))), hv4, hv5, b_62, hv14, hv15, rfl, rfl, rfl, rfl⟩) ⟨Nat.le_of_ble_eq_true rfl, Nat.le_of_ble_eq_true rfl⟩ ⟨Nat.le_of_ble_eq_true rfl, Nat.le_of_ble_eq_true rfl⟩ dX6_markRow_133
          · have zc_66 : (T 7 i j 1) ≠ (-1) := jne (a := (T 7 i j 1)) (b := (-1)) (by omega) (by omega) c_66
            refine lv_aload_n hx hb dX6_markRow_95 rfl (lv_at hl 2 rfl) ?_
            refine x_get (ci := 6) (C := RX6) (T := TX6) (N := 18) (v := .ref w14) B 0 rfl rfl in_X6 14 (by decide) mw_254 (fun _ h9 => h9) rfl dX6_markRow_96 ?_
            refine lv_iload hx hb dX6_markRow_99 (lv_at hl 0 rfl) ?_
            refine x_iald' (f := v14) (z := (T 7 i j 1)) B 5 rfl (by omega) dX6_markRow_101 ?_
            have z_68 : (-1) ≤ (v14 (T 7 i j 1)) ∧ (v14 (T 7 i j 1)) ≤ 767 := hv14 (T 7 i j 1)
            refine lv_iconst (v := iI (-1)) hx hb dX6_markRow_102 (by decide) ?_
            refine lv_icmp_eq (tgt := 117) hx hb dX6_markRow_103 (by decide) (fun c_69 => ?_) (fun c_69 => ?_)
            · have zc_69 : (v14 (T 7 i j 1)) = (-1) := jeq (a := (v14 (T 7 i j 1))) (b := (-1)) (by omega) (by omega) c_69
              refine lv_aload_n hx hb dX6_markRow_117 rfl (lv_at hl 2 rfl) ?_
              refine x_get (ci := 6) (C := RX6) (T := TX6) (N := 18) (v := .ref w14) B 0 rfl rfl in_X6 14 (by decide) mw_254 (fun _ h9 => h9) rfl dX6_markRow_118 ?_
              refine lv_iload hx hb dX6_markRow_121 (lv_at hl 0 rfl) ?_
              refine lv_iload_n hx hb dX6_markRow_123 rfl (lv_at hl 3 rfl) ?_
              refine x_iast' (f := v14) (z := (T 7 i j 1)) (v := ro) B 5 rfl (by omega) dX6_markRow_124 (fun H locs B => ?_)
              have b_70 : Bd (-1) 767 (uz v14 (T 7 i j 1) ro) := Bd_uz hv14 (by omega)
              have B := bd_to (ws' := ([(rw, .inr (6, [.int (iI (Q 0 0)), .ref w1, .ref w2, .ref w3, .ref w4, .ref w5, .ref w6, .ref w7, .ref w8, .ref w9, .ref w10, .ref w11, .int (iI hn), .int (iI tn), .ref w14, .ref w15, .ref w16, .int (iI fn)])), (w4, .inl (k 0, 768, .inl (fun i9 : Nat => iI (v4 i9)))), (w5, .inl (k 0, 768, .inl (fun i9 : Nat => iI (v5 i9)))), (w9, .inl (k 0, 192, .inl (fun i9 : Nat => iI (v9 i9)))), (w10, .inl (k 0, 6, .inl (fun i9 : Nat => iI ((uz v10 (T 7 i j 2) ro) i9)))), (w14, .inl (k 0, 5, .inl (fun i9 : Nat => iI ((uz v14 (T 7 i j 1) ro) i9)))), (w15, .inl (k 0, 5, .inl (fun i9 : Nat => iI (v15 i9))))] ++ tl)) rfl B
              refine lv_aload_n hx hb dX6_markRow_125 rfl (lv_at hl 2 rfl) ?_
              refine x_get (ci := 6) (C := RX6) (T := TX6) (N := 18) (v := .ref w15) B 0 rfl rfl in_X6 15 (by decide) mw_256 (fun _ h9 => h9) rfl dX6_markRow_126 ?_
              refine lv_iload hx hb dX6_markRow_129 (lv_at hl 0 rfl) ?_
              refine lv_iload_n hx hb dX6_markRow_131 rfl (lv_at hl 4 rfl) ?_
              refine x_iast' (f := v15) (z := (T 7 i j 1)) (v := ix) B 6 rfl (by omega) dX6_markRow_132 (fun H locs B => ?_)
              have b_71 : Bd 0 191 (uz v15 (T 7 i j 1) ix) := Bd_uz hv15 (by omega)
              have B := bd_to (ws' := ([(rw, .inr (6, [.int (iI (Q 0 0)), .ref w1, .ref w2, .ref w3, .ref w4, .ref w5, .ref w6, .ref w7, .ref w8, .ref w9, .ref w10, .ref w11, .int (iI hn), .int (iI tn), .ref w14, .ref w15, .ref w16, .int (iI fn)])), (w4, .inl (k 0, 768, .inl (fun i9 : Nat => iI (v4 i9)))), (w5, .inl (k 0, 768, .inl (fun i9 : Nat => iI (v5 i9)))), (w9, .inl (k 0, 192, .inl (fun i9 : Nat => iI (v9 i9)))), (w10, .inl (k 0, 6, .inl (fun i9 : Nat => iI ((uz v10 (T 7 i j 2) ro) i9)))), (w14, .inl (k 0, 5, .inl (fun i9 : Nat => iI ((uz v14 (T 7 i j 1) ro) i9)))), (w15, .inl (k 0, 5, .inl (fun i9 : Nat => iI ((uz v15 (T 7 i j 1) ix) i9))))] ++ tl)) rfl B
              have e_72 : ((mkQ T Q i j ro ix) 0 0) = (Q 0 0) := rfl
              have B := bd_to (ws' := ([(rw, .inr (6, [.int (iI ((mkQ T Q i j ro ix) 0 0)), .ref w1, .ref w2, .ref w3, .ref w4, .ref w5, .ref w6, .ref w7, .ref w8, .ref w9, .ref w10, .ref w11, .int (iI hn), .int (iI tn), .ref w14, .ref w15, .ref w16, .int (iI fn)])), (w4, .inl (k 0, 768, .inl (fun i9 : Nat => iI (v4 i9)))), (w5, .inl (k 0, 768, .inl (fun i9 : Nat => iI (v5 i9)))), (w9, .inl (k 0, 192, .inl (fun i9 : Nat => iI (v9 i9)))), (w10, .inl (k 0, 6, .inl (fun i9 : Nat => iI ((uz v10 (T 7 i j 2) ro) i9)))), (w14, .inl (k 0, 5, .inl (fun i9 : Nat => iI ((uz v14 (T 7 i j 1) ro) i9)))), (w15, .inl (k 0, 5, .inl (fun i9 : Nat => iI ((uz v15 (T 7 i j 1) ix) i9))))] ++ tl)) (by first | rfl | (rw [e_72])) B
              exact k_vret B hr (⟨(mkQ T Q i j ro ix), v4, v5, (uz v10 (T 7 i j 2) ro), (uz v14 (T 7 i j 1) ro), (uz v15 (T 7 i j 1) ix), rfl, ⟨(mk45n hQw (by omega)), hQw.2.1, (mk10y hQw (by omega) (by omega)), (mk14y hQw (by omega) (by omega) (by omega)).1, (mk14y hQw (by omega) (by omega) (by omega)).2⟩, (fun x a9 b9 => by first | exact Int.le_add_of_nonneg_right (by omega) | (by_cases e9 : x = ro; (rw [e9, uz_s]; omega); (rw [uz_n e9]; omega))), hv4, hv5, b_62, b_70, b_71, rfl, rfl, rfl, rfl⟩) ⟨Nat.le_of_ble_eq_true rfl, Nat.le_of_ble_eq_true rfl⟩ ⟨Nat.le_of_ble_eq_true rfl, Nat.le_of_ble_eq_true rfl⟩ dX6_markRow_133
            · have zc_69 : (v14 (T 7 i j 1)) ≠ (-1) := jne (a := (v14 (T 7 i j 1))) (b := (-1)) (by omega) (by omega) c_69
              refine lv_iload_n hx hb dX6_markRow_106 rfl (lv_at hl 3 rfl) ?_
              refine lv_aload_n hx hb dX6_markRow_107 rfl (lv_at hl 2 rfl) ?_
              refine x_get (ci := 6) (C := RX6) (T := TX6) (N := 18) (v := .ref w14) B 0 rfl rfl in_X6 14 (by decide) mw_254 (fun _ h9 => h9) rfl dX6_markRow_108 ?_
              refine lv_iload hx hb dX6_markRow_111 (lv_at hl 0 rfl) ?_
              refine x_iald' (f := v14) (z := (T 7 i j 1)) B 5 rfl (by omega) dX6_markRow_113 ?_
              have z_73 : (-1) ≤ (v14 (T 7 i j 1)) ∧ (v14 (T 7 i j 1)) ≤ 767 := hv14 (T 7 i j 1)
              refine lv_icmp_ge (tgt := 133) hx hb dX6_markRow_114 (by decide) (fun c_74 => ?_) (fun c_74 => ?_)
              · have zc_74 : (v14 (T 7 i j 1)) ≤ ro := jle (a := (v14 (T 7 i j 1))) (b := ro) (by omega) (by omega) c_74
                have e_75 : ((mkQ T Q i j ro ix) 0 0) = (Q 0 0) := rfl
                have B := bd_to (ws' := ([(rw, .inr (6, [.int (iI ((mkQ T Q i j ro ix) 0 0)), .ref w1, .ref w2, .ref w3, .ref w4, .ref w5, .ref w6, .ref w7, .ref w8, .ref w9, .ref w10, .ref w11, .int (iI hn), .int (iI tn), .ref w14, .ref w15, .ref w16, .int (iI fn)])), (w4, .inl (k 0, 768, .inl (fun i9 : Nat => iI (v4 i9)))), (w5, .inl (k 0, 768, .inl (fun i9 : Nat => iI (v5 i9)))), (w9, .inl (k 0, 192, .inl (fun i9 : Nat => iI (v9 i9)))), (w10, .inl (k 0, 6, .inl (fun i9 : Nat => iI ((uz v10 (T 7 i j 2) ro) i9)))), (w14, .inl (k 0, 5, .inl (fun i9 : Nat => iI (v14 i9)))), (w15, .inl (k 0, 5, .inl (fun i9 : Nat => iI (v15 i9))))] ++ tl)) (by first | rfl | (rw [e_75])) B
                exact k_vret B hr (⟨(mkQ T Q i j ro ix), v4, v5, (uz v10 (T 7 i j 2) ro), v14, v15, rfl, ⟨(mk45n hQw (by omega)), hQw.2.1, (mk10y hQw (by omega) (by omega)), (mk14n hQw (by omega)).1, (mk14n hQw (by omega)).2⟩, (fun x a9 b9 => by first | exact Int.le_add_of_nonneg_right (by omega) | (by_cases e9 : x = ro; (rw [e9, uz_s]; omega); (rw [uz_n e9]; omega))), hv4, hv5, b_62, hv14, hv15, rfl, rfl, rfl, rfl⟩) ⟨Nat.le_of_ble_eq_true rfl, Nat.le_of_ble_eq_true rfl⟩ ⟨Nat.le_of_ble_eq_true rfl, Nat.le_of_ble_eq_true rfl⟩ dX6_markRow_133
              · have zc_74 : ro < (v14 (T 7 i j 1)) := jnle (a := (v14 (T 7 i j 1))) (b := ro) (by omega) (by omega) c_74
                refine lv_aload_n hx hb dX6_markRow_117 rfl (lv_at hl 2 rfl) ?_
                refine x_get (ci := 6) (C := RX6) (T := TX6) (N := 18) (v := .ref w14) B 0 rfl rfl in_X6 14 (by decide) mw_254 (fun _ h9 => h9) rfl dX6_markRow_118 ?_
                refine lv_iload hx hb dX6_markRow_121 (lv_at hl 0 rfl) ?_
                refine lv_iload_n hx hb dX6_markRow_123 rfl (lv_at hl 3 rfl) ?_
                refine x_iast' (f := v14) (z := (T 7 i j 1)) (v := ro) B 5 rfl (by omega) dX6_markRow_124 (fun H locs B => ?_)
                have b_76 : Bd (-1) 767 (uz v14 (T 7 i j 1) ro) := Bd_uz hv14 (by omega)
                have B := bd_to (ws' := ([(rw, .inr (6, [.int (iI (Q 0 0)), .ref w1, .ref w2, .ref w3, .ref w4, .ref w5, .ref w6, .ref w7, .ref w8, .ref w9, .ref w10, .ref w11, .int (iI hn), .int (iI tn), .ref w14, .ref w15, .ref w16, .int (iI fn)])), (w4, .inl (k 0, 768, .inl (fun i9 : Nat => iI (v4 i9)))), (w5, .inl (k 0, 768, .inl (fun i9 : Nat => iI (v5 i9)))), (w9, .inl (k 0, 192, .inl (fun i9 : Nat => iI (v9 i9)))), (w10, .inl (k 0, 6, .inl (fun i9 : Nat => iI ((uz v10 (T 7 i j 2) ro) i9)))), (w14, .inl (k 0, 5, .inl (fun i9 : Nat => iI ((uz v14 (T 7 i j 1) ro) i9)))), (w15, .inl (k 0, 5, .inl (fun i9 : Nat => iI (v15 i9))))] ++ tl)) rfl B
                refine lv_aload_n hx hb dX6_markRow_125 rfl (lv_at hl 2 rfl) ?_
                refine x_get (ci := 6) (C := RX6) (T := TX6) (N := 18) (v := .ref w15) B 0 rfl rfl in_X6 15 (by decide) mw_256 (fun _ h9 => h9) rfl dX6_markRow_126 ?_
                refine lv_iload hx hb dX6_markRow_129 (lv_at hl 0 rfl) ?_
                refine lv_iload_n hx hb dX6_markRow_131 rfl (lv_at hl 4 rfl) ?_
                refine x_iast' (f := v15) (z := (T 7 i j 1)) (v := ix) B 6 rfl (by omega) dX6_markRow_132 (fun H locs B => ?_)
                have b_77 : Bd 0 191 (uz v15 (T 7 i j 1) ix) := Bd_uz hv15 (by omega)
                have B := bd_to (ws' := ([(rw, .inr (6, [.int (iI (Q 0 0)), .ref w1, .ref w2, .ref w3, .ref w4, .ref w5, .ref w6, .ref w7, .ref w8, .ref w9, .ref w10, .ref w11, .int (iI hn), .int (iI tn), .ref w14, .ref w15, .ref w16, .int (iI fn)])), (w4, .inl (k 0, 768, .inl (fun i9 : Nat => iI (v4 i9)))), (w5, .inl (k 0, 768, .inl (fun i9 : Nat => iI (v5 i9)))), (w9, .inl (k 0, 192, .inl (fun i9 : Nat => iI (v9 i9)))), (w10, .inl (k 0, 6, .inl (fun i9 : Nat => iI ((uz v10 (T 7 i j 2) ro) i9)))), (w14, .inl (k 0, 5, .inl (fun i9 : Nat => iI ((uz v14 (T 7 i j 1) ro) i9)))), (w15, .inl (k 0, 5, .inl (fun i9 : Nat => iI ((uz v15 (T 7 i j 1) ix) i9))))] ++ tl)) rfl B
                have e_78 : ((mkQ T Q i j ro ix) 0 0) = (Q 0 0) := rfl
                have B := bd_to (ws' := ([(rw, .inr (6, [.int (iI ((mkQ T Q i j ro ix) 0 0)), .ref w1, .ref w2, .ref w3, .ref w4, .ref w5, .ref w6, .ref w7, .ref w8, .ref w9, .ref w10, .ref w11, .int (iI hn), .int (iI tn), .ref w14, .ref w15, .ref w16, .int (iI fn)])), (w4, .inl (k 0, 768, .inl (fun i9 : Nat => iI (v4 i9)))), (w5, .inl (k 0, 768, .inl (fun i9 : Nat => iI (v5 i9)))), (w9, .inl (k 0, 192, .inl (fun i9 : Nat => iI (v9 i9)))), (w10, .inl (k 0, 6, .inl (fun i9 : Nat => iI ((uz v10 (T 7 i j 2) ro) i9)))), (w14, .inl (k 0, 5, .inl (fun i9 : Nat => iI ((uz v14 (T 7 i j 1) ro) i9)))), (w15, .inl (k 0, 5, .inl (fun i9 : Nat => iI ((uz v15 (T 7 i j 1) ix) i9))))] ++ tl)) (by first | rfl | (rw [e_78])) B
                exact k_vret B hr (⟨(mkQ T Q i j ro ix), v4, v5, (uz v10 (T 7 i j 2) ro), (uz v14 (T 7 i j 1) ro), (uz v15 (T 7 i j 1) ix), rfl, ⟨(mk45n hQw (by omega)), hQw.2.1, (mk10y hQw (by omega) (by omega)), (mk14y hQw (by omega) (by omega) (by omega)).1, (mk14y hQw (by omega) (by omega) (by omega)).2⟩, (fun x a9 b9 => by first | exact Int.le_add_of_nonneg_right (by omega) | (by_cases e9 : x = ro; (rw [e9, uz_s]; omega); (rw [uz_n e9]; omega))), hv4, hv5, b_62, b_76, b_77, rfl, rfl, rfl, rfl⟩) ⟨Nat.le_of_ble_eq_true rfl, Nat.le_of_ble_eq_true rfl⟩ ⟨Nat.le_of_ble_eq_true rfl, Nat.le_of_ble_eq_true rfl⟩ dX6_markRow_133
  · have zc_4 : (T 7 i j 0) ≠ (-1) := jne (a := (T 7 i j 0)) (b := (-1)) (by omega) (by omega) c_4
    refine lv_aload_n hx hb dX6_markRow_10 rfl (lv_at hl 0 rfl) ?_
    refine x_get (ci := 6) (C := RX6) (T := TX6) (N := 18) (v := .ref w4) B 0 rfl rfl in_X6 4 (by decide) mw_234 (fun _ h9 => h9) rfl dX6_markRow_11 ?_
    refine lv_iload_n hx hb dX6_markRow_14 rfl (lv_at hl 1 rfl) ?_
    refine lv_dup2_11 hx hb dX6_markRow_15 rfl rfl ?_
    refine x_iald' (f := v4) (z := ro) B 1 rfl (by omega) dX6_markRow_16 ?_
    have z_79 : 0 ≤ (v4 ro) ∧ (v4 ro) ≤ 1000 := hv4 ro
    refine lv_aload_n hx hb dX6_markRow_17 rfl (lv_at hl 3 rfl) ?_
    obtain ⟨k_80, hk_80⟩ := pk_at (hs := [(rw, .inr (6, [.int (iI (Q 0 0)), .ref w1, .ref w2, .ref w3, .ref w4, .ref w5, .ref w6, .ref w7, .ref w8, .ref w9, .ref w10, .ref w11, .int (iI hn), .int (iI tn), .ref w14, .ref w15, .ref w16, .int (iI fn)])), (w4, .inl (k 0, 768, .inl (fun i9 : Nat => iI (v4 i9)))), (w5, .inl (k 0, 768, .inl (fun i9 : Nat => iI (v5 i9)))), (w9, .inl (k 0, 192, .inl (fun i9 : Nat => iI (v9 i9)))), (w10, .inl (k 0, 6, .inl (fun i9 : Nat => iI (v10 i9)))), (w14, .inl (k 0, 5, .inl (fun i9 : Nat => iI (v14 i9)))), (w15, .inl (k 0, 5, .inl (fun i9 : Nat => iI (v15 i9))))]) (hT.2.2.2.2.1 i j (by omega) (by omega) (by omega) (by omega)).1
    refine x_get (ci := 10) (C := RX10) (T := TX10) (N := 4) (v := .ref (A 6 i j)) B k_80 hk_80 rfl in_X10 2 (by decide) mw_827 (fun _ h9 => h9) rfl dX6_markRow_18 ?_
    refine lv_iconst (v := iI 0) hx hb dX6_markRow_21 (by decide) ?_
    obtain ⟨k_81, hk_81⟩ := pk_at (hs := [(rw, .inr (6, [.int (iI (Q 0 0)), .ref w1, .ref w2, .ref w3, .ref w4, .ref w5, .ref w6, .ref w7, .ref w8, .ref w9, .ref w10, .ref w11, .int (iI hn), .int (iI tn), .ref w14, .ref w15, .ref w16, .int (iI fn)])), (w4, .inl (k 0, 768, .inl (fun i9 : Nat => iI (v4 i9)))), (w5, .inl (k 0, 768, .inl (fun i9 : Nat => iI (v5 i9)))), (w9, .inl (k 0, 192, .inl (fun i9 : Nat => iI (v9 i9)))), (w10, .inl (k 0, 6, .inl (fun i9 : Nat => iI (v10 i9)))), (w14, .inl (k 0, 5, .inl (fun i9 : Nat => iI (v14 i9)))), (w15, .inl (k 0, 5, .inl (fun i9 : Nat => iI (v15 i9))))]) (hT.2.2.2.2.1 i j (by omega) (by omega) (by omega) (by omega)).2.2
    refine x_iald' (f := (fun j9 : Int => T 7 i j j9)) (z := 0) B k_81 hk_81 (by omega) dX6_markRow_22 ?_
    have z_82 : (-1) ≤ (T 7 i j 0) ∧ (T 7 i j 0) ≤ 7 := (fun q => TK_mrk hK i j q) 0
    refine y_add hx hb dX6_markRow_23 ?_
    refine x_iast' (f := v4) (z := ro) (v := ((v4 ro) + (T 7 i j 0))) B 1 rfl (by omega) dX6_markRow_24 (fun H locs B => ?_)
    have b_83 : Bd 0 1000 (uz v4 ro ((v4 ro) + (T 7 i j 0))) := Bd_uz hv4 (by omega)
    have B := bd_to (ws' := ([(rw, .inr (6, [.int (iI (Q 0 0)), .ref w1, .ref w2, .ref w3, .ref w4, .ref w5, .ref w6, .ref w7, .ref w8, .ref w9, .ref w10, .ref w11, .int (iI hn), .int (iI tn), .ref w14, .ref w15, .ref w16, .int (iI fn)])), (w4, .inl (k 0, 768, .inl (fun i9 : Nat => iI ((uz v4 ro ((v4 ro) + (T 7 i j 0))) i9)))), (w5, .inl (k 0, 768, .inl (fun i9 : Nat => iI (v5 i9)))), (w9, .inl (k 0, 192, .inl (fun i9 : Nat => iI (v9 i9)))), (w10, .inl (k 0, 6, .inl (fun i9 : Nat => iI (v10 i9)))), (w14, .inl (k 0, 5, .inl (fun i9 : Nat => iI (v14 i9)))), (w15, .inl (k 0, 5, .inl (fun i9 : Nat => iI (v15 i9))))] ++ tl)) rfl B
    refine lv_aload_n hx hb dX6_markRow_25 rfl (lv_at hl 0 rfl) ?_
    refine x_get (ci := 6) (C := RX6) (T := TX6) (N := 18) (v := .ref w5) B 0 rfl rfl in_X6 5 (by decide) mw_236 (fun _ h9 => h9) rfl dX6_markRow_26 ?_
    refine lv_iload_n hx hb dX6_markRow_29 rfl (lv_at hl 1 rfl) ?_
    refine lv_aload_n hx hb dX6_markRow_30 rfl (lv_at hl 3 rfl) ?_
    obtain ⟨k_84, hk_84⟩ := pk_at (hs := [(rw, .inr (6, [.int (iI (Q 0 0)), .ref w1, .ref w2, .ref w3, .ref w4, .ref w5, .ref w6, .ref w7, .ref w8, .ref w9, .ref w10, .ref w11, .int (iI hn), .int (iI tn), .ref w14, .ref w15, .ref w16, .int (iI fn)])), (w4, .inl (k 0, 768, .inl (fun i9 : Nat => iI ((uz v4 ro ((v4 ro) + (T 7 i j 0))) i9)))), (w5, .inl (k 0, 768, .inl (fun i9 : Nat => iI (v5 i9)))), (w9, .inl (k 0, 192, .inl (fun i9 : Nat => iI (v9 i9)))), (w10, .inl (k 0, 6, .inl (fun i9 : Nat => iI (v10 i9)))), (w14, .inl (k 0, 5, .inl (fun i9 : Nat => iI (v14 i9)))), (w15, .inl (k 0, 5, .inl (fun i9 : Nat => iI (v15 i9))))]) (hT.2.2.2.2.1 i j (by omega) (by omega) (by omega) (by omega)).1
    refine x_get (ci := 10) (C := RX10) (T := TX10) (N := 4) (v := .ref (A 6 i j)) B k_84 hk_84 rfl in_X10 2 (by decide) mw_827 (fun _ h9 => h9) rfl dX6_markRow_31 ?_
    refine lv_iconst (v := iI 0) hx hb dX6_markRow_34 (by decide) ?_
    obtain ⟨k_85, hk_85⟩ := pk_at (hs := [(rw, .inr (6, [.int (iI (Q 0 0)), .ref w1, .ref w2, .ref w3, .ref w4, .ref w5, .ref w6, .ref w7, .ref w8, .ref w9, .ref w10, .ref w11, .int (iI hn), .int (iI tn), .ref w14, .ref w15, .ref w16, .int (iI fn)])), (w4, .inl (k 0, 768, .inl (fun i9 : Nat => iI ((uz v4 ro ((v4 ro) + (T 7 i j 0))) i9)))), (w5, .inl (k 0, 768, .inl (fun i9 : Nat => iI (v5 i9)))), (w9, .inl (k 0, 192, .inl (fun i9 : Nat => iI (v9 i9)))), (w10, .inl (k 0, 6, .inl (fun i9 : Nat => iI (v10 i9)))), (w14, .inl (k 0, 5, .inl (fun i9 : Nat => iI (v14 i9)))), (w15, .inl (k 0, 5, .inl (fun i9 : Nat => iI (v15 i9))))]) (hT.2.2.2.2.1 i j (by omega) (by omega) (by omega) (by omega)).2.2
    refine x_iald' (f := (fun j9 : Int => T 7 i j j9)) (z := 0) B k_85 hk_85 (by omega) dX6_markRow_35 ?_
    have z_86 : (-1) ≤ (T 7 i j 0) ∧ (T 7 i j 0) ≤ 7 := (fun q => TK_mrk hK i j q) 0
    refine x_iast' (f := v5) (z := ro) (v := (T 7 i j 0)) B 2 rfl (by omega) dX6_markRow_36 (fun H locs B => ?_)
    have b_87 : Bd 0 5 (uz v5 ro (T 7 i j 0)) := Bd_uz hv5 (by omega)
    have B := bd_to (ws' := ([(rw, .inr (6, [.int (iI (Q 0 0)), .ref w1, .ref w2, .ref w3, .ref w4, .ref w5, .ref w6, .ref w7, .ref w8, .ref w9, .ref w10, .ref w11, .int (iI hn), .int (iI tn), .ref w14, .ref w15, .ref w16, .int (iI fn)])), (w4, .inl (k 0, 768, .inl (fun i9 : Nat => iI ((uz v4 ro ((v4 ro) + (T 7 i j 0))) i9)))), (w5, .inl (k 0, 768, .inl (fun i9 : Nat => iI ((uz v5 ro (T 7 i j 0)) i9)))), (w9, .inl (k 0, 192, .inl (fun i9 : Nat => iI (v9 i9)))), (w10, .inl (k 0, 6, .inl (fun i9 : Nat => iI (v10 i9)))), (w14, .inl (k 0, 5, .inl (fun i9 : Nat => iI (v14 i9)))), (w15, .inl (k 0, 5, .inl (fun i9 : Nat => iI (v15 i9))))] ++ tl)) rfl B
    refine lv_aload_n hx hb dX6_markRow_37 rfl (lv_at hl 3 rfl) ?_
    obtain ⟨k_88, hk_88⟩ := pk_at (hs := [(rw, .inr (6, [.int (iI (Q 0 0)), .ref w1, .ref w2, .ref w3, .ref w4, .ref w5, .ref w6, .ref w7, .ref w8, .ref w9, .ref w10, .ref w11, .int (iI hn), .int (iI tn), .ref w14, .ref w15, .ref w16, .int (iI fn)])), (w4, .inl (k 0, 768, .inl (fun i9 : Nat => iI ((uz v4 ro ((v4 ro) + (T 7 i j 0))) i9)))), (w5, .inl (k 0, 768, .inl (fun i9 : Nat => iI ((uz v5 ro (T 7 i j 0)) i9)))), (w9, .inl (k 0, 192, .inl (fun i9 : Nat => iI (v9 i9)))), (w10, .inl (k 0, 6, .inl (fun i9 : Nat => iI (v10 i9)))), (w14, .inl (k 0, 5, .inl (fun i9 : Nat => iI (v14 i9)))), (w15, .inl (k 0, 5, .inl (fun i9 : Nat => iI (v15 i9))))]) (hT.2.2.2.2.1 i j (by omega) (by omega) (by omega) (by omega)).1
    refine x_get (ci := 10) (C := RX10) (T := TX10) (N := 4) (v := .ref (A 6 i j)) B k_88 hk_88 rfl in_X10 2 (by decide) mw_827 (fun _ h9 => h9) rfl dX6_markRow_38 ?_
    refine lv_iconst (v := iI 2) hx hb dX6_markRow_41 (by decide) ?_
    obtain ⟨k_89, hk_89⟩ := pk_at (hs := [(rw, .inr (6, [.int (iI (Q 0 0)), .ref w1, .ref w2, .ref w3, .ref w4, .ref w5, .ref w6, .ref w7, .ref w8, .ref w9, .ref w10, .ref w11, .int (iI hn), .int (iI tn), .ref w14, .ref w15, .ref w16, .int (iI fn)])), (w4, .inl (k 0, 768, .inl (fun i9 : Nat => iI ((uz v4 ro ((v4 ro) + (T 7 i j 0))) i9)))), (w5, .inl (k 0, 768, .inl (fun i9 : Nat => iI ((uz v5 ro (T 7 i j 0)) i9)))), (w9, .inl (k 0, 192, .inl (fun i9 : Nat => iI (v9 i9)))), (w10, .inl (k 0, 6, .inl (fun i9 : Nat => iI (v10 i9)))), (w14, .inl (k 0, 5, .inl (fun i9 : Nat => iI (v14 i9)))), (w15, .inl (k 0, 5, .inl (fun i9 : Nat => iI (v15 i9))))]) (hT.2.2.2.2.1 i j (by omega) (by omega) (by omega) (by omega)).2.2
    refine x_iald' (f := (fun j9 : Int => T 7 i j j9)) (z := 2) B k_89 hk_89 (by omega) dX6_markRow_42 ?_
    have z_90 : (-1) ≤ (T 7 i j 2) ∧ (T 7 i j 2) ≤ 7 := (fun q => TK_mrk hK i j q) 2
    refine lv_istore (lv' := [(4, .int (iI (T 7 i j 2))), (0, .ref rw), (1, .int (iI ro)), (2, .int (iI ix)), (3, .ref (A 4 i j))]) hx hb dX6_markRow_43 hl (by decide) rfl (fun ls hl => ?_)
    refine lv_iload hx hb dX6_markRow_45 (lv_at hl 0 rfl) ?_
    refine lv_iconst (v := iI (-1)) hx hb dX6_markRow_47 (by decide) ?_
    refine lv_icmp_eq (tgt := 81) hx hb dX6_markRow_48 (by decide) (fun c_91 => ?_) (fun c_91 => ?_)
    · have zc_91 : (T 7 i j 2) = (-1) := jeq (a := (T 7 i j 2)) (b := (-1)) (by omega) (by omega) c_91
      refine lv_aload_n hx hb dX6_markRow_81 rfl (lv_at hl 4 rfl) ?_
      obtain ⟨k_92, hk_92⟩ := pk_at (hs := [(rw, .inr (6, [.int (iI (Q 0 0)), .ref w1, .ref w2, .ref w3, .ref w4, .ref w5, .ref w6, .ref w7, .ref w8, .ref w9, .ref w10, .ref w11, .int (iI hn), .int (iI tn), .ref w14, .ref w15, .ref w16, .int (iI fn)])), (w4, .inl (k 0, 768, .inl (fun i9 : Nat => iI ((uz v4 ro ((v4 ro) + (T 7 i j 0))) i9)))), (w5, .inl (k 0, 768, .inl (fun i9 : Nat => iI ((uz v5 ro (T 7 i j 0)) i9)))), (w9, .inl (k 0, 192, .inl (fun i9 : Nat => iI (v9 i9)))), (w10, .inl (k 0, 6, .inl (fun i9 : Nat => iI (v10 i9)))), (w14, .inl (k 0, 5, .inl (fun i9 : Nat => iI (v14 i9)))), (w15, .inl (k 0, 5, .inl (fun i9 : Nat => iI (v15 i9))))]) (hT.2.2.2.2.1 i j (by omega) (by omega) (by omega) (by omega)).1
      refine x_get (ci := 10) (C := RX10) (T := TX10) (N := 4) (v := .ref (A 6 i j)) B k_92 hk_92 rfl in_X10 2 (by decide) mw_827 (fun _ h9 => h9) rfl dX6_markRow_82 ?_
      refine lv_iconst (v := iI 1) hx hb dX6_markRow_85 (by decide) ?_
      obtain ⟨k_93, hk_93⟩ := pk_at (hs := [(rw, .inr (6, [.int (iI (Q 0 0)), .ref w1, .ref w2, .ref w3, .ref w4, .ref w5, .ref w6, .ref w7, .ref w8, .ref w9, .ref w10, .ref w11, .int (iI hn), .int (iI tn), .ref w14, .ref w15, .ref w16, .int (iI fn)])), (w4, .inl (k 0, 768, .inl (fun i9 : Nat => iI ((uz v4 ro ((v4 ro) + (T 7 i j 0))) i9)))), (w5, .inl (k 0, 768, .inl (fun i9 : Nat => iI ((uz v5 ro (T 7 i j 0)) i9)))), (w9, .inl (k 0, 192, .inl (fun i9 : Nat => iI (v9 i9)))), (w10, .inl (k 0, 6, .inl (fun i9 : Nat => iI (v10 i9)))), (w14, .inl (k 0, 5, .inl (fun i9 : Nat => iI (v14 i9)))), (w15, .inl (k 0, 5, .inl (fun i9 : Nat => iI (v15 i9))))]) (hT.2.2.2.2.1 i j (by omega) (by omega) (by omega) (by omega)).2.2
      refine x_iald' (f := (fun j9 : Int => T 7 i j j9)) (z := 1) B k_93 hk_93 (by omega) dX6_markRow_86 ?_
      have z_94 : (-1) ≤ (T 7 i j 1) ∧ (T 7 i j 1) ≤ 7 := (fun q => TK_mrk hK i j q) 1
      refine lv_istore (lv' := [(5, .int (iI (T 7 i j 1))), (4, .int (iI (T 7 i j 2))), (0, .ref rw), (1, .int (iI ro)), (2, .int (iI ix)), (3, .ref (A 4 i j))]) hx hb dX6_markRow_87 hl (by decide) rfl (fun ls hl => ?_)
      refine lv_iload hx hb dX6_markRow_89 (lv_at hl 0 rfl) ?_
      refine lv_iconst (v := iI (-1)) hx hb dX6_markRow_91 (by decide) ?_
      refine lv_icmp_eq (tgt := 133) hx hb dX6_markRow_92 (by decide) (fun c_95 => ?_) (fun c_95 => ?_)
      · have zc_95 : (T 7 i j 1) = (-1) := jeq (a := (T 7 i j 1)) (b := (-1)) (by omega) (by omega) c_95
        have e_96 : ((mkQ T Q i j ro ix) 0 0) = (Q 0 0) := rfl
        have B := bd_to (ws' := ([(rw, .inr (6, [.int (iI ((mkQ T Q i j ro ix) 0 0)), .ref w1, .ref w2, .ref w3, .ref w4, .ref w5, .ref w6, .ref w7, .ref w8, .ref w9, .ref w10, .ref w11, .int (iI hn), .int (iI tn), .ref w14, .ref w15, .ref w16, .int (iI fn)])), (w4, .inl (k 0, 768, .inl (fun i9 : Nat => iI ((uz v4 ro ((v4 ro) + (T 7 i j 0))) i9)))), (w5, .inl (k 0, 768, .inl (fun i9 : Nat => iI ((uz v5 ro (T 7 i j 0)) i9)))), (w9, .inl (k 0, 192, .inl (fun i9 : Nat => iI (v9 i9)))), (w10, .inl (k 0, 6, .inl (fun i9 : Nat => iI (v10 i9)))), (w14, .inl (k 0, 5, .inl (fun i9 : Nat => iI (v14 i9)))), (w15, .inl (k 0, 5, .inl (fun i9 : Nat => iI (v15 i9))))] ++ tl)) (by first | rfl | (rw [e_96])) B
        exact k_vret B hr (⟨(mkQ T Q i j ro ix), (uz v4 ro ((v4 ro) + (T 7 i j 0))), (uz v5 ro (T 7 i j 0)), v10, v14, v15, rfl, ⟨(mk45y hQw (by omega) (by omega)), hQw.2.1, (mk10n hQw (by omega)), (mk14n hQw (by omega)).1, (mk14n hQw (by omega)).2⟩, (fun x a9 b9 => by first | exact Int.le_add_of_nonneg_right (by omega) | (by_cases e9 : x = ro; (rw [e9, uz_s]; omega); (rw [uz_n e9]; omega))), b_83, b_87, hv10, hv14, hv15, rfl, rfl, rfl, rfl⟩) ⟨Nat.le_of_ble_eq_true rfl, Nat.le_of_ble_eq_true rfl⟩ ⟨Nat.le_of_ble_eq_true rfl, Nat.le_of_ble_eq_true rfl⟩ dX6_markRow_133
      · have zc_95 : (T 7 i j 1) ≠ (-1) := jne (a := (T 7 i j 1)) (b := (-1)) (by omega) (by omega) c_95
        refine lv_aload_n hx hb dX6_markRow_95 rfl (lv_at hl 2 rfl) ?_
        refine x_get (ci := 6) (C := RX6) (T := TX6) (N := 18) (v := .ref w14) B 0 rfl rfl in_X6 14 (by decide) mw_254 (fun _ h9 => h9) rfl dX6_markRow_96 ?_
        refine lv_iload hx hb dX6_markRow_99 (lv_at hl 0 rfl) ?_
        refine x_iald' (f := v14) (z := (T 7 i j 1)) B 5 rfl (by omega) dX6_markRow_101 ?_
        have z_97 : (-1) ≤ (v14 (T 7 i j 1)) ∧ (v14 (T 7 i j 1)) ≤ 767 := hv14 (T 7 i j 1)
        refine lv_iconst (v := iI (-1)) hx hb dX6_markRow_102 (by decide) ?_
        refine lv_icmp_eq (tgt := 117) hx hb dX6_markRow_103 (by decide) (fun c_98 => ?_) (fun c_98 => ?_)
        · have zc_98 : (v14 (T 7 i j 1)) = (-1) := jeq (a := (v14 (T 7 i j 1))) (b := (-1)) (by omega) (by omega) c_98
          refine lv_aload_n hx hb dX6_markRow_117 rfl (lv_at hl 2 rfl) ?_
          refine x_get (ci := 6) (C := RX6) (T := TX6) (N := 18) (v := .ref w14) B 0 rfl rfl in_X6 14 (by decide) mw_254 (fun _ h9 => h9) rfl dX6_markRow_118 ?_
          refine lv_iload hx hb dX6_markRow_121 (lv_at hl 0 rfl) ?_
          refine lv_iload_n hx hb dX6_markRow_123 rfl (lv_at hl 3 rfl) ?_
          refine x_iast' (f := v14) (z := (T 7 i j 1)) (v := ro) B 5 rfl (by omega) dX6_markRow_124 (fun H locs B => ?_)
          have b_99 : Bd (-1) 767 (uz v14 (T 7 i j 1) ro) := Bd_uz hv14 (by omega)
          have B := bd_to (ws' := ([(rw, .inr (6, [.int (iI (Q 0 0)), .ref w1, .ref w2, .ref w3, .ref w4, .ref w5, .ref w6, .ref w7, .ref w8, .ref w9, .ref w10, .ref w11, .int (iI hn), .int (iI tn), .ref w14, .ref w15, .ref w16, .int (iI fn)])), (w4, .inl (k 0, 768, .inl (fun i9 : Nat => iI ((uz v4 ro ((v4 ro) + (T 7 i j 0))) i9)))), (w5, .inl (k 0, 768, .inl (fun i9 : Nat => iI ((uz v5 ro (T 7 i j 0)) i9)))), (w9, .inl (k 0, 192, .inl (fun i9 : Nat => iI (v9 i9)))), (w10, .inl (k 0, 6, .inl (fun i9 : Nat => iI (v10 i9)))), (w14, .inl (k 0, 5, .inl (fun i9 : Nat => iI ((uz v14 (T 7 i j 1) ro) i9)))), (w15, .inl (k 0, 5, .inl (fun i9 : Nat => iI (v15 i9))))] ++ tl)) rfl B
          refine lv_aload_n hx hb dX6_markRow_125 rfl (lv_at hl 2 rfl) ?_
          refine x_get (ci := 6) (C := RX6) (T := TX6) (N := 18) (v := .ref w15) B 0 rfl rfl in_X6 15 (by decide) mw_256 (fun _ h9 => h9) rfl dX6_markRow_126 ?_
          refine lv_iload hx hb dX6_markRow_129 (lv_at hl 0 rfl) ?_
          refine lv_iload_n hx hb dX6_markRow_131 rfl (lv_at hl 4 rfl) ?_
          refine x_iast' (f := v15) (z := (T 7 i j 1)) (v := ix) B 6 rfl (by omega) dX6_markRow_132 (fun H locs B => ?_)
          have b_100 : Bd 0 191 (uz v15 (T 7 i j 1) ix) := Bd_uz hv15 (by omega)
          have B := bd_to (ws' := ([(rw, .inr (6, [.int (iI (Q 0 0)), .ref w1, .ref w2, .ref w3, .ref w4, .ref w5, .ref w6, .ref w7, .ref w8, .ref w9, .ref w10, .ref w11, .int (iI hn), .int (iI tn), .ref w14, .ref w15, .ref w16, .int (iI fn)])), (w4, .inl (k 0, 768, .inl (fun i9 : Nat => iI ((uz v4 ro ((v4 ro) + (T 7 i j 0))) i9)))), (w5, .inl (k 0, 768, .inl (fun i9 : Nat => iI ((uz v5 ro (T 7 i j 0)) i9)))), (w9, .inl (k 0, 192, .inl (fun i9 : Nat => iI (v9 i9)))), (w10, .inl (k 0, 6, .inl (fun i9 : Nat => iI (v10 i9)))), (w14, .inl (k 0, 5, .inl (fun i9 : Nat => iI ((uz v14 (T 7 i j 1) ro) i9)))), (w15, .inl (k 0, 5, .inl (fun i9 : Nat => iI ((uz v15 (T 7 i j 1) ix) i9))))] ++ tl)) rfl B
          have e_101 : ((mkQ T Q i j ro ix) 0 0) = (Q 0 0) := rfl
          have B := bd_to (ws' := ([(rw, .inr (6, [.int (iI ((mkQ T Q i j ro ix) 0 0)), .ref w1, .ref w2, .ref w3, .ref w4, .ref w5, .ref w6, .ref w7, .ref w8, .ref w9, .ref w10, .ref w11, .int (iI hn), .int (iI tn), .ref w14, .ref w15, .ref w16, .int (iI fn)])), (w4, .inl (k 0, 768, .inl (fun i9 : Nat => iI ((uz v4 ro ((v4 ro) + (T 7 i j 0))) i9)))), (w5, .inl (k 0, 768, .inl (fun i9 : Nat => iI ((uz v5 ro (T 7 i j 0)) i9)))), (w9, .inl (k 0, 192, .inl (fun i9 : Nat => iI (v9 i9)))), (w10, .inl (k 0, 6, .inl (fun i9 : Nat => iI (v10 i9)))), (w14, .inl (k 0, 5, .inl (fun i9 : Nat => iI ((uz v14 (T 7 i j 1) ro) i9)))), (w15, .inl (k 0, 5, .inl (fun i9 : Nat => iI ((uz v15 (T 7 i j 1) ix) i9))))] ++ tl)) (by first | rfl | (rw [e_101])) B
          exact k_vret B hr (⟨(mkQ T Q i j ro ix), (uz v4 ro ((v4 ro) + (T 7 i j 0))), (uz v5 ro (T 7 i j 0)), v10, (uz v14 (T 7 i j 1) ro), (uz v15 (T 7 i j 1) ix), rfl, ⟨(mk45y hQw (by omega) (by omega)), hQw.2.1, (mk10n hQw (by omega)), (mk14y hQw (by omega) (by omega) (by omega)).1, (mk14y hQw (by omega) (by omega) (by omega)).2⟩, (fun x a9 b9 => by first | exact Int.le_add_of_nonneg_right (by omega) | (by_cases e9 : x = ro; (rw [e9, uz_s]; omega); (rw [uz_n e9]; omega))), b_83, b_87, hv10, b_99, b_100, rfl, rfl, rfl, rfl⟩) ⟨Nat.le_of_ble_eq_true rfl, Nat.le_of_ble_eq_true rfl⟩ ⟨Nat.le_of_ble_eq_true rfl, Nat.le_of_ble_eq_true rfl⟩ dX6_markRow_133
        · have zc_98 : (v14 (T 7 i j 1)) ≠ (-1) := jne (a := (v14 (T 7 i j 1))) (b := (-1)) (by omega) (by omega) c_98
          refine lv_iload_n hx hb dX6_markRow_106 rfl (lv_at hl 3 rfl) ?_
          refine lv_aload_n hx hb dX6_markRow_107 rfl (lv_at hl 2 rfl) ?_
          refine x_get (ci := 6) (C := RX6) (T := TX6) (N := 18) (v := .ref w14) B 0 rfl rfl in_X6 14 (by decide) mw_254 (fun _ h9 => h9) rfl dX6_markRow_108 ?_
          refine lv_iload hx hb dX6_markRow_111 (lv_at hl 0 rfl) ?_
          refine x_iald' (f := v14) (z := (T 7 i j 1)) B 5 rfl (by omega) dX6_markRow_113 ?_
          have z_102 : (-1) ≤ (v14 (T 7 i j 1)) ∧ (v14 (T 7 i j 1)) ≤ 767 := hv14 (T 7 i j 1)
          refine lv_icmp_ge (tgt := 133) hx hb dX6_markRow_114 (by decide) (fun c_103 => ?_) (fun c_103 => ?_)
          · have zc_103 : (v14 (T 7 i j 1)) ≤ ro := jle (a := (v14 (T 7 i j 1))) (b := ro) (by omega) (by omega) c_103
            have e_104 : ((mkQ T Q i j ro ix) 0 0) = (Q 0 0) := rfl
            have B := bd_to (ws' := ([(rw, .inr (6, [.int (iI ((mkQ T Q i j ro ix) 0 0)), .ref w1, .ref w2, .ref w3, .ref w4, .ref w5, .ref w6, .ref w7, .ref w8, .ref w9, .ref w10, .ref w11, .int (iI hn), .int (iI tn), .ref w14, .ref w15, .ref w16, .int (iI fn)])), (w4, .inl (k 0, 768, .inl (fun i9 : Nat => iI ((uz v4 ro ((v4 ro) + (T 7 i j 0))) i9)))), (w5, .inl (k 0, 768, .inl (fun i9 : Nat => iI ((uz v5 ro (T 7 i j 0)) i9)))), (w9, .inl (k 0, 192, .inl (fun i9 : Nat => iI (v9 i9)))), (w10, .inl (k 0, 6, .inl (fun i9 : Nat => iI (v10 i9)))), (w14, .inl (k 0, 5, .inl (fun i9 : Nat => iI (v14 i9)))), (w15, .inl (k 0, 5, .inl (fun i9 : Nat => iI (v15 i9))))] ++ tl)) (by first | rfl | (rw [e_104])) B
            exact k_vret B hr (⟨(mkQ T Q i j ro ix), (uz v4 ro ((v4 ro) + (T 7 i j 0))), (uz v5 ro (T 7 i j 0)), v10, v14, v15, rfl, ⟨(mk45y hQw (by omega) (by omega)), hQw.2.1, (mk10n hQw (by omega)), (mk14n hQw (by omega)).1, (mk14n hQw (by omega)).2⟩, (fun x a9 b9 => by first | exact Int.le_add_of_nonneg_right (by omega) | (by_cases e9 : x = ro; (rw [e9, uz_s]; omega); (rw [uz_n e9]; omega))), b_83, b_87, hv10, hv14, hv15, rfl, rfl, rfl, rfl⟩) ⟨Nat.le_of_ble_eq_true rfl, Nat.le_of_ble_eq_true rfl⟩ ⟨Nat.le_of_ble_eq_true rfl, Nat.le_of_ble_eq_true rfl⟩ dX6_markRow_133
          · have zc_103 : ro < (v14 (T 7 i j 1)) := jnle (a := (v14 (T 7 i j 1))) (b := ro) (by omega) (by omega) c_103
            refine lv_aload_n hx hb dX6_markRow_117 rfl (lv_at hl 2 rfl) ?_
            refine x_get (ci := 6) (C := RX6) (T := TX6) (N := 18) (v := .ref w14) B 0 rfl rfl in_X6 14 (by decide) mw_254 (fun _ h9 => h9) rfl dX6_markRow_118 ?_
            refine lv_iload hx hb dX6_markRow_121 (lv_at hl 0 rfl) ?_
            refine lv_iload_n hx hb dX6_markRow_123 rfl (lv_at hl 3 rfl) ?_
            refine x_iast' (f := v14) (z := (T 7 i j 1)) (v := ro) B 5 rfl (by omega) dX6_markRow_124 (fun H locs B => ?_)
            have b_105 : Bd (-1) 767 (uz v14 (T 7 i j 1) ro) := Bd_uz hv14 (by omega)
            have B := bd_to (ws' := ([(rw, .inr (6, [.int (iI (Q 0 0)), .ref w1, .ref w2, .ref w3, .ref w4, .ref w5, .ref w6, .ref w7, .ref w8, .ref w9, .ref w10, .ref w11, .int (iI hn), .int (iI tn), .ref w14, .ref w15, .ref w16, .int (iI fn)])), (w4, .inl (k 0, 768, .inl (fun i9 : Nat => iI ((uz v4 ro ((v4 ro) + (T 7 i j 0))) i9)))), (w5, .inl (k 0, 768, .inl (fun i9 : Nat => iI ((uz v5 ro (T 7 i j 0)) i9)))), (w9, .inl (k 0, 192, .inl (fun i9 : Nat => iI (v9 i9)))), (w10, .inl (k 0, 6, .inl (fun i9 : Nat => iI (v10 i9)))), (w14, .inl (k 0, 5, .inl (fun i9 : Nat => iI ((uz v14 (T 7 i j 1) ro) i9)))), (w15, .inl (k 0, 5, .inl (fun i9 : Nat => iI (v15 i9))))] ++ tl)) rfl B
            refine lv_aload_n hx hb dX6_markRow_125 rfl (lv_at hl 2 rfl) ?_
            refine x_get (ci := 6) (C := RX6) (T := TX6) (N := 18) (v := .ref w15) B 0 rfl rfl in_X6 15 (by decide) mw_256 (fun _ h9 => h9) rfl dX6_markRow_126 ?_
            refine lv_iload hx hb dX6_markRow_129 (lv_at hl 0 rfl) ?_
            refine lv_iload_n hx hb dX6_markRow_131 rfl (lv_at hl 4 rfl) ?_
            refine x_iast' (f := v15) (z := (T 7 i j 1)) (v := ix) B 6 rfl (by omega) dX6_markRow_132 (fun H locs B => ?_)
            have b_106 : Bd 0 191 (uz v15 (T 7 i j 1) ix) := Bd_uz hv15 (by omega)
            have B := bd_to (ws' := ([(rw, .inr (6, [.int (iI (Q 0 0)), .ref w1, .ref w2, .ref w3, .ref w4, .ref w5, .ref w6, .ref w7, .ref w8, .ref w9, .ref w10, .ref w11, .int (iI hn), .int (iI tn), .ref w14, .ref w15, .ref w16, .int (iI fn)])), (w4, .inl (k 0, 768, .inl (fun i9 : Nat => iI ((uz v4 ro ((v4 ro) + (T 7 i j 0))) i9)))), (w5, .inl (k 0, 768, .inl (fun i9 : Nat => iI ((uz v5 ro (T 7 i j 0)) i9)))), (w9, .inl (k 0, 192, .inl (fun i9 : Nat => iI (v9 i9)))), (w10, .inl (k 0, 6, .inl (fun i9 : Nat => iI (v10 i9)))), (w14, .inl (k 0, 5, .inl (fun i9 : Nat => iI ((uz v14 (T 7 i j 1) ro) i9)))), (w15, .inl (k 0, 5, .inl (fun i9 : Nat => iI ((uz v15 (T 7 i j 1) ix) i9))))] ++ tl)) rfl B
            have e_107 : ((mkQ T Q i j ro ix) 0 0) = (Q 0 0) := rfl
            have B := bd_to (ws' := ([(rw, .inr (6, [.int (iI ((mkQ T Q i j ro ix) 0 0)), .ref w1, .ref w2, .ref w3, .ref w4, .ref w5, .ref w6, .ref w7, .ref w8, .ref w9, .ref w10, .ref w11, .int (iI hn), .int (iI tn), .ref w14, .ref w15, .ref w16, .int (iI fn)])), (w4, .inl (k 0, 768, .inl (fun i9 : Nat => iI ((uz v4 ro ((v4 ro) + (T 7 i j 0))) i9)))), (w5, .inl (k 0, 768, .inl (fun i9 : Nat => iI ((uz v5 ro (T 7 i j 0)) i9)))), (w9, .inl (k 0, 192, .inl (fun i9 : Nat => iI (v9 i9)))), (w10, .inl (k 0, 6, .inl (fun i9 : Nat => iI (v10 i9)))), (w14, .inl (k 0, 5, .inl (fun i9 : Nat => iI ((uz v14 (T 7 i j 1) ro) i9)))), (w15, .inl (k 0, 5, .inl (fun i9 : Nat => iI ((uz v15 (T 7 i j 1) ix) i9))))] ++ tl)) (by first | rfl | (rw [e_107])) B
            exact k_vret B hr (⟨(mkQ T Q i j ro ix), (uz v4 ro ((v4 ro) + (T 7 i j 0))), (uz v5 ro (T 7 i j 0)), v10, (uz v14 (T 7 i j 1) ro), (uz v15 (T 7 i j 1) ix), rfl, ⟨(mk45y hQw (by omega) (by omega)), hQw.2.1, (mk10n hQw (by omega)), (mk14y hQw (by omega) (by omega) (by omega)).1, (mk14y hQw (by omega) (by omega) (by omega)).2⟩, (fun x a9 b9 => by first | exact Int.le_add_of_nonneg_right (by omega) | (by_cases e9 : x = ro; (rw [e9, uz_s]; omega); (rw [uz_n e9]; omega))), b_83, b_87, hv10, b_105, b_106, rfl, rfl, rfl, rfl⟩) ⟨Nat.le_of_ble_eq_true rfl, Nat.le_of_ble_eq_true rfl⟩ ⟨Nat.le_of_ble_eq_true rfl, Nat.le_of_ble_eq_true rfl⟩ dX6_markRow_133
    · have zc_91 : (T 7 i j 2) ≠ (-1) := jne (a := (T 7 i j 2)) (b := (-1)) (by omega) (by omega) c_91
      refine lv_aload_n hx hb dX6_markRow_51 rfl (lv_at hl 1 rfl) ?_
      refine x_get (ci := 6) (C := RX6) (T := TX6) (N := 18) (v := .ref w10) B 0 rfl rfl in_X6 10 (by decide) mw_248 (fun _ h9 => h9) rfl dX6_markRow_52 ?_
      refine lv_iload hx hb dX6_markRow_55 (lv_at hl 0 rfl) ?_
      refine x_iald' (f := v10) (z := (T 7 i j 2)) B 4 rfl (by omega) dX6_markRow_57 ?_
      have z_108 : (-1) ≤ (v10 (T 7 i j 2)) ∧ (v10 (T 7 i j 2)) ≤ 767 := hv10 (T 7 i j 2)
      refine lv_iconst (v := iI (-1)) hx hb dX6_markRow_58 (by decide) ?_
      refine lv_icmp_eq (tgt := 73) hx hb dX6_markRow_59 (by decide) (fun c_109 => ?_) (fun c_109 => ?_)
      · have zc_109 : (v10 (T 7 i j 2)) = (-1) := jeq (a := (v10 (T 7 i j 2))) (b := (-1)) (by omega) (by omega) c_109
        refine lv_aload_n hx hb dX6_markRow_73 rfl (lv_at hl 1 rfl) ?_
        refine x_get (ci := 6) (C := RX6) (T := TX6) (N := 18) (v := .ref w10) B 0 rfl rfl in_X6 10 (by decide) mw_248 (fun _ h9 => h9) rfl dX6_markRow_74 ?_
        refine lv_iload hx hb dX6_markRow_77 (lv_at hl 0 rfl) ?_
        refine lv_iload_n hx hb dX6_markRow_79 rfl (lv_at hl 2 rfl) ?_
        refine x_iast' (f := v10) (z := (T 7 i j 2)) (v := ro) B 4 rfl (by omega) dX6_markRow_80 (fun H locs B => ?_)
        have b_110 : Bd (-1) 767 (uz v10 (T 7 i j 2) ro) := Bd_uz hv10 (by omega)
        have B := bd_to (ws' := ([(rw, .inr (6, [.int (iI (Q 0 0)), .ref w1, .ref w2, .ref w3, .ref w4, .ref w5, .ref w6, .ref w7, .ref w8, .ref w9, .ref w10, .ref w11, .int (iI hn), .int (iI tn), .ref w14, .ref w15, .ref w16, .int (iI fn)])), (w4, .inl (k 0, 768, .inl (fun i9 : Nat => iI ((uz v4 ro ((v4 ro) + (T 7 i j 0))) i9)))), (w5, .inl (k 0, 768, .inl (fun i9 : Nat => iI ((uz v5 ro (T 7 i j 0)) i9)))), (w9, .inl (k 0, 192, .inl (fun i9 : Nat => iI (v9 i9)))), (w10, .inl (k 0, 6, .inl (fun i9 : Nat => iI ((uz v10 (T 7 i j 2) ro) i9)))), (w14, .inl (k 0, 5, .inl (fun i9 : Nat => iI (v14 i9)))), (w15, .inl (k 0, 5, .inl (fun i9 : Nat => iI (v15 i9))))] ++ tl)) rfl B
        refine lv_aload_n hx hb dX6_markRow_81 rfl (lv_at hl 4 rfl) ?_
        obtain ⟨k_111, hk_111⟩ := pk_at (hs := [(rw, .inr (6, [.int (iI (Q 0 0)), .ref w1, .ref w2, .ref w3, .ref w4, .ref w5, .ref w6, .ref w7, .ref w8, .ref w9, .ref w10, .ref w11, .int (iI hn), .int (iI tn), .ref w14, .ref w15, .ref w16, .int (iI fn)])), (w4, .inl (k 0, 768, .inl (fun i9 : Nat => iI ((uz v4 ro ((v4 ro) + (T 7 i j 0))) i9)))), (w5, .inl (k 0, 768, .inl (fun i9 : Nat => iI ((uz v5 ro (T 7 i j 0)) i9)))), (w9, .inl (k 0, 192, .inl (fun i9 : Nat => iI (v9 i9)))), (w10, .inl (k 0, 6, .inl (fun i9 : Nat => iI ((uz v10 (T 7 i j 2) ro) i9)))), (w14, .inl (k 0, 5, .inl (fun i9 : Nat => iI (v14 i9)))), (w15, .inl (k 0, 5, .inl (fun i9 : Nat => iI (v15 i9))))]) (hT.2.2.2.2.1 i j (by omega) (by omega) (by omega) (by omega)).1
        refine x_get (ci := 10) (C := RX10) (T := TX10) (N := 4) (v := .ref (A 6 i j)) B k_111 hk_111 rfl in_X10 2 (by decide) mw_827 (fun _ h9 => h9) rfl dX6_markRow_82 ?_
        refine lv_iconst (v := iI 1) hx hb dX6_markRow_85 (by decide) ?_
        obtain ⟨k_112, hk_112⟩ := pk_at (hs := [(rw, .inr (6, [.int (iI (Q 0 0)), .ref w1, .ref w2, .ref w3, .ref w4, .ref w5, .ref w6, .ref w7, .ref w8, .ref w9, .ref w10, .ref w11, .int (iI hn), .int (iI tn), .ref w14, .ref w15, .ref w16, .int (iI fn)])), (w4, .inl (k 0, 768, .inl (fun i9 : Nat => iI ((uz v4 ro ((v4 ro) + (T 7 i j 0))) i9)))), (w5, .inl (k 0, 768, .inl (fun i9 : Nat => iI ((uz v5 ro (T 7 i j 0)) i9)))), (w9, .inl (k 0, 192, .inl (fun i9 : Nat => iI (v9 i9)))), (w10, .inl (k 0, 6, .inl (fun i9 : Nat => iI ((uz v10 (T 7 i j 2) ro) i9)))), (w14, .inl (k 0, 5, .inl (fun i9 : Nat => iI (v14 i9)))), (w15, .inl (k 0, 5, .inl (fun i9 : Nat => iI (v15 i9))))]) (hT.2.2.2.2.1 i j (by omega) (by omega) (by omega) (by omega)).2.2
        refine x_iald' (f := (fun j9 : Int => T 7 i j j9)) (z := 1) B k_112 hk_112 (by omega) dX6_markRow_86 ?_
        have z_113 : (-1) ≤ (T 7 i j 1) ∧ (T 7 i j 1) ≤ 7 := (fun q => TK_mrk hK i j q) 1
        refine lv_istore (lv' := [(5, .int (iI (T 7 i j 1))), (4, .int (iI (T 7 i j 2))), (0, .ref rw), (1, .int (iI ro)), (2, .int (iI ix)), (3, .ref (A 4 i j))]) hx hb dX6_markRow_87 hl (by decide) rfl (fun ls hl => ?_)
        refine lv_iload hx hb dX6_markRow_89 (lv_at hl 0 rfl) ?_
        refine lv_iconst (v := iI (-1)) hx hb dX6_markRow_91 (by decide) ?_
        refine lv_icmp_eq (tgt := 133) hx hb dX6_markRow_92 (by decide) (fun c_114 => ?_) (fun c_114 => ?_)
        · have zc_114 : (T 7 i j 1) = (-1) := jeq (a := (T 7 i j 1)) (b := (-1)) (by omega) (by omega) c_114
          have e_115 : ((mkQ T Q i j ro ix) 0 0) = (Q 0 0) := rfl
          have B := bd_to (ws' := ([(rw, .inr (6, [.int (iI ((mkQ T Q i j ro ix) 0 0)), .ref w1, .ref w2, .ref w3, .ref w4, .ref w5, .ref w6, .ref w7, .ref w8, .ref w9, .ref w10, .ref w11, .int (iI hn), .int (iI tn), .ref w14, .ref w15, .ref w16, .int (iI fn)])), (w4, .inl (k 0, 768, .inl (fun i9 : Nat => iI ((uz v4 ro ((v4 ro) + (T 7 i j 0))) i9)))), (w5, .inl (k 0, 768, .inl (fun i9 : Nat => iI ((uz v5 ro (T 7 i j 0)) i9)))), (w9, .inl (k 0, 192, .inl (fun i9 : Nat => iI (v9 i9)))), (w10, .inl (k 0, 6, .inl (fun i9 : Nat => iI ((uz v10 (T 7 i j 2) ro) i9)))), (w14, .inl (k 0, 5, .inl (fun i9 : Nat => iI (v14 i9)))), (w15, .inl (k 0, 5, .inl (fun i9 : Nat => iI (v15 i9))))] ++ tl)) (by first | rfl | (rw [e_115])) B
          exact k_vret B hr (⟨(mkQ T Q i j ro ix), (uz v4 ro ((v4 ro) + (T 7 i j 0))), (uz v5 ro (T 7 i j 0)), (uz v10 (T 7 i j 2) ro), v14, v15, rfl, ⟨(mk45y hQw (by omega) (by omega)), hQw.2.1, (mk10y hQw (by omega) (by omega)), (mk14n hQw (by omega)).1, (mk14n hQw (by omega)).2⟩, (fun x a9 b9 => by first | exact Int.le_add_of_nonneg_right (by omega) | (by_cases e9 : x = ro; (rw [e9, uz_s]; omega); (rw [uz_n e9]; omega))), b_83, b_87, b_110, hv14, hv15, rfl, rfl, rfl, rfl⟩) ⟨Nat.le_of_ble_eq_true rfl, Nat.le_of_ble_eq_true rfl⟩ ⟨Nat.le_of_ble_eq_true rfl, Nat.le_of_ble_eq_true rfl⟩ dX6_markRow_133
        · have zc_114 : (T 7 i j 1) ≠ (-1) := jne (a := (T 7 i j 1)) (b := (-1)) (by omega) (by omega) c_114
          refine lv_aload_n hx hb dX6_markRow_95 rfl (lv_at hl 2 rfl) ?_
          refine x_get (ci := 6) (C := RX6) (T := TX6) (N := 18) (v := .ref w14) B 0 rfl rfl in_X6 14 (by decide) mw_254 (fun _ h9 => h9) rfl dX6_markRow_96 ?_
          refine lv_iload hx hb dX6_markRow_99 (lv_at hl 0 rfl) ?_
          refine x_iald' (f := v14) (z := (T 7 i j 1)) B 5 rfl (by omega) dX6_markRow_101 ?_
          have z_116 : (-1) ≤ (v14 (T 7 i j 1)) ∧ (v14 (T 7 i j 1)) ≤ 767 := hv14 (T 7 i j 1)
          refine lv_iconst (v := iI (-1)) hx hb dX6_markRow_102 (by decide) ?_
          refine lv_icmp_eq (tgt := 117) hx hb dX6_markRow_103 (by decide) (fun c_117 => ?_) (fun c_117 => ?_)
          · have zc_117 : (v14 (T 7 i j 1)) = (-1) := jeq (a := (v14 (T 7 i j 1))) (b := (-1)) (by omega) (by omega) c_117
            refine lv_aload_n hx hb dX6_markRow_117 rfl (lv_at hl 2 rfl) ?_
            refine x_get (ci := 6) (C := RX6) (T := TX6) (N := 18) (v := .ref w14) B 0 rfl rfl in_X6 14 (by decide) mw_254 (fun _ h9 => h9) rfl dX6_markRow_118 ?_
            refine lv_iload hx hb dX6_markRow_121 (lv_at hl 0 rfl) ?_
            refine lv_iload_n hx hb dX6_markRow_123 rfl (lv_at hl 3 rfl) ?_
            refine x_iast' (f := v14) (z := (T 7 i j 1)) (v := ro) B 5 rfl (by omega) dX6_markRow_124 (fun H locs B => ?_)
            have b_118 : Bd (-1) 767 (uz v14 (T 7 i j 1) ro) := Bd_uz hv14 (by omega)
            have B := bd_to (ws' := ([(rw, .inr (6, [.int (iI (Q 0 0)), .ref w1, .ref w2, .ref w3, .ref w4, .ref w5, .ref w6, .ref w7, .ref w8, .ref w9, .ref w10, .ref w11, .int (iI hn), .int (iI tn), .ref w14, .ref w15, .ref w16, .int (iI fn)])), (w4, .inl (k 0, 768, .inl (fun i9 : Nat => iI ((uz v4 ro ((v4 ro) + (T 7 i j 0))) i9)))), (w5, .inl (k 0, 768, .inl (fun i9 : Nat => iI ((uz v5 ro (T 7 i j 0)) i9)))), (w9, .inl (k 0, 192, .inl (fun i9 : Nat => iI (v9 i9)))), (w10, .inl (k 0, 6, .inl (fun i9 : Nat => iI ((uz v10 (T 7 i j 2) ro) i9)))), (w14, .inl (k 0, 5, .inl (fun i9 : Nat => iI ((uz v14 (T 7 i j 1) ro) i9)))), (w15, .inl (k 0, 5, .inl (fun i9 : Nat => iI (v15 i9))))] ++ tl)) rfl B
            refine lv_aload_n hx hb dX6_markRow_125 rfl (lv_at hl 2 rfl) ?_
            refine x_get (ci := 6) (C := RX6) (T := TX6) (N := 18) (v := .ref w15) B 0 rfl rfl in_X6 15 (by decide) mw_256 (fun _ h9 => h9) rfl dX6_markRow_126 ?_
            refine lv_iload hx hb dX6_markRow_129 (lv_at hl 0 rfl) ?_
            refine lv_iload_n hx hb dX6_markRow_131 rfl (lv_at hl 4 rfl) ?_
            refine x_iast' (f := v15) (z := (T 7 i j 1)) (v := ix) B 6 rfl (by omega) dX6_markRow_132 (fun H locs B => ?_)
            have b_119 : Bd 0 191 (uz v15 (T 7 i j 1) ix) := Bd_uz hv15 (by omega)
            have B := bd_to (ws' := ([(rw, .inr (6, [.int (iI (Q 0 0)), .ref w1, .ref w2, .ref w3, .ref w4, .ref w5, .ref w6, .ref w7, .ref w8, .ref w9, .ref w10, .ref w11, .int (iI hn), .int (iI tn), .ref w14, .ref w15, .ref w16, .int (iI fn)])), (w4, .inl (k 0, 768, .inl (fun i9 : Nat => iI ((uz v4 ro ((v4 ro) + (T 7 i j 0))) i9)))), (w5, .inl (k 0, 768, .inl (fun i9 : Nat => iI ((uz v5 ro (T 7 i j 0)) i9)))), (w9, .inl (k 0, 192, .inl (fun i9 : Nat => iI (v9 i9)))), (w10, .inl (k 0, 6, .inl (fun i9 : Nat => iI ((uz v10 (T 7 i j 2) ro) i9)))), (w14, .inl (k 0, 5, .inl (fun i9 : Nat => iI ((uz v14 (T 7 i j 1) ro) i9)))), (w15, .inl (k 0, 5, .inl (fun i9 : Nat => iI ((uz v15 (T 7 i j 1) ix) i9))))] ++ tl)) rfl B
            have e_120 : ((mkQ T Q i j ro ix) 0 0) = (Q 0 0) := rfl
            have B := bd_to (ws' := ([(rw, .inr (6, [.int (iI ((mkQ T Q i j ro ix) 0 0)), .ref w1, .ref w2, .ref w3, .ref w4, .ref w5, .ref w6, .ref w7, .ref w8, .ref w9, .ref w10, .ref w11, .int (iI hn), .int (iI tn), .ref w14, .ref w15, .ref w16, .int (iI fn)])), (w4, .inl (k 0, 768, .inl (fun i9 : Nat => iI ((uz v4 ro ((v4 ro) + (T 7 i j 0))) i9)))), (w5, .inl (k 0, 768, .inl (fun i9 : Nat => iI ((uz v5 ro (T 7 i j 0)) i9)))), (w9, .inl (k 0, 192, .inl (fun i9 : Nat => iI (v9 i9)))), (w10, .inl (k 0, 6, .inl (fun i9 : Nat => iI ((uz v10 (T 7 i j 2) ro) i9)))), (w14, .inl (k 0, 5, .inl (fun i9 : Nat => iI ((uz v14 (T 7 i j 1) ro) i9)))), (w15, .inl (k 0, 5, .inl (fun i9 : Nat => iI ((uz v15 (T 7 i j 1) ix) i9))))] ++ tl)) (by first | rfl | (rw [e_120])) B
            exact k_vret B hr (⟨(mkQ T Q i j ro ix), (uz v4 ro ((v4 ro) + (T 7 i j 0))), (uz v5 ro (T 7 i j 0)), (uz v10 (T 7 i j 2) ro), (uz v14 (T 7 i j 1) ro), (uz v15 (T 7 i j 1) ix), rfl, ⟨(mk45y hQw (by omega) (by omega)), hQw.2.1, (mk10y hQw (by omega) (by omega)), (mk14y hQw (by omega) (by omega) (by omega)).1, (mk14y hQw (by omega) (by omega) (by omega)).2⟩, (fun x a9 b9 => by first | exact Int.le_add_of_nonneg_right (by omega) | (by_cases e9 : x = ro; (rw [e9, uz_s]; omega); (rw [uz_n e9]; omega))), b_83, b_87, b_110, b_118, b_119, rfl, rfl, rfl, rfl⟩) ⟨Nat.le_of_ble_eq_true rfl, Nat.le_of_ble_eq_true rfl⟩ ⟨Nat.le_of_ble_eq_true rfl, Nat.le_of_ble_eq_true rfl⟩ dX6_markRow_133
          · have zc_117 : (v14 (T 7 i j 1)) ≠ (-1) := jne (a := (v14 (T 7 i j 1))) (b := (-1)) (by omega) (by omega) c_117
            refine lv_iload_n hx hb dX6_markRow_106 rfl (lv_at hl 3 rfl) ?_
            refine lv_aload_n hx hb dX6_markRow_107 rfl (lv_at hl 2 rfl) ?_
            refine x_get (ci := 6) (C := RX6) (T := TX6) (N := 18) (v := .ref w14) B 0 rfl rfl in_X6 14 (by decide) mw_254 (fun _ h9 => h9) rfl dX6_markRow_108 ?_
            refine lv_iload hx hb dX6_markRow_111 (lv_at hl 0 rfl) ?_
            refine x_iald' (f := v14) (z := (T 7 i j 1)) B 5 rfl (by omega) dX6_markRow_113 ?_
            have z_121 : (-1) ≤ (v14 (T 7 i j 1)) ∧ (v14 (T 7 i j 1)) ≤ 767 := hv14 (T 7 i j 1)
            refine lv_icmp_ge (tgt := 133) hx hb dX6_markRow_114 (by decide) (fun c_122 => ?_) (fun c_122 => ?_)
            · have zc_122 : (v14 (T 7 i j 1)) ≤ ro := jle (a := (v14 (T 7 i j 1))) (b := ro) (by omega) (by omega) c_122
              have e_123 : ((mkQ T Q i j ro ix) 0 0) = (Q 0 0) := rfl
              have B := bd_to (ws' := ([(rw, .inr (6, [.int (iI ((mkQ T Q i j ro ix) 0 0)), .ref w1, .ref w2, .ref w3, .ref w4, .ref w5, .ref w6, .ref w7, .ref w8, .ref w9, .ref w10, .ref w11, .int (iI hn), .int (iI tn), .ref w14, .ref w15, .ref w16, .int (iI fn)])), (w4, .inl (k 0, 768, .inl (fun i9 : Nat => iI ((uz v4 ro ((v4 ro) + (T 7 i j 0))) i9)))), (w5, .inl (k 0, 768, .inl (fun i9 : Nat => iI ((uz v5 ro (T 7 i j 0)) i9)))), (w9, .inl (k 0, 192, .inl (fun i9 : Nat => iI (v9 i9)))), (w10, .inl (k 0, 6, .inl (fun i9 : Nat => iI ((uz v10 (T 7 i j 2) ro) i9)))), (w14, .inl (k 0, 5, .inl (fun i9 : Nat => iI (v14 i9)))), (w15, .inl (k 0, 5, .inl (fun i9 : Nat => iI (v15 i9))))] ++ tl)) (by first | rfl | (rw [e_123])) B
              exact k_vret B hr (⟨(mkQ T Q i j ro ix), (uz v4 ro ((v4 ro) + (T 7 i j 0))), (uz v5 ro (T 7 i j 0)), (uz v10 (T 7 i j 2) ro), v14, v15, rfl, ⟨(mk45y hQw (by omega) (by omega)), hQw.2.1, (mk10y hQw (by omega) (by omega)), (mk14n hQw (by omega)).1, (mk14n hQw (by omega)).2⟩, (fun x a9 b9 => by first | exact Int.le_add_of_nonneg_right (by omega) | (by_cases e9 : x = ro; (rw [e9, uz_s]; omega); (rw [uz_n e9]; omega))), b_83, b_87, b_110, hv14, hv15, rfl, rfl, rfl, rfl⟩) ⟨Nat.le_of_ble_eq_true rfl, Nat.le_of_ble_eq_true rfl⟩ ⟨Nat.le_of_ble_eq_true rfl, Nat.le_of_ble_eq_true rfl⟩ dX6_markRow_133
            · have zc_122 : ro < (v14 (T 7 i j 1)) := jnle (a := (v14 (T 7 i j 1))) (b := ro) (by omega) (by omega) c_122
              refine lv_aload_n hx hb dX6_markRow_117 rfl (lv_at hl 2 rfl) ?_
              refine x_get (ci := 6) (C := RX6) (T := TX6) (N := 18) (v := .ref w14) B 0 rfl rfl in_X6 14 (by decide) mw_254 (fun _ h9 => h9) rfl dX6_markRow_118 ?_
              refine lv_iload hx hb dX6_markRow_121 (lv_at hl 0 rfl) ?_
              refine lv_iload_n hx hb dX6_markRow_123 rfl (lv_at hl 3 rfl) ?_
              refine x_iast' (f := v14) (z := (T 7 i j 1)) (v := ro) B 5 rfl (by omega) dX6_markRow_124 (fun H locs B => ?_)
              have b_124 : Bd (-1) 767 (uz v14 (T 7 i j 1) ro) := Bd_uz hv14 (by omega)
              have B := bd_to (ws' := ([(rw, .inr (6, [.int (iI (Q 0 0)), .ref w1, .ref w2, .ref w3, .ref w4, .ref w5, .ref w6, .ref w7, .ref w8, .ref w9, .ref w10, .ref w11, .int (iI hn), .int (iI tn), .ref w14, .ref w15, .ref w16, .int (iI fn)])), (w4, .inl (k 0, 768, .inl (fun i9 : Nat => iI ((uz v4 ro ((v4 ro) + (T 7 i j 0))) i9)))), (w5, .inl (k 0, 768, .inl (fun i9 : Nat => iI ((uz v5 ro (T 7 i j 0)) i9)))), (w9, .inl (k 0, 192, .inl (fun i9 : Nat => iI (v9 i9)))), (w10, .inl (k 0, 6, .inl (fun i9 : Nat => iI ((uz v10 (T 7 i j 2) ro) i9)))), (w14, .inl (k 0, 5, .inl (fun i9 : Nat => iI ((uz v14 (T 7 i j 1) ro) i9)))), (w15, .inl (k 0, 5, .inl (fun i9 : Nat => iI (v15 i9))))] ++ tl)) rfl B
              refine lv_aload_n hx hb dX6_markRow_125 rfl (lv_at hl 2 rfl) ?_
              refine x_get (ci := 6) (C := RX6) (T := TX6) (N := 18) (v := .ref w15) B 0 rfl rfl in_X6 15 (by decide) mw_256 (fun _ h9 => h9) rfl dX6_markRow_126 ?_
              refine lv_iload hx hb dX6_markRow_129 (lv_at hl 0 rfl) ?_
              refine lv_iload_n hx hb dX6_markRow_131 rfl (lv_at hl 4 rfl) ?_
              refine x_iast' (f := v15) (z := (T 7 i j 1)) (v := ix) B 6 rfl (by omega) dX6_markRow_132 (fun H locs B => ?_)
              have b_125 : Bd 0 191 (uz v15 (T 7 i j 1) ix) := Bd_uz hv15 (by omega)
              have B := bd_to (ws' := ([(rw, .inr (6, [.int (iI (Q 0 0)), .ref w1, .ref w2, .ref w3, .ref w4, .ref w5, .ref w6, .ref w7, .ref w8, .ref w9, .ref w10, .ref w11, .int (iI hn), .int (iI tn), .ref w14, .ref w15, .ref w16, .int (iI fn)])), (w4, .inl (k 0, 768, .inl (fun i9 : Nat => iI ((uz v4 ro ((v4 ro) + (T 7 i j 0))) i9)))), (w5, .inl (k 0, 768, .inl (fun i9 : Nat => iI ((uz v5 ro (T 7 i j 0)) i9)))), (w9, .inl (k 0, 192, .inl (fun i9 : Nat => iI (v9 i9)))), (w10, .inl (k 0, 6, .inl (fun i9 : Nat => iI ((uz v10 (T 7 i j 2) ro) i9)))), (w14, .inl (k 0, 5, .inl (fun i9 : Nat => iI ((uz v14 (T 7 i j 1) ro) i9)))), (w15, .inl (k 0, 5, .inl (fun i9 : Nat => iI ((uz v15 (T 7 i j 1) ix) i9))))] ++ tl)) rfl B
              have e_126 : ((mkQ T Q i j ro ix) 0 0) = (Q 0 0) := rfl
              have B := bd_to (ws' := ([(rw, .inr (6, [.int (iI ((mkQ T Q i j ro ix) 0 0)), .ref w1, .ref w2, .ref w3, .ref w4, .ref w5, .ref w6, .ref w7, .ref w8, .ref w9, .ref w10, .ref w11, .int (iI hn), .int (iI tn), .ref w14, .ref w15, .ref w16, .int (iI fn)])), (w4, .inl (k 0, 768, .inl (fun i9 : Nat => iI ((uz v4 ro ((v4 ro) + (T 7 i j 0))) i9)))), (w5, .inl (k 0, 768, .inl (fun i9 : Nat => iI ((uz v5 ro (T 7 i j 0)) i9)))), (w9, .inl (k 0, 192, .inl (fun i9 : Nat => iI (v9 i9)))), (w10, .inl (k 0, 6, .inl (fun i9 : Nat => iI ((uz v10 (T 7 i j 2) ro) i9)))), (w14, .inl (k 0, 5, .inl (fun i9 : Nat => iI ((uz v14 (T 7 i j 1) ro) i9)))), (w15, .inl (k 0, 5, .inl (fun i9 : Nat => iI ((uz v15 (T 7 i j 1) ix) i9))))] ++ tl)) (by first | rfl | (rw [e_126])) B
              exact k_vret B hr (⟨(mkQ T Q i j ro ix), (uz v4 ro ((v4 ro) + (T 7 i j 0))), (uz v5 ro (T 7 i j 0)), (uz v10 (T 7 i j 2) ro), (uz v14 (T 7 i j 1) ro), (uz v15 (T 7 i j 1) ix), rfl, ⟨(mk45y hQw (by omega) (by omega)), hQw.2.1, (mk10y hQw (by omega) (by omega)), (mk14y hQw (by omega) (by omega) (by omega)).1, (mk14y hQw (by omega) (by omega) (by omega)).2⟩, (fun x a9 b9 => by first | exact Int.le_add_of_nonneg_right (by omega) | (by_cases e9 : x = ro; (rw [e9, uz_s]; omega); (rw [uz_n e9]; omega))), b_83, b_87, b_110, b_124, b_125, rfl, rfl, rfl, rfl⟩) ⟨Nat.le_of_ble_eq_true rfl, Nat.le_of_ble_eq_true rfl⟩ ⟨Nat.le_of_ble_eq_true rfl, Nat.le_of_ble_eq_true rfl⟩ dX6_markRow_133
      · have zc_109 : (v10 (T 7 i j 2)) ≠ (-1) := jne (a := (v10 (T 7 i j 2))) (b := (-1)) (by omega) (by omega) c_109
        refine lv_iload_n hx hb dX6_markRow_62 rfl (lv_at hl 2 rfl) ?_
        refine lv_aload_n hx hb dX6_markRow_63 rfl (lv_at hl 1 rfl) ?_
        refine x_get (ci := 6) (C := RX6) (T := TX6) (N := 18) (v := .ref w10) B 0 rfl rfl in_X6 10 (by decide) mw_248 (fun _ h9 => h9) rfl dX6_markRow_64 ?_
        refine lv_iload hx hb dX6_markRow_67 (lv_at hl 0 rfl) ?_
        refine x_iald' (f := v10) (z := (T 7 i j 2)) B 4 rfl (by omega) dX6_markRow_69 ?_
        have z_127 : (-1) ≤ (v10 (T 7 i j 2)) ∧ (v10 (T 7 i j 2)) ≤ 767 := hv10 (T 7 i j 2)
        refine lv_icmp_ge (tgt := 81) hx hb dX6_markRow_70 (by decide) (fun c_128 => ?_) (fun c_128 => ?_)
        · have zc_128 : (v10 (T 7 i j 2)) ≤ ro := jle (a := (v10 (T 7 i j 2))) (b := ro) (by omega) (by omega) c_128
          refine lv_aload_n hx hb dX6_markRow_81 rfl (lv_at hl 4 rfl) ?_
          obtain ⟨k_129, hk_129⟩ := pk_at (hs := [(rw, .inr (6, [.int (iI (Q 0 0)), .ref w1, .ref w2, .ref w3, .ref w4, .ref w5, .ref w6, .ref w7, .ref w8, .ref w9, .ref w10, .ref w11, .int (iI hn), .int (iI tn), .ref w14, .ref w15, .ref w16, .int (iI fn)])), (w4, .inl (k 0, 768, .inl (fun i9 : Nat => iI ((uz v4 ro ((v4 ro) + (T 7 i j 0))) i9)))), (w5, .inl (k 0, 768, .inl (fun i9 : Nat => iI ((uz v5 ro (T 7 i j 0)) i9)))), (w9, .inl (k 0, 192, .inl (fun i9 : Nat => iI (v9 i9)))), (w10, .inl (k 0, 6, .inl (fun i9 : Nat => iI (v10 i9)))), (w14, .inl (k 0, 5, .inl (fun i9 : Nat => iI (v14 i9)))), (w15, .inl (k 0, 5, .inl (fun i9 : Nat => iI (v15 i9))))]) (hT.2.2.2.2.1 i j (by omega) (by omega) (by omega) (by omega)).1
          refine x_get (ci := 10) (C := RX10) (T := TX10) (N := 4) (v := .ref (A 6 i j)) B k_129 hk_129 rfl in_X10 2 (by decide) mw_827 (fun _ h9 => h9) rfl dX6_markRow_82 ?_
          refine lv_iconst (v := iI 1) hx hb dX6_markRow_85 (by decide) ?_
          obtain ⟨k_130, hk_130⟩ := pk_at (hs := [(rw, .inr (6, [.int (iI (Q 0 0)), .ref w1, .ref w2, .ref w3, .ref w4, .ref w5, .ref w6, .ref w7, .ref w8, .ref w9, .ref w10, .ref w11, .int (iI hn), .int (iI tn), .ref w14, .ref w15, .ref w16, .int (iI fn)])), (w4, .inl (k 0, 768, .inl (fun i9 : Nat => iI ((uz v4 ro ((v4 ro) + (T 7 i j 0))) i9)))), (w5, .inl (k 0, 768, .inl (fun i9 : Nat => iI ((uz v5 ro (T 7 i j 0)) i9)))), (w9, .inl (k 0, 192, .inl (fun i9 : Nat => iI (v9 i9)))), (w10, .inl (k 0, 6, .inl (fun i9 : Nat => iI (v10 i9)))), (w14, .inl (k 0, 5, .inl (fun i9 : Nat => iI (v14 i9)))), (w15, .inl (k 0, 5, .inl (fun i9 : Nat => iI (v15 i9))))]) (hT.2.2.2.2.1 i j (by omega) (by omega) (by omega) (by omega)).2.2
          refine x_iald' (f := (fun j9 : Int => T 7 i j j9)) (z := 1) B k_130 hk_130 (by omega) dX6_markRow_86 ?_
          have z_131 : (-1) ≤ (T 7 i j 1) ∧ (T 7 i j 1) ≤ 7 := (fun q => TK_mrk hK i j q) 1
          refine lv_istore (lv' := [(5, .int (iI (T 7 i j 1))), (4, .int (iI (T 7 i j 2))), (0, .ref rw), (1, .int (iI ro)), (2, .int (iI ix)), (3, .ref (A 4 i j))]) hx hb dX6_markRow_87 hl (by decide) rfl (fun ls hl => ?_)
          refine lv_iload hx hb dX6_markRow_89 (lv_at hl 0 rfl) ?_
          refine lv_iconst (v := iI (-1)) hx hb dX6_markRow_91 (by decide) ?_
          refine lv_icmp_eq (tgt := 133) hx hb dX6_markRow_92 (by decide) (fun c_132 => ?_) (fun c_132 => ?_)
          · have zc_132 : (T 7 i j 1) = (-1) := jeq (a := (T 7 i j 1)) (b := (-1)) (by omega) (by omega) c_132
            have e_133 : ((mkQ T Q i j ro ix) 0 0) = (Q 0 0) := rfl
            have B := bd_to (ws' := ([(rw, .inr (6, [.int (iI ((mkQ T Q i j ro ix) 0 0)), .ref w1, .ref w2, .ref w3, .ref w4, .ref w5, .ref w6, .ref w7, .ref w8, .ref w9, .ref w10, .ref w11, .int (iI hn), .int (iI tn), .ref w14, .ref w15, .ref w16, .int (iI fn)])), (w4, .inl (k 0, 768, .inl (fun i9 : Nat => iI ((uz v4 ro ((v4 ro) + (T 7 i j 0))) i9)))), (w5, .inl (k 0, 768, .inl (fun i9 : Nat => iI ((uz v5 ro (T 7 i j 0)) i9)))), (w9, .inl (k 0, 192, .inl (fun i9 : Nat => iI (v9 i9)))), (w10, .inl (k 0, 6, .inl (fun i9 : Nat => iI (v10 i9)))), (w14, .inl (k 0, 5, .inl (fun i9 : Nat => iI (v14 i9)))), (w15, .inl (k 0, 5, .inl (fun i9 : Nat => iI (v15 i9))))] ++ tl)) (by first | rfl | (rw [e_133])) B
            exact k_vret B hr (⟨(mkQ T Q i j ro ix), (uz v4 ro ((v4 ro) + (T 7 i j 0))), (uz v5 ro (T 7 i j 0)), v10, v14, v15, rfl, ⟨(mk45y hQw (by omega) (by omega)), hQw.2.1, (mk10n hQw (by omega)), (mk14n hQw (by omega)).1, (mk14n hQw (by omega)).2⟩, (fun x a9 b9 => by first | exact Int.le_add_of_nonneg_right (by omega) | (by_cases e9 : x = ro; (rw [e9, uz_s]; omega); (rw [uz_n e9]; omega))), b_83, b_87, hv10, hv14, hv15, rfl, rfl, rfl, rfl⟩) ⟨Nat.le_of_ble_eq_true rfl, Nat.le_of_ble_eq_true rfl⟩ ⟨Nat.le_of_ble_eq_true rfl, Nat.le_of_ble_eq_true rfl⟩ dX6_markRow_133
          · have zc_132 : (T 7 i j 1) ≠ (-1) := jne (a := (T 7 i j 1)) (b := (-1)) (by omega) (by omega) c_132
            refine lv_aload_n hx hb dX6_markRow_95 rfl (lv_at hl 2 rfl) ?_
            refine x_get (ci := 6) (C := RX6) (T := TX6) (N := 18) (v := .ref w14) B 0 rfl rfl in_X6 14 (by decide) mw_254 (fun _ h9 => h9) rfl dX6_markRow_96 ?_
            refine lv_iload hx hb dX6_markRow_99 (lv_at hl 0 rfl) ?_
            refine x_iald' (f := v14) (z := (T 7 i j 1)) B 5 rfl (by omega) dX6_markRow_101 ?_
            have z_134 : (-1) ≤ (v14 (T 7 i j 1)) ∧ (v14 (T 7 i j 1)) ≤ 767 := hv14 (T 7 i j 1)
            refine lv_iconst (v := iI (-1)) hx hb dX6_markRow_102 (by decide) ?_
            refine lv_icmp_eq (tgt := 117) hx hb dX6_markRow_103 (by decide) (fun c_135 => ?_) (fun c_135 => ?_)
            · have zc_135 : (v14 (T 7 i j 1)) = (-1) := jeq (a := (v14 (T 7 i j 1))) (b := (-1)) (by omega) (by omega) c_135
              refine lv_aload_n hx hb dX6_markRow_117 rfl (lv_at hl 2 rfl) ?_
              refine x_get (ci := 6) (C := RX6) (T := TX6) (N := 18) (v := .ref w14) B 0 rfl rfl in_X6 14 (by decide) mw_254 (fun _ h9 => h9) rfl dX6_markRow_118 ?_
              refine lv_iload hx hb dX6_markRow_121 (lv_at hl 0 rfl) ?_
              refine lv_iload_n hx hb dX6_markRow_123 rfl (lv_at hl 3 rfl) ?_
              refine x_iast' (f := v14) (z := (T 7 i j 1)) (v := ro) B 5 rfl (by omega) dX6_markRow_124 (fun H locs B => ?_)
              have b_136 : Bd (-1) 767 (uz v14 (T 7 i j 1) ro) := Bd_uz hv14 (by omega)
              have B := bd_to (ws' := ([(rw, .inr (6, [.int (iI (Q 0 0)), .ref w1, .ref w2, .ref w3, .ref w4, .ref w5, .ref w6, .ref w7, .ref w8, .ref w9, .ref w10, .ref w11, .int (iI hn), .int (iI tn), .ref w14, .ref w15, .ref w16, .int (iI fn)])), (w4, .inl (k 0, 768, .inl (fun i9 : Nat => iI ((uz v4 ro ((v4 ro) + (T 7 i j 0))) i9)))), (w5, .inl (k 0, 768, .inl (fun i9 : Nat => iI ((uz v5 ro (T 7 i j 0)) i9)))), (w9, .inl (k 0, 192, .inl (fun i9 : Nat => iI (v9 i9)))), (w10, .inl (k 0, 6, .inl (fun i9 : Nat => iI (v10 i9)))), (w14, .inl (k 0, 5, .inl (fun i9 : Nat => iI ((uz v14 (T 7 i j 1) ro) i9)))), (w15, .inl (k 0, 5, .inl (fun i9 : Nat => iI (v15 i9))))] ++ tl)) rfl B
              refine lv_aload_n hx hb dX6_markRow_125 rfl (lv_at hl 2 rfl) ?_
              refine x_get (ci := 6) (C := RX6) (T := TX6) (N := 18) (v := .ref w15) B 0 rfl rfl in_X6 15 (by decide) mw_256 (fun _ h9 => h9) rfl dX6_markRow_126 ?_
              refine lv_iload hx hb dX6_markRow_129 (lv_at hl 0 rfl) ?_
              refine lv_iload_n hx hb dX6_markRow_131 rfl (lv_at hl 4 rfl) ?_
              refine x_iast' (f := v15) (z := (T 7 i j 1)) (v := ix) B 6 rfl (by omega) dX6_markRow_132 (fun H locs B => ?_)
              have b_137 : Bd 0 191 (uz v15 (T 7 i j 1) ix) := Bd_uz hv15 (by omega)
              have B := bd_to (ws' := ([(rw, .inr (6, [.int (iI (Q 0 0)), .ref w1, .ref w2, .ref w3, .ref w4, .ref w5, .ref w6, .ref w7, .ref w8, .ref w9, .ref w10, .ref w11, .int (iI hn), .int (iI tn), .ref w14, .ref w15, .ref w16, .int (iI fn)])), (w4, .inl (k 0, 768, .inl (fun i9 : Nat => iI ((uz v4 ro ((v4 ro) + (T 7 i j 0))) i9)))), (w5, .inl (k 0, 768, .inl (fun i9 : Nat => iI ((uz v5 ro (T 7 i j 0)) i9)))), (w9, .inl (k 0, 192, .inl (fun i9 : Nat => iI (v9 i9)))), (w10, .inl (k 0, 6, .inl (fun i9 : Nat => iI (v10 i9)))), (w14, .inl (k 0, 5, .inl (fun i9 : Nat => iI ((uz v14 (T 7 i j 1) ro) i9)))), (w15, .inl (k 0, 5, .inl (fun i9 : Nat => iI ((uz v15 (T 7 i j 1) ix) i9))))] ++ tl)) rfl B
              have e_138 : ((mkQ T Q i j ro ix) 0 0) = (Q 0 0) := rfl
              have B := bd_to (ws' := ([(rw, .inr (6, [.int (iI ((mkQ T Q i j ro ix) 0 0)), .ref w1, .ref w2, .ref w3, .ref w4, .ref w5, .ref w6, .ref w7, .ref w8, .ref w9, .ref w10, .ref w11, .int (iI hn), .int (iI tn), .ref w14, .ref w15, .ref w16, .int (iI fn)])), (w4, .inl (k 0, 768, .inl (fun i9 : Nat => iI ((uz v4 ro ((v4 ro) + (T 7 i j 0))) i9)))), (w5, .inl (k 0, 768, .inl (fun i9 : Nat => iI ((uz v5 ro (T 7 i j 0)) i9)))), (w9, .inl (k 0, 192, .inl (fun i9 : Nat => iI (v9 i9)))), (w10, .inl (k 0, 6, .inl (fun i9 : Nat => iI (v10 i9)))), (w14, .inl (k 0, 5, .inl (fun i9 : Nat => iI ((uz v14 (T 7 i j 1) ro) i9)))), (w15, .inl (k 0, 5, .inl (fun i9 : Nat => iI ((uz v15 (T 7 i j 1) ix) i9))))] ++ tl)) (by first | rfl | (rw [e_138])) B
              exact k_vret B hr (⟨(mkQ T Q i j ro ix), (uz v4 ro ((v4 ro) + (T 7 i j 0))), (uz v5 ro (T 7 i j 0)), v10, (uz v14 (T 7 i j 1) ro), (uz v15 (T 7 i j 1) ix), rfl, ⟨(mk45y hQw (by omega) (by omega)), hQw.2.1, (mk10n hQw (by omega)), (mk14y hQw (by omega) (by omega) (by omega)).1, (mk14y hQw (by omega) (by omega) (by omega)).2⟩, (fun x a9 b9 => by first | exact Int.le_add_of_nonneg_right (by omega) | (by_cases e9 : x = ro; (rw [e9, uz_s]; omega); (rw [uz_n e9]; omega))), b_83, b_87, hv10, b_136, b_137, rfl, rfl, rfl, rfl⟩) ⟨Nat.le_of_ble_eq_true rfl, Nat.le_of_ble_eq_true rfl⟩ ⟨Nat.le_of_ble_eq_true rfl, Nat.le_of_ble_eq_true rfl⟩ dX6_markRow_133
            · have zc_135 : (v14 (T 7 i j 1)) ≠ (-1) := jne (a := (v14 (T 7 i j 1))) (b := (-1)) (by omega) (by omega) c_135
              refine lv_iload_n hx hb dX6_markRow_106 rfl (lv_at hl 3 rfl) ?_
              refine lv_aload_n hx hb dX6_markRow_107 rfl (lv_at hl 2 rfl) ?_
              refine x_get (ci := 6) (C := RX6) (T := TX6) (N := 18) (v := .ref w14) B 0 rfl rfl in_X6 14 (by decide) mw_254 (fun _ h9 => h9) rfl dX6_markRow_108 ?_
              refine lv_iload hx hb dX6_markRow_111 (lv_at hl 0 rfl) ?_
              refine x_iald' (f := v14) (z := (T 7 i j 1)) B 5 rfl (by omega) dX6_markRow_113 ?_
              have z_139 : (-1) ≤ (v14 (T 7 i j 1)) ∧ (v14 (T 7 i j 1)) ≤ 767 := hv14 (T 7 i j 1)
              refine lv_icmp_ge (tgt := 133) hx hb dX6_markRow_114 (by decide) (fun c_140 => ?_) (fun c_140 => ?_)
              · have zc_140 : (v14 (T 7 i j 1)) ≤ ro := jle (a := (v14 (T 7 i j 1))) (b := ro) (by omega) (by omega) c_140
                have e_141 : ((mkQ T Q i j ro ix) 0 0) = (Q 0 0) := rfl
                have B := bd_to (ws' := ([(rw, .inr (6, [.int (iI ((mkQ T Q i j ro ix) 0 0)), .ref w1, .ref w2, .ref w3, .ref w4, .ref w5, .ref w6, .ref w7, .ref w8, .ref w9, .ref w10, .ref w11, .int (iI hn), .int (iI tn), .ref w14, .ref w15, .ref w16, .int (iI fn)])), (w4, .inl (k 0, 768, .inl (fun i9 : Nat => iI ((uz v4 ro ((v4 ro) + (T 7 i j 0))) i9)))), (w5, .inl (k 0, 768, .inl (fun i9 : Nat => iI ((uz v5 ro (T 7 i j 0)) i9)))), (w9, .inl (k 0, 192, .inl (fun i9 : Nat => iI (v9 i9)))), (w10, .inl (k 0, 6, .inl (fun i9 : Nat => iI (v10 i9)))), (w14, .inl (k 0, 5, .inl (fun i9 : Nat => iI (v14 i9)))), (w15, .inl (k 0, 5, .inl (fun i9 : Nat => iI (v15 i9))))] ++ tl)) (by first | rfl | (rw [e_141])) B
                exact k_vret B hr (⟨(mkQ T Q i j ro ix), (uz v4 ro ((v4 ro) + (T 7 i j 0))), (uz v5 ro (T 7 i j 0)), v10, v14, v15, rfl, ⟨(mk45y hQw (by omega) (by omega)), hQw.2.1, (mk10n hQw (by omega)), (mk14n hQw (by omega)).1, (mk14n hQw (by omega)).2⟩, (fun x a9 b9 => by first | exact Int.le_add_of_nonneg_right (by omega) | (by_cases e9 : x = ro; (rw [e9, uz_s]; omega); (rw [uz_n e9]; omega))), b_83, b_87, hv10, hv14, hv15, rfl, rfl, rfl, rfl⟩) ⟨Nat.le_of_ble_eq_true rfl, Nat.le_of_ble_eq_true rfl⟩ ⟨Nat.le_of_ble_eq_true rfl, Nat.le_of_ble_eq_true rfl⟩ dX6_markRow_133
              · have zc_140 : ro < (v14 (T 7 i j 1)) := jnle (a := (v14 (T 7 i j 1))) (b := ro) (by omega) (by omega) c_140
                refine lv_aload_n hx hb dX6_markRow_117 rfl (lv_at hl 2 rfl) ?_
                refine x_get (ci := 6) (C := RX6) (T := TX6) (N := 18) (v := .ref w14) B 0 rfl rfl in_X6 14 (by decide) mw_254 (fun _ h9 => h9) rfl dX6_markRow_118 ?_
                refine lv_iload hx hb dX6_markRow_121 (lv_at hl 0 rfl) ?_
                refine lv_iload_n hx hb dX6_markRow_123 rfl (lv_at hl 3 rfl) ?_
                refine x_iast' (f := v14) (z := (T 7 i j 1)) (v := ro) B 5 rfl (by omega) dX6_markRow_124 (fun H locs B => ?_)
                have b_142 : Bd (-1) 767 (uz v14 (T 7 i j 1) ro) := Bd_uz hv14 (by omega)
                have B := bd_to (ws' := ([(rw, .inr (6, [.int (iI (Q 0 0)), .ref w1, .ref w2, .ref w3, .ref w4, .ref w5, .ref w6, .ref w7, .ref w8, .ref w9, .ref w10, .ref w11, .int (iI hn), .int (iI tn), .ref w14, .ref w15, .ref w16, .int (iI fn)])), (w4, .inl (k 0, 768, .inl (fun i9 : Nat => iI ((uz v4 ro ((v4 ro) + (T 7 i j 0))) i9)))), (w5, .inl (k 0, 768, .inl (fun i9 : Nat => iI ((uz v5 ro (T 7 i j 0)) i9)))), (w9, .inl (k 0, 192, .inl (fun i9 : Nat => iI (v9 i9)))), (w10, .inl (k 0, 6, .inl (fun i9 : Nat => iI (v10 i9)))), (w14, .inl (k 0, 5, .inl (fun i9 : Nat => iI ((uz v14 (T 7 i j 1) ro) i9)))), (w15, .inl (k 0, 5, .inl (fun i9 : Nat => iI (v15 i9))))] ++ tl)) rfl B
                refine lv_aload_n hx hb dX6_markRow_125 rfl (lv_at hl 2 rfl) ?_
                refine x_get (ci := 6) (C := RX6) (T := TX6) (N := 18) (v := .ref w15) B 0 rfl rfl in_X6 15 (by decide) mw_256 (fun _ h9 => h9) rfl dX6_markRow_126 ?_
                refine lv_iload hx hb dX6_markRow_129 (lv_at hl 0 rfl) ?_
                refine lv_iload_n hx hb dX6_markRow_131 rfl (lv_at hl 4 rfl) ?_
                refine x_iast' (f := v15) (z := (T 7 i j 1)) (v := ix) B 6 rfl (by omega) dX6_markRow_132 (fun H locs B => ?_)
                have b_143 : Bd 0 191 (uz v15 (T 7 i j 1) ix) := Bd_uz hv15 (by omega)
                have B := bd_to (ws' := ([(rw, .inr (6, [.int (iI (Q 0 0)), .ref w1, .ref w2, .ref w3, .ref w4, .ref w5, .ref w6, .ref w7, .ref w8, .ref w9, .ref w10, .ref w11, .int (iI hn), .int (iI tn), .ref w14, .ref w15, .ref w16, .int (iI fn)])), (w4, .inl (k 0, 768, .inl (fun i9 : Nat => iI ((uz v4 ro ((v4 ro) + (T 7 i j 0))) i9)))), (w5, .inl (k 0, 768, .inl (fun i9 : Nat => iI ((uz v5 ro (T 7 i j 0)) i9)))), (w9, .inl (k 0, 192, .inl (fun i9 : Nat => iI (v9 i9)))), (w10, .inl (k 0, 6, .inl (fun i9 : Nat => iI (v10 i9)))), (w14, .inl (k 0, 5, .inl (fun i9 : Nat => iI ((uz v14 (T 7 i j 1) ro) i9)))), (w15, .inl (k 0, 5, .inl (fun i9 : Nat => iI ((uz v15 (T 7 i j 1) ix) i9))))] ++ tl)) rfl B
                have e_144 : ((mkQ T Q i j ro ix) 0 0) = (Q 0 0) := rfl
                have B := bd_to (ws' := ([(rw, .inr (6, [.int (iI ((mkQ T Q i j ro ix) 0 0)), .ref w1, .ref w2, .ref w3, .ref w4, .ref w5, .ref w6, .ref w7, .ref w8, .ref w9, .ref w10, .ref w11, .int (iI hn), .int (iI tn), .ref w14, .ref w15, .ref w16, .int (iI fn)])), (w4, .inl (k 0, 768, .inl (fun i9 : Nat => iI ((uz v4 ro ((v4 ro) + (T 7 i j 0))) i9)))), (w5, .inl (k 0, 768, .inl (fun i9 : Nat => iI ((uz v5 ro (T 7 i j 0)) i9)))), (w9, .inl (k 0, 192, .inl (fun i9 : Nat => iI (v9 i9)))), (w10, .inl (k 0, 6, .inl (fun i9 : Nat => iI (v10 i9)))), (w14, .inl (k 0, 5, .inl (fun i9 : Nat => iI ((uz v14 (T 7 i j 1) ro) i9)))), (w15, .inl (k 0, 5, .inl (fun i9 : Nat => iI ((uz v15 (T 7 i j 1) ix) i9))))] ++ tl)) (by first | rfl | (rw [e_144])) B
                exact k_vret B hr (⟨(mkQ T Q i j ro ix), (uz v4 ro ((v4 ro) + (T 7 i j 0))), (uz v5 ro (T 7 i j 0)), v10, (uz v14 (T 7 i j 1) ro), (uz v15 (T 7 i j 1) ix), rfl, ⟨(mk45y hQw (by omega) (by omega)), hQw.2.1, (mk10n hQw (by omega)), (mk14y hQw (by omega) (by omega) (by omega)).1, (mk14y hQw (by omega) (by omega) (by omega)).2⟩, (fun x a9 b9 => by first | exact Int.le_add_of_nonneg_right (by omega) | (by_cases e9 : x = ro; (rw [e9, uz_s]; omega); (rw [uz_n e9]; omega))), b_83, b_87, hv10, b_142, b_143, rfl, rfl, rfl, rfl⟩) ⟨Nat.le_of_ble_eq_true rfl, Nat.le_of_ble_eq_true rfl⟩ ⟨Nat.le_of_ble_eq_true rfl, Nat.le_of_ble_eq_true rfl⟩ dX6_markRow_133
        · have zc_128 : ro < (v10 (T 7 i j 2)) := jnle (a := (v10 (T 7 i j 2))) (b := ro) (by omega) (by omega) c_128
          refine lv_aload_n hx hb dX6_markRow_73 rfl (lv_at hl 1 rfl) ?_
          refine x_get (ci := 6) (C := RX6) (T := TX6) (N := 18) (v := .ref w10) B 0 rfl rfl in_X6 10 (by decide) mw_248 (fun _ h9 => h9) rfl dX6_markRow_74 ?_
          refine lv_iload hx hb dX6_markRow_77 (lv_at hl 0 rfl) ?_
          refine lv_iload_n hx hb dX6_markRow_79 rfl (lv_at hl 2 rfl) ?_
          refine x_iast' (f := v10) (z := (T 7 i j 2)) (v := ro) B 4 rfl (by omega) dX6_markRow_80 (fun H locs B => ?_)
          have b_145 : Bd (-1) 767 (uz v10 (T 7 i j 2) ro) := Bd_uz hv10 (by omega)
          have B := bd_to (ws' := ([(rw, .inr (6, [.int (iI (Q 0 0)), .ref w1, .ref w2, .ref w3, .ref w4, .ref w5, .ref w6, .ref w7, .ref w8, .ref w9, .ref w10, .ref w11, .int (iI hn), .int (iI tn), .ref w14, .ref w15, .ref w16, .int (iI fn)])), (w4, .inl (k 0, 768, .inl (fun i9 : Nat => iI ((uz v4 ro ((v4 ro) + (T 7 i j 0))) i9)))), (w5, .inl (k 0, 768, .inl (fun i9 : Nat => iI ((uz v5 ro (T 7 i j 0)) i9)))), (w9, .inl (k 0, 192, .inl (fun i9 : Nat => iI (v9 i9)))), (w10, .inl (k 0, 6, .inl (fun i9 : Nat => iI ((uz v10 (T 7 i j 2) ro) i9)))), (w14, .inl (k 0, 5, .inl (fun i9 : Nat => iI (v14 i9)))), (w15, .inl (k 0, 5, .inl (fun i9 : Nat => iI (v15 i9))))] ++ tl)) rfl B
          refine lv_aload_n hx hb dX6_markRow_81 rfl (lv_at hl 4 rfl) ?_
          obtain ⟨k_146, hk_146⟩ := pk_at (hs := [(rw, .inr (6, [.int (iI (Q 0 0)), .ref w1, .ref w2, .ref w3, .ref w4, .ref w5, .ref w6, .ref w7, .ref w8, .ref w9, .ref w10, .ref w11, .int (iI hn), .int (iI tn), .ref w14, .ref w15, .ref w16, .int (iI fn)])), (w4, .inl (k 0, 768, .inl (fun i9 : Nat => iI ((uz v4 ro ((v4 ro) + (T 7 i j 0))) i9)))), (w5, .inl (k 0, 768, .inl (fun i9 : Nat => iI ((uz v5 ro (T 7 i j 0)) i9)))), (w9, .inl (k 0, 192, .inl (fun i9 : Nat => iI (v9 i9)))), (w10, .inl (k 0, 6, .inl (fun i9 : Nat => iI ((uz v10 (T 7 i j 2) ro) i9)))), (w14, .inl (k 0, 5, .inl (fun i9 : Nat => iI (v14 i9)))), (w15, .inl (k 0, 5, .inl (fun i9 : Nat => iI (v15 i9))))]) (hT.2.2.2.2.1 i j (by omega) (by omega) (by omega) (by omega)).1
          refine x_get (ci := 10) (C := RX10) (T := TX10) (N := 4) (v := .ref (A 6 i j)) B k_146 hk_146 rfl in_X10 2 (by decide) mw_827 (fun _ h9 => h9) rfl dX6_markRow_82 ?_
          refine lv_iconst (v := iI 1) hx hb dX6_markRow_85 (by decide) ?_
          obtain ⟨k_147, hk_147⟩ := pk_at (hs := [(rw, .inr (6, [.int (iI (Q 0 0)), .ref w1, .ref w2, .ref w3, .ref w4, .ref w5, .ref w6, .ref w7, .ref w8, .ref w9, .ref w10, .ref w11, .int (iI hn), .int (iI tn), .ref w14, .ref w15, .ref w16, .int (iI fn)])), (w4, .inl (k 0, 768, .inl (fun i9 : Nat => iI ((uz v4 ro ((v4 ro) + (T 7 i j 0))) i9)))), (w5, .inl (k 0, 768, .inl (fun i9 : Nat => iI ((uz v5 ro (T 7 i j 0)) i9)))), (w9, .inl (k 0, 192, .inl (fun i9 : Nat => iI (v9 i9)))), (w10, .inl (k 0, 6, .inl (fun i9 : Nat => iI ((uz v10 (T 7 i j 2) ro) i9)))), (w14, .inl (k 0, 5, .inl (fun i9 : Nat => iI (v14 i9)))), (w15, .inl (k 0, 5, .inl (fun i9 : Nat => iI (v15 i9))))]) (hT.2.2.2.2.1 i j (by omega) (by omega) (by omega) (by omega)).2.2
          refine x_iald' (f := (fun j9 : Int => T 7 i j j9)) (z := 1) B k_147 hk_147 (by omega) dX6_markRow_86 ?_
          have z_148 : (-1) ≤ (T 7 i j 1) ∧ (T 7 i j 1) ≤ 7 := (fun q => TK_mrk hK i j q) 1
          refine lv_istore (lv' := [(5, .int (iI (T 7 i j 1))), (4, .int (iI (T 7 i j 2))), (0, .ref rw), (1, .int (iI ro)), (2, .int (iI ix)), (3, .ref (A 4 i j))]) hx hb dX6_markRow_87 hl (by decide) rfl (fun ls hl => ?_)
          refine lv_iload hx hb dX6_markRow_89 (lv_at hl 0 rfl) ?_
          refine lv_iconst (v := iI (-1)) hx hb dX6_markRow_91 (by decide) ?_
          refine lv_icmp_eq (tgt := 133) hx hb dX6_markRow_92 (by decide) (fun c_149 => ?_) (fun c_149 => ?_)
          · have zc_149 : (T 7 i j 1) = (-1) := jeq (a := (T 7 i j 1)) (b := (-1)) (by omega) (by omega) c_149
            have e_150 : ((mkQ T Q i j ro ix) 0 0) = (Q 0 0) := rfl
            have B := bd_to (ws' := ([(rw, .inr (6, [.int (iI ((mkQ T Q i j ro ix) 0 0)), .ref w1, .ref w2, .ref w3, .ref w4, .ref w5, .ref w6, .ref w7, .ref w8, .ref w9, .ref w10, .ref w11, .int (iI hn), .int (iI tn), .ref w14, .ref w15, .ref w16, .int (iI fn)])), (w4, .inl (k 0, 768, .inl (fun i9 : Nat => iI ((uz v4 ro ((v4 ro) + (T 7 i j 0))) i9)))), (w5, .inl (k 0, 768, .inl (fun i9 : Nat => iI ((uz v5 ro (T 7 i j 0)) i9)))), (w9, .inl (k 0, 192, .inl (fun i9 : Nat => iI (v9 i9)))), (w10, .inl (k 0, 6, .inl (fun i9 : Nat => iI ((uz v10 (T 7 i j 2) ro) i9)))), (w14, .inl (k 0, 5, .inl (fun i9 : Nat => iI (v14 i9)))), (w15, .inl (k 0, 5, .inl (fun i9 : Nat => iI (v15 i9))))] ++ tl)) (by first | rfl | (rw [e_150])) B
            exact k_vret B hr (⟨(mkQ T Q i j ro ix), (uz v4 ro ((v4 ro) + (T 7 i j 0))), (uz v5 ro (T 7 i j 0)), (uz v10 (T 7 i j 2) ro), v14, v15, rfl, ⟨(mk45y hQw (by omega) (by omega)), hQw.2.1, (mk10y hQw (by omega) (by omega)), (mk14n hQw (by omega)).1, (mk14n hQw (by omega)).2⟩, (fun x a9 b9 => by first | exact Int.le_add_of_nonneg_right (by omega) | (by_cases e9 : x = ro; (rw [e9, uz_s]; omega); (rw [uz_n e9]; omega))), b_83, b_87, b_145, hv14, hv15, rfl, rfl, rfl, rfl⟩) ⟨Nat.le_of_ble_eq_true rfl, Nat.le_of_ble_eq_true rfl⟩ ⟨Nat.le_of_ble_eq_true rfl, Nat.le_of_ble_eq_true rfl⟩ dX6_markRow_133
          · have zc_149 : (T 7 i j 1) ≠ (-1) := jne (a := (T 7 i j 1)) (b := (-1)) (by omega) (by omega) c_149
            refine lv_aload_n hx hb dX6_markRow_95 rfl (lv_at hl 2 rfl) ?_
            refine x_get (ci := 6) (C := RX6) (T := TX6) (N := 18) (v := .ref w14) B 0 rfl rfl in_X6 14 (by decide) mw_254 (fun _ h9 => h9) rfl dX6_markRow_96 ?_
            refine lv_iload hx hb dX6_markRow_99 (lv_at hl 0 rfl) ?_
            refine x_iald' (f := v14) (z := (T 7 i j 1)) B 5 rfl (by omega) dX6_markRow_101 ?_
            have z_151 : (-1) ≤ (v14 (T 7 i j 1)) ∧ (v14 (T 7 i j 1)) ≤ 767 := hv14 (T 7 i j 1)
            refine lv_iconst (v := iI (-1)) hx hb dX6_markRow_102 (by decide) ?_
            refine lv_icmp_eq (tgt := 117) hx hb dX6_markRow_103 (by decide) (fun c_152 => ?_) (fun c_152 => ?_)
            · have zc_152 : (v14 (T 7 i j 1)) = (-1) := jeq (a := (v14 (T 7 i j 1))) (b := (-1)) (by omega) (by omega) c_152
              refine lv_aload_n hx hb dX6_markRow_117 rfl (lv_at hl 2 rfl) ?_
              refine x_get (ci := 6) (C := RX6) (T := TX6) (N := 18) (v := .ref w14) B 0 rfl rfl in_X6 14 (by decide) mw_254 (fun _ h9 => h9) rfl dX6_markRow_118 ?_
              refine lv_iload hx hb dX6_markRow_121 (lv_at hl 0 rfl) ?_
              refine lv_iload_n hx hb dX6_markRow_123 rfl (lv_at hl 3 rfl) ?_
              refine x_iast' (f := v14) (z := (T 7 i j 1)) (v := ro) B 5 rfl (by omega) dX6_markRow_124 (fun H locs B => ?_)
              have b_153 : Bd (-1) 767 (uz v14 (T 7 i j 1) ro) := Bd_uz hv14 (by omega)
              have B := bd_to (ws' := ([(rw, .inr (6, [.int (iI (Q 0 0)), .ref w1, .ref w2, .ref w3, .ref w4, .ref w5, .ref w6, .ref w7, .ref w8, .ref w9, .ref w10, .ref w11, .int (iI hn), .int (iI tn), .ref w14, .ref w15, .ref w16, .int (iI fn)])), (w4, .inl (k 0, 768, .inl (fun i9 : Nat => iI ((uz v4 ro ((v4 ro) + (T 7 i j 0))) i9)))), (w5, .inl (k 0, 768, .inl (fun i9 : Nat => iI ((uz v5 ro (T 7 i j 0)) i9)))), (w9, .inl (k 0, 192, .inl (fun i9 : Nat => iI (v9 i9)))), (w10, .inl (k 0, 6, .inl (fun i9 : Nat => iI ((uz v10 (T 7 i j 2) ro) i9)))), (w14, .inl (k 0, 5, .inl (fun i9 : Nat => iI ((uz v14 (T 7 i j 1) ro) i9)))), (w15, .inl (k 0, 5, .inl (fun i9 : Nat => iI (v15 i9))))] ++ tl)) rfl B
              refine lv_aload_n hx hb dX6_markRow_125 rfl (lv_at hl 2 rfl) ?_
              refine x_get (ci := 6) (C := RX6) (T := TX6) (N := 18) (v := .ref w15) B 0 rfl rfl in_X6 15 (by decide) mw_256 (fun _ h9 => h9) rfl dX6_markRow_126 ?_
              refine lv_iload hx hb dX6_markRow_129 (lv_at hl 0 rfl) ?_
              refine lv_iload_n hx hb dX6_markRow_131 rfl (lv_at hl 4 rfl) ?_
              refine x_iast' (f := v15) (z := (T 7 i j 1)) (v := ix) B 6 rfl (by omega) dX6_markRow_132 (fun H locs B => ?_)
              have b_154 : Bd 0 191 (uz v15 (T 7 i j 1) ix) := Bd_uz hv15 (by omega)
              have B := bd_to (ws' := ([(rw, .inr (6, [.int (iI (Q 0 0)), .ref w1, .ref w2, .ref w3, .ref w4, .ref w5, .ref w6, .ref w7, .ref w8, .ref w9, .ref w10, .ref w11, .int (iI hn), .int (iI tn), .ref w14, .ref w15, .ref w16, .int (iI fn)])), (w4, .inl (k 0, 768, .inl (fun i9 : Nat => iI ((uz v4 ro ((v4 ro) + (T 7 i j 0))) i9)))), (w5, .inl (k 0, 768, .inl (fun i9 : Nat => iI ((uz v5 ro (T 7 i j 0)) i9)))), (w9, .inl (k 0, 192, .inl (fun i9 : Nat => iI (v9 i9)))), (w10, .inl (k 0, 6, .inl (fun i9 : Nat => iI ((uz v10 (T 7 i j 2) ro) i9)))), (w14, .inl (k 0, 5, .inl (fun i9 : Nat => iI ((uz v14 (T 7 i j 1) ro) i9)))), (w15, .inl (k 0, 5, .inl (fun i9 : Nat => iI ((uz v15 (T 7 i j 1) ix) i9))))] ++ tl)) rfl B
              have e_155 : ((mkQ T Q i j ro ix) 0 0) = (Q 0 0) := rfl
              have B := bd_to (ws' := ([(rw, .inr (6, [.int (iI ((mkQ T Q i j ro ix) 0 0)), .ref w1, .ref w2, .ref w3, .ref w4, .ref w5, .ref w6, .ref w7, .ref w8, .ref w9, .ref w10, .ref w11, .int (iI hn), .int (iI tn), .ref w14, .ref w15, .ref w16, .int (iI fn)])), (w4, .inl (k 0, 768, .inl (fun i9 : Nat => iI ((uz v4 ro ((v4 ro) + (T 7 i j 0))) i9)))), (w5, .inl (k 0, 768, .inl (fun i9 : Nat => iI ((uz v5 ro (T 7 i j 0)) i9)))), (w9, .inl (k 0, 192, .inl (fun i9 : Nat => iI (v9 i9)))), (w10, .inl (k 0, 6, .inl (fun i9 : Nat => iI ((uz v10 (T 7 i j 2) ro) i9)))), (w14, .inl (k 0, 5, .inl (fun i9 : Nat => iI ((uz v14 (T 7 i j 1) ro) i9)))), (w15, .inl (k 0, 5, .inl (fun i9 : Nat => iI ((uz v15 (T 7 i j 1) ix) i9))))] ++ tl)) (by first | rfl | (rw [e_155])) B
              exact k_vret B hr (⟨(mkQ T Q i j ro ix), (uz v4 ro ((v4 ro) + (T 7 i j 0))), (uz v5 ro (T 7 i j 0)), (uz v10 (T 7 i j 2) ro), (uz v14 (T 7 i j 1) ro), (uz v15 (T 7 i j 1) ix), rfl, ⟨(mk45y hQw (by omega) (by omega)), hQw.2.1, (mk10y hQw (by omega) (by omega)), (mk14y hQw (by omega) (by omega) (by omega)).1, (mk14y hQw (by omega) (by omega) (by omega)).2⟩, (fun x a9 b9 => by first | exact Int.le_add_of_nonneg_right (by omega) | (by_cases e9 : x = ro; (rw [e9, uz_s]; omega); (rw [uz_n e9]; omega))), b_83, b_87, b_145, b_153, b_154, rfl, rfl, rfl, rfl⟩) ⟨Nat.le_of_ble_eq_true rfl, Nat.le_of_ble_eq_true rfl⟩ ⟨Nat.le_of_ble_eq_true rfl, Nat.le_of_ble_eq_true rfl⟩ dX6_markRow_133
            · have zc_152 : (v14 (T 7 i j 1)) ≠ (-1) := jne (a := (v14 (T 7 i j 1))) (b := (-1)) (by omega) (by omega) c_152
              refine lv_iload_n hx hb dX6_markRow_106 rfl (lv_at hl 3 rfl) ?_
              refine lv_aload_n hx hb dX6_markRow_107 rfl (lv_at hl 2 rfl) ?_
              refine x_get (ci := 6) (C := RX6) (T := TX6) (N := 18) (v := .ref w14) B 0 rfl rfl in_X6 14 (by decide) mw_254 (fun _ h9 => h9) rfl dX6_markRow_108 ?_
              refine lv_iload hx hb dX6_markRow_111 (lv_at hl 0 rfl) ?_
              refine x_iald' (f := v14) (z := (T 7 i j 1)) B 5 rfl (by omega) dX6_markRow_113 ?_
              have z_156 : (-1) ≤ (v14 (T 7 i j 1)) ∧ (v14 (T 7 i j 1)) ≤ 767 := hv14 (T 7 i j 1)
              refine lv_icmp_ge (tgt := 133) hx hb dX6_markRow_114 (by decide) (fun c_157 => ?_) (fun c_157 => ?_)
              · have zc_157 : (v14 (T 7 i j 1)) ≤ ro := jle (a := (v14 (T 7 i j 1))) (b := ro) (by omega) (by omega) c_157
                have e_158 : ((mkQ T Q i j ro ix) 0 0) = (Q 0 0) := rfl
                have B := bd_to (ws' := ([(rw, .inr (6, [.int (iI ((mkQ T Q i j ro ix) 0 0)), .ref w1, .ref w2, .ref w3, .ref w4, .ref w5, .ref w6, .ref w7, .ref w8, .ref w9, .ref w10, .ref w11, .int (iI hn), .int (iI tn), .ref w14, .ref w15, .ref w16, .int (iI fn)])), (w4, .inl (k 0, 768, .inl (fun i9 : Nat => iI ((uz v4 ro ((v4 ro) + (T 7 i j 0))) i9)))), (w5, .inl (k 0, 768, .inl (fun i9 : Nat => iI ((uz v5 ro (T 7 i j 0)) i9)))), (w9, .inl (k 0, 192, .inl (fun i9 : Nat => iI (v9 i9)))), (w10, .inl (k 0, 6, .inl (fun i9 : Nat => iI ((uz v10 (T 7 i j 2) ro) i9)))), (w14, .inl (k 0, 5, .inl (fun i9 : Nat => iI (v14 i9)))), (w15, .inl (k 0, 5, .inl (fun i9 : Nat => iI (v15 i9))))] ++ tl)) (by first | rfl | (rw [e_158])) B
                exact k_vret B hr (⟨(mkQ T Q i j ro ix), (uz v4 ro ((v4 ro) + (T 7 i j 0))), (uz v5 ro (T 7 i j 0)), (uz v10 (T 7 i j 2) ro), v14, v15, rfl, ⟨(mk45y hQw (by omega) (by omega)), hQw.2.1, (mk10y hQw (by omega) (by omega)), (mk14n hQw (by omega)).1, (mk14n hQw (by omega)).2⟩, (fun x a9 b9 => by first | exact Int.le_add_of_nonneg_right (by omega) | (by_cases e9 : x = ro; (rw [e9, uz_s]; omega); (rw [uz_n e9]; omega))), b_83, b_87, b_145, hv14, hv15, rfl, rfl, rfl, rfl⟩) ⟨Nat.le_of_ble_eq_true rfl, Nat.le_of_ble_eq_true rfl⟩ ⟨Nat.le_of_ble_eq_true rfl, Nat.le_of_ble_eq_true rfl⟩ dX6_markRow_133
              · have zc_157 : ro < (v14 (T 7 i j 1)) := jnle (a := (v14 (T 7 i j 1))) (b := ro) (by omega) (by omega) c_157
                refine lv_aload_n hx hb dX6_markRow_117 rfl (lv_at hl 2 rfl) ?_
                refine x_get (ci := 6) (C := RX6) (T := TX6) (N := 18) (v := .ref w14) B 0 rfl rfl in_X6 14 (by decide) mw_254 (fun _ h9 => h9) rfl dX6_markRow_118 ?_
                refine lv_iload hx hb dX6_markRow_121 (lv_at hl 0 rfl) ?_
                refine lv_iload_n hx hb dX6_markRow_123 rfl (lv_at hl 3 rfl) ?_
                refine x_iast' (f := v14) (z := (T 7 i j 1)) (v := ro) B 5 rfl (by omega) dX6_markRow_124 (fun H locs B => ?_)
                have b_159 : Bd (-1) 767 (uz v14 (T 7 i j 1) ro) := Bd_uz hv14 (by omega)
                have B := bd_to (ws' := ([(rw, .inr (6, [.int (iI (Q 0 0)), .ref w1, .ref w2, .ref w3, .ref w4, .ref w5, .ref w6, .ref w7, .ref w8, .ref w9, .ref w10, .ref w11, .int (iI hn), .int (iI tn), .ref w14, .ref w15, .ref w16, .int (iI fn)])), (w4, .inl (k 0, 768, .inl (fun i9 : Nat => iI ((uz v4 ro ((v4 ro) + (T 7 i j 0))) i9)))), (w5, .inl (k 0, 768, .inl (fun i9 : Nat => iI ((uz v5 ro (T 7 i j 0)) i9)))), (w9, .inl (k 0, 192, .inl (fun i9 : Nat => iI (v9 i9)))), (w10, .inl (k 0, 6, .inl (fun i9 : Nat => iI ((uz v10 (T 7 i j 2) ro) i9)))), (w14, .inl (k 0, 5, .inl (fun i9 : Nat => iI ((uz v14 (T 7 i j 1) ro) i9)))), (w15, .inl (k 0, 5, .inl (fun i9 : Nat => iI (v15 i9))))] ++ tl)) rfl B
                refine lv_aload_n hx hb dX6_markRow_125 rfl (lv_at hl 2 rfl) ?_
                refine x_get (ci := 6) (C := RX6) (T := TX6) (N := 18) (v := .ref w15) B 0 rfl rfl in_X6 15 (by decide) mw_256 (fun _ h9 => h9) rfl dX6_markRow_126 ?_
                refine lv_iload hx hb dX6_markRow_129 (lv_at hl 0 rfl) ?_
                refine lv_iload_n hx hb dX6_markRow_131 rfl (lv_at hl 4 rfl) ?_
                refine x_iast' (f := v15) (z := (T 7 i j 1)) (v := ix) B 6 rfl (by omega) dX6_markRow_132 (fun H locs B => ?_)
                have b_160 : Bd 0 191 (uz v15 (T 7 i j 1) ix) := Bd_uz hv15 (by omega)
                have B := bd_to (ws' := ([(rw, .inr (6, [.int (iI (Q 0 0)), .ref w1, .ref w2, .ref w3, .ref w4, .ref w5, .ref w6, .ref w7, .ref w8, .ref w9, .ref w10, .ref w11, .int (iI hn), .int (iI tn), .ref w14, .ref w15, .ref w16, .int (iI fn)])), (w4, .inl (k 0, 768, .inl (fun i9 : Nat => iI ((uz v4 ro ((v4 ro) + (T 7 i j 0))) i9)))), (w5, .inl (k 0, 768, .inl (fun i9 : Nat => iI ((uz v5 ro (T 7 i j 0)) i9)))), (w9, .inl (k 0, 192, .inl (fun i9 : Nat => iI (v9 i9)))), (w10, .inl (k 0, 6, .inl (fun i9 : Nat => iI ((uz v10 (T 7 i j 2) ro) i9)))), (w14, .inl (k 0, 5, .inl (fun i9 : Nat => iI ((uz v14 (T 7 i j 1) ro) i9)))), (w15, .inl (k 0, 5, .inl (fun i9 : Nat => iI ((uz v15 (T 7 i j 1) ix) i9))))] ++ tl)) rfl B
                have e_161 : ((mkQ T Q i j ro ix) 0 0) = (Q 0 0) := rfl
                have B := bd_to (ws' := ([(rw, .inr (6, [.int (iI ((mkQ T Q i j ro ix) 0 0)), .ref w1, .ref w2, .ref w3, .ref w4, .ref w5, .ref w6, .ref w7, .ref w8, .ref w9, .ref w10, .ref w11, .int (iI hn), .int (iI tn), .ref w14, .ref w15, .ref w16, .int (iI fn)])), (w4, .inl (k 0, 768, .inl (fun i9 : Nat => iI ((uz v4 ro ((v4 ro) + (T 7 i j 0))) i9)))), (w5, .inl (k 0, 768, .inl (fun i9 : Nat => iI ((uz v5 ro (T 7 i j 0)) i9)))), (w9, .inl (k 0, 192, .inl (fun i9 : Nat => iI (v9 i9)))), (w10, .inl (k 0, 6, .inl (fun i9 : Nat => iI ((uz v10 (T 7 i j 2) ro) i9)))), (w14, .inl (k 0, 5, .inl (fun i9 : Nat => iI ((uz v14 (T 7 i j 1) ro) i9)))), (w15, .inl (k 0, 5, .inl (fun i9 : Nat => iI ((uz v15 (T 7 i j 1) ix) i9))))] ++ tl)) (by first | rfl | (rw [e_161])) B
                exact k_vret B hr (⟨(mkQ T Q i j ro ix), (uz v4 ro ((v4 ro) + (T 7 i j 0))), (uz v5 ro (T 7 i j 0)), (uz v10 (T 7 i j 2) ro), (uz v14 (T 7 i j 1) ro), (uz v15 (T 7 i j 1) ix), rfl, ⟨(mk45y hQw (by omega) (by omega)), hQw.2.1, (mk10y hQw (by omega) (by omega)), (mk14y hQw (by omega) (by omega) (by omega)).1, (mk14y hQw (by omega) (by omega) (by omega)).2⟩, (fun x a9 b9 => by first | exact Int.le_add_of_nonneg_right (by omega) | (by_cases e9 : x = ro; (rw [e9, uz_s]; omega); (rw [uz_n e9]; omega))), b_83, b_87, b_145, b_159, b_160, rfl, rfl, rfl, rfl⟩) ⟨Nat.le_of_ble_eq_true rfl, Nat.le_of_ble_eq_true rfl⟩ ⟨Nat.le_of_ble_eq_true rfl, Nat.le_of_ble_eq_true rfl⟩ dX6_markRow_133

end
