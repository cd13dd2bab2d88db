section
/-- two presses -/
def P2 (dI : Nat → Nat → Nat) (k : Nat → ClassId) (T : Nat → Int → Int → Int → Int) (K : Nat → Int → Int) (qa cp : Nat) (Tb : Nat → Int → Int → Int → Int) (Kb : Nat → Int → Int) (qb cq : Nat) (tl : va_W) : Prop := ∃ t1 t2 : va_W, tl.Perm (t1 ++ t2) ∧ PS dI k T K qa cp t1 ∧ PS dI k Tb Kb qb cq t2
section P2S
variable {dI : Nat → Nat → Nat} {k : Nat → ClassId} {T Tb : Nat → Int → Int → Int → Int} {K Kb : Nat → Int → Int} {qa qb cp cq : Nat} {tl : va_W}
theorem P2_go1 (h : P2 dI k T K qa cp Tb Kb qb cq tl) : ∃ fs : List Value, ((qa, .inr (11, fs)) : Nat × va_E) ∈ tl := by
  obtain ⟨t1, t2, hp, h1, h2⟩ := h
  obtain ⟨fs, hf⟩ := PS_go h1
  exact ⟨fs, hp.mem_iff.mpr (List.mem_append_left _ hf)⟩
theorem P2_go2 (h : P2 dI k T K qa cp Tb Kb qb cq tl) : ∃ fs : List Value, ((qb, .inr (11, fs)) : Nat × va_E) ∈ tl := by
  obtain ⟨t1, t2, hp, h1, h2⟩ := h
  obtain ⟨fs, hf⟩ := PS_go h2
  exact ⟨fs, hp.mem_iff.mpr (List.mem_append_right _ hf)⟩
theorem P2_cp (h : P2 dI k T K qa cp Tb Kb qb cq tl) : (512 ≤ cp ∧ cp ≤ 131072) ∧ 512 ≤ cq ∧ cq ≤ 131072 := by
  obtain ⟨t1, t2, hp, h1, h2⟩ := h
  exact ⟨PS_cp h1, PS_cp h2⟩
end P2S

theorem cmpZ_s {a : Int} : cmpZ a a = 0 := by unfold cmpZ; rw [if_neg (by omega), if_pos rfl]

theorem two_l (a b d : va_W) : (b ++ (a ++ d)).Perm (a ++ (d ++ b)) := by
  rw [← List.append_assoc a d b]
  exact List.perm_append_comm
theorem two_r (a b d : va_W) : (b ++ (a ++ d)).Perm (a ++ (b ++ d)) := by
  rw [← List.append_assoc, ← List.append_assoc]
  exact List.Perm.append_right _ List.perm_append_comm

def v_pages (T : Nat → Int → Int → Int → Int) (v : Int) : Int := if (0 ≤ v ∧ v ≤ 1) then ((mkZ T (moC T v (dgN T v))) 0 0) else (-2000000001)
theorem f_pages (l : Launch) (dC : Nat → ClassId) (dI : Nat → Nat → Nat) (k : Nat → ClassId) (hl0 : l.stackTraces = false) (T : Nat → Int → Int → Int → Int) (K : Nat → Int → Int) (qa : Nat) (cp : Nat) (tl : va_W) (v : Int) (hPS : PS dI k T K qa cp tl) (hQ : OKT T K) (hrv : -2147483648 ≤ v ∧ v < 2147483648) : Kn l dC dI k yL_pages (.codeWith yL_pages cL_pages 3 (some .int) [(0, 5, 6, 13)]) ({ frames := 10, cells := (131072 - cp + 1), slots := (12 * (131072 - cp) + 6), locals := 226 } : Room) [.ref qa, .int (iI v)] ([] ++ tl) (fun r w gc gs => (∃ (cp2 : Nat) (tl2 : va_W), (PS dI k T K qa cp2 tl2) ∧ (cp ≤ cp2 ∧ cp2 ≤ 131072) ∧ r = some (.int (iI (v_pages T v))) ∧ w = ([] ++ tl2) ∧ gc = (cp2 - cp + 1) ∧ gs = (12 * (cp2 - cp) + 6))) := by
  have K0 := w_pages l dC dI k hl0 T K qa cp tl v hPS hQ hrv
  refine kn_post K0 ?_
  rintro r w gc gs (⟨cp2, tl2, q0, q1, q2, hr, hw, hgc, hgs⟩ | ⟨cp2, tl2, q0, q1, q2, hr, hw, hgc, hgs⟩)
  · exact ⟨w, List.Perm.refl _, cp2, tl2, q0, q1, by rw [hr]; unfold v_pages; rw [if_pos q2], hw, hgc, hgs⟩
  · exact ⟨w, List.Perm.refl _, cp2, tl2, q0, q1, by rw [hr]; unfold v_pages; rw [if_neg q2], hw, hgc, hgs⟩

def v_cost (T : Nat → Int → Int → Int → Int) (v : Int) : Int := if (0 ≤ v ∧ v ≤ 1) then ((mkZ T (moC T v (dgN T v))) 0 1) else (-2000000001)
theorem f_cost (l : Launch) (dC : Nat → ClassId) (dI : Nat → Nat → Nat) (k : Nat → ClassId) (hl0 : l.stackTraces = false) (T : Nat → Int → Int → Int → Int) (K : Nat → Int → Int) (qa : Nat) (cp : Nat) (tl : va_W) (v : Int) (hPS : PS dI k T K qa cp tl) (hQ : OKT T K) (hrv : -2147483648 ≤ v ∧ v < 2147483648) : Kn l dC dI k yL_cost (.codeWith yL_cost cL_cost 3 (some .int) [(0, 5, 6, 13)]) ({ frames := 10, cells := (131072 - cp + 1), slots := (12 * (131072 - cp) + 6), locals := 226 } : Room) [.ref qa, .int (iI v)] ([] ++ tl) (fun r w gc gs => (∃ (cp2 : Nat) (tl2 : va_W), (PS dI k T K qa cp2 tl2) ∧ (cp ≤ cp2 ∧ cp2 ≤ 131072) ∧ r = some (.int (iI (v_cost T v))) ∧ w = ([] ++ tl2) ∧ gc = (cp2 - cp + 1) ∧ gs = (12 * (cp2 - cp) + 6))) := by
  have K0 := w_cost l dC dI k hl0 T K qa cp tl v hPS hQ hrv
  refine kn_post K0 ?_
  rintro r w gc gs (⟨cp2, tl2, q0, q1, q2, hr, hw, hgc, hgs⟩ | ⟨cp2, tl2, q0, q1, q2, hr, hw, hgc, hgs⟩)
  · exact ⟨w, List.Perm.refl _, cp2, tl2, q0, q1, by rw [hr]; unfold v_cost; rw [if_pos q2], hw, hgc, hgs⟩
  · exact ⟨w, List.Perm.refl _, cp2, tl2, q0, q1, by rw [hr]; unfold v_cost; rw [if_neg q2], hw, hgc, hgs⟩

def v_rounds (T : Nat → Int → Int → Int → Int) (v : Int) : Int := if (0 ≤ v ∧ v ≤ 1) then (rnN T v) else (-2000000001)
theorem f_rounds (l : Launch) (dC : Nat → ClassId) (dI : Nat → Nat → Nat) (k : Nat → ClassId) (hl0 : l.stackTraces = false) (T : Nat → Int → Int → Int → Int) (K : Nat → Int → Int) (qa : Nat) (cp : Nat) (tl : va_W) (v : Int) (hPS : PS dI k T K qa cp tl) (hQ : OKT T K) (hrv : -2147483648 ≤ v ∧ v < 2147483648) : Kn l dC dI k yL_rounds (.codeWith yL_rounds cL_rounds 3 (some .int) [(0, 5, 6, 13)]) ({ frames := 10, cells := (131072 - cp + 1), slots := (12 * (131072 - cp) + 6), locals := 226 } : Room) [.ref qa, .int (iI v)] ([] ++ tl) (fun r w gc gs => (∃ (cp2 : Nat) (tl2 : va_W), (PS dI k T K qa cp2 tl2) ∧ (cp ≤ cp2 ∧ cp2 ≤ 131072) ∧ r = some (.int (iI (v_rounds T v))) ∧ w = ([] ++ tl2) ∧ gc = (cp2 - cp + 1) ∧ gs = (12 * (cp2 - cp) + 6))) := by
  have K0 := w_rounds l dC dI k hl0 T K qa cp tl v hPS hQ hrv
  refine kn_post K0 ?_
  rintro r w gc gs (⟨cp2, tl2, q0, q1, q2, hr, hw, hgc, hgs⟩ | ⟨cp2, tl2, q0, q1, q2, hr, hw, hgc, hgs⟩)
  · exact ⟨w, List.Perm.refl _, cp2, tl2, q0, q1, by rw [hr]; unfold v_rounds; rw [if_pos q2], hw, hgc, hgs⟩
  · exact ⟨w, List.Perm.refl _, cp2, tl2, q0, q1, by rw [hr]; unfold v_rounds; rw [if_neg q2], hw, hgc, hgs⟩

def v_settled (T : Nat → Int → Int → Int → Int) (v : Int) : Int := if (0 ≤ v ∧ v ≤ 1) then (stN T v) else (-2000000001)
theorem f_settled (l : Launch) (dC : Nat → ClassId) (dI : Nat → Nat → Nat) (k : Nat → ClassId) (hl0 : l.stackTraces = false) (T : Nat → Int → Int → Int → Int) (K : Nat → Int → Int) (qa : Nat) (cp : Nat) (tl : va_W) (v : Int) (hPS : PS dI k T K qa cp tl) (hQ : OKT T K) (hrv : -2147483648 ≤ v ∧ v < 2147483648) : Kn l dC dI k yL_settled (.codeWith yL_settled cL_settled 3 (some .int) [(0, 13, 14, 13)]) ({ frames := 10, cells := (131072 - cp + 1), slots := (12 * (131072 - cp) + 6), locals := 226 } : Room) [.ref qa, .int (iI v)] ([] ++ tl) (fun r w gc gs => (∃ (cp2 : Nat) (tl2 : va_W), (PS dI k T K qa cp2 tl2) ∧ (cp ≤ cp2 ∧ cp2 ≤ 131072) ∧ r = some (.int (iI (v_settled T v))) ∧ w = ([] ++ tl2) ∧ gc = (cp2 - cp + 1) ∧ gs = (12 * (cp2 - cp) + 6))) := by
  have K0 := w_settled l dC dI k hl0 T K qa cp tl v hPS hQ hrv
  refine kn_post K0 ?_
  rintro r w gc gs (⟨cp2, tl2, q0, q1, q2, hr, hw, hgc, hgs⟩ | ⟨cp2, tl2, q0, q1, q2, hr, hw, hgc, hgs⟩)
  · exact ⟨w, List.Perm.refl _, cp2, tl2, q0, q1, by rw [hr]; unfold v_settled; rw [if_pos q2], hw, hgc, hgs⟩
  · exact ⟨w, List.Perm.refl _, cp2, tl2, q0, q1, by rw [hr]; unfold v_settled; rw [if_neg q2], hw, hgc, hgs⟩

def v_label (T : Nat → Int → Int → Int → Int) (v b_ : Int) : Int := if (0 ≤ v ∧ v ≤ 1) ∧ (0 ≤ b_ ∧ b_ ≤ 5) then (lbZ (moC T v (dgN T v)) (mkZ T (moC T v (dgN T v))) b_) else (-2000000001)
theorem f_label (l : Launch) (dC : Nat → ClassId) (dI : Nat → Nat → Nat) (k : Nat → ClassId) (hl0 : l.stackTraces = false) (T : Nat → Int → Int → Int → Int) (K : Nat → Int → Int) (qa : Nat) (cp : Nat) (tl : va_W) (v : Int) (b_ : Int) (hPS : PS dI k T K qa cp tl) (hQ : OKT T K) (hrv : -2147483648 ≤ v ∧ v < 2147483648) (hrb_ : -2147483648 ≤ b_ ∧ b_ < 2147483648) : Kn l dC dI k yL_label (.codeWith yL_label cL_label 4 (some .int) [(0, 6, 7, 13)]) ({ frames := 10, cells := (131072 - cp + 1), slots := (12 * (131072 - cp) + 6), locals := 227 } : Room) [.ref qa, .int (iI v), .int (iI b_)] ([] ++ tl) (fun r w gc gs => (∃ (cp2 : Nat) (tl2 : va_W), (PS dI k T K qa cp2 tl2) ∧ (cp ≤ cp2 ∧ cp2 ≤ 131072) ∧ r = some (.int (iI (v_label T v b_))) ∧ w = ([] ++ tl2) ∧ gc = (cp2 - cp + 1) ∧ gs = (12 * (cp2 - cp) + 6))) := by
  have K0 := w_label l dC dI k hl0 T K qa cp tl v b_ hPS hQ hrv hrb_
  refine kn_post K0 ?_
  rintro r w gc gs (⟨cp2, tl2, q0, q1, q2, hr, hw, hgc, hgs⟩ | ⟨cp2, tl2, q0, q1, q2, hr, hw, hgc, hgs⟩)
  · exact ⟨w, List.Perm.refl _, cp2, tl2, q0, q1, by rw [hr]; unfold v_label; rw [if_pos q2], hw, hgc, hgs⟩
  · exact ⟨w, List.Perm.refl _, cp2, tl2, q0, q1, by rw [hr]; unfold v_label; rw [if_neg q2], hw, hgc, hgs⟩

def v_term (T : Nat → Int → Int → Int → Int) (v ix : Int) : Int := if (0 ≤ v ∧ v ≤ 1) ∧ tmF T (moC T v (dgN T v)) ix 8 0 ≠ -1 then (tmF T (moC T v (dgN T v)) ix 8 0) else (-2000000001)
theorem f_term (l : Launch) (dC : Nat → ClassId) (dI : Nat → Nat → Nat) (k : Nat → ClassId) (hl0 : l.stackTraces = false) (T : Nat → Int → Int → Int → Int) (K : Nat → Int → Int) (qa : Nat) (cp : Nat) (tl : va_W) (v : Int) (ix : Int) (hPS : PS dI k T K qa cp tl) (hQ : OKT T K) (hrv : -2147483648 ≤ v ∧ v < 2147483648) (hrix : -2147483648 ≤ ix ∧ ix < 2147483648) : Kn l dC dI k yL_term (.codeWith yL_term cL_term 4 (some .int) [(0, 6, 7, 13)]) ({ frames := 10, cells := (131072 - cp + 1), slots := (12 * (131072 - cp) + 6), locals := 228 } : Room) [.ref qa, .int (iI v), .int (iI ix)] ([] ++ tl) (fun r w gc gs => (∃ (cp2 : Nat) (tl2 : va_W), (PS dI k T K qa cp2 tl2) ∧ (cp ≤ cp2 ∧ cp2 ≤ 131072) ∧ r = some (.int (iI (v_term T v ix))) ∧ w = ([] ++ tl2) ∧ gc = (cp2 - cp + 1) ∧ gs = (12 * (cp2 - cp) + 6))) := by
  have K0 := w_term l dC dI k hl0 T K qa cp tl v ix hPS hQ hrv hrix
  refine kn_post K0 ?_
  rintro r w gc gs (⟨cp2, tl2, q0, q1, q2, hr, hw, hgc, hgs⟩ | ⟨cp2, tl2, q0, q1, q2, hr, hw, hgc, hgs⟩)
  · exact ⟨w, List.Perm.refl _, cp2, tl2, q0, q1, by rw [hr]; unfold v_term; rw [if_pos q2], hw, hgc, hgs⟩
  · exact ⟨w, List.Perm.refl _, cp2, tl2, q0, q1, by rw [hr]; unfold v_term; rw [if_neg q2], hw, hgc, hgs⟩

def v_range (T : Nat → Int → Int → Int → Int) (v t ix : Int) : Int := if (0 ≤ v ∧ v ≤ 1) ∧ (0 ≤ t ∧ t ≤ 7) ∧ rgZ (fpZ T (moC T v (dgN T v)) (mkZ T (moC T v (dgN T v))) t) ix ((mkZ T (moC T v (dgN T v))) 0 0) ≠ -1 then (rgZ (fpZ T (moC T v (dgN T v)) (mkZ T (moC T v (dgN T v))) t) ix ((mkZ T (moC T v (dgN T v))) 0 0)) else (-2000000001)
theorem f_range (l : Launch) (dC : Nat → ClassId) (dI : Nat → Nat → Nat) (k : Nat → ClassId) (hl0 : l.stackTraces = false) (T : Nat → Int → Int → Int → Int) (K : Nat → Int → Int) (qa : Nat) (cp : Nat) (tl : va_W) (v : Int) (t : Int) (ix : Int) (hPS : PS dI k T K qa cp tl) (hQ : OKT T K) (hrv : -2147483648 ≤ v ∧ v < 2147483648) (hrt : -2147483648 ≤ t ∧ t < 2147483648) (hrix : -2147483648 ≤ ix ∧ ix < 2147483648) : Kn l dC dI k yL_range (.codeWith yL_range cL_range 5 (some .int) [(0, 7, 8, 13)]) ({ frames := 10, cells := (131072 - cp + 1), slots := (12 * (131072 - cp) + 6), locals := 229 } : Room) [.ref qa, .int (iI v), .int (iI t), .int (iI ix)] ([] ++ tl) (fun r w gc gs => (∃ (cp2 : Nat) (tl2 : va_W), (PS dI k T K qa cp2 tl2) ∧ (cp ≤ cp2 ∧ cp2 ≤ 131072) ∧ r = some (.int (iI (v_range T v t ix))) ∧ w = ([] ++ tl2) ∧ gc = (cp2 - cp + 1) ∧ gs = (12 * (cp2 - cp) + 6))) := by
  have K0 := w_range l dC dI k hl0 T K qa cp tl v t ix hPS hQ hrv hrt hrix
  refine kn_post K0 ?_
  rintro r w gc gs (⟨cp2, tl2, q0, q1, q2, hr, hw, hgc, hgs⟩ | ⟨cp2, tl2, q0, q1, q2, hr, hw, hgc, hgs⟩)
  · exact ⟨w, List.Perm.refl _, cp2, tl2, q0, q1, by rw [hr]; unfold v_range; rw [if_pos q2], hw, hgc, hgs⟩
  · exact ⟨w, List.Perm.refl _, cp2, tl2, q0, q1, by rw [hr]; unfold v_range; rw [if_neg q2], hw, hgc, hgs⟩

def v_figureAt (T : Nat → Int → Int → Int → Int) (v fi : Int) : Int := if (0 ≤ v ∧ v ≤ 1) ∧ (0 ≤ fi ∧ fi < T 12 0 0 0) then ((mkZ T (moC T v (dgN T v))) 6 fi) else (-2000000001)
theorem f_figureAt (l : Launch) (dC : Nat → ClassId) (dI : Nat → Nat → Nat) (k : Nat → ClassId) (hl0 : l.stackTraces = false) (T : Nat → Int → Int → Int → Int) (K : Nat → Int → Int) (qa : Nat) (cp : Nat) (tl : va_W) (v : Int) (fi : Int) (hPS : PS dI k T K qa cp tl) (hQ : OKT T K) (hrv : -2147483648 ≤ v ∧ v < 2147483648) (hrfi : -2147483648 ≤ fi ∧ fi < 2147483648) : Kn l dC dI k yL_figureAt (.codeWith yL_figureAt cL_figureAt 4 (some .int) [(0, 6, 7, 13)]) ({ frames := 10, cells := (131072 - cp + 1), slots := (12 * (131072 - cp) + 6), locals := 227 } : Room) [.ref qa, .int (iI v), .int (iI fi)] ([] ++ tl) (fun r w gc gs => (∃ (cp2 : Nat) (tl2 : va_W), (PS dI k T K qa cp2 tl2) ∧ (cp ≤ cp2 ∧ cp2 ≤ 131072) ∧ r = some (.int (iI (v_figureAt T v fi))) ∧ w = ([] ++ tl2) ∧ gc = (cp2 - cp + 1) ∧ gs = (12 * (cp2 - cp) + 6))) := by
  have K0 := w_figureAt l dC dI k hl0 T K qa cp tl v fi hPS hQ hrv hrfi
  refine kn_post K0 ?_
  rintro r w gc gs (⟨cp2, tl2, q0, q1, q2, hr, hw, hgc, hgs⟩ | ⟨cp2, tl2, q0, q1, q2, hr, hw, hgc, hgs⟩)
  · exact ⟨w, List.Perm.refl _, cp2, tl2, q0, q1, by rw [hr]; unfold v_figureAt; rw [if_pos q2], hw, hgc, hgs⟩
  · exact ⟨w, List.Perm.refl _, cp2, tl2, q0, q1, by rw [hr]; unfold v_figureAt; rw [if_neg q2], hw, hgc, hgs⟩

def v_contents (T : Nat → Int → Int → Int → Int) (v ix : Int) : Int := if (0 ≤ v ∧ v ≤ 1) ∧ haZ T v ix ≠ -1 then (coZ T v ix) else (-2000000001)
theorem f_contents (l : Launch) (dC : Nat → ClassId) (dI : Nat → Nat → Nat) (k : Nat → ClassId) (hl0 : l.stackTraces = false) (T : Nat → Int → Int → Int → Int) (K : Nat → Int → Int) (qa : Nat) (cp : Nat) (tl : va_W) (v : Int) (ix : Int) (hPS : PS dI k T K qa cp tl) (hQ : OKT T K) (hrv : -2147483648 ≤ v ∧ v < 2147483648) (hrix : -2147483648 ≤ ix ∧ ix < 2147483648) : Kn l dC dI k yL_contents (.codeWith yL_contents cL_contents 4 (some .int) [(0, 6, 7, 13)]) ({ frames := 10, cells := (131072 - cp + 1), slots := (12 * (131072 - cp) + 6), locals := 229 } : Room) [.ref qa, .int (iI v), .int (iI ix)] ([] ++ tl) (fun r w gc gs => (∃ (cp2 : Nat) (tl2 : va_W), (PS dI k T K qa cp2 tl2) ∧ (cp ≤ cp2 ∧ cp2 ≤ 131072) ∧ r = some (.int (iI (v_contents T v ix))) ∧ w = ([] ++ tl2) ∧ gc = (cp2 - cp + 1) ∧ gs = (12 * (cp2 - cp) + 6))) := by
  have K0 := w_contents l dC dI k hl0 T K qa cp tl v ix hPS hQ hrv hrix
  refine kn_post K0 ?_
  rintro r w gc gs (⟨cp2, tl2, q0, q1, q2, hr, hw, hgc, hgs⟩ | ⟨cp2, tl2, q0, q1, q2, hr, hw, hgc, hgs⟩)
  · exact ⟨w, List.Perm.refl _, cp2, tl2, q0, q1, by rw [hr]; unfold v_contents; rw [if_pos q2], hw, hgc, hgs⟩
  · exact ⟨w, List.Perm.refl _, cp2, tl2, q0, q1, by rw [hr]; unfold v_contents; rw [if_neg q2], hw, hgc, hgs⟩

def v_count (T : Nat → Int → Int → Int → Int) (pl : Int) : Int := if 0 ≤ pl ∧ pl < T 0 0 0 0 then (T 3 pl 0 0) else (-2000000001)
theorem f_count (l : Launch) (dC : Nat → ClassId) (dI : Nat → Nat → Nat) (k : Nat → ClassId) (hl0 : l.stackTraces = false) (T : Nat → Int → Int → Int → Int) (K : Nat → Int → Int) (qa : Nat) (cp : Nat) (tl : va_W) (pl : Int) (hPS : PS dI k T K qa cp tl) (hQ : OKT T K) (hrpl : -2147483648 ≤ pl ∧ pl < 2147483648) : Kn l dC dI k yL_count (.codeWith yL_count cL_count 3 (some .int) [(0, 5, 6, 13)]) ({ frames := 9, cells := (131072 - cp + 1), slots := (12 * (131072 - cp) + 6), locals := 145 } : Room) [.ref qa, .int (iI pl)] ([] ++ tl) (fun r w gc gs => (∃ (cp2 : Nat) (tl2 : va_W), (PS dI k T K qa cp2 tl2) ∧ (cp ≤ cp2 ∧ cp2 ≤ 131072) ∧ r = some (.int (iI (v_count T pl))) ∧ w = ([] ++ tl2) ∧ gc = (cp2 - cp + 1) ∧ gs = (12 * (cp2 - cp) + 6))) := by
  have K0 := w_count l dC dI k hl0 T K qa cp tl pl hPS hQ hrpl
  refine kn_post K0 ?_
  rintro r w gc gs (⟨cp2, tl2, q0, q1, q2, hr, hw, hgc, hgs⟩ | ⟨cp2, tl2, q0, q1, q2, hr, hw, hgc, hgs⟩)
  · exact ⟨w, List.Perm.refl _, cp2, tl2, q0, q1, by rw [hr]; unfold v_count; rw [if_pos q2], hw, hgc, hgs⟩
  · exact ⟨w, List.Perm.refl _, cp2, tl2, q0, q1, by rw [hr]; unfold v_count; rw [if_neg q2], hw, hgc, hgs⟩

def v_lines (T : Nat → Int → Int → Int → Int) (v pl : Int) : Int := if (0 ≤ v ∧ v ≤ 1) ∧ 0 ≤ pl ∧ pl < T 0 0 0 0 then (LCz T v (dgN T v) pl) else (-2000000001)
theorem f_lines (l : Launch) (dC : Nat → ClassId) (dI : Nat → Nat → Nat) (k : Nat → ClassId) (hl0 : l.stackTraces = false) (T : Nat → Int → Int → Int → Int) (K : Nat → Int → Int) (qa : Nat) (cp : Nat) (tl : va_W) (v : Int) (pl : Int) (hPS : PS dI k T K qa cp tl) (hQ : OKT T K) (hrv : -2147483648 ≤ v ∧ v < 2147483648) (hrpl : -2147483648 ≤ pl ∧ pl < 2147483648) : Kn l dC dI k yL_lines (.codeWith yL_lines cL_lines 4 (some .int) [(0, 6, 7, 13)]) ({ frames := 10, cells := (131072 - cp + 1), slots := (12 * (131072 - cp) + 6), locals := 227 } : Room) [.ref qa, .int (iI v), .int (iI pl)] ([] ++ tl) (fun r w gc gs => (∃ (cp2 : Nat) (tl2 : va_W), (PS dI k T K qa cp2 tl2) ∧ (cp ≤ cp2 ∧ cp2 ≤ 131072) ∧ r = some (.int (iI (v_lines T v pl))) ∧ w = ([] ++ tl2) ∧ gc = (cp2 - cp + 1) ∧ gs = (12 * (cp2 - cp) + 6))) := by
  have K0 := w_lines l dC dI k hl0 T K qa cp tl v pl hPS hQ hrv hrpl
  refine kn_post K0 ?_
  rintro r w gc gs (⟨cp2, tl2, q0, q1, q2, hr, hw, hgc, hgs⟩ | ⟨cp2, tl2, q0, q1, q2, hr, hw, hgc, hgs⟩)
  · exact ⟨w, List.Perm.refl _, cp2, tl2, q0, q1, by rw [hr]; unfold v_lines; rw [if_pos q2], hw, hgc, hgs⟩
  · exact ⟨w, List.Perm.refl _, cp2, tl2, q0, q1, by rw [hr]; unfold v_lines; rw [if_neg q2], hw, hgc, hgs⟩

def v_demerits (T : Nat → Int → Int → Int → Int) (v pl : Int) : Int := if (0 ≤ v ∧ v ≤ 1) ∧ 0 ≤ pl ∧ pl < T 0 0 0 0 then (LDz T v (dgN T v) pl) else (-2000000001)
theorem f_demerits (l : Launch) (dC : Nat → ClassId) (dI : Nat → Nat → Nat) (k : Nat → ClassId) (hl0 : l.stackTraces = false) (T : Nat → Int → Int → Int → Int) (K : Nat → Int → Int) (qa : Nat) (cp : Nat) (tl : va_W) (v : Int) (pl : Int) (hPS : PS dI k T K qa cp tl) (hQ : OKT T K) (hrv : -2147483648 ≤ v ∧ v < 2147483648) (hrpl : -2147483648 ≤ pl ∧ pl < 2147483648) : Kn l dC dI k yL_demerits (.codeWith yL_demerits cL_demerits 4 (some .long) [(0, 6, 7, 13)]) ({ frames := 10, cells := (131072 - cp + 1), slots := (12 * (131072 - cp) + 6), locals := 227 } : Room) [.ref qa, .int (iI v), .int (iI pl)] ([] ++ tl) (fun r w gc gs => (∃ (cp2 : Nat) (tl2 : va_W), (PS dI k T K qa cp2 tl2) ∧ (cp ≤ cp2 ∧ cp2 ≤ 131072) ∧ r = some (.long (lI (v_demerits T v pl))) ∧ w = ([] ++ tl2) ∧ gc = (cp2 - cp + 1) ∧ gs = (12 * (cp2 - cp) + 6))) := by
  have K0 := w_demerits l dC dI k hl0 T K qa cp tl v pl hPS hQ hrv hrpl
  refine kn_post K0 ?_
  rintro r w gc gs (⟨cp2, tl2, q0, q1, q2, hr, hw, hgc, hgs⟩ | ⟨cp2, tl2, q0, q1, q2, hr, hw, hgc, hgs⟩)
  · exact ⟨w, List.Perm.refl _, cp2, tl2, q0, q1, by rw [hr]; unfold v_demerits; rw [if_pos q2], hw, hgc, hgs⟩
  · exact ⟨w, List.Perm.refl _, cp2, tl2, q0, q1, by rw [hr]; unfold v_demerits; rw [if_neg q2], hw, hgc, hgs⟩

def v_number (T : Nat → Int → Int → Int → Int) (v pl : Int) : Int := if (0 ≤ v ∧ v ≤ 1) ∧ (0 ≤ pl ∧ pl < T 0 0 0 0) then (nuZ T v pl) else (-2000000001)
theorem f_number (l : Launch) (dC : Nat → ClassId) (dI : Nat → Nat → Nat) (k : Nat → ClassId) (hl0 : l.stackTraces = false) (T : Nat → Int → Int → Int → Int) (K : Nat → Int → Int) (qa : Nat) (cp : Nat) (tl : va_W) (v : Int) (pl : Int) (hPS : PS dI k T K qa cp tl) (hQ : OKT T K) (hrv : -2147483648 ≤ v ∧ v < 2147483648) (hrpl : -2147483648 ≤ pl ∧ pl < 2147483648) : Kn l dC dI k yL_number (.codeWith yL_number cL_number 4 (some .int) [(0, 6, 7, 13)]) ({ frames := 9, cells := (131072 - cp + 1), slots := (12 * (131072 - cp) + 6), locals := 147 } : Room) [.ref qa, .int (iI v), .int (iI pl)] ([] ++ tl) (fun r w gc gs => (∃ (cp2 : Nat) (tl2 : va_W), (PS dI k T K qa cp2 tl2) ∧ (cp ≤ cp2 ∧ cp2 ≤ 131072) ∧ r = some (.int (iI (v_number T v pl))) ∧ w = ([] ++ tl2) ∧ gc = (cp2 - cp + 1) ∧ gs = (12 * (cp2 - cp) + 6))) := by
  have K0 := w_number l dC dI k hl0 T K qa cp tl v pl hPS hQ hrv hrpl
  refine kn_post K0 ?_
  rintro r w gc gs (⟨cp2, tl2, q0, q1, q2, hr, hw, hgc, hgs⟩ | ⟨cp2, tl2, q0, q1, q2, hr, hw, hgc, hgs⟩)
  · exact ⟨w, List.Perm.refl _, cp2, tl2, q0, q1, by rw [hr]; unfold v_number; rw [if_pos q2], hw, hgc, hgs⟩
  · exact ⟨w, List.Perm.refl _, cp2, tl2, q0, q1, by rw [hr]; unfold v_number; rw [if_neg q2], hw, hgc, hgs⟩

def v_wide (T : Nat → Int → Int → Int → Int) (pl cc : Int) : Int := if ((0 ≤ pl ∧ pl < T 0 0 0 0) ∧ T 1 pl 0 0 = 3) ∧ 0 ≤ cc ∧ cc < (ccZ (fun j9 : Int => T 9 pl j9 0) 12) then ((fitZ (msW (fun j9 : Int => T 9 pl j9 0) (fun j9 : Int => T 10 pl j9 0) 3) (msW (fun j9 : Int => T 9 pl j9 0) (fun j9 : Int => T 11 pl j9 0) 3) (T 16 0 0 0)) cc) else (-2000000001)
theorem f_wide (l : Launch) (dC : Nat → ClassId) (dI : Nat → Nat → Nat) (k : Nat → ClassId) (hl0 : l.stackTraces = false) (T : Nat → Int → Int → Int → Int) (K : Nat → Int → Int) (qa : Nat) (cp : Nat) (tl : va_W) (pl : Int) (cc : Int) (hPS : PS dI k T K qa cp tl) (hQ : OKT T K) (hrpl : -2147483648 ≤ pl ∧ pl < 2147483648) (hrcc : -2147483648 ≤ cc ∧ cc < 2147483648) : Kn l dC dI k yL_wide (.codeWith yL_wide cL_wide 4 (some .int) [(0, 6, 7, 13)]) ({ frames := 10, cells := (131072 - cp + 1), slots := (12 * (131072 - cp) + 6), locals := 169 } : Room) [.ref qa, .int (iI pl), .int (iI cc)] ([] ++ tl) (fun r w gc gs => (∃ (cp2 : Nat) (tl2 : va_W), (PS dI k T K qa cp2 tl2) ∧ (cp ≤ cp2 ∧ cp2 ≤ 131072) ∧ r = some (.int (iI (v_wide T pl cc))) ∧ w = ([] ++ tl2) ∧ gc = (cp2 - cp + 1) ∧ gs = (12 * (cp2 - cp) + 6))) := by
  have K0 := w_wide l dC dI k hl0 T K qa cp tl pl cc hPS hQ hrpl hrcc
  refine kn_post K0 ?_
  rintro r w gc gs (⟨cp2, tl2, q0, q1, q2, hr, hw, hgc, hgs⟩ | ⟨cp2, tl2, q0, q1, q2, hr, hw, hgc, hgs⟩)
  · exact ⟨w, List.Perm.refl _, cp2, tl2, q0, q1, by rw [hr]; unfold v_wide; rw [if_pos q2], hw, hgc, hgs⟩
  · exact ⟨w, List.Perm.refl _, cp2, tl2, q0, q1, by rw [hr]; unfold v_wide; rw [if_neg q2], hw, hgc, hgs⟩

def v_high (T : Nat → Int → Int → Int → Int) (pl ro : Int) : Int := if ((0 ≤ pl ∧ pl < T 0 0 0 0) ∧ T 1 pl 0 0 = 3) ∧ 0 ≤ ro ∧ ro < rcT T pl then (htT T pl ro) else (-2000000001)
theorem f_high (l : Launch) (dC : Nat → ClassId) (dI : Nat → Nat → Nat) (k : Nat → ClassId) (hl0 : l.stackTraces = false) (T : Nat → Int → Int → Int → Int) (K : Nat → Int → Int) (qa : Nat) (cp : Nat) (tl : va_W) (pl : Int) (ro : Int) (hPS : PS dI k T K qa cp tl) (hQ : OKT T K) (hrpl : -2147483648 ≤ pl ∧ pl < 2147483648) (hrro : -2147483648 ≤ ro ∧ ro < 2147483648) : Kn l dC dI k yL_high (.codeWith yL_high cL_high 4 (some .int) [(0, 6, 7, 13)]) ({ frames := 10, cells := (131072 - cp + 1), slots := (12 * (131072 - cp) + 6), locals := 169 } : Room) [.ref qa, .int (iI pl), .int (iI ro)] ([] ++ tl) (fun r w gc gs => (∃ (cp2 : Nat) (tl2 : va_W), (PS dI k T K qa cp2 tl2) ∧ (cp ≤ cp2 ∧ cp2 ≤ 131072) ∧ r = some (.int (iI (v_high T pl ro))) ∧ w = ([] ++ tl2) ∧ gc = (cp2 - cp + 1) ∧ gs = (12 * (cp2 - cp) + 6))) := by
  have K0 := w_high l dC dI k hl0 T K qa cp tl pl ro hPS hQ hrpl hrro
  refine kn_post K0 ?_
  rintro r w gc gs (⟨cp2, tl2, q0, q1, q2, hr, hw, hgc, hgs⟩ | ⟨cp2, tl2, q0, q1, q2, hr, hw, hgc, hgs⟩)
  · exact ⟨w, List.Perm.refl _, cp2, tl2, q0, q1, by rw [hr]; unfold v_high; rw [if_pos q2], hw, hgc, hgs⟩
  · exact ⟨w, List.Perm.refl _, cp2, tl2, q0, q1, by rw [hr]; unfold v_high; rw [if_neg q2], hw, hgc, hgs⟩

def v_whereIs (T : Nat → Int → Int → Int → Int) (v pl at_ : Int) : Int := if (0 ≤ v ∧ v ≤ 1) ∧ (0 ≤ pl ∧ pl < T 0 0 0 0) ∧ (0 ≤ at_ ∧ at_ < T 3 pl 0 0) then (whZ T v pl at_) else (-2000000001)
theorem f_whereIs (l : Launch) (dC : Nat → ClassId) (dI : Nat → Nat → Nat) (k : Nat → ClassId) (hl0 : l.stackTraces = false) (T : Nat → Int → Int → Int → Int) (K : Nat → Int → Int) (qa : Nat) (cp : Nat) (tl : va_W) (v : Int) (pl : Int) (at_ : Int) (hPS : PS dI k T K qa cp tl) (hQ : OKT T K) (hrv : -2147483648 ≤ v ∧ v < 2147483648) (hrpl : -2147483648 ≤ pl ∧ pl < 2147483648) (hrat_ : -2147483648 ≤ at_ ∧ at_ < 2147483648) : Kn l dC dI k yL_whereIs (.codeWith yL_whereIs cL_whereIs 5 (some .int) [(0, 7, 8, 13)]) ({ frames := 10, cells := (131072 - cp + 1), slots := (12 * (131072 - cp) + 6), locals := 231 } : Room) [.ref qa, .int (iI v), .int (iI pl), .int (iI at_)] ([] ++ tl) (fun r w gc gs => (∃ (cp2 : Nat) (tl2 : va_W), (PS dI k T K qa cp2 tl2) ∧ (cp ≤ cp2 ∧ cp2 ≤ 131072) ∧ r = some (.int (iI (v_whereIs T v pl at_))) ∧ w = ([] ++ tl2) ∧ gc = (cp2 - cp + 1) ∧ gs = (12 * (cp2 - cp) + 6))) := by
  have K0 := w_whereIs l dC dI k hl0 T K qa cp tl v pl at_ hPS hQ hrv hrpl hrat_
  refine kn_post K0 ?_
  rintro r w gc gs (⟨cp2, tl2, q0, q1, q2, hr, hw, hgc, hgs⟩ | ⟨cp2, tl2, q0, q1, q2, hr, hw, hgc, hgs⟩)
  · exact ⟨w, List.Perm.refl _, cp2, tl2, q0, q1, by rw [hr]; unfold v_whereIs; rw [if_pos q2], hw, hgc, hgs⟩
  · exact ⟨w, List.Perm.refl _, cp2, tl2, q0, q1, by rw [hr]; unfold v_whereIs; rw [if_neg q2], hw, hgc, hgs⟩

end
