section
/-- a list: its object, its array (none while nothing was ever put in), its elements -/
def LI (dI : Nat → Nat → Nat) (k : Nat → ClassId) (tl : va_W) (w0 e0 : Nat) (n : Int) (el : Int → Nat) : Prop :=
  0 ≤ n ∧ n ≤ 16 ∧ ∃ mc : Int, ((w0, .inr (12, [.int (iI mc), .ref e0, .int (iI n)])) : Nat × va_E) ∈ tl ∧ ((n = 0 ∧ e0 = dI 99 1) ∨ ∃ (cap : Nat) (g : Int → Option Nat), ((e0, .inl (k 4, cap, .inr (.inr (.inr (.inr (fun i9 : Nat => g i9)))))) : Nat × va_E) ∈ tl ∧ n ≤ cap ∧ cap ≤ 40 ∧ ∀ j : Int, 0 ≤ j → j < n → g j = some (el j))
/-- the cells of the text T, at the addresses A, with what tables have worked out (X) -/
def TI (dI : Nat → Nat → Nat) (k : Nat → ClassId) (T : Nat → Int → Int → Int → Int) (A : Nat → Int → Int → Nat) (X : Nat → Int → Int → Int) (tl : va_W) : Prop :=
  (((A 50 0 0), .inr (9, [.ref (A 51 0 0), .ref (A 52 0 0), .ref (A 53 0 0), .ref (A 54 0 0), .int (iI (T 12 0 0 0)), .ref (A 55 0 0), .int (iI (T 16 0 0 0)), .int (iI (T 17 0 0 0))])) ∈ tl ∧ ((A 53 0 0), .inl (k 0, 5, .inl (fun i9 : Nat => iI ((fun j9 : Int => T 13 j9 0 0) i9)))) ∈ tl ∧ ((A 54 0 0), .inl (k 0, 5, .inl (fun i9 : Nat => iI ((fun j9 : Int => T 14 j9 0 0) i9)))) ∈ tl ∧ ((A 55 0 0), .inl (k 0, 8, .inl (fun i9 : Nat => iI ((fun j9 : Int => T 15 j9 0 0) i9)))) ∈ tl) ∧ LI dI k tl (A 51 0 0) (A 56 0 0) (T 0 0 0 0) (fun i => A 0 i 0) ∧ LI dI k tl (A 52 0 0) (A 57 0 0) (T 18 0 0 0) (fun i => A 15 i 0) ∧
  (∀ i : Int, 0 ≤ i → i < T 0 0 0 0 → ((A 0 i 0), .inr (0, [.int (iI (T 1 i 0 0)), .ref (A 1 i 0), .ref (A 2 i 0), va_rf (if T 1 i 0 0 = 3 then some (A 7 i 0) else none)])) ∈ tl ∧ ((A 1 i 0), .inl (k 0, 7, .inl (fun i9 : Nat => iI ((fun j9 : Int => T 2 i j9 0) i9)))) ∈ tl ∧ LI dI k tl (A 2 i 0) (A 3 i 0) (T 3 i 0 0) (fun j => A 4 i j)) ∧
  (∀ i j : Int, 0 ≤ i → i < T 0 0 0 0 → 0 ≤ j → j < T 3 i 0 0 → ((A 4 i j), .inr (10, [.ref (A 5 i j), .int (iI (T 6 i j 0)), .ref (A 6 i j), .int (iI (T 8 i j 0))])) ∈ tl ∧ ((A 5 i j), .inl (k 0, (Int.toNat (T 4 i j 0)), .inl (fun i9 : Nat => iI ((fun j9 : Int => T 5 i j j9) i9)))) ∈ tl ∧ ((A 6 i j), .inl (k 0, 5, .inl (fun i9 : Nat => iI ((fun j9 : Int => T 7 i j j9) i9)))) ∈ tl) ∧
  (∀ i : Int, 0 ≤ i → i < T 0 0 0 0 → T 1 i 0 0 = 3 → ((A 7 i 0), .inr (8, [.ref (A 8 i 0), .ref (A 8 i 1), .ref (A 8 i 2), .ref (A 8 i 3), .ref (A 8 i 4), .ref (A 8 i 5), .ref (A 8 i 6)])) ∈ tl ∧ ((A 8 i 0), .inl (k 0, 12, .inl (fun i9 : Nat => iI ((fun j9 : Int => T 9 i j9 0) i9)))) ∈ tl ∧ ((A 8 i 1), .inl (k 0, 12, .inl (fun i9 : Nat => iI ((fun j9 : Int => T 10 i j9 0) i9)))) ∈ tl ∧ ((A 8 i 2), .inl (k 0, 12, .inl (fun i9 : Nat => iI ((fun j9 : Int => T 11 i j9 0) i9)))) ∈ tl ∧ ((A 8 i 3), .inl (k 0, 3, .inl (fun i9 : Nat => iI ((X 3 i) i9)))) ∈ tl ∧ ((A 8 i 4), .inl (k 0, 3, .inl (fun i9 : Nat => iI ((X 4 i) i9)))) ∈ tl ∧ ((A 8 i 5), .inl (k 0, 3, .inl (fun i9 : Nat => iI ((X 5 i) i9)))) ∈ tl ∧ ((A 8 i 6), .inl (k 0, 3, .inl (fun i9 : Nat => iI ((X 6 i) i9)))) ∈ tl) ∧
  (∀ i : Int, 0 ≤ i → i < T 18 0 0 0 → ((A 15 i 0), .inr (5, [.ref (A 16 i 0), .int (iI (T 21 i 0 0)), .int (iI (T 22 i 0 0))])) ∈ tl ∧ ((A 16 i 0), .inl (k 0, (Int.toNat (T 19 i 0 0)), .inl (fun i9 : Nat => iI ((fun j9 : Int => T 20 i j9 0) i9)))) ∈ tl)

theorem LI_at {dI : Nat → Nat → Nat} {k : Nat → ClassId} {hs tl : va_W} {w0 e0 : Nat} {n : Int} {el : Int → Nat} (h : LI dI k tl w0 e0 n el) : ∃ (q : Nat) (fs : List Value), (hs ++ tl)[q]? = some (w0, .inr (12, fs)) := by
  obtain ⟨-, -, mc, h3, -⟩ := h
  obtain ⟨q, hq⟩ := pk_at (hs := hs) h3
  exact ⟨q, _, hq⟩

/-- what holds of every text's numbers -/
def TK (T : Nat → Int → Int → Int → Int) : Prop :=
  (0 ≤ T 0 0 0 0 ∧ T 0 0 0 0 ≤ 16) ∧ (∀ i, 0 ≤ T 1 i 0 0 ∧ T 1 i 0 0 ≤ 6) ∧ (∀ i j, -1 ≤ T 2 i j 0 ∧ T 2 i j 0 ≤ 30) ∧ (∀ i, 0 ≤ T 2 i 0 0 ∧ T 2 i 0 0 ≤ 2) ∧ (∀ i, 0 ≤ T 2 i 4 0 ∧ T 2 i 4 0 ≤ 30) ∧ (∀ i, 0 ≤ T 2 i 5 0 ∧ T 2 i 5 0 ≤ 3) ∧ (∀ i, 0 ≤ T 3 i 0 0 ∧ T 3 i 0 0 ≤ 12) ∧ (∀ i j, 0 ≤ T 4 i j 0 ∧ T 4 i j 0 ≤ 6) ∧ (∀ i j q, 0 ≤ T 5 i j q ∧ T 5 i j q ≤ 3) ∧ (∀ i j, -1 ≤ T 6 i j 0 ∧ T 6 i j 0 ≤ 5) ∧ (∀ i j q, -1 ≤ T 7 i j q ∧ T 7 i j q ≤ 7) ∧ (∀ i j, -1 ≤ T 7 i j 0 ∧ T 7 i j 0 ≤ 5 ∧ T 7 i j 0 ≠ 0) ∧ (∀ i j, T 7 i j 1 < T 12 0 0 0) ∧ (∀ i j, T 7 i j 2 ≤ 5) ∧ (∀ i j, 0 ≤ T 8 i j 0 ∧ T 8 i j 0 < 64) ∧ (∀ i c, 0 ≤ T 9 i c 0 ∧ T 9 i c 0 ≤ 3) ∧ (∀ i c, 0 ≤ T 10 i c 0 ∧ T 10 i c 0 ≤ 60) ∧ (∀ i c, 0 ≤ T 11 i c 0 ∧ T 11 i c 0 ≤ 200) ∧ (0 ≤ T 12 0 0 0 ∧ T 12 0 0 0 ≤ 5) ∧ (∀ j, 0 ≤ T 13 j 0 0 ∧ T 13 j 0 0 ≤ 1) ∧ (∀ j, 0 ≤ T 14 j 0 0 ∧ T 14 j 0 0 ≤ 40) ∧ (∀ j, 0 ≤ T 15 j 0 0 ∧ T 15 j 0 0 ≤ 999) ∧ (30 ≤ T 16 0 0 0 ∧ T 16 0 0 0 ≤ 120) ∧ (6 ≤ T 17 0 0 0 ∧ T 17 0 0 0 ≤ 40) ∧ (0 ≤ T 18 0 0 0 ∧ T 18 0 0 0 ≤ 8) ∧ (∀ i, 0 ≤ T 19 i 0 0 ∧ T 19 i 0 0 ≤ 3) ∧ (∀ i j, 0 ≤ T 20 i j 0 ∧ T 20 i j 0 ≤ 3) ∧ (∀ i, 0 ≤ T 21 i 0 0 ∧ T 21 i 0 0 ≤ 3) ∧ (∀ i, 0 ≤ T 22 i 0 0 ∧ T 22 i 0 0 ≤ 5) ∧ (∀ i j q, 0 ≤ q → bAnd (bShr (T 8 i j 0) q) 1 = 1 → 2 ≤ q ∧ q ≤ 4 ∧ q + 2 ≤ T 4 i j 0) ∧ (∀ i, 0 < T 3 i 0 0 → T 1 i 0 0 ≤ 2) ∧ (∀ i c, c % 3 + T 9 i c 0 ≤ 3) ∧ (∀ i j, (T 6 i j 0 = -1 → 1 ≤ T 4 i j 0) ∧ (T 6 i j 0 ≠ -1 → T 4 i j 0 = 0)) ∧ (∀ i c, T 10 i c 0 ≤ T 11 i c 0)
theorem TK_nb {T : Nat → Int → Int → Int → Int} (h : TK T) : 0 ≤ T 0 0 0 0 ∧ T 0 0 0 0 ≤ 16 := h.1
theorem TK_kind {T : Nat → Int → Int → Int → Int} (h : TK T) : ∀ i, 0 ≤ T 1 i 0 0 ∧ T 1 i 0 0 ≤ 6 := h.2.1
theorem TK_sty {T : Nat → Int → Int → Int → Int} (h : TK T) : ∀ i j, -1 ≤ T 2 i j 0 ∧ T 2 i j 0 ≤ 30 := h.2.2.1
theorem TK_ind {T : Nat → Int → Int → Int → Int} (h : TK T) : ∀ i, 0 ≤ T 2 i 0 0 ∧ T 2 i 0 0 ≤ 2 := h.2.2.2.1
theorem TK_side {T : Nat → Int → Int → Int → Int} (h : TK T) : ∀ i, 0 ≤ T 2 i 4 0 ∧ T 2 i 4 0 ≤ 30 := h.2.2.2.2.1
theorem TK_dep {T : Nat → Int → Int → Int → Int} (h : TK T) : ∀ i, 0 ≤ T 2 i 5 0 ∧ T 2 i 5 0 ≤ 3 := h.2.2.2.2.2.1
theorem TK_nw {T : Nat → Int → Int → Int → Int} (h : TK T) : ∀ i, 0 ≤ T 3 i 0 0 ∧ T 3 i 0 0 ≤ 12 := h.2.2.2.2.2.2.1
theorem TK_len {T : Nat → Int → Int → Int → Int} (h : TK T) : ∀ i j, 0 ≤ T 4 i j 0 ∧ T 4 i j 0 ≤ 6 := h.2.2.2.2.2.2.2.1
theorem TK_let {T : Nat → Int → Int → Int → Int} (h : TK T) : ∀ i j q, 0 ≤ T 5 i j q ∧ T 5 i j q ≤ 3 := h.2.2.2.2.2.2.2.2.1
theorem TK_lab {T : Nat → Int → Int → Int → Int} (h : TK T) : ∀ i j, -1 ≤ T 6 i j 0 ∧ T 6 i j 0 ≤ 5 := h.2.2.2.2.2.2.2.2.2.1
theorem TK_mrk {T : Nat → Int → Int → Int → Int} (h : TK T) : ∀ i j q, -1 ≤ T 7 i j q ∧ T 7 i j q ≤ 7 := h.2.2.2.2.2.2.2.2.2.2.1
theorem TK_note {T : Nat → Int → Int → Int → Int} (h : TK T) : ∀ i j, -1 ≤ T 7 i j 0 ∧ T 7 i j 0 ≤ 5 ∧ T 7 i j 0 ≠ 0 := h.2.2.2.2.2.2.2.2.2.2.2.1
theorem TK_men {T : Nat → Int → Int → Int → Int} (h : TK T) : ∀ i j, T 7 i j 1 < T 12 0 0 0 := h.2.2.2.2.2.2.2.2.2.2.2.2.1
theorem TK_mlab {T : Nat → Int → Int → Int → Int} (h : TK T) : ∀ i j, T 7 i j 2 ≤ 5 := h.2.2.2.2.2.2.2.2.2.2.2.2.2.1
theorem TK_gap {T : Nat → Int → Int → Int → Int} (h : TK T) : ∀ i j, 0 ≤ T 8 i j 0 ∧ T 8 i j 0 < 64 := h.2.2.2.2.2.2.2.2.2.2.2.2.2.2.1
theorem TK_span {T : Nat → Int → Int → Int → Int} (h : TK T) : ∀ i c, 0 ≤ T 9 i c 0 ∧ T 9 i c 0 ≤ 3 := h.2.2.2.2.2.2.2.2.2.2.2.2.2.2.2.1
theorem TK_least {T : Nat → Int → Int → Int → Int} (h : TK T) : ∀ i c, 0 ≤ T 10 i c 0 ∧ T 10 i c 0 ≤ 60 := h.2.2.2.2.2.2.2.2.2.2.2.2.2.2.2.2.1
theorem TK_best {T : Nat → Int → Int → Int → Int} (h : TK T) : ∀ i c, 0 ≤ T 11 i c 0 ∧ T 11 i c 0 ≤ 200 := h.2.2.2.2.2.2.2.2.2.2.2.2.2.2.2.2.2.1
theorem TK_fc {T : Nat → Int → Int → Int → Int} (h : TK T) : 0 ≤ T 12 0 0 0 ∧ T 12 0 0 0 ≤ 5 := h.2.2.2.2.2.2.2.2.2.2.2.2.2.2.2.2.2.2.1
theorem TK_fk {T : Nat → Int → Int → Int → Int} (h : TK T) : ∀ j, 0 ≤ T 13 j 0 0 ∧ T 13 j 0 0 ≤ 1 := h.2.2.2.2.2.2.2.2.2.2.2.2.2.2.2.2.2.2.2.1
theorem TK_fh {T : Nat → Int → Int → Int → Int} (h : TK T) : ∀ j, 0 ≤ T 14 j 0 0 ∧ T 14 j 0 0 ≤ 40 := h.2.2.2.2.2.2.2.2.2.2.2.2.2.2.2.2.2.2.2.2.1
theorem TK_key {T : Nat → Int → Int → Int → Int} (h : TK T) : ∀ j, 0 ≤ T 15 j 0 0 ∧ T 15 j 0 0 ≤ 999 := h.2.2.2.2.2.2.2.2.2.2.2.2.2.2.2.2.2.2.2.2.2.1
theorem TK_wid {T : Nat → Int → Int → Int → Int} (h : TK T) : 30 ≤ T 16 0 0 0 ∧ T 16 0 0 0 ≤ 120 := h.2.2.2.2.2.2.2.2.2.2.2.2.2.2.2.2.2.2.2.2.2.2.1
theorem TK_hei {T : Nat → Int → Int → Int → Int} (h : TK T) : 6 ≤ T 17 0 0 0 ∧ T 17 0 0 0 ≤ 40 := h.2.2.2.2.2.2.2.2.2.2.2.2.2.2.2.2.2.2.2.2.2.2.2.1
theorem TK_np {T : Nat → Int → Int → Int → Int} (h : TK T) : 0 ≤ T 18 0 0 0 ∧ T 18 0 0 0 ≤ 8 := h.2.2.2.2.2.2.2.2.2.2.2.2.2.2.2.2.2.2.2.2.2.2.2.2.1
theorem TK_pl {T : Nat → Int → Int → Int → Int} (h : TK T) : ∀ i, 0 ≤ T 19 i 0 0 ∧ T 19 i 0 0 ≤ 3 := h.2.2.2.2.2.2.2.2.2.2.2.2.2.2.2.2.2.2.2.2.2.2.2.2.2.1
theorem TK_plt {T : Nat → Int → Int → Int → Int} (h : TK T) : ∀ i j, 0 ≤ T 20 i j 0 ∧ T 20 i j 0 ≤ 3 := h.2.2.2.2.2.2.2.2.2.2.2.2.2.2.2.2.2.2.2.2.2.2.2.2.2.2.1
theorem TK_pg {T : Nat → Int → Int → Int → Int} (h : TK T) : ∀ i, 0 ≤ T 21 i 0 0 ∧ T 21 i 0 0 ≤ 3 := h.2.2.2.2.2.2.2.2.2.2.2.2.2.2.2.2.2.2.2.2.2.2.2.2.2.2.2.1
theorem TK_plv {T : Nat → Int → Int → Int → Int} (h : TK T) : ∀ i, 0 ≤ T 22 i 0 0 ∧ T 22 i 0 0 ≤ 5 := h.2.2.2.2.2.2.2.2.2.2.2.2.2.2.2.2.2.2.2.2.2.2.2.2.2.2.2.2.1
theorem TK_gapb {T : Nat → Int → Int → Int → Int} (h : TK T) : ∀ i j q, 0 ≤ q → bAnd (bShr (T 8 i j 0) q) 1 = 1 → 2 ≤ q ∧ q ≤ 4 ∧ q + 2 ≤ T 4 i j 0 := h.2.2.2.2.2.2.2.2.2.2.2.2.2.2.2.2.2.2.2.2.2.2.2.2.2.2.2.2.2.1
theorem TK_hasw {T : Nat → Int → Int → Int → Int} (h : TK T) : ∀ i, 0 < T 3 i 0 0 → T 1 i 0 0 ≤ 2 := h.2.2.2.2.2.2.2.2.2.2.2.2.2.2.2.2.2.2.2.2.2.2.2.2.2.2.2.2.2.2.1
theorem TK_spc {T : Nat → Int → Int → Int → Int} (h : TK T) : ∀ i c, c % 3 + T 9 i c 0 ≤ 3 := h.2.2.2.2.2.2.2.2.2.2.2.2.2.2.2.2.2.2.2.2.2.2.2.2.2.2.2.2.2.2.2.1
theorem TK_wl {T : Nat → Int → Int → Int → Int} (h : TK T) : ∀ i j, (T 6 i j 0 = -1 → 1 ≤ T 4 i j 0) ∧ (T 6 i j 0 ≠ -1 → T 4 i j 0 = 0) := h.2.2.2.2.2.2.2.2.2.2.2.2.2.2.2.2.2.2.2.2.2.2.2.2.2.2.2.2.2.2.2.2.1
theorem TK_lst {T : Nat → Int → Int → Int → Int} (h : TK T) : ∀ i c, T 10 i c 0 ≤ T 11 i c 0 := h.2.2.2.2.2.2.2.2.2.2.2.2.2.2.2.2.2.2.2.2.2.2.2.2.2.2.2.2.2.2.2.2.2

theorem dJ3_checkIndex_8e157_0 : decode cJ3_checkIndex_8e157 0 = .ok (.iload_n 0, 1) := by decide +kernel
theorem dJ3_checkIndex_8e157_1 : decode cJ3_checkIndex_8e157 1 = .ok (.ifCond .lt 8, 3) := by decide +kernel
theorem dJ3_checkIndex_8e157_4 : decode cJ3_checkIndex_8e157 4 = .ok (.iload_n 0, 1) := by decide +kernel
theorem dJ3_checkIndex_8e157_5 : decode cJ3_checkIndex_8e157 5 = .ok (.iload_n 1, 1) := by decide +kernel
theorem dJ3_checkIndex_8e157_6 : decode cJ3_checkIndex_8e157 6 = .ok (.if_icmp .lt 10, 3) := by decide +kernel
theorem dJ3_checkIndex_8e157_16 : decode cJ3_checkIndex_8e157 16 = .ok (.iload_n 0, 1) := by decide +kernel
theorem dJ3_checkIndex_8e157_17 : decode cJ3_checkIndex_8e157 17 = .ok (.ireturn, 1) := by decide +kernel
set_option maxHeartbeats 4000000 in
set_option maxRecDepth 100000 in
theorem k_ckI3 (l : Launch) (dC : Nat → ClassId) (dI : Nat → Nat → Nat) (k : Nat → ClassId) (i : Int) (n : Int) (h1 : 0 ≤ i ∧ i < n ∧ n < 1000) : Kn l dC dI k yJ3_checkIndex_8e157 (.code yJ3_checkIndex_8e157 cJ3_checkIndex_8e157 3 (some .int)) ({ frames := 0, cells := 0, slots := 0, locals := 0 } : Room) [.int (iI i), .int (iI n), .null] [] (fun r w gc gs => (r = some (.int (iI i)) ∧ w = [] ∧ gc = 0 ∧ gs = 0)) := by
  refine kn_of (by decide) (Nat.le_of_ble_eq_true rfl) ?_
  intro p e s m args below meth c H locs B hr hnm ls hl
  have hx := B.1.1
  have hb := B.1.2.1
  have hl : lv_has ls 3 [(0, .int (iI i)), (1, .int (iI n)), (2, .null)] := hl
  refine lv_iload_n hx hb dJ3_checkIndex_8e157_0 rfl (lv_at hl 0 rfl) ?_
  refine lv_if_lt (tgt := 9) hx hb dJ3_checkIndex_8e157_1 (by decide) (fun c_1 => ?_) (fun c_1 => ?_)
  · have zc_1 : i < 0 := jlt (a := i) (b := 0) (by omega) (by omega) c_1
    exfalso; omega
  · have zc_1 : 0 ≤ i := jnlt (a := i) (b := 0) (by omega) (by omega) c_1
    refine lv_iload_n hx hb dJ3_checkIndex_8e157_4 rfl (lv_at hl 0 rfl) ?_
    refine lv_iload_n hx hb dJ3_checkIndex_8e157_5 rfl (lv_at hl 1 rfl) ?_
    refine lv_icmp_lt (tgt := 16) hx hb dJ3_checkIndex_8e157_6 (by decide) (fun c_2 => ?_) (fun c_2 => ?_)
    · have zc_2 : i < n := jlt (a := i) (b := n) (by omega) (by omega) c_2
      refine lv_iload_n hx hb dJ3_checkIndex_8e157_16 rfl (lv_at hl 0 rfl) ?_
      exact k_iret B hr (⟨rfl, rfl, rfl, rfl⟩) ⟨Nat.le_of_ble_eq_true rfl, Nat.le_of_ble_eq_true rfl⟩ ⟨Nat.le_of_ble_eq_true rfl, Nat.le_of_ble_eq_true rfl⟩ dJ3_checkIndex_8e157_17
    · have zc_2 : n ≤ i := jnlt (a := i) (b := n) (by omega) (by omega) c_2
      exfalso; omega

theorem mw_28 : (Jvm.Cond.initialized "jdk/internal/util/Preconditions") ∈ gt := gt_at 98 (by decide +kernel) (by decide +kernel)
theorem mw_747 : (Jvm.Cond.methodLink "java/util/Objects" (105 : Nat) ({ cls := "jdk/internal/util/Preconditions", name := "checkIndex", desc := "(IILjava/util/function/BiFunction;)I" } : Jvm.MethodName)) ∈ gt := gt_at 817 (by decide +kernel) (by decide +kernel)
theorem mw_748 : (Jvm.Cond.static ({ cls := "jdk/internal/util/Preconditions", name := "checkIndex", desc := "(IILjava/util/function/BiFunction;)I" } : Jvm.MethodName)) ∈ gt := gt_at 818 (by decide +kernel) (by decide +kernel)
theorem mw_749 : (Jvm.Cond.code ({ cls := "jdk/internal/util/Preconditions", name := "checkIndex", desc := "(IILjava/util/function/BiFunction;)I" } : Jvm.MethodName) prog_48_method_11_code (3 : Nat) (Option.some Jvm.ClassFile.FieldType.int)) ∈ gt := gt_at 819 (by decide +kernel) (by decide +kernel)
theorem mS_J3_checkIndex_8e157 : mS yJ3_checkIndex_8e157 cJ3_checkIndex_8e157 3 (some .int) 3 := ⟨⟨mw_749, mw_28, by decide, by decide, by decide +kernel⟩, mw_748⟩
theorem dJ15_checkIndex_7cf53_0 : decode cJ15_checkIndex_7cf53 0 = .ok (.iload_n 0, 1) := by decide +kernel
theorem dJ15_checkIndex_7cf53_1 : decode cJ15_checkIndex_7cf53 1 = .ok (.iload_n 1, 1) := by decide +kernel
theorem dJ15_checkIndex_7cf53_2 : decode cJ15_checkIndex_7cf53 2 = .ok (.aconst_null, 1) := by decide +kernel
theorem dJ15_checkIndex_7cf53_3 : decode cJ15_checkIndex_7cf53 3 = .ok (.invokestatic 105, 3) := by decide +kernel
theorem dJ15_checkIndex_7cf53_6 : decode cJ15_checkIndex_7cf53 6 = .ok (.ireturn, 1) := by decide +kernel
set_option maxHeartbeats 4000000 in
set_option maxRecDepth 100000 in
theorem k_ckI (l : Launch) (dC : Nat → ClassId) (dI : Nat → Nat → Nat) (k : Nat → ClassId) (i : Int) (n : Int) (h1 : 0 ≤ i ∧ i < n ∧ n < 1000) : Kn l dC dI k yJ15_checkIndex_7cf53 (.code yJ15_checkIndex_7cf53 cJ15_checkIndex_7cf53 2 (some .int)) ({ frames := 1, cells := 0, slots := 0, locals := 22 } : Room) [.int (iI i), .int (iI n)] [] (fun r w gc gs => (r = some (.int (iI i)) ∧ w = [] ∧ gc = 0 ∧ gs = 0)) := by
  refine kn_of (by decide) (Nat.le_of_ble_eq_true rfl) ?_
  intro p e s m args below meth c H locs B hr hnm ls hl
  have hx := B.1.1
  have hb := B.1.2.1
  have hl : lv_has ls 2 [(0, .int (iI i)), (1, .int (iI n))] := hl
  refine lv_iload_n hx hb dJ15_checkIndex_7cf53_0 rfl (lv_at hl 0 rfl) ?_
  refine lv_iload_n hx hb dJ15_checkIndex_7cf53_1 rfl (lv_at hl 1 rfl) ?_
  refine lv_null hx hb dJ15_checkIndex_7cf53_2 ?_
  have B := bd_to (ws' := [] ++ []) rfl B
  refine k_S (rest := []) (wc := []) (wr := []) (k_ckI3 l dC dI k i n h1) B mS_J3_checkIndex_8e157 mw_747 hl ⟨Nat.le_of_ble_eq_true rfl, Nat.le_of_ble_eq_true rfl⟩ (Nat.le_of_ble_eq_true rfl) rfl dJ15_checkIndex_7cf53_3 ⟨Nat.le_of_ble_eq_true rfl, Nat.le_of_ble_eq_true rfl⟩ (fun r w gc gs H locs hp B => ?_)
  obtain ⟨rfl, hw9, rfl, rfl⟩ := hp
  rw [hw9] at B; clear hw9
  have B := bd_to (ws' := []) rfl B
  exact k_iret B hr (⟨rfl, rfl, rfl, rfl⟩) ⟨Nat.le_of_ble_eq_true rfl, Nat.le_of_ble_eq_true rfl⟩ ⟨Nat.le_of_ble_eq_true rfl, Nat.le_of_ble_eq_true rfl⟩ dJ15_checkIndex_7cf53_6

theorem mw_63 : (Jvm.Cond.fieldLink "java/util/ArrayList" (9 : Nat) "java/util/ArrayList" "elementData" "[Ljava/lang/Object;") ∈ gt := gt_at 133 (by decide +kernel) (by decide +kernel)
theorem in_Jx4a65c : ∀ w ∈ u_ws RJx4a65c TJx4a65c 3, w ∈ gt := in_of _ [142, 138, 140] (by decide +kernel) (by decide +kernel)
theorem dJx4a65c_elementData_915e3_0 : decode cJx4a65c_elementData_915e3 0 = .ok (.aload_n 0, 1) := by decide +kernel
theorem dJx4a65c_elementData_915e3_1 : decode cJx4a65c_elementData_915e3 1 = .ok (.getfield 9, 3) := by decide +kernel
theorem dJx4a65c_elementData_915e3_4 : decode cJx4a65c_elementData_915e3 4 = .ok (.iload_n 1, 1) := by decide +kernel
theorem dJx4a65c_elementData_915e3_5 : decode cJx4a65c_elementData_915e3 5 = .ok (.aaload, 1) := by decide +kernel
theorem dJx4a65c_elementData_915e3_6 : decode cJx4a65c_elementData_915e3 6 = .ok (.areturn, 1) := by decide +kernel
set_option maxHeartbeats 4000000 in
set_option maxRecDepth 100000 in
theorem k_elD (l : Launch) (dC : Nat → ClassId) (dI : Nat → Nat → Nat) (k : Nat → ClassId) (al : Nat) (ed : Nat) (cap : Nat) (v : Nat) (mc : Int) (n : Int) (i : Int) (g : Int → Option Nat) (tl : va_W) (hm : ((al, .inr (12, [.int (iI mc), .ref ed, .int (iI n)])) : Nat × va_E) ∈ tl) (he : ((ed, .inl (k 4, cap, .inr (.inr (.inr (.inr (fun i9 : Nat => g i9)))))) : Nat × va_E) ∈ tl) (h1 : 0 ≤ i ∧ i < n ∧ n ≤ cap ∧ cap ≤ 40) (hg : g i = some v) : Kn l dC dI k yJx4a65c_elementData_915e3 (.code yJx4a65c_elementData_915e3 cJx4a65c_elementData_915e3 2 (some (.object "java/lang/Object"))) ({ frames := 0, cells := 0, slots := 0, locals := 0 } : Room) [.ref al, .int (iI i)] ([] ++ tl) (fun r w gc gs => (r = some (.ref v) ∧ w = ([] ++ tl) ∧ gc = 0 ∧ gs = 0)) := by
  refine kn_of (by decide) (Nat.le_of_ble_eq_true rfl) ?_
  intro p e s m args below meth c H locs B hr hnm ls hl
  have hx := B.1.1
  have hb := B.1.2.1
  have hl : lv_has ls 2 [(0, .ref al), (1, .int (iI i))] := hl
  refine lv_aload_n hx hb dJx4a65c_elementData_915e3_0 rfl (lv_at hl 0 rfl) ?_
  obtain ⟨k_1, hk_1⟩ := pk_at (hs := []) hm
  refine x_get (ci := 12) (C := RJx4a65c) (T := TJx4a65c) (N := 3) (v := .ref ed) B k_1 hk_1 rfl in_Jx4a65c 1 (by decide) mw_63 (fun _ h9 => h9) rfl dJx4a65c_elementData_915e3_1 ?_
  refine lv_iload_n hx hb dJx4a65c_elementData_915e3_4 rfl (lv_at hl 1 rfl) ?_
  obtain ⟨k_2, hk_2⟩ := pk_at (hs := []) he
  refine x_aldO (v := (some v)) B k_2 hk_2 (iI_in (by omega)) dJx4a65c_elementData_915e3_5 ((aldz (by omega)).trans hg) ?_
  exact k_aret B hr (⟨rfl, rfl, rfl, rfl⟩) ⟨Nat.le_of_ble_eq_true rfl, Nat.le_of_ble_eq_true rfl⟩ ⟨Nat.le_of_ble_eq_true rfl, Nat.le_of_ble_eq_true rfl⟩ dJx4a65c_elementData_915e3_6

theorem mw_5 : (Jvm.Cond.initialized "java/util/ArrayList") ∈ gt := gt_at 75 (by decide +kernel) (by decide +kernel)
theorem mw_32 : (Jvm.Cond.initialized "java/util/Objects") ∈ gt := gt_at 102 (by decide +kernel) (by decide +kernel)
theorem mw_64 : (Jvm.Cond.fieldLink "java/util/ArrayList" (48 : Nat) "java/util/ArrayList" "size" "I") ∈ gt := gt_at 134 (by decide +kernel) (by decide +kernel)
theorem mw_744 : (Jvm.Cond.methodLink "java/util/ArrayList" (118 : Nat) ({ cls := "java/util/Objects", name := "checkIndex", desc := "(II)I" } : Jvm.MethodName)) ∈ gt := gt_at 814 (by decide +kernel) (by decide +kernel)
theorem mw_745 : (Jvm.Cond.static ({ cls := "java/util/Objects", name := "checkIndex", desc := "(II)I" } : Jvm.MethodName)) ∈ gt := gt_at 815 (by decide +kernel) (by decide +kernel)
theorem mw_746 : (Jvm.Cond.code ({ cls := "java/util/Objects", name := "checkIndex", desc := "(II)I" } : Jvm.MethodName) prog_44_method_17_code (2 : Nat) (Option.some Jvm.ClassFile.FieldType.int)) ∈ gt := gt_at 816 (by decide +kernel) (by decide +kernel)
theorem mw_750 : (Jvm.Cond.methodLink "java/util/ArrayList" (123 : Nat) ({ cls := "java/util/ArrayList", name := "elementData", desc := "(I)Ljava/lang/Object;" } : Jvm.MethodName)) ∈ gt := gt_at 820 (by decide +kernel) (by decide +kernel)
theorem mw_751 : (Jvm.Cond.instanceMethod ({ cls := "java/util/ArrayList", name := "elementData", desc := "(I)Ljava/lang/Object;" } : Jvm.MethodName)) ∈ gt := gt_at 821 (by decide +kernel) (by decide +kernel)
theorem mw_752 : (Jvm.Cond.selects "java/util/ArrayList" ({ cls := "java/util/ArrayList", name := "elementData", desc := "(I)Ljava/lang/Object;" } : Jvm.MethodName) ({ cls := "java/util/ArrayList", name := "elementData", desc := "(I)Ljava/lang/Object;" } : Jvm.MethodName)) ∈ gt := gt_at 822 (by decide +kernel) (by decide +kernel)
theorem mw_753 : (Jvm.Cond.code ({ cls := "java/util/ArrayList", name := "elementData", desc := "(I)Ljava/lang/Object;" } : Jvm.MethodName) prog_40_method_18_code (2 : Nat) (Option.some (Jvm.ClassFile.FieldType.object "java/lang/Object"))) ∈ gt := gt_at 823 (by decide +kernel) (by decide +kernel)
theorem mS_J15_checkIndex_7cf53 : mS yJ15_checkIndex_7cf53 cJ15_checkIndex_7cf53 2 (some .int) 2 := ⟨⟨mw_746, mw_32, by decide, by decide, by decide +kernel⟩, mw_745⟩
theorem mV_Jx4a65c_elementData_915e3 : mV yJx4a65c_elementData_915e3 cJx4a65c_elementData_915e3 2 (some (.object "java/lang/Object")) 1 := ⟨⟨mw_753, mw_5, by decide, by decide, by decide +kernel⟩, mw_751, mw_752⟩
theorem dJx4a65c_get_915e3_0 : decode cJx4a65c_get_915e3 0 = .ok (.iload_n 1, 1) := by decide +kernel
theorem dJx4a65c_get_915e3_1 : decode cJx4a65c_get_915e3 1 = .ok (.aload_n 0, 1) := by decide +kernel
theorem dJx4a65c_get_915e3_2 : decode cJx4a65c_get_915e3 2 = .ok (.getfield 48, 3) := by decide +kernel
theorem dJx4a65c_get_915e3_5 : decode cJx4a65c_get_915e3 5 = .ok (.invokestatic 118, 3) := by decide +kernel
theorem dJx4a65c_get_915e3_8 : decode cJx4a65c_get_915e3 8 = .ok (.pop, 1) := by decide +kernel
theorem dJx4a65c_get_915e3_9 : decode cJx4a65c_get_915e3 9 = .ok (.aload_n 0, 1) := by decide +kernel
theorem dJx4a65c_get_915e3_10 : decode cJx4a65c_get_915e3 10 = .ok (.iload_n 1, 1) := by decide +kernel
theorem dJx4a65c_get_915e3_11 : decode cJx4a65c_get_915e3 11 = .ok (.invokevirtual 123, 3) := by decide +kernel
theorem dJx4a65c_get_915e3_14 : decode cJx4a65c_get_915e3 14 = .ok (.areturn, 1) := by decide +kernel
set_option maxHeartbeats 4000000 in
set_option maxRecDepth 100000 in
theorem k_get (l : Launch) (dC : Nat → ClassId) (dI : Nat → Nat → Nat) (k : Nat → ClassId) (al : Nat) (ed : Nat) (cap : Nat) (v : Nat) (mc : Int) (n : Int) (i : Int) (g : Int → Option Nat) (tl : va_W) (hm : ((al, .inr (12, [.int (iI mc), .ref ed, .int (iI n)])) : Nat × va_E) ∈ tl) (he : ((ed, .inl (k 4, cap, .inr (.inr (.inr (.inr (fun i9 : Nat => g i9)))))) : Nat × va_E) ∈ tl) (h1 : 0 ≤ i ∧ i < n ∧ n ≤ cap ∧ cap ≤ 40) (hg : g i = some v) : Kn l dC dI k yJx4a65c_get_915e3 (.code yJx4a65c_get_915e3 cJx4a65c_get_915e3 2 (some (.object "java/lang/Object"))) ({ frames := 2, cells := 0, slots := 0, locals := 43 } : Room) [.ref al, .int (iI i)] ([] ++ tl) (fun r w gc gs => (r = some (.ref v) ∧ w = ([] ++ tl) ∧ gc = 0 ∧ gs = 0)) := by
  refine kn_of (by decide) (Nat.le_of_ble_eq_true rfl) ?_
  intro p e s m args below meth c H locs B hr hnm ls hl
  have hx := B.1.1
  have hb := B.1.2.1
  have hl : lv_has ls 2 [(0, .ref al), (1, .int (iI i))] := hl
  refine lv_iload_n hx hb dJx4a65c_get_915e3_0 rfl (lv_at hl 1 rfl) ?_
  refine lv_aload_n hx hb dJx4a65c_get_915e3_1 rfl (lv_at hl 0 rfl) ?_
  obtain ⟨k_1, hk_1⟩ := pk_at (hs := []) hm
  refine x_get (ci := 12) (C := RJx4a65c) (T := TJx4a65c) (N := 3) (v := .int (iI n)) B k_1 hk_1 rfl in_Jx4a65c 2 (by decide) mw_64 (fun _ h9 => h9) rfl dJx4a65c_get_915e3_2 ?_
  have B := bd_to (ws' := [] ++ ([] ++ tl)) rfl B
  refine k_S (rest := []) (wc := []) (wr := ([] ++ tl)) (k_ckI l dC dI k i n (by omega)) B mS_J15_checkIndex_7cf53 mw_744 hl ⟨Nat.le_of_ble_eq_true rfl, Nat.le_of_ble_eq_true rfl⟩ (Nat.le_of_ble_eq_true rfl) rfl dJx4a65c_get_915e3_5 ⟨Nat.le_of_ble_eq_true rfl, Nat.le_of_ble_eq_true rfl⟩ (fun r w gc gs H locs hp B => ?_)
  obtain ⟨rfl, hw9, rfl, rfl⟩ := hp
  rw [hw9] at B; clear hw9
  have B := bd_swap (a := []) (b := tl) (d := []) B
  have B := bd_to (ws' := ([] ++ tl)) rfl B
  refine lv_pop hx hb dJx4a65c_get_915e3_8 rfl ?_
  refine lv_aload_n hx hb dJx4a65c_get_915e3_9 rfl (lv_at hl 0 rfl) ?_
  refine lv_iload_n hx hb dJx4a65c_get_915e3_10 rfl (lv_at hl 1 rfl) ?_
  have B := bd_swap (a := []) (b := []) (d := tl) (bd_to rfl B)
  obtain ⟨k_2, hk_2⟩ := pk_at (hs := []) hm
  refine k_V (rest := []) (wc := ([] ++ tl)) (wr := []) (k_elD l dC dI k al ed cap v mc n i g tl hm he h1 hg) B mV_Jx4a65c_elementData_915e3 mw_750 hl (q0 := k_2) (ci := 12) hk_2 rfl rfl ⟨Nat.le_of_ble_eq_true rfl, Nat.le_of_ble_eq_true rfl⟩ (Nat.le_of_ble_eq_true rfl) rfl dJx4a65c_get_915e3_11 ⟨Nat.le_of_ble_eq_true rfl, Nat.le_of_ble_eq_true rfl⟩ (fun r w gc gs H locs hp B => ?_)
  obtain ⟨rfl, hw9, rfl, rfl⟩ := hp
  rw [hw9] at B; clear hw9
  have B := bd_to (ws' := ([] ++ tl)) rfl B
  exact k_aret B hr (⟨rfl, rfl, rfl, rfl⟩) ⟨Nat.le_of_ble_eq_true rfl, Nat.le_of_ble_eq_true rfl⟩ ⟨Nat.le_of_ble_eq_true rfl, Nat.le_of_ble_eq_true rfl⟩ dJx4a65c_get_915e3_14

theorem dJx4a65c_size_8abf5_0 : decode cJx4a65c_size_8abf5 0 = .ok (.aload_n 0, 1) := by decide +kernel
theorem dJx4a65c_size_8abf5_1 : decode cJx4a65c_size_8abf5 1 = .ok (.getfield 48, 3) := by decide +kernel
theorem dJx4a65c_size_8abf5_4 : decode cJx4a65c_size_8abf5 4 = .ok (.ireturn, 1) := by decide +kernel
set_option maxHeartbeats 4000000 in
set_option maxRecDepth 100000 in
theorem k_size (l : Launch) (dC : Nat → ClassId) (dI : Nat → Nat → Nat) (k : Nat → ClassId) (al : Nat) (ed : Nat) (mc : Int) (n : Int) (tl : va_W) (hm : ((al, .inr (12, [.int (iI mc), .ref ed, .int (iI n)])) : Nat × va_E) ∈ tl) : Kn l dC dI k yJx4a65c_size_8abf5 (.code yJx4a65c_size_8abf5 cJx4a65c_size_8abf5 1 (some .int)) ({ frames := 0, cells := 0, slots := 0, locals := 0 } : Room) [.ref al] ([] ++ tl) (fun r w gc gs => (r = some (.int (iI n)) ∧ w = ([] ++ tl) ∧ gc = 0 ∧ gs = 0)) := by
  refine kn_of (by decide) (Nat.le_of_ble_eq_true rfl) ?_
  intro p e s m args below meth c H locs B hr hnm ls hl
  have hx := B.1.1
  have hb := B.1.2.1
  have hl : lv_has ls 1 [(0, .ref al)] := hl
  refine lv_aload_n hx hb dJx4a65c_size_8abf5_0 rfl (lv_at hl 0 rfl) ?_
  obtain ⟨k_1, hk_1⟩ := pk_at (hs := []) hm
  refine x_get (ci := 12) (C := RJx4a65c) (T := TJx4a65c) (N := 3) (v := .int (iI n)) B k_1 hk_1 rfl in_Jx4a65c 2 (by decide) mw_64 (fun _ h9 => h9) rfl dJx4a65c_size_8abf5_1 ?_
  exact k_iret B hr (⟨rfl, rfl, rfl, rfl⟩) ⟨Nat.le_of_ble_eq_true rfl, Nat.le_of_ble_eq_true rfl⟩ ⟨Nat.le_of_ble_eq_true rfl, Nat.le_of_ble_eq_true rfl⟩ dJx4a65c_size_8abf5_4

end
