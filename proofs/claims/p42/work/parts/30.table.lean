section
/-- an array of ints may be told by any function that agrees with it where it has places -/
theorem bd_ext {p : Program} {s : State} {m : MethodId} {args : Array Value} {meth : Method} {c : Code} {cc : ByteArray} {nL : Nat} {own : String} {dC : Nat → ClassId} {dI : Nat → Nat → Nat} {k : Nat → ClassId} {A : Nat → Prop} {ws : va_W} {H : Heap} {locs : List Loc} (j : Nat) {a n : Nat} {ci : ClassId} {f g : Int → Int} (hj : ws[j]? = some (a, .inl (ci, n, .inl (fun i : Nat => iI (f i))))) (he : ∀ i : Int, 0 ≤ i → i < n → f i = g i) (B : bd p s m args meth c cc nL own dC dI k A ws H locs) :
    bd p s m args meth c cc nL own dC dI k A (ws.set j (a, .inl (ci, n, .inl (fun i : Nat => iI (g i))))) H locs := by
  obtain ⟨h1, h2, h3, hP, hD, h6⟩ := B
  have hlt : j < ws.length := (List.getElem?_eq_some_iff.mp hj).1
  have hcell : vp_cell ci (n, .inl (fun i : Nat => iI (f i))) = vp_cell ci (n, .inl (fun i : Nat => iI (g i))) := by
    have e : (fun q : Fin n => Value.int (iI (f ((q.val : Nat) : Int)))) = fun q : Fin n => Value.int (iI (g ((q.val : Nat) : Int))) := funext fun q => by
      have := q.isLt
      rw [he _ (by omega) (by omega)]
    show ({ cls := ci, slots := Array.ofFn (n := n) fun q : Fin n => Value.int (iI (f ((q.val : Nat) : Int))), vm := .none } : Cell) = { cls := ci, slots := Array.ofFn (n := n) fun q : Fin n => Value.int (iI (g ((q.val : Nat) : Int))), vm := .none }
    rw [e]
  have hset : ∀ (i : Nat) (q : Nat × va_E), (ws.set j (a, .inl (ci, n, .inl (fun i : Nat => iI (g i)))))[i]? = some q → ∃ q1 : Nat × va_E, ws[i]? = some q1 ∧ q1.1 = q.1 := by
    intro i q hq
    by_cases e : i = j
    · subst e
      rw [List.getElem?_set_self hlt] at hq
      cases hq
      exact ⟨_, hj, rfl⟩
    · rw [List.getElem?_set_ne (fun h => e h.symm)] at hq
      exact ⟨q, hq, rfl⟩
  refine ⟨h1, h2, h3, ?_, ⟨?_, ?_⟩, h6⟩
  · intro i q hq
    by_cases e : i = j
    · subst e
      rw [List.getElem?_set_self hlt] at hq
      cases hq
      have := hP i _ hj
      show H[a]? = some (vp_cell ci (n, .inl (fun i : Nat => iI (g i))))
      rw [← hcell]
      exact this
    · rw [List.getElem?_set_ne (fun h => e h.symm)] at hq
      exact hP i q hq
  · intro i i2 q q2 hq hq2 e
    obtain ⟨r1, g1, g2⟩ := hset i q hq
    obtain ⟨r2, g3, g4⟩ := hset i2 q2 hq2
    exact hD.1 i i2 r1 r2 g1 g3 (by rw [g2, g4, e])
  · intro i q hq
    obtain ⟨r1, g1, g2⟩ := hset i q hq
    rw [← g2]
    exact hD.2 i r1 g1
/-- the sum of n places from c on -/
def smZ (f : Int → Int) (c : Int) : Nat → Int
  | 0 => 0
  | n + 1 => smZ f c n + f (c + (n : Int))
theorem smZ_s {f : Int → Int} {c q : Int} (h : 0 ≤ q) : smZ f c (Int.toNat (q + 1)) = smZ f c (Int.toNat q) + f (c + q) := by
  rw [show Int.toNat (q + 1) = Int.toNat q + 1 by omega]
  simp only [smZ]
  rw [show ((Int.toNat q : Nat) : Int) = q by omega]
theorem smZ_in {f : Int → Int} {c bm : Int} (h : Bd 0 bm f) : ∀ n : Nat, n ≤ 3 → 0 ≤ smZ f c n ∧ smZ f c n ≤ 3 * bm
  | 0, _ => by have := h 0; simp only [smZ]; omega
  | 1, _ => by have := h c; have e : c + ((0 : Nat) : Int) = c := by omega
               simp only [smZ, e]; omega
  | 2, _ => by have h1 := h c; have h2 := h (c + 1); have e : c + ((0 : Nat) : Int) = c := by omega
               have e2 : c + ((1 : Nat) : Int) = c + 1 := rfl
               simp only [smZ, e, e2]; omega
  | 3, _ => by have h1 := h c; have h2 := h (c + 1); have h3 := h (c + 2); have e : c + ((0 : Nat) : Int) = c := by omega
               have e2 : c + ((1 : Nat) : Int) = c + 1 := rfl
               have e3 : c + ((2 : Nat) : Int) = c + 2 := rfl
               simp only [smZ, e, e2, e3]; omega
  | n + 4, h => by omega
def rcZ (f : Int → Int) : Nat → Int
  | 0 => 0
  | c + 1 => if 0 < f c then (c : Int) / 3 + 1 else rcZ f c
def ccZ (f : Int → Int) : Nat → Int
  | 0 => 0
  | c + 1 => if 0 < f c then max (ccZ f c) ((c : Int) % 3 + f c) else ccZ f c
theorem rcZ_s {f : Int → Int} {q : Int} (h : 0 ≤ q) : rcZ f (Int.toNat (q + 1)) = if 0 < f q then q / 3 + 1 else rcZ f (Int.toNat q) := by
  rw [show Int.toNat (q + 1) = Int.toNat q + 1 by omega]
  simp only [rcZ]
  rw [show ((Int.toNat q : Nat) : Int) = q by omega]
theorem ccZ_s {f : Int → Int} {q : Int} (h : 0 ≤ q) : ccZ f (Int.toNat (q + 1)) = if 0 < f q then max (ccZ f (Int.toNat q)) (q % 3 + f q) else ccZ f (Int.toNat q) := by
  rw [show Int.toNat (q + 1) = Int.toNat q + 1 by omega]
  simp only [ccZ]
  rw [show ((Int.toNat q : Nat) : Int) = q by omega]
/-- a lack shared out over n of sp columns from c on -/
def shL (f : Int → Int) (c lk sp : Int) : Nat → Int → Int
  | 0 => f
  | n + 1 => uz (shL f c lk sp n) (c + (n : Int)) ((shL f c lk sp n) (c + (n : Int)) + (lk / sp + (if (n : Int) < lk % sp then 1 else 0)))
theorem shL_s {f : Int → Int} {c lk sp q : Int} (h : 0 ≤ q) : shL f c lk sp (Int.toNat (q + 1)) = uz (shL f c lk sp (Int.toNat q)) (c + q) ((shL f c lk sp (Int.toNat q)) (c + q) + (lk / sp + (if q < lk % sp then 1 else 0))) := by
  rw [show Int.toNat (q + 1) = Int.toNat q + 1 by omega]
  simp only [shL]
  rw [show ((Int.toNat q : Nat) : Int) = q by omega]
def shO (f0 f : Int → Int) (cx wt : Int) : Int → Int := if 0 < wt - smZ f (cx % 3) (Int.toNat (f0 cx)) ∧ 1 ≤ f0 cx then shL f (cx % 3) (wt - smZ f (cx % 3) (Int.toNat (f0 cx))) (f0 cx) (Int.toNat (f0 cx)) else f
/-- the widths after the cells up to c of those that take sp columns; after all that take up to n columns -/
def msC (f0 fv f : Int → Int) (sp : Int) : Nat → Int → Int
  | 0 => f
  | c + 1 => if f0 c = sp then shO f0 (msC f0 fv f sp c) c (fv c) else msC f0 fv f sp c
def msW (f0 fv : Int → Int) : Nat → Int → Int
  | 0 => fun _ => 0
  | n + 1 => msC f0 fv (msW f0 fv n) ((n : Int) + 1) 12
theorem msC_s {f0 fv f : Int → Int} {sp q : Int} (h : 0 ≤ q) : msC f0 fv f sp (Int.toNat (q + 1)) = if f0 q = sp then shO f0 (msC f0 fv f sp (Int.toNat q)) q (fv q) else msC f0 fv f sp (Int.toNat q) := by
  rw [show Int.toNat (q + 1) = Int.toNat q + 1 by omega]
  simp only [msC]
  rw [show ((Int.toNat q : Nat) : Int) = q by omega]
theorem msW_s {f0 fv : Int → Int} {q : Int} (h : 1 ≤ q) : msW f0 fv (Int.toNat q) = msC f0 fv (msW f0 fv (Int.toNat (q - 1))) q 12 := by
  rw [show Int.toNat q = Int.toNat (q - 1) + 1 by omega]
  simp only [msW]
  rw [show ((Int.toNat (q - 1) : Nat) : Int) + 1 = q by omega]
/-- what the best widths are above the least ones -/
def wiF (fl fb : Int → Int) : Int → Int := fun i => max 0 (fb i - fl i)
theorem wiF_Bd {fl fb : Int → Int} {hi : Int} (hl : Bd 0 hi fl) (hb : Bd 0 hi fb) : Bd 0 hi (wiF fl fb) := fun i => by
  have := hl i; have := hb i
  simp only [wiF]
  omega
def swC (fw fx : Int → Int) (ex al : Int) : Nat → (Int → Int) × Int
  | 0 => (fw, ex)
  | n + 1 => (uz (swC fw fx ex al n).1 (n : Int) ((swC fw fx ex al n).1 (n : Int) + ex * fx (n : Int) / al), (swC fw fx ex al n).2 - ex * fx (n : Int) / al)
theorem swC_s {fw fx : Int → Int} {ex al q : Int} (h : 0 ≤ q) : swC fw fx ex al (Int.toNat (q + 1)) = (uz (swC fw fx ex al (Int.toNat q)).1 q ((swC fw fx ex al (Int.toNat q)).1 q + ex * fx q / al), (swC fw fx ex al (Int.toNat q)).2 - ex * fx q / al) := by
  rw [show Int.toNat (q + 1) = Int.toNat q + 1 by omega]
  simp only [swC]
  rw [show ((Int.toNat q : Nat) : Int) = q by omega]
def swD (g : Int → Int) (ov : Int) : Nat → Int → Int
  | 0 => g
  | n + 1 => if (n : Int) < ov then uz (swD g ov n) (n : Int) ((swD g ov n) (n : Int) + 1) else swD g ov n
theorem swD_s {g : Int → Int} {ov q : Int} (h : 0 ≤ q) (h2 : q < ov) : swD g ov (Int.toNat (q + 1)) = uz (swD g ov (Int.toNat q)) q ((swD g ov (Int.toNat q)) q + 1) := by
  rw [show Int.toNat (q + 1) = Int.toNat q + 1 by omega]
  simp only [swD]
  rw [show ((Int.toNat q : Nat) : Int) = q by omega, if_pos h2]
theorem swD_e {g : Int → Int} {ov q : Int} (h : 0 ≤ q ∧ q ≤ 3) (h2 : ov ≤ q ∨ q = 3) : swD g ov 3 = swD g ov (Int.toNat q) := by
  have hst : ∀ d : Nat, ov ≤ q → swD g ov (Int.toNat q + d) = swD g ov (Int.toNat q) := by
    intro d hov
    induction d with
    | zero => rfl
    | succ d ih =>
      show (if ((Int.toNat q + d : Nat) : Int) < ov then _ else swD g ov (Int.toNat q + d)) = _
      rw [if_neg (by omega)]
      exact ih
  by_cases e : q = 3
  · subst e; rfl
  · have := hst (3 - Int.toNat q) (by omega)
    rw [show Int.toNat q + (3 - Int.toNat q) = 3 by omega] at this
    exact this
def swZ (fw fx : Int → Int) (ex al : Int) : Int → Int := if 0 < al then swD (swC fw fx ex al 3).1 (swC fw fx ex al 3).2 3 else fw
def fitZ (fl fb : Int → Int) (pw : Int) : Int → Int := if smZ fb 0 3 ≤ pw then fb else if smZ fl 0 3 < pw then swZ fl (wiF fl fb) (pw - smZ fl 0 3) (smZ (wiF fl fb) 0 3) else fl
/-- the height of a row from its first n columns -/
def htZ (f0 f2 fw : Int → Int) (rw_ : Int) : Nat → Int
  | 0 => 1
  | c + 1 => if 0 < smZ fw ((rw_ * 3 + (c : Int)) % 3) (Int.toNat (f0 (rw_ * 3 + (c : Int)))) then max (htZ f0 f2 fw rw_ c) ((f2 (rw_ * 3 + (c : Int)) + smZ fw ((rw_ * 3 + (c : Int)) % 3) (Int.toNat (f0 (rw_ * 3 + (c : Int)))) - 1) / smZ fw ((rw_ * 3 + (c : Int)) % 3) (Int.toNat (f0 (rw_ * 3 + (c : Int))))) else htZ f0 f2 fw rw_ c
theorem htZ_s {f0 f2 fw : Int → Int} {rw_ q : Int} (h : 0 ≤ q) : htZ f0 f2 fw rw_ (Int.toNat (q + 1)) = if 0 < smZ fw ((rw_ * 3 + q) % 3) (Int.toNat (f0 (rw_ * 3 + q))) then max (htZ f0 f2 fw rw_ (Int.toNat q)) ((f2 (rw_ * 3 + q) + smZ fw ((rw_ * 3 + q) % 3) (Int.toNat (f0 (rw_ * 3 + q))) - 1) / smZ fw ((rw_ * 3 + q) % 3) (Int.toNat (f0 (rw_ * 3 + q)))) else htZ f0 f2 fw rw_ (Int.toNat q) := by
  rw [show Int.toNat (q + 1) = Int.toNat q + 1 by omega]
  simp only [htZ]
  rw [show ((Int.toNat q : Nat) : Int) = q by omega]
theorem cdiv_in {b w : Int} (hb : 0 ≤ b) (hw : 0 < w) : 0 ≤ (b + w - 1) / w ∧ (b + w - 1) / w ≤ b := by
  refine ⟨Int.ediv_nonneg (by omega) (by omega), ?_⟩
  have h1 : (b + w - 1) / w < b + 1 := Int.ediv_lt_of_lt_mul hw (by
    have h2 : b * 1 ≤ b * w := Int.mul_le_mul_of_nonneg_left (by omega) hb
    have h3 : (b + 1) * w = b * w + w := by rw [Int.add_mul, Int.one_mul]
    omega)
  omega

theorem dJ7_fill_53178_0 : decode cJ7_fill_53178 0 = .ok (.iconst 0, 1) := by decide +kernel
theorem dJ7_fill_53178_1 : decode cJ7_fill_53178 1 = .ok (.istore_n 2, 1) := by decide +kernel
theorem dJ7_fill_53178_2 : decode cJ7_fill_53178 2 = .ok (.aload_n 0, 1) := by decide +kernel
theorem dJ7_fill_53178_3 : decode cJ7_fill_53178 3 = .ok (.arraylength, 1) := by decide +kernel
theorem dJ7_fill_53178_4 : decode cJ7_fill_53178 4 = .ok (.istore_n 3, 1) := by decide +kernel
theorem dJ7_fill_53178_5 : decode cJ7_fill_53178 5 = .ok (.iload_n 2, 1) := by decide +kernel
theorem dJ7_fill_53178_6 : decode cJ7_fill_53178 6 = .ok (.iload_n 3, 1) := by decide +kernel
theorem dJ7_fill_53178_7 : decode cJ7_fill_53178 7 = .ok (.if_icmp .ge 13, 3) := by decide +kernel
theorem dJ7_fill_53178_10 : decode cJ7_fill_53178 10 = .ok (.aload_n 0, 1) := by decide +kernel
theorem dJ7_fill_53178_11 : decode cJ7_fill_53178 11 = .ok (.iload_n 2, 1) := by decide +kernel
theorem dJ7_fill_53178_12 : decode cJ7_fill_53178 12 = .ok (.iload_n 1, 1) := by decide +kernel
theorem dJ7_fill_53178_13 : decode cJ7_fill_53178 13 = .ok (.iastore, 1) := by decide +kernel
theorem dJ7_fill_53178_14 : decode cJ7_fill_53178 14 = .ok (.iinc 2 1, 3) := by decide +kernel
theorem dJ7_fill_53178_17 : decode cJ7_fill_53178 17 = .ok (.goto (-12), 3) := by decide +kernel
theorem dJ7_fill_53178_20 : decode cJ7_fill_53178 20 = .ok (.return_, 1) := by decide +kernel
set_option maxHeartbeats 4000000 in
set_option maxRecDepth 100000 in
theorem k_fill (l : Launch) (dC : Nat → ClassId) (dI : Nat → Nat → Nat) (k : Nat → ClassId) (ca : Nat) (nn : Nat) (fc : Int → Int) (v : Int) (h1 : (nn : Int) < 100000) : Kn l dC dI k yJ7_fill_53178 (.code yJ7_fill_53178 cJ7_fill_53178 4 none) ({ frames := 0, cells := 0, slots := 0, locals := 0 } : Room) [.ref ca, .int (iI v)] [(ca, .inl (k 0, nn, .inl (fun i9 : Nat => iI (fc i9))))] (fun r w gc gs => (r = none ∧ w = [(ca, .inl (k 0, nn, .inl (fun i9 : Nat => iI ((fun _ : Int => v) i9))))] ∧ gc = 0 ∧ gs = 0)) := by
  refine kn_of (by decide) (Nat.le_of_ble_eq_true rfl) ?_
  intro p e s m args below meth c H locs B hr hnm ls hl
  have hx := B.1.1
  have hb := B.1.2.1
  have hl : lv_has ls 4 [(0, .ref ca), (1, .int (iI v))] := hl
  refine lv_iconst (v := iI 0) hx hb dJ7_fill_53178_0 (by decide) ?_
  refine lv_istore_n (lv' := [(2, .int (iI 0)), (0, .ref ca), (1, .int (iI v))]) hx hb dJ7_fill_53178_1 rfl hl (by decide) rfl (fun ls hl => ?_)
  refine lv_aload_n hx hb dJ7_fill_53178_2 rfl (lv_at hl 1 rfl) ?_
  refine x_alen' B 0 0 rfl rfl dJ7_fill_53178_3 ?_
  refine lv_istore_n (lv' := [(3, .int (iI (nn : Int))), (2, .int (iI 0)), (0, .ref ca), (1, .int (iI v))]) hx hb dJ7_fill_53178_4 rfl hl (by decide) rfl (fun ls hl => ?_)
  have e_1 : fc = (fil fc 0 0 v) := (fil_0 _ _ _)
  have hl : lv_has ls 4 [(3, .int (iI (nn : Int))), (2, .int (iI 0)), (0, .ref ca), (1, .int (iI v))] := by first | exact lv_sub hl [0, 1, 2, 3] rfl | (try rw [← e_1]; exact lv_sub hl [0, 1, 2, 3] rfl)
  have B := bd_to (ws' := [(ca, .inl (k 0, nn, .inl (fun i9 : Nat => iI ((fil fc 0 0 v) i9))))]) (by first | rfl | (try rw [← e_1]; done) | (try rw [← e_1]; rfl)) B
  refine k_loop (σ := Int) B (fun g9 : Int => (0 ≤ g9 ∧ g9 ≤ (nn : Int))) (fun g9 : Int => ((nn : Int) - g9).toNat) (fun g9 : Int => [(3, .int (iI (nn : Int))), (2, .int (iI g9)), (0, .ref ca), (1, .int (iI v))]) (fun g9 : Int => [(ca, .inl (k 0, nn, .inl (fun i9 : Nat => iI ((fil fc 0 g9 v) i9))))]) ?_ 0 (show 0 ≤ 0 ∧ 0 ≤ (nn : Int) from (by omega)) ls H locs (lv_sub hl [0, 1, 2, 3] rfl) (bd_to rfl B)
  clear hl B
  rintro j hj ih_2 ls H locs hl B
  have hl : lv_has ls 4 [(3, .int (iI (nn : Int))), (2, .int (iI j)), (0, .ref ca), (1, .int (iI v))] := hl
  have B := bd_to (ws' := [(ca, .inl (k 0, nn, .inl (fun i9 : Nat => iI ((fil fc 0 j v) i9))))]) rfl B
  refine lv_iload_n hx hb dJ7_fill_53178_5 rfl (lv_at hl 1 rfl) ?_
  refine lv_iload_n hx hb dJ7_fill_53178_6 rfl (lv_at hl 0 rfl) ?_
  refine lv_icmp_ge (tgt := 20) hx hb dJ7_fill_53178_7 (by decide) (fun c_3 => ?_) (fun c_3 => ?_)
  · have zc_3 : (nn : Int) ≤ j := jle (a := (nn : Int)) (b := j) (by omega) (by omega) c_3
    have B := bd_ext (f := (fil fc 0 j v)) (g := (fun _ : Int => v)) 0 rfl (fun i9 h9 h8 => fil_in (by omega)) B
    have B := bd_to (ws' := [(ca, .inl (k 0, nn, .inl (fun i9 : Nat => iI ((fun _ : Int => v) i9))))]) rfl B
    exact k_vret B hr (⟨rfl, rfl, rfl, rfl⟩) ⟨Nat.le_of_ble_eq_true rfl, Nat.le_of_ble_eq_true rfl⟩ ⟨Nat.le_of_ble_eq_true rfl, Nat.le_of_ble_eq_true rfl⟩ dJ7_fill_53178_20
  · have zc_3 : j < (nn : Int) := jnle (a := (nn : Int)) (b := j) (by omega) (by omega) c_3
    refine lv_aload_n hx hb dJ7_fill_53178_10 rfl (lv_at hl 2 rfl) ?_
    refine lv_iload_n hx hb dJ7_fill_53178_11 rfl (lv_at hl 1 rfl) ?_
    refine lv_iload_n hx hb dJ7_fill_53178_12 rfl (lv_at hl 3 rfl) ?_
    refine x_iast' (f := (fil fc 0 j v)) (z := j) (v := v) B 0 rfl (by omega) dJ7_fill_53178_13 (fun H locs B => ?_)
    have B := bd_to (ws' := [(ca, .inl (k 0, nn, .inl (fun i9 : Nat => iI ((uz (fil fc 0 j v) j v) i9))))]) rfl B
    refine lv_iinc (v := iI (j + 1)) (lv' := [(2, .int (iI (j + 1))), (3, .int (iI (nn : Int))), (0, .ref ca), (1, .int (iI v))]) hx hb dJ7_fill_53178_14 hl (k := 1) rfl (iI_add _ _) (by decide) rfl (fun ls hl => ?_)
    refine lv_goto (tgt := 5) hx hb dJ7_fill_53178_17 (by decide) ?_
    have e_4 : (uz (fil fc 0 j v) j v) = (fil fc 0 (j + 1) v) := (by have q9 := fil_s fc (b := 0) (n := j) (v := v) (by omega); rw [Int.zero_add] at q9; exact q9)
    have hl : lv_has ls 4 [(3, .int (iI (nn : Int))), (2, .int (iI (j + 1))), (0, .ref ca), (1, .int (iI v))] := by first | exact lv_sub hl [1, 0, 2, 3] rfl | (try rw [← e_4]; exact lv_sub hl [1, 0, 2, 3] rfl)
    have B := bd_sub (ws' := [(ca, .inl (k 0, nn, .inl (fun i9 : Nat => iI ((uz (fil fc 0 j v) j v) i9))))]) [0] (by decide) rfl B
    have B := bd_to (ws' := [(ca, .inl (k 0, nn, .inl (fun i9 : Nat => iI ((fil fc 0 (j + 1) v) i9))))]) (by first | rfl | (try rw [e_4]; done) | (try rw [e_4]; rfl)) B
    exact ih_2 (j + 1) (show 0 ≤ (j + 1) ∧ (j + 1) ≤ (nn : Int) from (by omega)) (by first | omega | (dsimp only; omega)) _ _ _ (lv_sub hl [0, 1, 2, 3] rfl) (bd_to rfl B)

theorem mw_1143 : (Jvm.Cond.fieldLink "Galleyforge$Table" (9 : Nat) "Galleyforge$Table" "spans" "[I") ∈ gt := gt_at 1213 (by decide +kernel) (by decide +kernel)
theorem in_X8 : ∀ w ∈ u_ws RX8 TX8 7, w ∈ gt := in_of _ [1221, 1223, 1225, 1227, 1229, 1231, 1233] (by decide +kernel) (by decide +kernel)
theorem dX8_rowCount_0 : decode cX8_rowCount 0 = .ok (.iconst 0, 1) := by decide +kernel
theorem dX8_rowCount_1 : decode cX8_rowCount 1 = .ok (.istore_n 1, 1) := by decide +kernel
theorem dX8_rowCount_2 : decode cX8_rowCount 2 = .ok (.iconst 0, 1) := by decide +kernel
theorem dX8_rowCount_3 : decode cX8_rowCount 3 = .ok (.istore_n 2, 1) := by decide +kernel
theorem dX8_rowCount_4 : decode cX8_rowCount 4 = .ok (.iload_n 2, 1) := by decide +kernel
theorem dX8_rowCount_5 : decode cX8_rowCount 5 = .ok (.aload_n 0, 1) := by decide +kernel
theorem dX8_rowCount_6 : decode cX8_rowCount 6 = .ok (.getfield 9, 3) := by decide +kernel
theorem dX8_rowCount_9 : decode cX8_rowCount 9 = .ok (.arraylength, 1) := by decide +kernel
theorem dX8_rowCount_10 : decode cX8_rowCount 10 = .ok (.if_icmp .ge 24, 3) := by decide +kernel
theorem dX8_rowCount_13 : decode cX8_rowCount 13 = .ok (.aload_n 0, 1) := by decide +kernel
theorem dX8_rowCount_14 : decode cX8_rowCount 14 = .ok (.getfield 9, 3) := by decide +kernel
theorem dX8_rowCount_17 : decode cX8_rowCount 17 = .ok (.iload_n 2, 1) := by decide +kernel
theorem dX8_rowCount_18 : decode cX8_rowCount 18 = .ok (.iaload, 1) := by decide +kernel
theorem dX8_rowCount_19 : decode cX8_rowCount 19 = .ok (.ifCond .le 9, 3) := by decide +kernel
theorem dX8_rowCount_22 : decode cX8_rowCount 22 = .ok (.iload_n 2, 1) := by decide +kernel
theorem dX8_rowCount_23 : decode cX8_rowCount 23 = .ok (.iconst 3, 1) := by decide +kernel
theorem dX8_rowCount_24 : decode cX8_rowCount 24 = .ok (.idiv, 1) := by decide +kernel
theorem dX8_rowCount_25 : decode cX8_rowCount 25 = .ok (.iconst 1, 1) := by decide +kernel
theorem dX8_rowCount_26 : decode cX8_rowCount 26 = .ok (.iadd, 1) := by decide +kernel
theorem dX8_rowCount_27 : decode cX8_rowCount 27 = .ok (.istore_n 1, 1) := by decide +kernel
theorem dX8_rowCount_28 : decode cX8_rowCount 28 = .ok (.iinc 2 1, 3) := by decide +kernel
theorem dX8_rowCount_31 : decode cX8_rowCount 31 = .ok (.goto (-27), 3) := by decide +kernel
theorem dX8_rowCount_34 : decode cX8_rowCount 34 = .ok (.iload_n 1, 1) := by decide +kernel
theorem dX8_rowCount_35 : decode cX8_rowCount 35 = .ok (.ireturn, 1) := by decide +kernel
set_option maxHeartbeats 4000000 in
set_option maxRecDepth 100000 in
theorem k_rowCount (l : Launch) (dC : Nat → ClassId) (dI : Nat → Nat → Nat) (k : Nat → ClassId) (tb : Nat) (s0 : Nat) (s1 : Nat) (s2 : Nat) (s3 : Nat) (s4 : Nat) (s5 : Nat) (s6 : Nat) (f0 : Int → Int) (hs0 : Bd 0 3 f0) : Kn l dC dI k yX8_rowCount (.code yX8_rowCount cX8_rowCount 3 (some .int)) ({ frames := 0, cells := 0, slots := 0, locals := 0 } : Room) [.ref tb] [(tb, .inr (8, [.ref s0, .ref s1, .ref s2, .ref s3, .ref s4, .ref s5, .ref s6])), (s0, .inl (k 0, 12, .inl (fun i9 : Nat => iI (f0 i9))))] (fun r w gc gs => (r = some (.int (iI (rcZ f0 12))) ∧ w = [(tb, .inr (8, [.ref s0, .ref s1, .ref s2, .ref s3, .ref s4, .ref s5, .ref s6])), (s0, .inl (k 0, 12, .inl (fun i9 : Nat => iI (f0 i9))))] ∧ gc = 0 ∧ gs = 0)) := by
  refine kn_of (by decide) (Nat.le_of_ble_eq_true rfl) ?_
  intro p e s m args below meth c H locs B hr hnm ls hl
  have hx := B.1.1
  have hb := B.1.2.1
  have hl : lv_has ls 3 [(0, .ref tb)] := hl
  refine lv_iconst (v := iI 0) hx hb dX8_rowCount_0 (by decide) ?_
  refine lv_istore_n (lv' := [(1, .int (iI 0)), (0, .ref tb)]) hx hb dX8_rowCount_1 rfl hl (by decide) rfl (fun ls hl => ?_)
  refine lv_iconst (v := iI 0) hx hb dX8_rowCount_2 (by decide) ?_
  refine lv_istore_n (lv' := [(2, .int (iI 0)), (1, .int (iI 0)), (0, .ref tb)]) hx hb dX8_rowCount_3 rfl hl (by decide) rfl (fun ls hl => ?_)
  refine k_loop (σ := Int × Int) B (fun g9 : Int × Int => (0 ≤ g9.1 ∧ g9.1 ≤ 12 ∧ 0 ≤ g9.2 ∧ g9.2 ≤ 4) ∧ (g9.2 = rcZ f0 (Int.toNat g9.1))) (fun g9 : Int × Int => (12 - g9.1).toNat) (fun g9 : Int × Int => [(2, .int (iI g9.1)), (1, .int (iI g9.2)), (0, .ref tb)]) (fun g9 : Int × Int => [(tb, .inr (8, [.ref s0, .ref s1, .ref s2, .ref s3, .ref s4, .ref s5, .ref s6])), (s0, .inl (k 0, 12, .inl (fun i9 : Nat => iI (f0 i9))))]) ?_ (0, 0) ⟨(show 0 ≤ 0 ∧ 0 ≤ 12 ∧ 0 ≤ 0 ∧ 0 ≤ 4 from (by omega)), (show 0 = rcZ f0 (Int.toNat 0) from rfl)⟩ ls H locs (lv_sub hl [0, 1, 2] rfl) (bd_to rfl B)
  clear hl B
  rintro ⟨j, rc⟩ ⟨hj, hrc⟩ ih_1 ls H locs hl B
  have hj : 0 ≤ j ∧ j ≤ 12 ∧ 0 ≤ rc ∧ rc ≤ 4 := hj
  have hrc : rc = rcZ f0 (Int.toNat j) := hrc
  have hl : lv_has ls 3 [(2, .int (iI j)), (1, .int (iI rc)), (0, .ref tb)] := hl
  have B := bd_to (ws' := [(tb, .inr (8, [.ref s0, .ref s1, .ref s2, .ref s3, .ref s4, .ref s5, .ref s6])), (s0, .inl (k 0, 12, .inl (fun i9 : Nat => iI (f0 i9))))]) rfl B
  refine lv_iload_n hx hb dX8_rowCount_4 rfl (lv_at hl 0 rfl) ?_
  refine lv_aload_n hx hb dX8_rowCount_5 rfl (lv_at hl 2 rfl) ?_
  refine x_get (ci := 8) (C := RX8) (T := TX8) (N := 7) (v := .ref s0) B 0 rfl rfl in_X8 0 (by decide) mw_1143 (fun _ h9 => h9) rfl dX8_rowCount_6 ?_
  refine x_alen' B 1 0 rfl rfl dX8_rowCount_9 ?_
  refine lv_seti (y := iI 12) (by decide) ?_
  refine lv_icmp_ge (tgt := 34) hx hb dX8_rowCount_10 (by decide) (fun c_2 => ?_) (fun c_2 => ?_)
  · have zc_2 : 12 ≤ j := jle (a := 12) (b := j) (by omega) (by omega) c_2
    refine lv_iload_n hx hb dX8_rowCount_34 rfl (lv_at hl 1 rfl) ?_
    have e_3 : (rcZ f0 12) = rc := (by rw [hrc, show j = 12 by omega]; rfl)
    skip
    exact k_iret B hr (⟨(by rw [e_3]), rfl, rfl, rfl⟩) ⟨Nat.le_of_ble_eq_true rfl, Nat.le_of_ble_eq_true rfl⟩ ⟨Nat.le_of_ble_eq_true rfl, Nat.le_of_ble_eq_true rfl⟩ dX8_rowCount_35
  · have zc_2 : j < 12 := jnle (a := 12) (b := j) (by omega) (by omega) c_2
    refine lv_aload_n hx hb dX8_rowCount_13 rfl (lv_at hl 2 rfl) ?_
    refine x_get (ci := 8) (C := RX8) (T := TX8) (N := 7) (v := .ref s0) B 0 rfl rfl in_X8 0 (by decide) mw_1143 (fun _ h9 => h9) rfl dX8_rowCount_14 ?_
    refine lv_iload_n hx hb dX8_rowCount_17 rfl (lv_at hl 0 rfl) ?_
    refine x_iald' (f := f0) (z := j) B 1 rfl (by omega) dX8_rowCount_18 ?_
    have z_4 : 0 ≤ (f0 j) ∧ (f0 j) ≤ 3 := hs0 j
    refine lv_if_le (tgt := 28) hx hb dX8_rowCount_19 (by decide) (fun c_5 => ?_) (fun c_5 => ?_)
    · have zc_5 : (f0 j) ≤ 0 := jle (a := (f0 j)) (b := 0) (by omega) (by omega) c_5
      refine lv_iinc (v := iI (j + 1)) (lv' := [(2, .int (iI (j + 1))), (1, .int (iI rc)), (0, .ref tb)]) hx hb dX8_rowCount_28 hl (k := 0) rfl (iI_add _ _) (by decide) rfl (fun ls hl => ?_)
      refine lv_goto (tgt := 4) hx hb dX8_rowCount_31 (by decide) ?_
      exact ih_1 ((j + 1), rc) ⟨(show 0 ≤ (j + 1) ∧ (j + 1) ≤ 12 ∧ 0 ≤ rc ∧ rc ≤ 4 from (by omega)), (show rc = rcZ f0 (Int.toNat (j + 1)) from (by rw [rcZ_s (by omega)]; first | exact (if_pos (by omega)).symm | (rw [if_neg (by omega)]; exact hrc)))⟩ (by first | omega | (dsimp only; omega)) _ _ _ (lv_sub hl [0, 1, 2] rfl) (bd_to rfl B)
    · have zc_5 : 0 < (f0 j) := jnle (a := (f0 j)) (b := 0) (by omega) (by omega) c_5
      refine lv_iload_n hx hb dX8_rowCount_22 rfl (lv_at hl 0 rfl) ?_
      refine lv_iconst (v := iI 3) hx hb dX8_rowCount_23 (by decide) ?_
      refine y_div hx hb (a := j) (b := 3) (by omega) (by omega) dX8_rowCount_24 ?_
      refine lv_iconst (v := iI 1) hx hb dX8_rowCount_25 (by decide) ?_
      refine y_add hx hb dX8_rowCount_26 ?_
      refine lv_istore_n (lv' := [(1, .int (iI ((j / 3) + 1))), (2, .int (iI j)), (0, .ref tb)]) hx hb dX8_rowCount_27 rfl hl (by decide) rfl (fun ls hl => ?_)
      refine lv_iinc (v := iI (j + 1)) (lv' := [(2, .int (iI (j + 1))), (1, .int (iI ((j / 3) + 1))), (0, .ref tb)]) hx hb dX8_rowCount_28 hl (k := 1) rfl (iI_add _ _) (by decide) rfl (fun ls hl => ?_)
      refine lv_goto (tgt := 4) hx hb dX8_rowCount_31 (by decide) ?_
      exact ih_1 ((j + 1), ((j / 3) + 1)) ⟨(show 0 ≤ (j + 1) ∧ (j + 1) ≤ 12 ∧ 0 ≤ ((j / 3) + 1) ∧ ((j / 3) + 1) ≤ 4 from (by omega)), (show ((j / 3) + 1) = rcZ f0 (Int.toNat (j + 1)) from (by rw [rcZ_s (by omega)]; first | exact (if_pos (by omega)).symm | (rw [if_neg (by omega)]; exact hrc)))⟩ (by first | omega | (dsimp only; omega)) _ _ _ (lv_sub hl [0, 1, 2] rfl) (bd_to rfl B)

theorem mw_1324 : (Jvm.Cond.methodLink "Galleyforge$Table" (33 : Nat) ({ cls := "java/lang/Math", name := "max", desc := "(II)I" } : Jvm.MethodName)) ∈ gt := gt_at 1394 (by decide +kernel) (by decide +kernel)
theorem dX8_columnCount_0 : decode cX8_columnCount 0 = .ok (.iconst 0, 1) := by decide +kernel
theorem dX8_columnCount_1 : decode cX8_columnCount 1 = .ok (.istore_n 1, 1) := by decide +kernel
theorem dX8_columnCount_2 : decode cX8_columnCount 2 = .ok (.iconst 0, 1) := by decide +kernel
theorem dX8_columnCount_3 : decode cX8_columnCount 3 = .ok (.istore_n 2, 1) := by decide +kernel
theorem dX8_columnCount_4 : decode cX8_columnCount 4 = .ok (.iload_n 2, 1) := by decide +kernel
theorem dX8_columnCount_5 : decode cX8_columnCount 5 = .ok (.aload_n 0, 1) := by decide +kernel
theorem dX8_columnCount_6 : decode cX8_columnCount 6 = .ok (.getfield 9, 3) := by decide +kernel
theorem dX8_columnCount_9 : decode cX8_columnCount 9 = .ok (.arraylength, 1) := by decide +kernel
theorem dX8_columnCount_10 : decode cX8_columnCount 10 = .ok (.if_icmp .ge 33, 3) := by decide +kernel
theorem dX8_columnCount_13 : decode cX8_columnCount 13 = .ok (.aload_n 0, 1) := by decide +kernel
theorem dX8_columnCount_14 : decode cX8_columnCount 14 = .ok (.getfield 9, 3) := by decide +kernel
theorem dX8_columnCount_17 : decode cX8_columnCount 17 = .ok (.iload_n 2, 1) := by decide +kernel
theorem dX8_columnCount_18 : decode cX8_columnCount 18 = .ok (.iaload, 1) := by decide +kernel
theorem dX8_columnCount_19 : decode cX8_columnCount 19 = .ok (.ifCond .le 18, 3) := by decide +kernel
theorem dX8_columnCount_22 : decode cX8_columnCount 22 = .ok (.iload_n 1, 1) := by decide +kernel
theorem dX8_columnCount_23 : decode cX8_columnCount 23 = .ok (.iload_n 2, 1) := by decide +kernel
theorem dX8_columnCount_24 : decode cX8_columnCount 24 = .ok (.iconst 3, 1) := by decide +kernel
theorem dX8_columnCount_25 : decode cX8_columnCount 25 = .ok (.irem, 1) := by decide +kernel
theorem dX8_columnCount_26 : decode cX8_columnCount 26 = .ok (.aload_n 0, 1) := by decide +kernel
theorem dX8_columnCount_27 : decode cX8_columnCount 27 = .ok (.getfield 9, 3) := by decide +kernel
theorem dX8_columnCount_30 : decode cX8_columnCount 30 = .ok (.iload_n 2, 1) := by decide +kernel
theorem dX8_columnCount_31 : decode cX8_columnCount 31 = .ok (.iaload, 1) := by decide +kernel
theorem dX8_columnCount_32 : decode cX8_columnCount 32 = .ok (.iadd, 1) := by decide +kernel
theorem dX8_columnCount_33 : decode cX8_columnCount 33 = .ok (.invokestatic 33, 3) := by decide +kernel
theorem dX8_columnCount_36 : decode cX8_columnCount 36 = .ok (.istore_n 1, 1) := by decide +kernel
theorem dX8_columnCount_37 : decode cX8_columnCount 37 = .ok (.iinc 2 1, 3) := by decide +kernel
theorem dX8_columnCount_40 : decode cX8_columnCount 40 = .ok (.goto (-36), 3) := by decide +kernel
theorem dX8_columnCount_43 : decode cX8_columnCount 43 = .ok (.iload_n 1, 1) := by decide +kernel
theorem dX8_columnCount_44 : decode cX8_columnCount 44 = .ok (.ireturn, 1) := by decide +kernel
set_option maxHeartbeats 4000000 in
set_option maxRecDepth 100000 in
theorem k_columnCount (l : Launch) (dC : Nat → ClassId) (dI : Nat → Nat → Nat) (k : Nat → ClassId) (tb : Nat) (s0 : Nat) (s1 : Nat) (s2 : Nat) (s3 : Nat) (s4 : Nat) (s5 : Nat) (s6 : Nat) (f0 : Int → Int) (hs0 : Bd 0 3 f0) : Kn l dC dI k yX8_columnCount (.code yX8_columnCount cX8_columnCount 3 (some .int)) ({ frames := 1, cells := 0, slots := 0, locals := 13 } : Room) [.ref tb] [(tb, .inr (8, [.ref s0, .ref s1, .ref s2, .ref s3, .ref s4, .ref s5, .ref s6])), (s0, .inl (k 0, 12, .inl (fun i9 : Nat => iI (f0 i9))))] (fun r w gc gs => (r = some (.int (iI (ccZ f0 12))) ∧ w = [(tb, .inr (8, [.ref s0, .ref s1, .ref s2, .ref s3, .ref s4, .ref s5, .ref s6])), (s0, .inl (k 0, 12, .inl (fun i9 : Nat => iI (f0 i9))))] ∧ gc = 0 ∧ gs = 0)) := by
  refine kn_of (by decide) (Nat.le_of_ble_eq_true rfl) ?_
  intro p e s m args below meth c H locs B hr hnm ls hl
  have hx := B.1.1
  have hb := B.1.2.1
  have hl : lv_has ls 3 [(0, .ref tb)] := hl
  refine lv_iconst (v := iI 0) hx hb dX8_columnCount_0 (by decide) ?_
  refine lv_istore_n (lv' := [(1, .int (iI 0)), (0, .ref tb)]) hx hb dX8_columnCount_1 rfl hl (by decide) rfl (fun ls hl => ?_)
  refine lv_iconst (v := iI 0) hx hb dX8_columnCount_2 (by decide) ?_
  refine lv_istore_n (lv' := [(2, .int (iI 0)), (1, .int (iI 0)), (0, .ref tb)]) hx hb dX8_columnCount_3 rfl hl (by decide) rfl (fun ls hl => ?_)
  refine k_loop (σ := Int × Int) B (fun g9 : Int × Int => (0 ≤ g9.1 ∧ g9.1 ≤ 12 ∧ 0 ≤ g9.2 ∧ g9.2 ≤ 6) ∧ (g9.2 = ccZ f0 (Int.toNat g9.1))) (fun g9 : Int × Int => (12 - g9.1).toNat) (fun g9 : Int × Int => [(2, .int (iI g9.1)), (1, .int (iI g9.2)), (0, .ref tb)]) (fun g9 : Int × Int => [(tb, .inr (8, [.ref s0, .ref s1, .ref s2, .ref s3, .ref s4, .ref s5, .ref s6])), (s0, .inl (k 0, 12, .inl (fun i9 : Nat => iI (f0 i9))))]) ?_ (0, 0) ⟨(show 0 ≤ 0 ∧ 0 ≤ 12 ∧ 0 ≤ 0 ∧ 0 ≤ 6 from (by omega)), (show 0 = ccZ f0 (Int.toNat 0) from rfl)⟩ ls H locs (lv_sub hl [0, 1, 2] rfl) (bd_to rfl B)
  clear hl B
  rintro ⟨j, rc⟩ ⟨hj, hrc⟩ ih_1 ls H locs hl B
  have hj : 0 ≤ j ∧ j ≤ 12 ∧ 0 ≤ rc ∧ rc ≤ 6 := hj
  have hrc : rc = ccZ f0 (Int.toNat j) := hrc
  have hl : lv_has ls 3 [(2, .int (iI j)), (1, .int (iI rc)), (0, .ref tb)] := hl
  have B := bd_to (ws' := [(tb, .inr (8, [.ref s0, .ref s1, .ref s2, .ref s3, .ref s4, .ref s5, .ref s6])), (s0, .inl (k 0, 12, .inl (fun i9 : Nat => iI (f0 i9))))]) rfl B
  refine lv_iload_n hx hb dX8_columnCount_4 rfl (lv_at hl 0 rfl) ?_
  refine lv_aload_n hx hb dX8_columnCount_5 rfl (lv_at hl 2 rfl) ?_
  refine x_get (ci := 8) (C := RX8) (T := TX8) (N := 7) (v := .ref s0) B 0 rfl rfl in_X8 0 (by decide) mw_1143 (fun _ h9 => h9) rfl dX8_columnCount_6 ?_
  refine x_alen' B 1 0 rfl rfl dX8_columnCount_9 ?_
  refine lv_seti (y := iI 12) (by decide) ?_
  refine lv_icmp_ge (tgt := 43) hx hb dX8_columnCount_10 (by decide) (fun c_2 => ?_) (fun c_2 => ?_)
  · have zc_2 : 12 ≤ j := jle (a := 12) (b := j) (by omega) (by omega) c_2
    refine lv_iload_n hx hb dX8_columnCount_43 rfl (lv_at hl 1 rfl) ?_
    have e_3 : (ccZ f0 12) = rc := (by rw [hrc, show j = 12 by omega]; rfl)
    skip
    exact k_iret B hr (⟨(by rw [e_3]), rfl, rfl, rfl⟩) ⟨Nat.le_of_ble_eq_true rfl, Nat.le_of_ble_eq_true rfl⟩ ⟨Nat.le_of_ble_eq_true rfl, Nat.le_of_ble_eq_true rfl⟩ dX8_columnCount_44
  · have zc_2 : j < 12 := jnle (a := 12) (b := j) (by omega) (by omega) c_2
    refine lv_aload_n hx hb dX8_columnCount_13 rfl (lv_at hl 2 rfl) ?_
    refine x_get (ci := 8) (C := RX8) (T := TX8) (N := 7) (v := .ref s0) B 0 rfl rfl in_X8 0 (by decide) mw_1143 (fun _ h9 => h9) rfl dX8_columnCount_14 ?_
    refine lv_iload_n hx hb dX8_columnCount_17 rfl (lv_at hl 0 rfl) ?_
    refine x_iald' (f := f0) (z := j) B 1 rfl (by omega) dX8_columnCount_18 ?_
    have z_4 : 0 ≤ (f0 j) ∧ (f0 j) ≤ 3 := hs0 j
    refine lv_if_le (tgt := 37) hx hb dX8_columnCount_19 (by decide) (fun c_5 => ?_) (fun c_5 => ?_)
    · have zc_5 : (f0 j) ≤ 0 := jle (a := (f0 j)) (b := 0) (by omega) (by omega) c_5
      refine lv_iinc (v := iI (j + 1)) (lv' := [(2, .int (iI (j + 1))), (1, .int (iI rc)), (0, .ref tb)]) hx hb dX8_columnCount_37 hl (k := 0) rfl (iI_add _ _) (by decide) rfl (fun ls hl => ?_)
      refine lv_goto (tgt := 4) hx hb dX8_columnCount_40 (by decide) ?_
      exact ih_1 ((j + 1), rc) ⟨(show 0 ≤ (j + 1) ∧ (j + 1) ≤ 12 ∧ 0 ≤ rc ∧ rc ≤ 6 from (by omega)), (show rc = ccZ f0 (Int.toNat (j + 1)) from (by rw [ccZ_s (by omega)]; first | (rw [if_pos (by omega), ← hrc]; done) | (rw [if_neg (by omega)]; exact hrc)))⟩ (by first | omega | (dsimp only; omega)) _ _ _ (lv_sub hl [0, 1, 2] rfl) (bd_to rfl B)
    · have zc_5 : 0 < (f0 j) := jnle (a := (f0 j)) (b := 0) (by omega) (by omega) c_5
      refine lv_iload_n hx hb dX8_columnCount_22 rfl (lv_at hl 1 rfl) ?_
      refine lv_iload_n hx hb dX8_columnCount_23 rfl (lv_at hl 0 rfl) ?_
      refine lv_iconst (v := iI 3) hx hb dX8_columnCount_24 (by decide) ?_
      refine y_rem hx hb (a := j) (b := 3) (by omega) (by omega) dX8_columnCount_25 ?_
      refine lv_aload_n hx hb dX8_columnCount_26 rfl (lv_at hl 2 rfl) ?_
      refine x_get (ci := 8) (C := RX8) (T := TX8) (N := 7) (v := .ref s0) B 0 rfl rfl in_X8 0 (by decide) mw_1143 (fun _ h9 => h9) rfl dX8_columnCount_27 ?_
      refine lv_iload_n hx hb dX8_columnCount_30 rfl (lv_at hl 0 rfl) ?_
      refine x_iald' (f := f0) (z := j) B 1 rfl (by omega) dX8_columnCount_31 ?_
      have z_6 : 0 ≤ (f0 j) ∧ (f0 j) ≤ 3 := hs0 j
      refine y_add hx hb dX8_columnCount_32 ?_
      refine y_max (a := rc) (b := ((j % 3) + (f0 j))) B hl mw_1324 mw_700 mw_26 mw_701 (Nat.le_of_ble_eq_true rfl) (Nat.le_of_ble_eq_true rfl) (Nat.le_of_ble_eq_true rfl) (Nat.le_of_ble_eq_true rfl) (by omega) (by omega) dX8_columnCount_33 ?_
      refine lv_istore_n (lv' := [(1, .int (iI (max rc ((j % 3) + (f0 j))))), (2, .int (iI j)), (0, .ref tb)]) hx hb dX8_columnCount_36 rfl hl (by decide) rfl (fun ls hl => ?_)
      refine lv_iinc (v := iI (j + 1)) (lv' := [(2, .int (iI (j + 1))), (1, .int (iI (max rc ((j % 3) + (f0 j))))), (0, .ref tb)]) hx hb dX8_columnCount_37 hl (k := 1) rfl (iI_add _ _) (by decide) rfl (fun ls hl => ?_)
      refine lv_goto (tgt := 4) hx hb dX8_columnCount_40 (by decide) ?_
      exact ih_1 ((j + 1), (max rc ((j % 3) + (f0 j)))) ⟨(show 0 ≤ (j + 1) ∧ (j + 1) ≤ 12 ∧ 0 ≤ (max rc ((j % 3) + (f0 j))) ∧ (max rc ((j % 3) + (f0 j))) ≤ 6 from (by omega)), (show (max rc ((j % 3) + (f0 j))) = ccZ f0 (Int.toNat (j + 1)) from (by rw [ccZ_s (by omega)]; first | (rw [if_pos (by omega), ← hrc]; done) | (rw [if_neg (by omega)]; exact hrc)))⟩ (by first | omega | (dsimp only; omega)) _ _ _ (lv_sub hl [0, 1, 2] rfl) (bd_to rfl B)

theorem dX8_sumOf_0 : decode cX8_sumOf 0 = .ok (.iload_n 2, 1) := by decide +kernel
theorem dX8_sumOf_1 : decode cX8_sumOf 1 = .ok (.iconst 3, 1) := by decide +kernel
theorem dX8_sumOf_2 : decode cX8_sumOf 2 = .ok (.irem, 1) := by decide +kernel
theorem dX8_sumOf_3 : decode cX8_sumOf 3 = .ok (.istore_n 3, 1) := by decide +kernel
theorem dX8_sumOf_4 : decode cX8_sumOf 4 = .ok (.iconst 0, 1) := by decide +kernel
theorem dX8_sumOf_5 : decode cX8_sumOf 5 = .ok (.istore 4, 2) := by decide +kernel
theorem dX8_sumOf_7 : decode cX8_sumOf 7 = .ok (.iconst 0, 1) := by decide +kernel
theorem dX8_sumOf_8 : decode cX8_sumOf 8 = .ok (.istore 5, 2) := by decide +kernel
theorem dX8_sumOf_10 : decode cX8_sumOf 10 = .ok (.iload 5, 2) := by decide +kernel
theorem dX8_sumOf_12 : decode cX8_sumOf 12 = .ok (.aload_n 0, 1) := by decide +kernel
theorem dX8_sumOf_13 : decode cX8_sumOf 13 = .ok (.getfield 9, 3) := by decide +kernel
theorem dX8_sumOf_16 : decode cX8_sumOf 16 = .ok (.iload_n 2, 1) := by decide +kernel
theorem dX8_sumOf_17 : decode cX8_sumOf 17 = .ok (.iaload, 1) := by decide +kernel
theorem dX8_sumOf_18 : decode cX8_sumOf 18 = .ok (.if_icmp .ge 28, 3) := by decide +kernel
theorem dX8_sumOf_21 : decode cX8_sumOf 21 = .ok (.iload_n 3, 1) := by decide +kernel
theorem dX8_sumOf_22 : decode cX8_sumOf 22 = .ok (.iload 5, 2) := by decide +kernel
theorem dX8_sumOf_24 : decode cX8_sumOf 24 = .ok (.iadd, 1) := by decide +kernel
theorem dX8_sumOf_25 : decode cX8_sumOf 25 = .ok (.iconst 3, 1) := by decide +kernel
theorem dX8_sumOf_26 : decode cX8_sumOf 26 = .ok (.if_icmp .ge 20, 3) := by decide +kernel
theorem dX8_sumOf_29 : decode cX8_sumOf 29 = .ok (.iload 4, 2) := by decide +kernel
theorem dX8_sumOf_31 : decode cX8_sumOf 31 = .ok (.aload_n 1, 1) := by decide +kernel
theorem dX8_sumOf_32 : decode cX8_sumOf 32 = .ok (.iload_n 3, 1) := by decide +kernel
theorem dX8_sumOf_33 : decode cX8_sumOf 33 = .ok (.iload 5, 2) := by decide +kernel
theorem dX8_sumOf_35 : decode cX8_sumOf 35 = .ok (.iadd, 1) := by decide +kernel
theorem dX8_sumOf_36 : decode cX8_sumOf 36 = .ok (.iaload, 1) := by decide +kernel
theorem dX8_sumOf_37 : decode cX8_sumOf 37 = .ok (.iadd, 1) := by decide +kernel
theorem dX8_sumOf_38 : decode cX8_sumOf 38 = .ok (.istore 4, 2) := by decide +kernel
theorem dX8_sumOf_40 : decode cX8_sumOf 40 = .ok (.iinc 5 1, 3) := by decide +kernel
theorem dX8_sumOf_43 : decode cX8_sumOf 43 = .ok (.goto (-33), 3) := by decide +kernel
theorem dX8_sumOf_46 : decode cX8_sumOf 46 = .ok (.iload 4, 2) := by decide +kernel
theorem dX8_sumOf_48 : decode cX8_sumOf 48 = .ok (.ireturn, 1) := by decide +kernel
set_option maxHeartbeats 4000000 in
set_option maxRecDepth 100000 in
theorem k_sumOf (l : Launch) (dC : Nat → ClassId) (dI : Nat → Nat → Nat) (k : Nat → ClassId) (tb : Nat) (s0 : Nat) (s1 : Nat) (s2 : Nat) (s3 : Nat) (s4 : Nat) (s5 : Nat) (s6 : Nat) (ca : Nat) (f0 : Int → Int) (fc : Int → Int) (cx : Int) (bm : Int) (hs0 : Bd 0 3 f0) (hsp : ∀ c9 : Int, c9 % 3 + f0 c9 ≤ 3) (hc : Bd 0 bm fc) (h1 : 0 ≤ cx ∧ cx < 12) (h2 : 0 ≤ bm ∧ bm ≤ 10000000) : Kn l dC dI k yX8_sumOf (.code yX8_sumOf cX8_sumOf 6 (some .int)) ({ frames := 0, cells := 0, slots := 0, locals := 0 } : Room) [.ref tb, .ref ca, .int (iI cx)] [(tb, .inr (8, [.ref s0, .ref s1, .ref s2, .ref s3, .ref s4, .ref s5, .ref s6])), (s0, .inl (k 0, 12, .inl (fun i9 : Nat => iI (f0 i9)))), (ca, .inl (k 0, 3, .inl (fun i9 : Nat => iI (fc i9))))] (fun r w gc gs => (r = some (.int (iI (smZ fc (cx % 3) (Int.toNat (f0 cx))))) ∧ w = [(tb, .inr (8, [.ref s0, .ref s1, .ref s2, .ref s3, .ref s4, .ref s5, .ref s6])), (s0, .inl (k 0, 12, .inl (fun i9 : Nat => iI (f0 i9)))), (ca, .inl (k 0, 3, .inl (fun i9 : Nat => iI (fc i9))))] ∧ gc = 0 ∧ gs = 0)) := by
  refine kn_of (by decide) (Nat.le_of_ble_eq_true rfl) ?_
  intro p e s m args below meth c H locs B hr hnm ls hl
  have hx := B.1.1
  have hb := B.1.2.1
  have hl : lv_has ls 6 [(0, .ref tb), (1, .ref ca), (2, .int (iI cx))] := hl
  have hsc := hsp cx
  have hs9 := hs0 cx
  refine lv_iload_n hx hb dX8_sumOf_0 rfl (lv_at hl 2 rfl) ?_
  refine lv_iconst (v := iI 3) hx hb dX8_sumOf_1 (by decide) ?_
  refine y_rem hx hb (a := cx) (b := 3) (by omega) (by omega) dX8_sumOf_2 ?_
  refine lv_istore_n (lv' := [(3, .int (iI (cx % 3))), (0, .ref tb), (1, .ref ca), (2, .int (iI cx))]) hx hb dX8_sumOf_3 rfl hl (by decide) rfl (fun ls hl => ?_)
  refine lv_iconst (v := iI 0) hx hb dX8_sumOf_4 (by decide) ?_
  refine lv_istore (lv' := [(4, .int (iI 0)), (3, .int (iI (cx % 3))), (0, .ref tb), (1, .ref ca), (2, .int (iI cx))]) hx hb dX8_sumOf_5 hl (by decide) rfl (fun ls hl => ?_)
  refine lv_iconst (v := iI 0) hx hb dX8_sumOf_7 (by decide) ?_
  refine lv_istore (lv' := [(5, .int (iI 0)), (4, .int (iI 0)), (3, .int (iI (cx % 3))), (0, .ref tb), (1, .ref ca), (2, .int (iI cx))]) hx hb dX8_sumOf_8 hl (by decide) rfl (fun ls hl => ?_)
  refine k_loop (σ := Int × Int) B (fun g9 : Int × Int => (0 ≤ g9.1 ∧ g9.1 ≤ f0 cx ∧ 0 ≤ g9.2 ∧ g9.2 ≤ 10000000 * g9.1) ∧ (g9.2 = smZ fc (cx % 3) (Int.toNat g9.1))) (fun g9 : Int × Int => (4 - g9.1).toNat) (fun g9 : Int × Int => [(5, .int (iI g9.1)), (4, .int (iI g9.2)), (3, .int (iI (cx % 3))), (0, .ref tb), (1, .ref ca), (2, .int (iI cx))]) (fun g9 : Int × Int => [(tb, .inr (8, [.ref s0, .ref s1, .ref s2, .ref s3, .ref s4, .ref s5, .ref s6])), (s0, .inl (k 0, 12, .inl (fun i9 : Nat => iI (f0 i9)))), (ca, .inl (k 0, 3, .inl (fun i9 : Nat => iI (fc i9))))]) ?_ (0, 0) ⟨(show 0 ≤ 0 ∧ 0 ≤ f0 cx ∧ 0 ≤ 0 ∧ 0 ≤ 10000000 * 0 from (by omega)), (show 0 = smZ fc (cx % 3) (Int.toNat 0) from rfl)⟩ ls H locs (lv_sub hl [0, 1, 2, 3, 4, 5] rfl) (bd_to rfl B)
  clear hl B
  rintro ⟨kk, sm⟩ ⟨hk, hsm⟩ ih_1 ls H locs hl B
  have hk : 0 ≤ kk ∧ kk ≤ f0 cx ∧ 0 ≤ sm ∧ sm ≤ 10000000 * kk := hk
  have hsm : sm = smZ fc (cx % 3) (Int.toNat kk) := hsm
  have hl : lv_has ls 6 [(5, .int (iI kk)), (4, .int (iI sm)), (3, .int (iI (cx % 3))), (0, .ref tb), (1, .ref ca), (2, .int (iI cx))] := hl
  have B := bd_to (ws' := [(tb, .inr (8, [.ref s0, .ref s1, .ref s2, .ref s3, .ref s4, .ref s5, .ref s6])), (s0, .inl (k 0, 12, .inl (fun i9 : Nat => iI (f0 i9)))), (ca, .inl (k 0, 3, .inl (fun i9 : Nat => iI (fc i9))))]) rfl B
  refine lv_iload hx hb dX8_sumOf_10 (lv_at hl 0 rfl) ?_
  refine lv_aload_n hx hb dX8_sumOf_12 rfl (lv_at hl 3 rfl) ?_
  refine x_get (ci := 8) (C := RX8) (T := TX8) (N := 7) (v := .ref s0) B 0 rfl rfl in_X8 0 (by decide) mw_1143 (fun _ h9 => h9) rfl dX8_sumOf_13 ?_
  refine lv_iload_n hx hb dX8_sumOf_16 rfl (lv_at hl 5 rfl) ?_
  refine x_iald' (f := f0) (z := cx) B 1 rfl (by omega) dX8_sumOf_17 ?_
  have z_2 : 0 ≤ (f0 cx) ∧ (f0 cx) ≤ 3 := hs0 cx
  refine lv_icmp_ge (tgt := 46) hx hb dX8_sumOf_18 (by decide) (fun c_3 => ?_) (fun c_3 => ?_)
  · have zc_3 : (f0 cx) ≤ kk := jle (a := (f0 cx)) (b := kk) (by omega) (by omega) c_3
    refine lv_iload hx hb dX8_sumOf_46 (lv_at hl 1 rfl) ?_
    have e_4 : (smZ fc (cx % 3) (Int.toNat (f0 cx))) = sm := (by rw [show f0 cx = kk by omega]; exact hsm.symm)
    skip
    exact k_iret B hr (⟨(by rw [e_4]), rfl, rfl, rfl⟩) ⟨Nat.le_of_ble_eq_true rfl, Nat.le_of_ble_eq_true rfl⟩ ⟨Nat.le_of_ble_eq_true rfl, Nat.le_of_ble_eq_true rfl⟩ dX8_sumOf_48
  · have zc_3 : kk < (f0 cx) := jnle (a := (f0 cx)) (b := kk) (by omega) (by omega) c_3
    refine lv_iload_n hx hb dX8_sumOf_21 rfl (lv_at hl 2 rfl) ?_
    refine lv_iload hx hb dX8_sumOf_22 (lv_at hl 0 rfl) ?_
    refine y_add hx hb dX8_sumOf_24 ?_
    refine lv_iconst (v := iI 3) hx hb dX8_sumOf_25 (by decide) ?_
    refine lv_icmp_ge (tgt := 46) hx hb dX8_sumOf_26 (by decide) (fun c_5 => ?_) (fun c_5 => ?_)
    · have zc_5 : 3 ≤ ((cx % 3) + kk) := jle (a := 3) (b := ((cx % 3) + kk)) (by omega) (by omega) c_5
      exfalso; omega
    · have zc_5 : ((cx % 3) + kk) < 3 := jnle (a := 3) (b := ((cx % 3) + kk)) (by omega) (by omega) c_5
      refine lv_iload hx hb dX8_sumOf_29 (lv_at hl 1 rfl) ?_
      refine lv_aload_n hx hb dX8_sumOf_31 rfl (lv_at hl 4 rfl) ?_
      refine lv_iload_n hx hb dX8_sumOf_32 rfl (lv_at hl 2 rfl) ?_
      refine lv_iload hx hb dX8_sumOf_33 (lv_at hl 0 rfl) ?_
      refine y_add hx hb dX8_sumOf_35 ?_
      refine x_iald' (f := fc) (z := ((cx % 3) + kk)) B 2 rfl (by omega) dX8_sumOf_36 ?_
      have z_6 : 0 ≤ (fc ((cx % 3) + kk)) ∧ (fc ((cx % 3) + kk)) ≤ bm := hc ((cx % 3) + kk)
      refine y_add hx hb dX8_sumOf_37 ?_
      refine lv_istore (lv' := [(4, .int (iI (sm + (fc ((cx % 3) + kk))))), (5, .int (iI kk)), (3, .int (iI (cx % 3))), (0, .ref tb), (1, .ref ca), (2, .int (iI cx))]) hx hb dX8_sumOf_38 hl (by decide) rfl (fun ls hl => ?_)
      refine lv_iinc (v := iI (kk + 1)) (lv' := [(5, .int (iI (kk + 1))), (4, .int (iI (sm + (fc ((cx % 3) + kk))))), (3, .int (iI (cx % 3))), (0, .ref tb), (1, .ref ca), (2, .int (iI cx))]) hx hb dX8_sumOf_40 hl (k := 1) rfl (iI_add _ _) (by decide) rfl (fun ls hl => ?_)
      refine lv_goto (tgt := 10) hx hb dX8_sumOf_43 (by decide) ?_
      exact ih_1 ((kk + 1), (sm + (fc ((cx % 3) + kk)))) ⟨(show 0 ≤ (kk + 1) ∧ (kk + 1) ≤ f0 cx ∧ 0 ≤ (sm + (fc ((cx % 3) + kk))) ∧ (sm + (fc ((cx % 3) + kk))) ≤ 10000000 * (kk + 1) from (by omega)), (show (sm + (fc ((cx % 3) + kk))) = smZ fc (cx % 3) (Int.toNat (kk + 1)) from (by rw [smZ_s (by omega), ← hsm]))⟩ (by first | omega | (dsimp only; omega)) _ _ _ (lv_sub hl [0, 1, 2, 3, 4, 5] rfl) (bd_to rfl B)

theorem mw_20 : (Jvm.Cond.initialized "Galleyforge$Table") ∈ gt := gt_at 90 (by decide +kernel) (by decide +kernel)
theorem mw_1335 : (Jvm.Cond.methodLink "Galleyforge$Table" (53 : Nat) ({ cls := "Galleyforge$Table", name := "sumOf", desc := "([II)I" } : Jvm.MethodName)) ∈ gt := gt_at 1405 (by decide +kernel) (by decide +kernel)
theorem mw_1337 : (Jvm.Cond.instanceMethod ({ cls := "Galleyforge$Table", name := "sumOf", desc := "([II)I" } : Jvm.MethodName)) ∈ gt := gt_at 1407 (by decide +kernel) (by decide +kernel)
theorem mw_1338 : (Jvm.Cond.code ({ cls := "Galleyforge$Table", name := "sumOf", desc := "([II)I" } : Jvm.MethodName) prog_10_method_7_code (6 : Nat) (Option.some Jvm.ClassFile.FieldType.int)) ∈ gt := gt_at 1408 (by decide +kernel) (by decide +kernel)
theorem ms_15 : Cond.selects "Galleyforge$Table" (⟨"Galleyforge$Table", "sumOf", "([II)I"⟩ : MethodName) (⟨"Galleyforge$Table", "sumOf", "([II)I"⟩ : MethodName) ∈ gt := gt_at 15 (by decide +kernel) (by decide +kernel)
theorem mV_X8_sumOf : mV yX8_sumOf cX8_sumOf 6 (some .int) 2 := ⟨⟨mw_1338, mw_20, by decide, by decide, by decide +kernel⟩, mw_1337, ms_15⟩
theorem dX8_shareOut_0 : decode cX8_shareOut 0 = .ok (.aload_n 0, 1) := by decide +kernel
theorem dX8_shareOut_1 : decode cX8_shareOut 1 = .ok (.getfield 9, 3) := by decide +kernel
theorem dX8_shareOut_4 : decode cX8_shareOut 4 = .ok (.iload_n 2, 1) := by decide +kernel
theorem dX8_shareOut_5 : decode cX8_shareOut 5 = .ok (.iaload, 1) := by decide +kernel
theorem dX8_shareOut_6 : decode cX8_shareOut 6 = .ok (.istore 4, 2) := by decide +kernel
theorem dX8_shareOut_8 : decode cX8_shareOut 8 = .ok (.iload_n 3, 1) := by decide +kernel
theorem dX8_shareOut_9 : decode cX8_shareOut 9 = .ok (.aload_n 0, 1) := by decide +kernel
theorem dX8_shareOut_10 : decode cX8_shareOut 10 = .ok (.aload_n 1, 1) := by decide +kernel
theorem dX8_shareOut_11 : decode cX8_shareOut 11 = .ok (.iload_n 2, 1) := by decide +kernel
theorem dX8_shareOut_12 : decode cX8_shareOut 12 = .ok (.invokevirtual 53, 3) := by decide +kernel
theorem dX8_shareOut_15 : decode cX8_shareOut 15 = .ok (.isub, 1) := by decide +kernel
theorem dX8_shareOut_16 : decode cX8_shareOut 16 = .ok (.istore 5, 2) := by decide +kernel
theorem dX8_shareOut_18 : decode cX8_shareOut 18 = .ok (.iload 5, 2) := by decide +kernel
theorem dX8_shareOut_20 : decode cX8_shareOut 20 = .ok (.ifCond .le 9, 3) := by decide +kernel
theorem dX8_shareOut_23 : decode cX8_shareOut 23 = .ok (.iload 4, 2) := by decide +kernel
theorem dX8_shareOut_25 : decode cX8_shareOut 25 = .ok (.iconst 1, 1) := by decide +kernel
theorem dX8_shareOut_26 : decode cX8_shareOut 26 = .ok (.if_icmp .ge 4, 3) := by decide +kernel
theorem dX8_shareOut_29 : decode cX8_shareOut 29 = .ok (.return_, 1) := by decide +kernel
theorem dX8_shareOut_30 : decode cX8_shareOut 30 = .ok (.iload_n 2, 1) := by decide +kernel
theorem dX8_shareOut_31 : decode cX8_shareOut 31 = .ok (.iconst 3, 1) := by decide +kernel
theorem dX8_shareOut_32 : decode cX8_shareOut 32 = .ok (.irem, 1) := by decide +kernel
theorem dX8_shareOut_33 : decode cX8_shareOut 33 = .ok (.istore 6, 2) := by decide +kernel
theorem dX8_shareOut_35 : decode cX8_shareOut 35 = .ok (.iconst 0, 1) := by decide +kernel
theorem dX8_shareOut_36 : decode cX8_shareOut 36 = .ok (.istore 7, 2) := by decide +kernel
theorem dX8_shareOut_38 : decode cX8_shareOut 38 = .ok (.iload 7, 2) := by decide +kernel
theorem dX8_shareOut_40 : decode cX8_shareOut 40 = .ok (.iload 4, 2) := by decide +kernel
theorem dX8_shareOut_42 : decode cX8_shareOut 42 = .ok (.if_icmp .ge 49, 3) := by decide +kernel
theorem dX8_shareOut_45 : decode cX8_shareOut 45 = .ok (.iload 6, 2) := by decide +kernel
theorem dX8_shareOut_47 : decode cX8_shareOut 47 = .ok (.iload 7, 2) := by decide +kernel
theorem dX8_shareOut_49 : decode cX8_shareOut 49 = .ok (.iadd, 1) := by decide +kernel
theorem dX8_shareOut_50 : decode cX8_shareOut 50 = .ok (.iconst 3, 1) := by decide +kernel
theorem dX8_shareOut_51 : decode cX8_shareOut 51 = .ok (.if_icmp .ge 40, 3) := by decide +kernel
theorem dX8_shareOut_54 : decode cX8_shareOut 54 = .ok (.aload_n 1, 1) := by decide +kernel
theorem dX8_shareOut_55 : decode cX8_shareOut 55 = .ok (.iload 6, 2) := by decide +kernel
theorem dX8_shareOut_57 : decode cX8_shareOut 57 = .ok (.iload 7, 2) := by decide +kernel
theorem dX8_shareOut_59 : decode cX8_shareOut 59 = .ok (.iadd, 1) := by decide +kernel
theorem dX8_shareOut_60 : decode cX8_shareOut 60 = .ok (.dup2, 1) := by decide +kernel
theorem dX8_shareOut_61 : decode cX8_shareOut 61 = .ok (.iaload, 1) := by decide +kernel
theorem dX8_shareOut_62 : decode cX8_shareOut 62 = .ok (.iload 5, 2) := by decide +kernel
theorem dX8_shareOut_64 : decode cX8_shareOut 64 = .ok (.iload 4, 2) := by decide +kernel
theorem dX8_shareOut_66 : decode cX8_shareOut 66 = .ok (.idiv, 1) := by decide +kernel
theorem dX8_shareOut_67 : decode cX8_shareOut 67 = .ok (.iload 7, 2) := by decide +kernel
theorem dX8_shareOut_69 : decode cX8_shareOut 69 = .ok (.iload 5, 2) := by decide +kernel
theorem dX8_shareOut_71 : decode cX8_shareOut 71 = .ok (.iload 4, 2) := by decide +kernel
theorem dX8_shareOut_73 : decode cX8_shareOut 73 = .ok (.irem, 1) := by decide +kernel
theorem dX8_shareOut_74 : decode cX8_shareOut 74 = .ok (.if_icmp .ge 7, 3) := by decide +kernel
theorem dX8_shareOut_77 : decode cX8_shareOut 77 = .ok (.iconst 1, 1) := by decide +kernel
theorem dX8_shareOut_78 : decode cX8_shareOut 78 = .ok (.goto 4, 3) := by decide +kernel
theorem dX8_shareOut_81 : decode cX8_shareOut 81 = .ok (.iconst 0, 1) := by decide +kernel
theorem dX8_shareOut_82 : decode cX8_shareOut 82 = .ok (.iadd, 1) := by decide +kernel
theorem dX8_shareOut_83 : decode cX8_shareOut 83 = .ok (.iadd, 1) := by decide +kernel
theorem dX8_shareOut_84 : decode cX8_shareOut 84 = .ok (.iastore, 1) := by decide +kernel
theorem dX8_shareOut_85 : decode cX8_shareOut 85 = .ok (.iinc 7 1, 3) := by decide +kernel
theorem dX8_shareOut_88 : decode cX8_shareOut 88 = .ok (.goto (-50), 3) := by decide +kernel
theorem dX8_shareOut_91 : decode cX8_shareOut 91 = .ok (.return_, 1) := by decide +kernel
set_option maxHeartbeats 4000000 in
set_option maxRecDepth 100000 in
theorem k_shareOut (l : Launch) (dC : Nat → ClassId) (dI : Nat → Nat → Nat) (k : Nat → ClassId) (tb : Nat) (s0 : Nat) (s1 : Nat) (s2 : Nat) (s3 : Nat) (s4 : Nat) (s5 : Nat) (s6 : Nat) (ca : Nat) (f0 : Int → Int) (fc : Int → Int) (cx : Int) (wt : Int) (bm : Int) (hs0 : Bd 0 3 f0) (hsp : ∀ c9 : Int, c9 % 3 + f0 c9 ≤ 3) (hc : Bd 0 bm fc) (h1 : 0 ≤ cx ∧ cx < 12) (h2 : 0 ≤ bm ∧ bm ≤ 10000000) (h3 : 0 ≤ wt ∧ wt ≤ 200) : Kn l dC dI k yX8_shareOut (.code yX8_shareOut cX8_shareOut 8 none) ({ frames := 1, cells := 0, slots := 0, locals := 25 } : Room) [.ref tb, .ref ca, .int (iI cx), .int (iI wt)] [(tb, .inr (8, [.ref s0, .ref s1, .ref s2, .ref s3, .ref s4, .ref s5, .ref s6])), (s0, .inl (k 0, 12, .inl (fun i9 : Nat => iI (f0 i9)))), (ca, .inl (k 0, 3, .inl (fun i9 : Nat => iI (fc i9))))] (fun r w gc gs => (∃ (dw : Int → Int), (dw = shO f0 fc cx wt) ∧ (Bd 0 (bm + 201) dw) ∧ r = none ∧ w = [(tb, .inr (8, [.ref s0, .ref s1, .ref s2, .ref s3, .ref s4, .ref s5, .ref s6])), (s0, .inl (k 0, 12, .inl (fun i9 : Nat => iI (f0 i9)))), (ca, .inl (k 0, 3, .inl (fun i9 : Nat => iI (dw i9))))] ∧ gc = 0 ∧ gs = 0)) := by
  refine kn_of (by decide) (Nat.le_of_ble_eq_true rfl) ?_
  intro p e s m args below meth c H locs B hr hnm ls hl
  have hx := B.1.1
  have hb := B.1.2.1
  have hl : lv_has ls 8 [(0, .ref tb), (1, .ref ca), (2, .int (iI cx)), (3, .int (iI wt))] := hl
  have hsc := hsp cx
  have hs9 := hs0 cx
  refine lv_aload_n hx hb dX8_shareOut_0 rfl (lv_at hl 0 rfl) ?_
  refine x_get (ci := 8) (C := RX8) (T := TX8) (N := 7) (v := .ref s0) B 0 rfl rfl in_X8 0 (by decide) mw_1143 (fun _ h9 => h9) rfl dX8_shareOut_1 ?_
  refine lv_iload_n hx hb dX8_shareOut_4 rfl (lv_at hl 2 rfl) ?_
  refine x_iald' (f := f0) (z := cx) B 1 rfl (by omega) dX8_shareOut_5 ?_
  have z_1 : 0 ≤ (f0 cx) ∧ (f0 cx) ≤ 3 := hs0 cx
  refine lv_istore (lv' := [(4, .int (iI (f0 cx))), (0, .ref tb), (1, .ref ca), (2, .int (iI cx)), (3, .int (iI wt))]) hx hb dX8_shareOut_6 hl (by decide) rfl (fun ls hl => ?_)
  refine lv_iload_n hx hb dX8_shareOut_8 rfl (lv_at hl 4 rfl) ?_
  refine lv_aload_n hx hb dX8_shareOut_9 rfl (lv_at hl 1 rfl) ?_
  refine lv_aload_n hx hb dX8_shareOut_10 rfl (lv_at hl 2 rfl) ?_
  refine lv_iload_n hx hb dX8_shareOut_11 rfl (lv_at hl 3 rfl) ?_
  have B := bd_to (ws' := [(tb, .inr (8, [.ref s0, .ref s1, .ref s2, .ref s3, .ref s4, .ref s5, .ref s6])), (s0, .inl (k 0, 12, .inl (fun i9 : Nat => iI (f0 i9)))), (ca, .inl (k 0, 3, .inl (fun i9 : Nat => iI (fc i9))))] ++ []) rfl B
  refine k_V (rest := [.int (iI wt)]) (wc := [(tb, .inr (8, [.ref s0, .ref s1, .ref s2, .ref s3, .ref s4, .ref s5, .ref s6])), (s0, .inl (k 0, 12, .inl (fun i9 : Nat => iI (f0 i9)))), (ca, .inl (k 0, 3, .inl (fun i9 : Nat => iI (fc i9))))]) (wr := []) (k_sumOf l dC dI k tb s0 s1 s2 s3 s4 s5 s6 ca f0 fc cx bm hs0 hsp hc h1 h2) B mV_X8_sumOf mw_1335 hl (q0 := 0) rfl rfl rfl ⟨Nat.le_of_ble_eq_true rfl, Nat.le_of_ble_eq_true rfl⟩ (Nat.le_of_ble_eq_true rfl) rfl dX8_shareOut_12 ⟨Nat.le_of_ble_eq_true rfl, Nat.le_of_ble_eq_true rfl⟩ (fun r w gc gs H locs hp B => ?_)
  obtain ⟨rfl, hw9, rfl, rfl⟩ := hp
  rw [hw9] at B; clear hw9
  have B := bd_to (ws' := [(tb, .inr (8, [.ref s0, .ref s1, .ref s2, .ref s3, .ref s4, .ref s5, .ref s6])), (s0, .inl (k 0, 12, .inl (fun i9 : Nat => iI (f0 i9)))), (ca, .inl (k 0, 3, .inl (fun i9 : Nat => iI (fc i9))))]) rfl B
  have z_2 : 0 ≤ (smZ fc (cx % 3) (Int.toNat (f0 cx))) ∧ (smZ fc (cx % 3) (Int.toNat (f0 cx))) ≤ 30000000 := by have q9 := smZ_in hc (c := cx % 3) (Int.toNat (f0 cx)) (by have := hs0 cx; omega); omega
  refine y_sub hx hb dX8_shareOut_15 ?_
  refine lv_istore (lv' := [(5, .int (iI (wt - (smZ fc (cx % 3) (Int.toNat (f0 cx)))))), (4, .int (iI (f0 cx))), (0, .ref tb), (1, .ref ca), (2, .int (iI cx)), (3, .int (iI wt))]) hx hb dX8_shareOut_16 hl (by decide) rfl (fun ls hl => ?_)
  refine lv_iload hx hb dX8_shareOut_18 (lv_at hl 0 rfl) ?_
  refine lv_if_le (tgt := 29) hx hb dX8_shareOut_20 (by decide) (fun c_3 => ?_) (fun c_3 => ?_)
  · have zc_3 : (wt - (smZ fc (cx % 3) (Int.toNat (f0 cx)))) ≤ 0 := jle (a := (wt - (smZ fc (cx % 3) (Int.toNat (f0 cx))))) (b := 0) (by omega) (by omega) c_3
    exact k_vret B hr (⟨fc, (by unfold shO; exact (if_neg (fun q9 => by omega)).symm), (fun i9 => by have q9 := hc i9; omega), rfl, rfl, rfl, rfl⟩) ⟨Nat.le_of_ble_eq_true rfl, Nat.le_of_ble_eq_true rfl⟩ ⟨Nat.le_of_ble_eq_true rfl, Nat.le_of_ble_eq_true rfl⟩ dX8_shareOut_29
  · have zc_3 : 0 < (wt - (smZ fc (cx % 3) (Int.toNat (f0 cx)))) := jnle (a := (wt - (smZ fc (cx % 3) (Int.toNat (f0 cx))))) (b := 0) (by omega) (by omega) c_3
    refine lv_iload hx hb dX8_shareOut_23 (lv_at hl 1 rfl) ?_
    refine lv_iconst (v := iI 1) hx hb dX8_shareOut_25 (by decide) ?_
    refine lv_icmp_ge (tgt := 30) hx hb dX8_shareOut_26 (by decide) (fun c_4 => ?_) (fun c_4 => ?_)
    · have zc_4 : 1 ≤ (f0 cx) := jle (a := 1) (b := (f0 cx)) (by omega) (by omega) c_4
      refine lv_iload_n hx hb dX8_shareOut_30 rfl (lv_at hl 4 rfl) ?_
      refine lv_iconst (v := iI 3) hx hb dX8_shareOut_31 (by decide) ?_
      refine y_rem hx hb (a := cx) (b := 3) (by omega) (by omega) dX8_shareOut_32 ?_
      refine lv_istore (lv' := [(6, .int (iI (cx % 3))), (5, .int (iI (wt - (smZ fc (cx % 3) (Int.toNat (f0 cx)))))), (4, .int (iI (f0 cx))), (0, .ref tb), (1, .ref ca), (2, .int (iI cx)), (3, .int (iI wt))]) hx hb dX8_shareOut_33 hl (by decide) rfl (fun ls hl => ?_)
      refine lv_iconst (v := iI 0) hx hb dX8_shareOut_35 (by decide) ?_
      refine lv_istore (lv' := [(7, .int (iI 0)), (6, .int (iI (cx % 3))), (5, .int (iI (wt - (smZ fc (cx % 3) (Int.toNat (f0 cx)))))), (4, .int (iI (f0 cx))), (0, .ref tb), (1, .ref ca), (2, .int (iI cx)), (3, .int (iI wt))]) hx hb dX8_shareOut_36 hl (by decide) rfl (fun ls hl => ?_)
      refine k_loop (σ := Int × (Int → Int)) B (fun g9 : Int × (Int → Int) => (0 ≤ g9.1 ∧ g9.1 ≤ f0 cx) ∧ (g9.2 = shL fc (cx % 3) (wt - smZ fc (cx % 3) (Int.toNat (f0 cx))) (f0 cx) (Int.toNat g9.1)) ∧ (∀ i9 : Int, cx % 3 + g9.1 ≤ i9 → g9.2 i9 = fc i9) ∧ (Bd 0 (bm + 201) g9.2)) (fun g9 : Int × (Int → Int) => (4 - g9.1).toNat) (fun g9 : Int × (Int → Int) => [(7, .int (iI g9.1)), (6, .int (iI (cx % 3))), (5, .int (iI (wt - (smZ fc (cx % 3) (Int.toNat (f0 cx)))))), (4, .int (iI (f0 cx))), (0, .ref tb), (1, .ref ca), (2, .int (iI cx)), (3, .int (iI wt))]) (fun g9 : Int × (Int → Int) => [(tb, .inr (8, [.ref s0, .ref s1, .ref s2, .ref s3, .ref s4, .ref s5, .ref s6])), (s0, .inl (k 0, 12, .inl (fun i9 : Nat => iI (f0 i9)))), (ca, .inl (k 0, 3, .inl (fun i9 : Nat => iI (g9.2 i9))))]) ?_ (0, fc) ⟨(show 0 ≤ 0 ∧ 0 ≤ f0 cx from (by omega)), (show fc = shL fc (cx % 3) (wt - smZ fc (cx % 3) (Int.toNat (f0 cx))) (f0 cx) (Int.toNat 0) from rfl), (show ∀ i9 : Int, cx % 3 + 0 ≤ i9 → fc i9 = fc i9 from (fun _ _ => rfl)), (show Bd 0 (bm + 201) fc from (fun i9 => by have q9 := hc i9; omega))⟩ ls H locs (lv_sub hl [0, 1, 2, 3, 4, 5, 6, 7] rfl) (bd_to rfl B)
      clear hl B
      rintro ⟨kk, dv⟩ ⟨hk, hdv, hun, bdv⟩ ih_5 ls H locs hl B
      have hk : 0 ≤ kk ∧ kk ≤ f0 cx := hk
      have hdv : dv = shL fc (cx % 3) (wt - smZ fc (cx % 3) (Int.toNat (f0 cx))) (f0 cx) (Int.toNat kk) := hdv
      have hun : ∀ i9 : Int, cx % 3 + kk ≤ i9 → dv i9 = fc i9 := hun
      have bdv : Bd 0 (bm + 201) dv := bdv
      have hl : lv_has ls 8 [(7, .int (iI kk)), (6, .int (iI (cx % 3))), (5, .int (iI (wt - (smZ fc (cx % 3) (Int.toNat (f0 cx)))))), (4, .int (iI (f0 cx))), (0, .ref tb), (1, .ref ca), (2, .int (iI cx)), (3, .int (iI wt))] := hl
      have B := bd_to (ws' := [(tb, .inr (8, [.ref s0, .ref s1, .ref s2, .ref s3, .ref s4, .ref s5, .ref s6])), (s0, .inl (k 0, 12, .inl (fun i9 : Nat => iI (f0 i9)))), (ca, .inl (k 0, 3, .inl (fun i9 : Nat => iI (dv i9))))]) rfl B
      refine lv_iload hx hb dX8_shareOut_38 (lv_at hl 0 rfl) ?_
      refine lv_iload hx hb dX8_shareOut_40 (lv_at hl 3 rfl) ?_
      refine lv_icmp_ge (tgt := 91) hx hb dX8_shareOut_42 (by decide) (fun c_6 => ?_) (fun c_6 => ?_)
      · have zc_6 : (f0 cx) ≤ kk := jle (a := (f0 cx)) (b := kk) (by omega) (by omega) c_6
        exact k_vret B hr (⟨dv, (by unfold shO; rw [if_pos ⟨by omega, by omega⟩, hdv, show f0 cx = kk by omega]), bdv, rfl, rfl, rfl, rfl⟩) ⟨Nat.le_of_ble_eq_true rfl, Nat.le_of_ble_eq_true rfl⟩ ⟨Nat.le_of_ble_eq_true rfl, Nat.le_of_ble_eq_true rfl⟩ dX8_shareOut_91
      · have zc_6 : kk < (f0 cx) := jnle (a := (f0 cx)) (b := kk) (by omega) (by omega) c_6
        refine lv_iload hx hb dX8_shareOut_45 (lv_at hl 1 rfl) ?_
        refine lv_iload hx hb dX8_shareOut_47 (lv_at hl 0 rfl) ?_
        refine y_add hx hb dX8_shareOut_49 ?_
        refine lv_iconst (v := iI 3) hx hb dX8_shareOut_50 (by decide) ?_
        refine lv_icmp_ge (tgt := 91) hx hb dX8_shareOut_51 (by decide) (fun c_7 => ?_) (fun c_7 => ?_)
        · have zc_7 : 3 ≤ ((cx % 3) + kk) := jle (a := 3) (b := ((cx % 3) + kk)) (by omega) (by omega) c_7
          exfalso; omega
        · have zc_7 : ((cx % 3) + kk) < 3 := jnle (a := 3) (b := ((cx % 3) + kk)) (by omega) (by omega) c_7
          refine lv_aload_n hx hb dX8_shareOut_54 rfl (lv_at hl 5 rfl) ?_
          refine lv_iload hx hb dX8_shareOut_55 (lv_at hl 1 rfl) ?_
          refine lv_iload hx hb dX8_shareOut_57 (lv_at hl 0 rfl) ?_
          refine y_add hx hb dX8_shareOut_59 ?_
          refine lv_dup2_11 hx hb dX8_shareOut_60 rfl rfl ?_
          refine x_iald' (f := dv) (z := ((cx % 3) + kk)) B 2 rfl (by omega) dX8_shareOut_61 ?_
          have z_8 : 0 ≤ (dv ((cx % 3) + kk)) ∧ (dv ((cx % 3) + kk)) ≤ (bm + 201) := bdv ((cx % 3) + kk)
          refine lv_iload hx hb dX8_shareOut_62 (lv_at hl 2 rfl) ?_
          refine lv_iload hx hb dX8_shareOut_64 (lv_at hl 3 rfl) ?_
          refine y_div hx hb (a := (wt - (smZ fc (cx % 3) (Int.toNat (f0 cx))))) (b := (f0 cx)) (by omega) (by omega) dX8_shareOut_66 ?_
          have z_9 : 0 ≤ ((wt - (smZ fc (cx % 3) (Int.toNat (f0 cx)))) / (f0 cx)) ∧ ((wt - (smZ fc (cx % 3) (Int.toNat (f0 cx)))) / (f0 cx)) ≤ (wt - (smZ fc (cx % 3) (Int.toNat (f0 cx)))) := div_in (by omega) (by omega)
          refine lv_iload hx hb dX8_shareOut_67 (lv_at hl 0 rfl) ?_
          refine lv_iload hx hb dX8_shareOut_69 (lv_at hl 2 rfl) ?_
          refine lv_iload hx hb dX8_shareOut_71 (lv_at hl 3 rfl) ?_
          refine y_rem hx hb (a := (wt - (smZ fc (cx % 3) (Int.toNat (f0 cx))))) (b := (f0 cx)) (by omega) (by omega) dX8_shareOut_73 ?_
          have z_10 : 0 ≤ ((wt - (smZ fc (cx % 3) (Int.toNat (f0 cx)))) % (f0 cx)) ∧ ((wt - (smZ fc (cx % 3) (Int.toNat (f0 cx)))) % (f0 cx)) < (f0 cx) := ⟨Int.emod_nonneg _ (by omega), Int.emod_lt_of_pos _ (by omega)⟩
          refine lv_icmp_ge (tgt := 81) hx hb dX8_shareOut_74 (by decide) (fun c_11 => ?_) (fun c_11 => ?_)
          · have zc_11 : ((wt - (smZ fc (cx % 3) (Int.toNat (f0 cx)))) % (f0 cx)) ≤ kk := jle (a := ((wt - (smZ fc (cx % 3) (Int.toNat (f0 cx)))) % (f0 cx))) (b := kk) (by omega) (by omega) c_11
            refine lv_iconst (v := iI 0) hx hb dX8_shareOut_81 (by decide) ?_
            refine y_add hx hb dX8_shareOut_82 ?_
            refine y_add hx hb dX8_shareOut_83 ?_
            have z_12 : 0 ≤ dv ((cx % 3) + kk) ∧ dv ((cx % 3) + kk) ≤ bm := by have q9 := hun ((cx % 3) + kk) (by omega); have q8 := hc ((cx % 3) + kk); omega
            refine x_iast' (f := dv) (z := ((cx % 3) + kk)) (v := ((dv ((cx % 3) + kk)) + (((wt - (smZ fc (cx % 3) (Int.toNat (f0 cx)))) / (f0 cx)) + 0))) B 2 rfl (by omega) dX8_shareOut_84 (fun H locs B => ?_)
            have b_13 : Bd 0 (bm + 201) (uz dv ((cx % 3) + kk) ((dv ((cx % 3) + kk)) + (((wt - (smZ fc (cx % 3) (Int.toNat (f0 cx)))) / (f0 cx)) + 0))) := Bd_uz bdv (by omega)
            have B := bd_to (ws' := [(tb, .inr (8, [.ref s0, .ref s1, .ref s2, .ref s3, .ref s4, .ref s5, .ref s6])), (s0, .inl (k 0, 12, .inl (fun i9 : Nat => iI (f0 i9)))), (ca, .inl (k 0, 3, .inl (fun i9 : Nat => iI ((uz dv ((cx % 3) + kk) ((dv ((cx % 3) + kk)) + (((wt - (smZ fc (cx % 3) (Int.toNat (f0 cx)))) / (f0 cx)) + 0))) i9))))]) rfl B
            refine lv_iinc (v := iI (kk + 1)) (lv' := [(7, .int (iI (kk + 1))), (6, .int (iI (cx % 3))), (5, .int (iI (wt - (smZ fc (cx % 3) (Int.toNat (f0 cx)))))), (4, .int (iI (f0 cx))), (0, .ref tb), (1, .ref ca), (2, .int (iI cx)), (3, .int (iI wt))]) hx hb dX8_shareOut_85 hl (k := 0) rfl (iI_add _ _) (by decide) rfl (fun ls hl => ?_)
            refine lv_goto (tgt := 38) hx hb dX8_shareOut_88 (by decide) ?_
            exact ih_5 ((kk + 1), (uz dv ((cx % 3) + kk) ((dv ((cx % 3) + kk)) + (((wt - (smZ fc (cx % 3) (Int.toNat (f0 cx)))) / (f0 cx)) + 0)))) ⟨(show 0 ≤ (kk + 1) ∧ (kk + 1) ≤ f0 cx from (by omega)), (show (uz dv ((cx % 3) + kk) ((dv ((cx % 3) + kk)) + (((wt - (smZ fc (cx % 3) (Int.toNat (f0 cx)))) / (f0 cx)) + 0))) = shL fc (cx % 3) (wt - smZ fc (cx % 3) (Int.toNat (f0 cx))) (f0 cx) (Int.toNat (kk + 1)) from (by rw [shL_s (by omega), ← hdv]; first | rw [if_pos (by omega)] | rw [if_neg (by omega)])), (show ∀ i9 : Int, cx % 3 + (kk + 1) ≤ i9 → (uz dv ((cx % 3) + kk) ((dv ((cx % 3) + kk)) + (((wt - (smZ fc (cx % 3) (Int.toNat (f0 cx)))) / (f0 cx)) + 0))) i9 = fc i9 from (fun i9 h9 => by rw [uz_n (by omega)]; exact hun i9 (by omega))), (show Bd 0 (bm + 201) (uz dv ((cx % 3) + kk) ((dv ((cx % 3) + kk)) + (((wt - (smZ fc (cx % 3) (Int.toNat (f0 cx)))) / (f0 cx)) + 0))) from b_13)⟩ (by first | omega | (dsimp only; omega)) _ _ _ (lv_sub hl [0, 1, 2, 3, 4, 5, 6, 7] rfl) (bd_to rfl B)
          · have zc_11 : kk < ((wt - (smZ fc (cx % 3) (Int.toNat (f0 cx)))) % (f0 cx)) := jnle (a := ((wt - (smZ fc (cx % 3) (Int.toNat (f0 cx)))) % (f0 cx))) (b := kk) (by omega) (by omega) c_11
            refine lv_iconst (v := iI 1) hx hb dX8_shareOut_77 (by decide) ?_
            refine lv_goto (tgt := 82) hx hb dX8_shareOut_78 (by decide) ?_
            refine y_add hx hb dX8_shareOut_82 ?_
            refine y_add hx hb dX8_shareOut_83 ?_
            have z_14 : 0 ≤ dv ((cx % 3) + kk) ∧ dv ((cx % 3) + kk) ≤ bm := by have q9 := hun ((cx % 3) + kk) (by omega); have q8 := hc ((cx % 3) + kk); omega
            refine x_iast' (f := dv) (z := ((cx % 3) + kk)) (v := ((dv ((cx % 3) + kk)) + (((wt - (smZ fc (cx % 3) (Int.toNat (f0 cx)))) / (f0 cx)) + 1))) B 2 rfl (by omega) dX8_shareOut_84 (fun H locs B => ?_)
            have b_15 : Bd 0 (bm + 201) (uz dv ((cx % 3) + kk) ((dv ((cx % 3) + kk)) + (((wt - (smZ fc (cx % 3) (Int.toNat (f0 cx)))) / (f0 cx)) + 1))) := Bd_uz bdv (by omega)
            have B := bd_to (ws' := [(tb, .inr (8, [.ref s0, .ref s1, .ref s2, .ref s3, .ref s4, .ref s5, .ref s6])), (s0, .inl (k 0, 12, .inl (fun i9 : Nat => iI (f0 i9)))), (ca, .inl (k 0, 3, .inl (fun i9 : Nat => iI ((uz dv ((cx % 3) + kk) ((dv ((cx % 3) + kk)) + (((wt - (smZ fc (cx % 3) (Int.toNat (f0 cx)))) / (f0 cx)) + 1))) i9))))]) rfl B
            refine lv_iinc (v := iI (kk + 1)) (lv' := [(7, .int (iI (kk + 1))), (6, .int (iI (cx % 3))), (5, .int (iI (wt - (smZ fc (cx % 3) (Int.toNat (f0 cx)))))), (4, .int (iI (f0 cx))), (0, .ref tb), (1, .ref ca), (2, .int (iI cx)), (3, .int (iI wt))]) hx hb dX8_shareOut_85 hl (k := 0) rfl (iI_add _ _) (by decide) rfl (fun ls hl => ?_)
            refine lv_goto (tgt := 38) hx hb dX8_shareOut_88 (by decide) ?_
            exact ih_5 ((kk + 1), (uz dv ((cx % 3) + kk) ((dv ((cx % 3) + kk)) + (((wt - (smZ fc (cx % 3) (Int.toNat (f0 cx)))) / (f0 cx)) + 1)))) ⟨(show 0 ≤ (kk + 1) ∧ (kk + 1) ≤ f0 cx from (by omega)), (show (uz dv ((cx % 3) + kk) ((dv ((cx % 3) + kk)) + (((wt - (smZ fc (cx % 3) (Int.toNat (f0 cx)))) / (f0 cx)) + 1))) = shL fc (cx % 3) (wt - smZ fc (cx % 3) (Int.toNat (f0 cx))) (f0 cx) (Int.toNat (kk + 1)) from (by rw [shL_s (by omega), ← hdv]; first | rw [if_pos (by omega)] | rw [if_neg (by omega)])), (show ∀ i9 : Int, cx % 3 + (kk + 1) ≤ i9 → (uz dv ((cx % 3) + kk) ((dv ((cx % 3) + kk)) + (((wt - (smZ fc (cx % 3) (Int.toNat (f0 cx)))) / (f0 cx)) + 1))) i9 = fc i9 from (fun i9 h9 => by rw [uz_n (by omega)]; exact hun i9 (by omega))), (show Bd 0 (bm + 201) (uz dv ((cx % 3) + kk) ((dv ((cx % 3) + kk)) + (((wt - (smZ fc (cx % 3) (Int.toNat (f0 cx)))) / (f0 cx)) + 1))) from b_15)⟩ (by first | omega | (dsimp only; omega)) _ _ _ (lv_sub hl [0, 1, 2, 3, 4, 5, 6, 7] rfl) (bd_to rfl B)
    · have zc_4 : (f0 cx) < 1 := jnle (a := 1) (b := (f0 cx)) (by omega) (by omega) c_4
      exact k_vret B hr (⟨fc, (by unfold shO; exact (if_neg (fun q9 => by omega)).symm), (fun i9 => by have q9 := hc i9; omega), rfl, rfl, rfl, rfl⟩) ⟨Nat.le_of_ble_eq_true rfl, Nat.le_of_ble_eq_true rfl⟩ ⟨Nat.le_of_ble_eq_true rfl, Nat.le_of_ble_eq_true rfl⟩ dX8_shareOut_29

theorem mw_1144 : (Jvm.Cond.fieldLink "Galleyforge$Table" (15 : Nat) "Galleyforge$Table" "leasts" "[I") ∈ gt := gt_at 1214 (by decide +kernel) (by decide +kernel)
theorem mw_1145 : (Jvm.Cond.fieldLink "Galleyforge$Table" (18 : Nat) "Galleyforge$Table" "bests" "[I") ∈ gt := gt_at 1215 (by decide +kernel) (by decide +kernel)
theorem dX8_tell_0 : decode cX8_tell 0 = .ok (.iload_n 1, 1) := by decide +kernel
theorem dX8_tell_1 : decode cX8_tell 1 = .ok (.iconst 3, 1) := by decide +kernel
theorem dX8_tell_2 : decode cX8_tell 2 = .ok (.imul, 1) := by decide +kernel
theorem dX8_tell_3 : decode cX8_tell 3 = .ok (.iload_n 2, 1) := by decide +kernel
theorem dX8_tell_4 : decode cX8_tell 4 = .ok (.iadd, 1) := by decide +kernel
theorem dX8_tell_5 : decode cX8_tell 5 = .ok (.istore 6, 2) := by decide +kernel
theorem dX8_tell_7 : decode cX8_tell 7 = .ok (.aload_n 0, 1) := by decide +kernel
theorem dX8_tell_8 : decode cX8_tell 8 = .ok (.getfield 9, 3) := by decide +kernel
theorem dX8_tell_11 : decode cX8_tell 11 = .ok (.iload 6, 2) := by decide +kernel
theorem dX8_tell_13 : decode cX8_tell 13 = .ok (.iload_n 3, 1) := by decide +kernel
theorem dX8_tell_14 : decode cX8_tell 14 = .ok (.iastore, 1) := by decide +kernel
theorem dX8_tell_15 : decode cX8_tell 15 = .ok (.aload_n 0, 1) := by decide +kernel
theorem dX8_tell_16 : decode cX8_tell 16 = .ok (.getfield 15, 3) := by decide +kernel
theorem dX8_tell_19 : decode cX8_tell 19 = .ok (.iload 6, 2) := by decide +kernel
theorem dX8_tell_21 : decode cX8_tell 21 = .ok (.iload 4, 2) := by decide +kernel
theorem dX8_tell_23 : decode cX8_tell 23 = .ok (.iastore, 1) := by decide +kernel
theorem dX8_tell_24 : decode cX8_tell 24 = .ok (.aload_n 0, 1) := by decide +kernel
theorem dX8_tell_25 : decode cX8_tell 25 = .ok (.getfield 18, 3) := by decide +kernel
theorem dX8_tell_28 : decode cX8_tell 28 = .ok (.iload 6, 2) := by decide +kernel
theorem dX8_tell_30 : decode cX8_tell 30 = .ok (.iload 5, 2) := by decide +kernel
theorem dX8_tell_32 : decode cX8_tell 32 = .ok (.iastore, 1) := by decide +kernel
theorem dX8_tell_33 : decode cX8_tell 33 = .ok (.return_, 1) := by decide +kernel
set_option maxHeartbeats 4000000 in
set_option maxRecDepth 100000 in
theorem k_tell (l : Launch) (dC : Nat → ClassId) (dI : Nat → Nat → Nat) (k : Nat → ClassId) (tb : Nat) (s0 : Nat) (s1 : Nat) (s2 : Nat) (s3 : Nat) (s4 : Nat) (s5 : Nat) (s6 : Nat) (f0 : Int → Int) (f1 : Int → Int) (f2 : Int → Int) (ro : Int) (co : Int) (sn : Int) (le : Int) (be : Int) (h1 : 0 ≤ ro ∧ ro ≤ 3 ∧ 0 ≤ co ∧ co ≤ 2) : Kn l dC dI k yX8_tell (.code yX8_tell cX8_tell 7 none) ({ frames := 0, cells := 0, slots := 0, locals := 0 } : Room) [.ref tb, .int (iI ro), .int (iI co), .int (iI sn), .int (iI le), .int (iI be)] [(tb, .inr (8, [.ref s0, .ref s1, .ref s2, .ref s3, .ref s4, .ref s5, .ref s6])), (s0, .inl (k 0, 12, .inl (fun i9 : Nat => iI (f0 i9)))), (s1, .inl (k 0, 12, .inl (fun i9 : Nat => iI (f1 i9)))), (s2, .inl (k 0, 12, .inl (fun i9 : Nat => iI (f2 i9))))] (fun r w gc gs => (r = none ∧ w = [(tb, .inr (8, [.ref s0, .ref s1, .ref s2, .ref s3, .ref s4, .ref s5, .ref s6])), (s0, .inl (k 0, 12, .inl (fun i9 : Nat => iI ((uz f0 ((ro * 3) + co) sn) i9)))), (s1, .inl (k 0, 12, .inl (fun i9 : Nat => iI ((uz f1 ((ro * 3) + co) le) i9)))), (s2, .inl (k 0, 12, .inl (fun i9 : Nat => iI ((uz f2 ((ro * 3) + co) be) i9))))] ∧ gc = 0 ∧ gs = 0)) := by
  refine kn_of (by decide) (Nat.le_of_ble_eq_true rfl) ?_
  intro p e s m args below meth c H locs B hr hnm ls hl
  have hx := B.1.1
  have hb := B.1.2.1
  have hl : lv_has ls 7 [(0, .ref tb), (1, .int (iI ro)), (2, .int (iI co)), (3, .int (iI sn)), (4, .int (iI le)), (5, .int (iI be))] := hl
  refine lv_iload_n hx hb dX8_tell_0 rfl (lv_at hl 1 rfl) ?_
  refine lv_iconst (v := iI 3) hx hb dX8_tell_1 (by decide) ?_
  refine y_mul hx hb dX8_tell_2 ?_
  refine lv_iload_n hx hb dX8_tell_3 rfl (lv_at hl 2 rfl) ?_
  refine y_add hx hb dX8_tell_4 ?_
  refine lv_istore (lv' := [(6, .int (iI ((ro * 3) + co))), (0, .ref tb), (1, .int (iI ro)), (2, .int (iI co)), (3, .int (iI sn)), (4, .int (iI le)), (5, .int (iI be))]) hx hb dX8_tell_5 hl (by decide) rfl (fun ls hl => ?_)
  refine lv_aload_n hx hb dX8_tell_7 rfl (lv_at hl 1 rfl) ?_
  refine x_get (ci := 8) (C := RX8) (T := TX8) (N := 7) (v := .ref s0) B 0 rfl rfl in_X8 0 (by decide) mw_1143 (fun _ h9 => h9) rfl dX8_tell_8 ?_
  refine lv_iload hx hb dX8_tell_11 (lv_at hl 0 rfl) ?_
  refine lv_iload_n hx hb dX8_tell_13 rfl (lv_at hl 4 rfl) ?_
  refine x_iast' (f := f0) (z := ((ro * 3) + co)) (v := sn) B 1 rfl (by omega) dX8_tell_14 (fun H locs B => ?_)
  have B := bd_to (ws' := [(tb, .inr (8, [.ref s0, .ref s1, .ref s2, .ref s3, .ref s4, .ref s5, .ref s6])), (s0, .inl (k 0, 12, .inl (fun i9 : Nat => iI ((uz f0 ((ro * 3) + co) sn) i9)))), (s1, .inl (k 0, 12, .inl (fun i9 : Nat => iI (f1 i9)))), (s2, .inl (k 0, 12, .inl (fun i9 : Nat => iI (f2 i9))))]) rfl B
  refine lv_aload_n hx hb dX8_tell_15 rfl (lv_at hl 1 rfl) ?_
  refine x_get (ci := 8) (C := RX8) (T := TX8) (N := 7) (v := .ref s1) B 0 rfl rfl in_X8 1 (by decide) mw_1144 (fun _ h9 => h9) rfl dX8_tell_16 ?_
  refine lv_iload hx hb dX8_tell_19 (lv_at hl 0 rfl) ?_
  refine lv_iload hx hb dX8_tell_21 (lv_at hl 5 rfl) ?_
  refine x_iast' (f := f1) (z := ((ro * 3) + co)) (v := le) B 2 rfl (by omega) dX8_tell_23 (fun H locs B => ?_)
  have B := bd_to (ws' := [(tb, .inr (8, [.ref s0, .ref s1, .ref s2, .ref s3, .ref s4, .ref s5, .ref s6])), (s0, .inl (k 0, 12, .inl (fun i9 : Nat => iI ((uz f0 ((ro * 3) + co) sn) i9)))), (s1, .inl (k 0, 12, .inl (fun i9 : Nat => iI ((uz f1 ((ro * 3) + co) le) i9)))), (s2, .inl (k 0, 12, .inl (fun i9 : Nat => iI (f2 i9))))]) rfl B
  refine lv_aload_n hx hb dX8_tell_24 rfl (lv_at hl 1 rfl) ?_
  refine x_get (ci := 8) (C := RX8) (T := TX8) (N := 7) (v := .ref s2) B 0 rfl rfl in_X8 2 (by decide) mw_1145 (fun _ h9 => h9) rfl dX8_tell_25 ?_
  refine lv_iload hx hb dX8_tell_28 (lv_at hl 0 rfl) ?_
  refine lv_iload hx hb dX8_tell_30 (lv_at hl 6 rfl) ?_
  refine x_iast' (f := f2) (z := ((ro * 3) + co)) (v := be) B 3 rfl (by omega) dX8_tell_32 (fun H locs B => ?_)
  have B := bd_to (ws' := [(tb, .inr (8, [.ref s0, .ref s1, .ref s2, .ref s3, .ref s4, .ref s5, .ref s6])), (s0, .inl (k 0, 12, .inl (fun i9 : Nat => iI ((uz f0 ((ro * 3) + co) sn) i9)))), (s1, .inl (k 0, 12, .inl (fun i9 : Nat => iI ((uz f1 ((ro * 3) + co) le) i9)))), (s2, .inl (k 0, 12, .inl (fun i9 : Nat => iI ((uz f2 ((ro * 3) + co) be) i9))))]) rfl B
  exact k_vret B hr (⟨rfl, rfl, rfl, rfl⟩) ⟨Nat.le_of_ble_eq_true rfl, Nat.le_of_ble_eq_true rfl⟩ ⟨Nat.le_of_ble_eq_true rfl, Nat.le_of_ble_eq_true rfl⟩ dX8_tell_33

theorem mw_1148 : (Jvm.Cond.fieldLink "Galleyforge$Table" (27 : Nat) "Galleyforge$Table" "wishes" "[I") ∈ gt := gt_at 1218 (by decide +kernel) (by decide +kernel)
theorem mw_1149 : (Jvm.Cond.fieldLink "Galleyforge$Table" (30 : Nat) "Galleyforge$Table" "widths" "[I") ∈ gt := gt_at 1219 (by decide +kernel) (by decide +kernel)
theorem dX8_shareByWishes_0 : decode cX8_shareByWishes 0 = .ok (.iload_n 2, 1) := by decide +kernel
theorem dX8_shareByWishes_1 : decode cX8_shareByWishes 1 = .ok (.ifCond .gt 4, 3) := by decide +kernel
theorem dX8_shareByWishes_4 : decode cX8_shareByWishes 4 = .ok (.return_, 1) := by decide +kernel
theorem dX8_shareByWishes_5 : decode cX8_shareByWishes 5 = .ok (.iload_n 1, 1) := by decide +kernel
theorem dX8_shareByWishes_6 : decode cX8_shareByWishes 6 = .ok (.istore_n 3, 1) := by decide +kernel
theorem dX8_shareByWishes_7 : decode cX8_shareByWishes 7 = .ok (.iconst 0, 1) := by decide +kernel
theorem dX8_shareByWishes_8 : decode cX8_shareByWishes 8 = .ok (.istore 4, 2) := by decide +kernel
theorem dX8_shareByWishes_10 : decode cX8_shareByWishes 10 = .ok (.iload 4, 2) := by decide +kernel
theorem dX8_shareByWishes_12 : decode cX8_shareByWishes 12 = .ok (.iconst 3, 1) := by decide +kernel
theorem dX8_shareByWishes_13 : decode cX8_shareByWishes 13 = .ok (.if_icmp .ge 39, 3) := by decide +kernel
theorem dX8_shareByWishes_16 : decode cX8_shareByWishes 16 = .ok (.iload_n 1, 1) := by decide +kernel
theorem dX8_shareByWishes_17 : decode cX8_shareByWishes 17 = .ok (.aload_n 0, 1) := by decide +kernel
theorem dX8_shareByWishes_18 : decode cX8_shareByWishes 18 = .ok (.getfield 27, 3) := by decide +kernel
theorem dX8_shareByWishes_21 : decode cX8_shareByWishes 21 = .ok (.iload 4, 2) := by decide +kernel
theorem dX8_shareByWishes_23 : decode cX8_shareByWishes 23 = .ok (.iaload, 1) := by decide +kernel
theorem dX8_shareByWishes_24 : decode cX8_shareByWishes 24 = .ok (.imul, 1) := by decide +kernel
theorem dX8_shareByWishes_25 : decode cX8_shareByWishes 25 = .ok (.iload_n 2, 1) := by decide +kernel
theorem dX8_shareByWishes_26 : decode cX8_shareByWishes 26 = .ok (.idiv, 1) := by decide +kernel
theorem dX8_shareByWishes_27 : decode cX8_shareByWishes 27 = .ok (.istore 5, 2) := by decide +kernel
theorem dX8_shareByWishes_29 : decode cX8_shareByWishes 29 = .ok (.aload_n 0, 1) := by decide +kernel
theorem dX8_shareByWishes_30 : decode cX8_shareByWishes 30 = .ok (.getfield 30, 3) := by decide +kernel
theorem dX8_shareByWishes_33 : decode cX8_shareByWishes 33 = .ok (.iload 4, 2) := by decide +kernel
theorem dX8_shareByWishes_35 : decode cX8_shareByWishes 35 = .ok (.dup2, 1) := by decide +kernel
theorem dX8_shareByWishes_36 : decode cX8_shareByWishes 36 = .ok (.iaload, 1) := by decide +kernel
theorem dX8_shareByWishes_37 : decode cX8_shareByWishes 37 = .ok (.iload 5, 2) := by decide +kernel
theorem dX8_shareByWishes_39 : decode cX8_shareByWishes 39 = .ok (.iadd, 1) := by decide +kernel
theorem dX8_shareByWishes_40 : decode cX8_shareByWishes 40 = .ok (.iastore, 1) := by decide +kernel
theorem dX8_shareByWishes_41 : decode cX8_shareByWishes 41 = .ok (.iload_n 3, 1) := by decide +kernel
theorem dX8_shareByWishes_42 : decode cX8_shareByWishes 42 = .ok (.iload 5, 2) := by decide +kernel
theorem dX8_shareByWishes_44 : decode cX8_shareByWishes 44 = .ok (.isub, 1) := by decide +kernel
theorem dX8_shareByWishes_45 : decode cX8_shareByWishes 45 = .ok (.istore_n 3, 1) := by decide +kernel
theorem dX8_shareByWishes_46 : decode cX8_shareByWishes 46 = .ok (.iinc 4 1, 3) := by decide +kernel
theorem dX8_shareByWishes_49 : decode cX8_shareByWishes 49 = .ok (.goto (-39), 3) := by decide +kernel
theorem dX8_shareByWishes_52 : decode cX8_shareByWishes 52 = .ok (.iconst 0, 1) := by decide +kernel
theorem dX8_shareByWishes_53 : decode cX8_shareByWishes 53 = .ok (.istore 4, 2) := by decide +kernel
theorem dX8_shareByWishes_55 : decode cX8_shareByWishes 55 = .ok (.iload 4, 2) := by decide +kernel
theorem dX8_shareByWishes_57 : decode cX8_shareByWishes 57 = .ok (.iload_n 3, 1) := by decide +kernel
theorem dX8_shareByWishes_58 : decode cX8_shareByWishes 58 = .ok (.if_icmp .ge 26, 3) := by decide +kernel
theorem dX8_shareByWishes_61 : decode cX8_shareByWishes 61 = .ok (.iload 4, 2) := by decide +kernel
theorem dX8_shareByWishes_63 : decode cX8_shareByWishes 63 = .ok (.iconst 3, 1) := by decide +kernel
theorem dX8_shareByWishes_64 : decode cX8_shareByWishes 64 = .ok (.if_icmp .ge 20, 3) := by decide +kernel
theorem dX8_shareByWishes_67 : decode cX8_shareByWishes 67 = .ok (.aload_n 0, 1) := by decide +kernel
theorem dX8_shareByWishes_68 : decode cX8_shareByWishes 68 = .ok (.getfield 30, 3) := by decide +kernel
theorem dX8_shareByWishes_71 : decode cX8_shareByWishes 71 = .ok (.iload 4, 2) := by decide +kernel
theorem dX8_shareByWishes_73 : decode cX8_shareByWishes 73 = .ok (.dup2, 1) := by decide +kernel
theorem dX8_shareByWishes_74 : decode cX8_shareByWishes 74 = .ok (.iaload, 1) := by decide +kernel
theorem dX8_shareByWishes_75 : decode cX8_shareByWishes 75 = .ok (.iconst 1, 1) := by decide +kernel
theorem dX8_shareByWishes_76 : decode cX8_shareByWishes 76 = .ok (.iadd, 1) := by decide +kernel
theorem dX8_shareByWishes_77 : decode cX8_shareByWishes 77 = .ok (.iastore, 1) := by decide +kernel
theorem dX8_shareByWishes_78 : decode cX8_shareByWishes 78 = .ok (.iinc 4 1, 3) := by decide +kernel
theorem dX8_shareByWishes_81 : decode cX8_shareByWishes 81 = .ok (.goto (-26), 3) := by decide +kernel
theorem dX8_shareByWishes_84 : decode cX8_shareByWishes 84 = .ok (.return_, 1) := by decide +kernel
set_option maxHeartbeats 4000000 in
set_option maxRecDepth 100000 in
theorem k_shareByWishes (l : Launch) (dC : Nat → ClassId) (dI : Nat → Nat → Nat) (k : Nat → ClassId) (tb : Nat) (s0 : Nat) (s1 : Nat) (s2 : Nat) (s3 : Nat) (s4 : Nat) (s5 : Nat) (s6 : Nat) (fx : Int → Int) (fw : Int → Int) (xt : Int) (al : Int) (hs5 : Bd 0 10000 fx) (hs6 : Bd 0 10000 fw) (h1 : 0 ≤ xt ∧ xt ≤ 120 ∧ 0 ≤ al ∧ al ≤ 30000) : Kn l dC dI k yX8_shareByWishes (.code yX8_shareByWishes cX8_shareByWishes 6 none) ({ frames := 0, cells := 0, slots := 0, locals := 0 } : Room) [.ref tb, .int (iI xt), .int (iI al)] [(tb, .inr (8, [.ref s0, .ref s1, .ref s2, .ref s3, .ref s4, .ref s5, .ref s6])), (s5, .inl (k 0, 3, .inl (fun i9 : Nat => iI (fx i9)))), (s6, .inl (k 0, 3, .inl (fun i9 : Nat => iI (fw i9))))] (fun r w gc gs => (∃ (dw : Int → Int), (dw = swZ fw fx xt al) ∧ (Bd 0 1210001 dw) ∧ r = none ∧ w = [(tb, .inr (8, [.ref s0, .ref s1, .ref s2, .ref s3, .ref s4, .ref s5, .ref s6])), (s5, .inl (k 0, 3, .inl (fun i9 : Nat => iI (fx i9)))), (s6, .inl (k 0, 3, .inl (fun i9 : Nat => iI (dw i9))))] ∧ gc = 0 ∧ gs = 0)) := by
  refine kn_of (by decide) (Nat.le_of_ble_eq_true rfl) ?_
  intro p e s m args below meth c H locs B hr hnm ls hl
  have hx := B.1.1
  have hb := B.1.2.1
  have hl : lv_has ls 6 [(0, .ref tb), (1, .int (iI xt)), (2, .int (iI al))] := hl
  refine lv_iload_n hx hb dX8_shareByWishes_0 rfl (lv_at hl 2 rfl) ?_
  refine lv_if_gt (tgt := 5) hx hb dX8_shareByWishes_1 (by decide) (fun c_1 => ?_) (fun c_1 => ?_)
  · have zc_1 : 0 < al := jlt (a := 0) (b := al) (by omega) (by omega) c_1
    refine lv_iload_n hx hb dX8_shareByWishes_5 rfl (lv_at hl 1 rfl) ?_
    refine lv_istore_n (lv' := [(3, .int (iI xt)), (0, .ref tb), (1, .int (iI xt)), (2, .int (iI al))]) hx hb dX8_shareByWishes_6 rfl hl (by decide) rfl (fun ls hl => ?_)
    refine lv_iconst (v := iI 0) hx hb dX8_shareByWishes_7 (by decide) ?_
    refine lv_istore (lv' := [(4, .int (iI 0)), (3, .int (iI xt)), (0, .ref tb), (1, .int (iI xt)), (2, .int (iI al))]) hx hb dX8_shareByWishes_8 hl (by decide) rfl (fun ls hl => ?_)
    refine k_loop (σ := Int × Int × (Int → Int)) B (fun g9 : Int × Int × (Int → Int) => (0 ≤ g9.1 ∧ g9.1 ≤ 3 ∧ -(1200000 * g9.1) ≤ g9.2.1 ∧ g9.2.1 ≤ xt) ∧ (g9.2.2 = (swC fw fx xt al (Int.toNat g9.1)).1) ∧ (g9.2.1 = (swC fw fx xt al (Int.toNat g9.1)).2) ∧ (∀ i9 : Int, g9.1 ≤ i9 → g9.2.2 i9 = fw i9) ∧ (Bd 0 1210000 g9.2.2)) (fun g9 : Int × Int × (Int → Int) => (3 - g9.1).toNat) (fun g9 : Int × Int × (Int → Int) => [(4, .int (iI g9.1)), (3, .int (iI g9.2.1)), (0, .ref tb), (1, .int (iI xt)), (2, .int (iI al))]) (fun g9 : Int × Int × (Int → Int) => [(tb, .inr (8, [.ref s0, .ref s1, .ref s2, .ref s3, .ref s4, .ref s5, .ref s6])), (s5, .inl (k 0, 3, .inl (fun i9 : Nat => iI (fx i9)))), (s6, .inl (k 0, 3, .inl (fun i9 : Nat => iI (g9.2.2 i9))))]) ?_ (0, xt, fw) ⟨(show 0 ≤ 0 ∧ 0 ≤ 3 ∧ -(1200000 * 0) ≤ xt ∧ xt ≤ xt from (by omega)), (show fw = (swC fw fx xt al (Int.toNat 0)).1 from rfl), (show xt = (swC fw fx xt al (Int.toNat 0)).2 from rfl), (show ∀ i9 : Int, 0 ≤ i9 → fw i9 = fw i9 from (fun _ _ => rfl)), (show Bd 0 1210000 fw from (fun i9 => by have q9 := hs6 i9; omega))⟩ ls H locs (lv_sub hl [0, 1, 2, 3, 4] rfl) (bd_to rfl B)
    clear hl B
    rintro ⟨co, ov, dv⟩ ⟨hco, hdv, hov2, hun, bdv⟩ ih_2 ls H locs hl B
    have hco : 0 ≤ co ∧ co ≤ 3 ∧ -(1200000 * co) ≤ ov ∧ ov ≤ xt := hco
    have hdv : dv = (swC fw fx xt al (Int.toNat co)).1 := hdv
    have hov2 : ov = (swC fw fx xt al (Int.toNat co)).2 := hov2
    have hun : ∀ i9 : Int, co ≤ i9 → dv i9 = fw i9 := hun
    have bdv : Bd 0 1210000 dv := bdv
    have hl : lv_has ls 6 [(4, .int (iI co)), (3, .int (iI ov)), (0, .ref tb), (1, .int (iI xt)), (2, .int (iI al))] := hl
    have B := bd_to (ws' := [(tb, .inr (8, [.ref s0, .ref s1, .ref s2, .ref s3, .ref s4, .ref s5, .ref s6])), (s5, .inl (k 0, 3, .inl (fun i9 : Nat => iI (fx i9)))), (s6, .inl (k 0, 3, .inl (fun i9 : Nat => iI (dv i9))))]) rfl B
    refine lv_iload hx hb dX8_shareByWishes_10 (lv_at hl 0 rfl) ?_
    refine lv_iconst (v := iI 3) hx hb dX8_shareByWishes_12 (by decide) ?_
    refine lv_icmp_ge (tgt := 52) hx hb dX8_shareByWishes_13 (by decide) (fun c_3 => ?_) (fun c_3 => ?_)
    · have zc_3 : 3 ≤ co := jle (a := 3) (b := co) (by omega) (by omega) c_3
      refine lv_iconst (v := iI 0) hx hb dX8_shareByWishes_52 (by decide) ?_
      refine lv_istore (lv' := [(4, .int (iI 0)), (3, .int (iI ov)), (0, .ref tb), (1, .int (iI xt)), (2, .int (iI al))]) hx hb dX8_shareByWishes_53 hl (by decide) rfl (fun ls hl => ?_)
      refine k_loop (σ := Int × (Int → Int)) B (fun g9 : Int × (Int → Int) => (0 ≤ g9.1 ∧ g9.1 ≤ 3) ∧ (g9.2 = swD dv ov (Int.toNat g9.1)) ∧ (∀ i9 : Int, g9.1 ≤ i9 → g9.2 i9 = dv i9) ∧ (Bd 0 1210001 g9.2)) (fun g9 : Int × (Int → Int) => (3 - g9.1).toNat) (fun g9 : Int × (Int → Int) => [(4, .int (iI g9.1)), (3, .int (iI ov)), (0, .ref tb), (1, .int (iI xt)), (2, .int (iI al))]) (fun g9 : Int × (Int → Int) => [(tb, .inr (8, [.ref s0, .ref s1, .ref s2, .ref s3, .ref s4, .ref s5, .ref s6])), (s5, .inl (k 0, 3, .inl (fun i9 : Nat => iI (fx i9)))), (s6, .inl (k 0, 3, .inl (fun i9 : Nat => iI (g9.2 i9))))]) ?_ (0, dv) ⟨(show 0 ≤ 0 ∧ 0 ≤ 3 from (by omega)), (show dv = swD dv ov (Int.toNat 0) from rfl), (show ∀ i9 : Int, 0 ≤ i9 → dv i9 = dv i9 from (fun _ _ => rfl)), (show Bd 0 1210001 dv from (fun i9 => by have q9 := bdv i9; omega))⟩ ls H locs (lv_sub hl [0, 1, 2, 3, 4] rfl) (bd_to rfl B)
      clear hl B
      rintro ⟨c2, d2⟩ ⟨hc2, hd2, hun2, b2⟩ ih_4 ls H locs hl B
      have hc2 : 0 ≤ c2 ∧ c2 ≤ 3 := hc2
      have hd2 : d2 = swD dv ov (Int.toNat c2) := hd2
      have hun2 : ∀ i9 : Int, c2 ≤ i9 → d2 i9 = dv i9 := hun2
      have b2 : Bd 0 1210001 d2 := b2
      have hl : lv_has ls 6 [(4, .int (iI c2)), (3, .int (iI ov)), (0, .ref tb), (1, .int (iI xt)), (2, .int (iI al))] := hl
      have B := bd_to (ws' := [(tb, .inr (8, [.ref s0, .ref s1, .ref s2, .ref s3, .ref s4, .ref s5, .ref s6])), (s5, .inl (k 0, 3, .inl (fun i9 : Nat => iI (fx i9)))), (s6, .inl (k 0, 3, .inl (fun i9 : Nat => iI (d2 i9))))]) rfl B
      refine lv_iload hx hb dX8_shareByWishes_55 (lv_at hl 0 rfl) ?_
      refine lv_iload_n hx hb dX8_shareByWishes_57 rfl (lv_at hl 1 rfl) ?_
      refine lv_icmp_ge (tgt := 84) hx hb dX8_shareByWishes_58 (by decide) (fun c_5 => ?_) (fun c_5 => ?_)
      · have zc_5 : ov ≤ c2 := jle (a := ov) (b := c2) (by omega) (by omega) c_5
        exact k_vret B hr (⟨d2, (by have e3 : Int.toNat co = 3 := (by omega); rw [e3] at hdv hov2; unfold swZ; rw [if_pos (by omega), ← hdv, ← hov2, swD_e (q := c2) (by omega) (by omega)]; exact hd2), b2, rfl, rfl, rfl, rfl⟩) ⟨Nat.le_of_ble_eq_true rfl, Nat.le_of_ble_eq_true rfl⟩ ⟨Nat.le_of_ble_eq_true rfl, Nat.le_of_ble_eq_true rfl⟩ dX8_shareByWishes_84
      · have zc_5 : c2 < ov := jnle (a := ov) (b := c2) (by omega) (by omega) c_5
        refine lv_iload hx hb dX8_shareByWishes_61 (lv_at hl 0 rfl) ?_
        refine lv_iconst (v := iI 3) hx hb dX8_shareByWishes_63 (by decide) ?_
        refine lv_icmp_ge (tgt := 84) hx hb dX8_shareByWishes_64 (by decide) (fun c_6 => ?_) (fun c_6 => ?_)
        · have zc_6 : 3 ≤ c2 := jle (a := 3) (b := c2) (by omega) (by omega) c_6
          exact k_vret B hr (⟨d2, (by have e3 : Int.toNat co = 3 := (by omega); rw [e3] at hdv hov2; unfold swZ; rw [if_pos (by omega), ← hdv, ← hov2, swD_e (q := c2) (by omega) (by omega)]; exact hd2), b2, rfl, rfl, rfl, rfl⟩) ⟨Nat.le_of_ble_eq_true rfl, Nat.le_of_ble_eq_true rfl⟩ ⟨Nat.le_of_ble_eq_true rfl, Nat.le_of_ble_eq_true rfl⟩ dX8_shareByWishes_84
        · have zc_6 : c2 < 3 := jnle (a := 3) (b := c2) (by omega) (by omega) c_6
          refine lv_aload_n hx hb dX8_shareByWishes_67 rfl (lv_at hl 2 rfl) ?_
          refine x_get (ci := 8) (C := RX8) (T := TX8) (N := 7) (v := .ref s6) B 0 rfl rfl in_X8 6 (by decide) mw_1149 (fun _ h9 => h9) rfl dX8_shareByWishes_68 ?_
          refine lv_iload hx hb dX8_shareByWishes_71 (lv_at hl 0 rfl) ?_
          refine lv_dup2_11 hx hb dX8_shareByWishes_73 rfl rfl ?_
          refine x_iald' (f := d2) (z := c2) B 2 rfl (by omega) dX8_shareByWishes_74 ?_
          have z_7 : 0 ≤ (d2 c2) ∧ (d2 c2) ≤ 1210001 := b2 c2
          refine lv_iconst (v := iI 1) hx hb dX8_shareByWishes_75 (by decide) ?_
          refine y_add hx hb dX8_shareByWishes_76 ?_
          have z_8 : 0 ≤ d2 c2 ∧ d2 c2 ≤ 1210000 := by have q9 := hun2 c2 (by omega); have q8 := bdv c2; omega
          refine x_iast' (f := d2) (z := c2) (v := ((d2 c2) + 1)) B 2 rfl (by omega) dX8_shareByWishes_77 (fun H locs B => ?_)
          have b_9 : Bd 0 1210001 (uz d2 c2 ((d2 c2) + 1)) := Bd_uz b2 (by omega)
          have B := bd_to (ws' := [(tb, .inr (8, [.ref s0, .ref s1, .ref s2, .ref s3, .ref s4, .ref s5, .ref s6])), (s5, .inl (k 0, 3, .inl (fun i9 : Nat => iI (fx i9)))), (s6, .inl (k 0, 3, .inl (fun i9 : Nat => iI ((uz d2 c2 ((d2 c2) + 1)) i9))))]) rfl B
          refine lv_iinc (v := iI (c2 + 1)) (lv' := [(4, .int (iI (c2 + 1))), (3, .int (iI ov)), (0, .ref tb), (1, .int (iI xt)), (2, .int (iI al))]) hx hb dX8_shareByWishes_78 hl (k := 0) rfl (iI_add _ _) (by decide) rfl (fun ls hl => ?_)
          refine lv_goto (tgt := 55) hx hb dX8_shareByWishes_81 (by decide) ?_
          exact ih_4 ((c2 + 1), (uz d2 c2 ((d2 c2) + 1))) ⟨(show 0 ≤ (c2 + 1) ∧ (c2 + 1) ≤ 3 from (by omega)), (show (uz d2 c2 ((d2 c2) + 1)) = swD dv ov (Int.toNat (c2 + 1)) from (by rw [swD_s (by omega) (by omega), ← hd2])), (show ∀ i9 : Int, (c2 + 1) ≤ i9 → (uz d2 c2 ((d2 c2) + 1)) i9 = dv i9 from (fun i9 h9 => by rw [uz_n (by omega)]; exact hun2 i9 (by omega))), (show Bd 0 1210001 (uz d2 c2 ((d2 c2) + 1)) from b_9)⟩ (by first | omega | (dsimp only; omega)) _ _ _ (lv_sub hl [0, 1, 2, 3, 4] rfl) (bd_to rfl B)
    · have zc_3 : co < 3 := jnle (a := 3) (b := co) (by omega) (by omega) c_3
      refine lv_iload_n hx hb dX8_shareByWishes_16 rfl (lv_at hl 3 rfl) ?_
      refine lv_aload_n hx hb dX8_shareByWishes_17 rfl (lv_at hl 2 rfl) ?_
      refine x_get (ci := 8) (C := RX8) (T := TX8) (N := 7) (v := .ref s5) B 0 rfl rfl in_X8 5 (by decide) mw_1148 (fun _ h9 => h9) rfl dX8_shareByWishes_18 ?_
      refine lv_iload hx hb dX8_shareByWishes_21 (lv_at hl 0 rfl) ?_
      refine x_iald' (f := fx) (z := co) B 1 rfl (by omega) dX8_shareByWishes_23 ?_
      have z_10 : 0 ≤ (fx co) ∧ (fx co) ≤ 10000 := hs5 co
      refine y_mul hx hb dX8_shareByWishes_24 ?_
      refine lv_iload_n hx hb dX8_shareByWishes_25 rfl (lv_at hl 4 rfl) ?_
      have z_11 : 0 ≤ xt * (fx co) ∧ xt * (fx co) ≤ 1200000 := ⟨Int.mul_nonneg (by omega) (by omega), by have q9 := Int.mul_le_mul (a := xt) (b := fx co) (c := 120) (d := 10000) (by omega) (by omega) (by omega) (by omega); omega⟩
      refine y_div hx hb (a := (xt * (fx co))) (b := al) (by omega) (by omega) dX8_shareByWishes_26 ?_
      have z_12 : 0 ≤ ((xt * (fx co)) / al) ∧ ((xt * (fx co)) / al) ≤ (xt * (fx co)) := div_in (by omega) (by omega)
      refine lv_istore (lv' := [(5, .int (iI ((xt * (fx co)) / al))), (4, .int (iI co)), (3, .int (iI ov)), (0, .ref tb), (1, .int (iI xt)), (2, .int (iI al))]) hx hb dX8_shareByWishes_27 hl (by decide) rfl (fun ls hl => ?_)
      refine lv_aload_n hx hb dX8_shareByWishes_29 rfl (lv_at hl 3 rfl) ?_
      refine x_get (ci := 8) (C := RX8) (T := TX8) (N := 7) (v := .ref s6) B 0 rfl rfl in_X8 6 (by decide) mw_1149 (fun _ h9 => h9) rfl dX8_shareByWishes_30 ?_
      refine lv_iload hx hb dX8_shareByWishes_33 (lv_at hl 1 rfl) ?_
      refine lv_dup2_11 hx hb dX8_shareByWishes_35 rfl rfl ?_
      refine x_iald' (f := dv) (z := co) B 2 rfl (by omega) dX8_shareByWishes_36 ?_
      have z_13 : 0 ≤ (dv co) ∧ (dv co) ≤ 1210000 := bdv co
      refine lv_iload hx hb dX8_shareByWishes_37 (lv_at hl 0 rfl) ?_
      refine y_add hx hb dX8_shareByWishes_39 ?_
      have z_14 : 0 ≤ dv co ∧ dv co ≤ 10000 := by have q9 := hun co (by omega); have q8 := hs6 co; omega
      refine x_iast' (f := dv) (z := co) (v := ((dv co) + ((xt * (fx co)) / al))) B 2 rfl (by omega) dX8_shareByWishes_40 (fun H locs B => ?_)
      have b_15 : Bd 0 1210000 (uz dv co ((dv co) + ((xt * (fx co)) / al))) := Bd_uz bdv (by omega)
      have B := bd_to (ws' := [(tb, .inr (8, [.ref s0, .ref s1, .ref s2, .ref s3, .ref s4, .ref s5, .ref s6])), (s5, .inl (k 0, 3, .inl (fun i9 : Nat => iI (fx i9)))), (s6, .inl (k 0, 3, .inl (fun i9 : Nat => iI ((uz dv co ((dv co) + ((xt * (fx co)) / al))) i9))))]) rfl B
      refine lv_iload_n hx hb dX8_shareByWishes_41 rfl (lv_at hl 2 rfl) ?_
      refine lv_iload hx hb dX8_shareByWishes_42 (lv_at hl 0 rfl) ?_
      refine y_sub hx hb dX8_shareByWishes_44 ?_
      refine lv_istore_n (lv' := [(3, .int (iI (ov - ((xt * (fx co)) / al)))), (5, .int (iI ((xt * (fx co)) / al))), (4, .int (iI co)), (0, .ref tb), (1, .int (iI xt)), (2, .int (iI al))]) hx hb dX8_shareByWishes_45 rfl hl (by decide) rfl (fun ls hl => ?_)
      refine lv_iinc (v := iI (co + 1)) (lv' := [(4, .int (iI (co + 1))), (3, .int (iI (ov - ((xt * (fx co)) / al)))), (5, .int (iI ((xt * (fx co)) / al))), (0, .ref tb), (1, .int (iI xt)), (2, .int (iI al))]) hx hb dX8_shareByWishes_46 hl (k := 2) rfl (iI_add _ _) (by decide) rfl (fun ls hl => ?_)
      refine lv_goto (tgt := 10) hx hb dX8_shareByWishes_49 (by decide) ?_
      exact ih_2 ((co + 1), (ov - ((xt * (fx co)) / al)), (uz dv co ((dv co) + ((xt * (fx co)) / al)))) ⟨(show 0 ≤ (co + 1) ∧ (co + 1) ≤ 3 ∧ -(1200000 * (co + 1)) ≤ (ov - ((xt * (fx co)) / al)) ∧ (ov - ((xt * (fx co)) / al)) ≤ xt from (by omega)), (show (uz dv co ((dv co) + ((xt * (fx co)) / al))) = (swC fw fx xt al (Int.toNat (co + 1))).1 from (by rw [swC_s (by omega), ← hdv])), (show (ov - ((xt * (fx co)) / al)) = (swC fw fx xt al (Int.toNat (co + 1))).2 from (by rw [swC_s (by omega), ← hov2])), (show ∀ i9 : Int, (co + 1) ≤ i9 → (uz dv co ((dv co) + ((xt * (fx co)) / al))) i9 = fw i9 from (fun i9 h9 => by rw [uz_n (by omega)]; exact hun i9 (by omega))), (show Bd 0 1210000 (uz dv co ((dv co) + ((xt * (fx co)) / al))) from b_15)⟩ (by first | omega | (dsimp only; omega)) _ _ _ (lv_sub hl [0, 1, 3, 4, 5] rfl) (bd_to rfl B)
  · have zc_1 : al ≤ 0 := jnlt (a := 0) (b := al) (by omega) (by omega) c_1
    exact k_vret B hr (⟨fw, (by unfold swZ; exact (if_neg (by omega)).symm), (fun i9 => by have q9 := hs6 i9; omega), rfl, rfl, rfl, rfl⟩) ⟨Nat.le_of_ble_eq_true rfl, Nat.le_of_ble_eq_true rfl⟩ ⟨Nat.le_of_ble_eq_true rfl, Nat.le_of_ble_eq_true rfl⟩ dX8_shareByWishes_4

theorem mw_27 : (Jvm.Cond.initialized "java/lang/System") ∈ gt := gt_at 97 (by decide +kernel) (by decide +kernel)
theorem mw_658 : (Jvm.Cond.static ({ cls := "java/lang/System", name := "arraycopy", desc := "(Ljava/lang/Object;ILjava/lang/Object;II)V" } : Jvm.MethodName)) ∈ gt := gt_at 728 (by decide +kernel) (by decide +kernel)
theorem mw_659 : (Jvm.Cond.native ({ cls := "java/lang/System", name := "arraycopy", desc := "(Ljava/lang/Object;ILjava/lang/Object;II)V" } : Jvm.MethodName)) ∈ gt := gt_at 729 (by decide +kernel) (by decide +kernel)
theorem mw_1146 : (Jvm.Cond.fieldLink "Galleyforge$Table" (21 : Nat) "Galleyforge$Table" "leastWidths" "[I") ∈ gt := gt_at 1216 (by decide +kernel) (by decide +kernel)
theorem mw_1147 : (Jvm.Cond.fieldLink "Galleyforge$Table" (24 : Nat) "Galleyforge$Table" "bestWidths" "[I") ∈ gt := gt_at 1217 (by decide +kernel) (by decide +kernel)
theorem mw_1343 : (Jvm.Cond.methodLink "Galleyforge$Table" (57 : Nat) ({ cls := "java/lang/System", name := "arraycopy", desc := "(Ljava/lang/Object;ILjava/lang/Object;II)V" } : Jvm.MethodName)) ∈ gt := gt_at 1413 (by decide +kernel) (by decide +kernel)
theorem mw_1344 : (Jvm.Cond.methodLink "Galleyforge$Table" (63 : Nat) ({ cls := "Galleyforge$Table", name := "shareByWishes", desc := "(II)V" } : Jvm.MethodName)) ∈ gt := gt_at 1414 (by decide +kernel) (by decide +kernel)
theorem mw_1346 : (Jvm.Cond.instanceMethod ({ cls := "Galleyforge$Table", name := "shareByWishes", desc := "(II)V" } : Jvm.MethodName)) ∈ gt := gt_at 1416 (by decide +kernel) (by decide +kernel)
theorem mw_1347 : (Jvm.Cond.code ({ cls := "Galleyforge$Table", name := "shareByWishes", desc := "(II)V" } : Jvm.MethodName) prog_10_method_9_code (6 : Nat) (Option.none : Option Jvm.ClassFile.FieldType)) ∈ gt := gt_at 1417 (by decide +kernel) (by decide +kernel)
theorem ms_17 : Cond.selects "Galleyforge$Table" (⟨"Galleyforge$Table", "shareByWishes", "(II)V"⟩ : MethodName) (⟨"Galleyforge$Table", "shareByWishes", "(II)V"⟩ : MethodName) ∈ gt := gt_at 17 (by decide +kernel) (by decide +kernel)
theorem mV_X8_shareByWishes : mV yX8_shareByWishes cX8_shareByWishes 6 none 2 := ⟨⟨mw_1347, mw_20, by decide, by decide, by decide +kernel⟩, mw_1346, ms_17⟩
theorem dX8_fit_0 : decode cX8_fit 0 = .ok (.iconst 0, 1) := by decide +kernel
theorem dX8_fit_1 : decode cX8_fit 1 = .ok (.istore_n 2, 1) := by decide +kernel
theorem dX8_fit_2 : decode cX8_fit 2 = .ok (.iconst 0, 1) := by decide +kernel
theorem dX8_fit_3 : decode cX8_fit 3 = .ok (.istore_n 3, 1) := by decide +kernel
theorem dX8_fit_4 : decode cX8_fit 4 = .ok (.iconst 0, 1) := by decide +kernel
theorem dX8_fit_5 : decode cX8_fit 5 = .ok (.istore 4, 2) := by decide +kernel
theorem dX8_fit_7 : decode cX8_fit 7 = .ok (.iconst 0, 1) := by decide +kernel
theorem dX8_fit_8 : decode cX8_fit 8 = .ok (.istore 5, 2) := by decide +kernel
theorem dX8_fit_10 : decode cX8_fit 10 = .ok (.iload 5, 2) := by decide +kernel
theorem dX8_fit_12 : decode cX8_fit 12 = .ok (.iconst 3, 1) := by decide +kernel
theorem dX8_fit_13 : decode cX8_fit 13 = .ok (.if_icmp .ge 67, 3) := by decide +kernel
theorem dX8_fit_16 : decode cX8_fit 16 = .ok (.iload_n 2, 1) := by decide +kernel
theorem dX8_fit_17 : decode cX8_fit 17 = .ok (.aload_n 0, 1) := by decide +kernel
theorem dX8_fit_18 : decode cX8_fit 18 = .ok (.getfield 21, 3) := by decide +kernel
theorem dX8_fit_21 : decode cX8_fit 21 = .ok (.iload 5, 2) := by decide +kernel
theorem dX8_fit_23 : decode cX8_fit 23 = .ok (.iaload, 1) := by decide +kernel
theorem dX8_fit_24 : decode cX8_fit 24 = .ok (.iadd, 1) := by decide +kernel
theorem dX8_fit_25 : decode cX8_fit 25 = .ok (.istore_n 2, 1) := by decide +kernel
theorem dX8_fit_26 : decode cX8_fit 26 = .ok (.iload_n 3, 1) := by decide +kernel
theorem dX8_fit_27 : decode cX8_fit 27 = .ok (.aload_n 0, 1) := by decide +kernel
theorem dX8_fit_28 : decode cX8_fit 28 = .ok (.getfield 24, 3) := by decide +kernel
theorem dX8_fit_31 : decode cX8_fit 31 = .ok (.iload 5, 2) := by decide +kernel
theorem dX8_fit_33 : decode cX8_fit 33 = .ok (.iaload, 1) := by decide +kernel
theorem dX8_fit_34 : decode cX8_fit 34 = .ok (.iadd, 1) := by decide +kernel
theorem dX8_fit_35 : decode cX8_fit 35 = .ok (.istore_n 3, 1) := by decide +kernel
theorem dX8_fit_36 : decode cX8_fit 36 = .ok (.aload_n 0, 1) := by decide +kernel
theorem dX8_fit_37 : decode cX8_fit 37 = .ok (.getfield 27, 3) := by decide +kernel
theorem dX8_fit_40 : decode cX8_fit 40 = .ok (.iload 5, 2) := by decide +kernel
theorem dX8_fit_42 : decode cX8_fit 42 = .ok (.iconst 0, 1) := by decide +kernel
theorem dX8_fit_43 : decode cX8_fit 43 = .ok (.aload_n 0, 1) := by decide +kernel
theorem dX8_fit_44 : decode cX8_fit 44 = .ok (.getfield 24, 3) := by decide +kernel
theorem dX8_fit_47 : decode cX8_fit 47 = .ok (.iload 5, 2) := by decide +kernel
theorem dX8_fit_49 : decode cX8_fit 49 = .ok (.iaload, 1) := by decide +kernel
theorem dX8_fit_50 : decode cX8_fit 50 = .ok (.aload_n 0, 1) := by decide +kernel
theorem dX8_fit_51 : decode cX8_fit 51 = .ok (.getfield 21, 3) := by decide +kernel
theorem dX8_fit_54 : decode cX8_fit 54 = .ok (.iload 5, 2) := by decide +kernel
theorem dX8_fit_56 : decode cX8_fit 56 = .ok (.iaload, 1) := by decide +kernel
theorem dX8_fit_57 : decode cX8_fit 57 = .ok (.isub, 1) := by decide +kernel
theorem dX8_fit_58 : decode cX8_fit 58 = .ok (.invokestatic 33, 3) := by decide +kernel
theorem dX8_fit_61 : decode cX8_fit 61 = .ok (.iastore, 1) := by decide +kernel
theorem dX8_fit_62 : decode cX8_fit 62 = .ok (.iload 4, 2) := by decide +kernel
theorem dX8_fit_64 : decode cX8_fit 64 = .ok (.aload_n 0, 1) := by decide +kernel
theorem dX8_fit_65 : decode cX8_fit 65 = .ok (.getfield 27, 3) := by decide +kernel
theorem dX8_fit_68 : decode cX8_fit 68 = .ok (.iload 5, 2) := by decide +kernel
theorem dX8_fit_70 : decode cX8_fit 70 = .ok (.iaload, 1) := by decide +kernel
theorem dX8_fit_71 : decode cX8_fit 71 = .ok (.iadd, 1) := by decide +kernel
theorem dX8_fit_72 : decode cX8_fit 72 = .ok (.istore 4, 2) := by decide +kernel
theorem dX8_fit_74 : decode cX8_fit 74 = .ok (.iinc 5 1, 3) := by decide +kernel
theorem dX8_fit_77 : decode cX8_fit 77 = .ok (.goto (-67), 3) := by decide +kernel
theorem dX8_fit_80 : decode cX8_fit 80 = .ok (.iload_n 3, 1) := by decide +kernel
theorem dX8_fit_81 : decode cX8_fit 81 = .ok (.iload_n 1, 1) := by decide +kernel
theorem dX8_fit_82 : decode cX8_fit 82 = .ok (.if_icmp .gt 20, 3) := by decide +kernel
theorem dX8_fit_85 : decode cX8_fit 85 = .ok (.aload_n 0, 1) := by decide +kernel
theorem dX8_fit_86 : decode cX8_fit 86 = .ok (.getfield 24, 3) := by decide +kernel
theorem dX8_fit_89 : decode cX8_fit 89 = .ok (.iconst 0, 1) := by decide +kernel
theorem dX8_fit_90 : decode cX8_fit 90 = .ok (.aload_n 0, 1) := by decide +kernel
theorem dX8_fit_91 : decode cX8_fit 91 = .ok (.getfield 30, 3) := by decide +kernel
theorem dX8_fit_94 : decode cX8_fit 94 = .ok (.iconst 0, 1) := by decide +kernel
theorem dX8_fit_95 : decode cX8_fit 95 = .ok (.iconst 3, 1) := by decide +kernel
theorem dX8_fit_96 : decode cX8_fit 96 = .ok (.invokestatic 57, 3) := by decide +kernel
theorem dX8_fit_99 : decode cX8_fit 99 = .ok (.goto 31, 3) := by decide +kernel
theorem dX8_fit_102 : decode cX8_fit 102 = .ok (.aload_n 0, 1) := by decide +kernel
theorem dX8_fit_103 : decode cX8_fit 103 = .ok (.getfield 21, 3) := by decide +kernel
theorem dX8_fit_106 : decode cX8_fit 106 = .ok (.iconst 0, 1) := by decide +kernel
theorem dX8_fit_107 : decode cX8_fit 107 = .ok (.aload_n 0, 1) := by decide +kernel
theorem dX8_fit_108 : decode cX8_fit 108 = .ok (.getfield 30, 3) := by decide +kernel
theorem dX8_fit_111 : decode cX8_fit 111 = .ok (.iconst 0, 1) := by decide +kernel
theorem dX8_fit_112 : decode cX8_fit 112 = .ok (.iconst 3, 1) := by decide +kernel
theorem dX8_fit_113 : decode cX8_fit 113 = .ok (.invokestatic 57, 3) := by decide +kernel
theorem dX8_fit_116 : decode cX8_fit 116 = .ok (.iload_n 2, 1) := by decide +kernel
theorem dX8_fit_117 : decode cX8_fit 117 = .ok (.iload_n 1, 1) := by decide +kernel
theorem dX8_fit_118 : decode cX8_fit 118 = .ok (.if_icmp .ge 12, 3) := by decide +kernel
theorem dX8_fit_121 : decode cX8_fit 121 = .ok (.aload_n 0, 1) := by decide +kernel
theorem dX8_fit_122 : decode cX8_fit 122 = .ok (.iload_n 1, 1) := by decide +kernel
theorem dX8_fit_123 : decode cX8_fit 123 = .ok (.iload_n 2, 1) := by decide +kernel
theorem dX8_fit_124 : decode cX8_fit 124 = .ok (.isub, 1) := by decide +kernel
theorem dX8_fit_125 : decode cX8_fit 125 = .ok (.iload 4, 2) := by decide +kernel
theorem dX8_fit_127 : decode cX8_fit 127 = .ok (.invokevirtual 63, 3) := by decide +kernel
theorem dX8_fit_130 : decode cX8_fit 130 = .ok (.return_, 1) := by decide +kernel
set_option maxHeartbeats 4000000 in
set_option maxRecDepth 100000 in
theorem k_fit (l : Launch) (dC : Nat → ClassId) (dI : Nat → Nat → Nat) (k : Nat → ClassId) (tb : Nat) (s0 : Nat) (s1 : Nat) (s2 : Nat) (s3 : Nat) (s4 : Nat) (s5 : Nat) (s6 : Nat) (fl : Int → Int) (fb : Int → Int) (f5 : Int → Int) (f6 : Int → Int) (pw : Int) (hs3 : Bd 0 10000 fl) (hs4 : Bd 0 10000 fb) (h1 : 30 ≤ pw ∧ pw ≤ 120) : Kn l dC dI k yX8_fit (.code yX8_fit cX8_fit 6 none) ({ frames := 1, cells := 0, slots := 0, locals := 40 } : Room) [.ref tb, .int (iI pw)] [(tb, .inr (8, [.ref s0, .ref s1, .ref s2, .ref s3, .ref s4, .ref s5, .ref s6])), (s3, .inl (k 0, 3, .inl (fun i9 : Nat => iI (fl i9)))), (s4, .inl (k 0, 3, .inl (fun i9 : Nat => iI (fb i9)))), (s5, .inl (k 0, 3, .inl (fun i9 : Nat => iI (f5 i9)))), (s6, .inl (k 0, 3, .inl (fun i9 : Nat => iI (f6 i9))))] (fun r w gc gs => (∃ (dw : Int → Int), (dw = fitZ fl fb pw) ∧ (Bd 0 1210001 dw) ∧ r = none ∧ w = [(tb, .inr (8, [.ref s0, .ref s1, .ref s2, .ref s3, .ref s4, .ref s5, .ref s6])), (s3, .inl (k 0, 3, .inl (fun i9 : Nat => iI (fl i9)))), (s4, .inl (k 0, 3, .inl (fun i9 : Nat => iI (fb i9)))), (s5, .inl (k 0, 3, .inl (fun i9 : Nat => iI ((wiF fl fb) i9)))), (s6, .inl (k 0, 3, .inl (fun i9 : Nat => iI (dw i9))))] ∧ gc = 0 ∧ gs = 0)) := by
  refine kn_of (by decide) (Nat.le_of_ble_eq_true rfl) ?_
  intro p e s m args below meth c H locs B hr hnm ls hl
  have hx := B.1.1
  have hb := B.1.2.1
  have hl : lv_has ls 6 [(0, .ref tb), (1, .int (iI pw))] := hl
  refine lv_iconst (v := iI 0) hx hb dX8_fit_0 (by decide) ?_
  refine lv_istore_n (lv' := [(2, .int (iI 0)), (0, .ref tb), (1, .int (iI pw))]) hx hb dX8_fit_1 rfl hl (by decide) rfl (fun ls hl => ?_)
  refine lv_iconst (v := iI 0) hx hb dX8_fit_2 (by decide) ?_
  refine lv_istore_n (lv' := [(3, .int (iI 0)), (2, .int (iI 0)), (0, .ref tb), (1, .int (iI pw))]) hx hb dX8_fit_3 rfl hl (by decide) rfl (fun ls hl => ?_)
  refine lv_iconst (v := iI 0) hx hb dX8_fit_4 (by decide) ?_
  refine lv_istore (lv' := [(4, .int (iI 0)), (3, .int (iI 0)), (2, .int (iI 0)), (0, .ref tb), (1, .int (iI pw))]) hx hb dX8_fit_5 hl (by decide) rfl (fun ls hl => ?_)
  refine lv_iconst (v := iI 0) hx hb dX8_fit_7 (by decide) ?_
  refine lv_istore (lv' := [(5, .int (iI 0)), (4, .int (iI 0)), (3, .int (iI 0)), (2, .int (iI 0)), (0, .ref tb), (1, .int (iI pw))]) hx hb dX8_fit_8 hl (by decide) rfl (fun ls hl => ?_)
  refine k_loop (σ := Int × Int × Int × Int × (Int → Int)) B (fun g9 : Int × Int × Int × Int × (Int → Int) => (0 ≤ g9.1 ∧ g9.1 ≤ 3 ∧ 0 ≤ g9.2.1 ∧ g9.2.1 ≤ 10000 * g9.1 ∧ 0 ≤ g9.2.2.1 ∧ g9.2.2.1 ≤ 10000 * g9.1 ∧ 0 ≤ g9.2.2.2.1 ∧ g9.2.2.2.1 ≤ 10000 * g9.1) ∧ (g9.2.1 = smZ fl 0 (Int.toNat g9.1)) ∧ (g9.2.2.1 = smZ fb 0 (Int.toNat g9.1)) ∧ (g9.2.2.2.1 = smZ (wiF fl fb) 0 (Int.toNat g9.1)) ∧ (∀ i9 : Int, 0 ≤ i9 → i9 < g9.1 → g9.2.2.2.2 i9 = wiF fl fb i9)) (fun g9 : Int × Int × Int × Int × (Int → Int) => (3 - g9.1).toNat) (fun g9 : Int × Int × Int × Int × (Int → Int) => [(5, .int (iI g9.1)), (4, .int (iI g9.2.2.2.1)), (3, .int (iI g9.2.2.1)), (2, .int (iI g9.2.1)), (0, .ref tb), (1, .int (iI pw))]) (fun g9 : Int × Int × Int × Int × (Int → Int) => [(tb, .inr (8, [.ref s0, .ref s1, .ref s2, .ref s3, .ref s4, .ref s5, .ref s6])), (s3, .inl (k 0, 3, .inl (fun i9 : Nat => iI (fl i9)))), (s4, .inl (k 0, 3, .inl (fun i9 : Nat => iI (fb i9)))), (s5, .inl (k 0, 3, .inl (fun i9 : Nat => iI (g9.2.2.2.2 i9)))), (s6, .inl (k 0, 3, .inl (fun i9 : Nat => iI (f6 i9))))]) ?_ (0, 0, 0, 0, f5) ⟨(show 0 ≤ 0 ∧ 0 ≤ 3 ∧ 0 ≤ 0 ∧ 0 ≤ 10000 * 0 ∧ 0 ≤ 0 ∧ 0 ≤ 10000 * 0 ∧ 0 ≤ 0 ∧ 0 ≤ 10000 * 0 from (by omega)), (show 0 = smZ fl 0 (Int.toNat 0) from rfl), (show 0 = smZ fb 0 (Int.toNat 0) from rfl), (show 0 = smZ (wiF fl fb) 0 (Int.toNat 0) from rfl), (show ∀ i9 : Int, 0 ≤ i9 → i9 < 0 → f5 i9 = wiF fl fb i9 from (fun i9 h9 h8 => by omega))⟩ ls H locs (lv_sub hl [0, 1, 2, 3, 4, 5] rfl) (bd_to rfl B)
  clear hl B
  rintro ⟨co, le, be, al, dv⟩ ⟨hco, hle, hbe, hal, hdv⟩ ih_1 ls H locs hl B
  have hco : 0 ≤ co ∧ co ≤ 3 ∧ 0 ≤ le ∧ le ≤ 10000 * co ∧ 0 ≤ be ∧ be ≤ 10000 * co ∧ 0 ≤ al ∧ al ≤ 10000 * co := hco
  have hle : le = smZ fl 0 (Int.toNat co) := hle
  have hbe : be = smZ fb 0 (Int.toNat co) := hbe
  have hal : al = smZ (wiF fl fb) 0 (Int.toNat co) := hal
  have hdv : ∀ i9 : Int, 0 ≤ i9 → i9 < co → dv i9 = wiF fl fb i9 := hdv
  have hl : lv_has ls 6 [(5, .int (iI co)), (4, .int (iI al)), (3, .int (iI be)), (2, .int (iI le)), (0, .ref tb), (1, .int (iI pw))] := hl
  have B := bd_to (ws' := [(tb, .inr (8, [.ref s0, .ref s1, .ref s2, .ref s3, .ref s4, .ref s5, .ref s6])), (s3, .inl (k 0, 3, .inl (fun i9 : Nat => iI (fl i9)))), (s4, .inl (k 0, 3, .inl (fun i9 : Nat => iI (fb i9)))), (s5, .inl (k 0, 3, .inl (fun i9 : Nat => iI (dv i9)))), (s6, .inl (k 0, 3, .inl (fun i9 : Nat => iI (f6 i9))))]) rfl B
  refine lv_iload hx hb dX8_fit_10 (lv_at hl 0 rfl) ?_
  refine lv_iconst (v := iI 3) hx hb dX8_fit_12 (by decide) ?_
  refine lv_icmp_ge (tgt := 80) hx hb dX8_fit_13 (by decide) (fun c_2 => ?_) (fun c_2 => ?_)
  · have zc_2 : 3 ≤ co := jle (a := 3) (b := co) (by omega) (by omega) c_2
    have B := bd_ext (f := dv) (g := (wiF fl fb)) 3 rfl (fun i9 h9 h8 => hdv i9 h9 (by omega)) B
    have B := bd_to (ws' := [(tb, .inr (8, [.ref s0, .ref s1, .ref s2, .ref s3, .ref s4, .ref s5, .ref s6])), (s3, .inl (k 0, 3, .inl (fun i9 : Nat => iI (fl i9)))), (s4, .inl (k 0, 3, .inl (fun i9 : Nat => iI (fb i9)))), (s5, .inl (k 0, 3, .inl (fun i9 : Nat => iI ((wiF fl fb) i9)))), (s6, .inl (k 0, 3, .inl (fun i9 : Nat => iI (f6 i9))))]) rfl B
    refine lv_iload_n hx hb dX8_fit_80 rfl (lv_at hl 2 rfl) ?_
    refine lv_iload_n hx hb dX8_fit_81 rfl (lv_at hl 5 rfl) ?_
    refine lv_icmp_gt (tgt := 102) hx hb dX8_fit_82 (by decide) (fun c_3 => ?_) (fun c_3 => ?_)
    · have zc_3 : pw < be := jlt (a := pw) (b := be) (by omega) (by omega) c_3
      refine lv_aload_n hx hb dX8_fit_102 rfl (lv_at hl 4 rfl) ?_
      refine x_get (ci := 8) (C := RX8) (T := TX8) (N := 7) (v := .ref s3) B 0 rfl rfl in_X8 3 (by decide) mw_1146 (fun _ h9 => h9) rfl dX8_fit_103 ?_
      refine lv_iconst (v := iI 0) hx hb dX8_fit_106 (by decide) ?_
      refine lv_aload_n hx hb dX8_fit_107 rfl (lv_at hl 4 rfl) ?_
      refine x_get (ci := 8) (C := RX8) (T := TX8) (N := 7) (v := .ref s6) B 0 rfl rfl in_X8 6 (by decide) mw_1149 (fun _ h9 => h9) rfl dX8_fit_108 ?_
      refine lv_iconst (v := iI 0) hx hb dX8_fit_111 (by decide) ?_
      refine lv_iconst (v := iI 3) hx hb dX8_fit_112 (by decide) ?_
      refine x_copyI (f := fl) (g := f6) (sp := 0) (dp := 0) (z := 3) B hl mw_1343 mw_659 mw_658 mw_27 1 4 rfl rfl (by omega) (by omega) (by omega) (by omega) (by omega) (Nat.le_of_ble_eq_true rfl) (Nat.le_of_ble_eq_true rfl) dX8_fit_113 (fun H locs B => ?_)
      have B := bd_to (ws' := [(tb, .inr (8, [.ref s0, .ref s1, .ref s2, .ref s3, .ref s4, .ref s5, .ref s6])), (s3, .inl (k 0, 3, .inl (fun i9 : Nat => iI (fl i9)))), (s4, .inl (k 0, 3, .inl (fun i9 : Nat => iI (fb i9)))), (s5, .inl (k 0, 3, .inl (fun i9 : Nat => iI ((wiF fl fb) i9)))), (s6, .inl (k 0, 3, .inl (fun i9 : Nat => iI ((cpz fl f6 0 0 3) i9))))]) rfl B
      have B := bd_ext (f := (cpz fl f6 0 0 3)) (g := fl) 4 rfl (fun i9 h9 h8 => by simp only [cpz]; rw [if_pos (by omega)]; congr 1; omega) B
      have B := bd_to (ws' := [(tb, .inr (8, [.ref s0, .ref s1, .ref s2, .ref s3, .ref s4, .ref s5, .ref s6])), (s3, .inl (k 0, 3, .inl (fun i9 : Nat => iI (fl i9)))), (s4, .inl (k 0, 3, .inl (fun i9 : Nat => iI (fb i9)))), (s5, .inl (k 0, 3, .inl (fun i9 : Nat => iI ((wiF fl fb) i9)))), (s6, .inl (k 0, 3, .inl (fun i9 : Nat => iI (fl i9))))]) rfl B
      refine lv_iload_n hx hb dX8_fit_116 rfl (lv_at hl 3 rfl) ?_
      refine lv_iload_n hx hb dX8_fit_117 rfl (lv_at hl 5 rfl) ?_
      refine lv_icmp_ge (tgt := 130) hx hb dX8_fit_118 (by decide) (fun c_4 => ?_) (fun c_4 => ?_)
      · have zc_4 : pw ≤ le := jle (a := pw) (b := le) (by omega) (by omega) c_4
        exact k_vret B hr (⟨fl, (by have e3 : Int.toNat co = 3 := (by omega); rw [e3] at hle hbe hal; unfold fitZ; rw [if_neg (by omega), if_neg (by omega)]), (fun i9 => by have q9 := hs3 i9; omega), rfl, rfl, rfl, rfl⟩) ⟨Nat.le_of_ble_eq_true rfl, Nat.le_of_ble_eq_true rfl⟩ ⟨Nat.le_of_ble_eq_true rfl, Nat.le_of_ble_eq_true rfl⟩ dX8_fit_130
      · have zc_4 : le < pw := jnle (a := pw) (b := le) (by omega) (by omega) c_4
        refine lv_aload_n hx hb dX8_fit_121 rfl (lv_at hl 4 rfl) ?_
        refine lv_iload_n hx hb dX8_fit_122 rfl (lv_at hl 5 rfl) ?_
        refine lv_iload_n hx hb dX8_fit_123 rfl (lv_at hl 3 rfl) ?_
        refine y_sub hx hb dX8_fit_124 ?_
        refine lv_iload hx hb dX8_fit_125 (lv_at hl 1 rfl) ?_
        have B := bd_sub (ws' := [(tb, .inr (8, [.ref s0, .ref s1, .ref s2, .ref s3, .ref s4, .ref s5, .ref s6])), (s5, .inl (k 0, 3, .inl (fun i9 : Nat => iI ((wiF fl fb) i9)))), (s6, .inl (k 0, 3, .inl (fun i9 : Nat => iI (fl i9)))), (s3, .inl (k 0, 3, .inl (fun i9 : Nat => iI (fl i9)))), (s4, .inl (k 0, 3, .inl (fun i9 : Nat => iI (fb i9))))]) [0, 3, 4, 1, 2] (by decide) rfl B
        have B := bd_to (ws' := [(tb, .inr (8, [.ref s0, .ref s1, .ref s2, .ref s3, .ref s4, .ref s5, .ref s6])), (s5, .inl (k 0, 3, .inl (fun i9 : Nat => iI ((wiF fl fb) i9)))), (s6, .inl (k 0, 3, .inl (fun i9 : Nat => iI (fl i9))))] ++ [(s3, .inl (k 0, 3, .inl (fun i9 : Nat => iI (fl i9)))), (s4, .inl (k 0, 3, .inl (fun i9 : Nat => iI (fb i9))))]) rfl B
        refine k_V (rest := []) (wc := [(tb, .inr (8, [.ref s0, .ref s1, .ref s2, .ref s3, .ref s4, .ref s5, .ref s6])), (s5, .inl (k 0, 3, .inl (fun i9 : Nat => iI ((wiF fl fb) i9)))), (s6, .inl (k 0, 3, .inl (fun i9 : Nat => iI (fl i9))))]) (wr := [(s3, .inl (k 0, 3, .inl (fun i9 : Nat => iI (fl i9)))), (s4, .inl (k 0, 3, .inl (fun i9 : Nat => iI (fb i9))))]) (k_shareByWishes l dC dI k tb s0 s1 s2 s3 s4 s5 s6 (wiF fl fb) fl (pw - le) al (wiF_Bd hs3 hs4) hs3 (by omega)) B mV_X8_shareByWishes mw_1344 hl (q0 := 0) rfl rfl rfl ⟨Nat.le_of_ble_eq_true rfl, Nat.le_of_ble_eq_true rfl⟩ (Nat.le_of_ble_eq_true rfl) rfl dX8_fit_127 ⟨Nat.le_of_ble_eq_true rfl, Nat.le_of_ble_eq_true rfl⟩ (fun r w gc gs H locs hp B => ?_)
        obtain ⟨dw_5, z_6, z_7, rfl, hw9, rfl, rfl⟩ := hp
        rw [hw9] at B; clear hw9
        have B := bd_to (ws' := [(s3, .inl (k 0, 3, .inl (fun i9 : Nat => iI (fl i9)))), (s4, .inl (k 0, 3, .inl (fun i9 : Nat => iI (fb i9)))), (tb, .inr (8, [.ref s0, .ref s1, .ref s2, .ref s3, .ref s4, .ref s5, .ref s6])), (s5, .inl (k 0, 3, .inl (fun i9 : Nat => iI ((wiF fl fb) i9)))), (s6, .inl (k 0, 3, .inl (fun i9 : Nat => iI (dw_5 i9))))]) rfl B
        have B := bd_sub (ws' := [(tb, .inr (8, [.ref s0, .ref s1, .ref s2, .ref s3, .ref s4, .ref s5, .ref s6])), (s3, .inl (k 0, 3, .inl (fun i9 : Nat => iI (fl i9)))), (s4, .inl (k 0, 3, .inl (fun i9 : Nat => iI (fb i9)))), (s5, .inl (k 0, 3, .inl (fun i9 : Nat => iI ((wiF fl fb) i9)))), (s6, .inl (k 0, 3, .inl (fun i9 : Nat => iI (dw_5 i9))))]) [2, 0, 1, 3, 4] (by decide) rfl B
        exact k_vret B hr (⟨dw_5, (by have e3 : Int.toNat co = 3 := (by omega); rw [e3] at hle hbe hal; unfold fitZ; rw [if_neg (by omega), if_pos (by omega), ← hle, ← hal]; exact z_6), z_7, rfl, rfl, rfl, rfl⟩) ⟨Nat.le_of_ble_eq_true rfl, Nat.le_of_ble_eq_true rfl⟩ ⟨Nat.le_of_ble_eq_true rfl, Nat.le_of_ble_eq_true rfl⟩ dX8_fit_130
    · have zc_3 : be ≤ pw := jnlt (a := pw) (b := be) (by omega) (by omega) c_3
      refine lv_aload_n hx hb dX8_fit_85 rfl (lv_at hl 4 rfl) ?_
      refine x_get (ci := 8) (C := RX8) (T := TX8) (N := 7) (v := .ref s4) B 0 rfl rfl in_X8 4 (by decide) mw_1147 (fun _ h9 => h9) rfl dX8_fit_86 ?_
      refine lv_iconst (v := iI 0) hx hb dX8_fit_89 (by decide) ?_
      refine lv_aload_n hx hb dX8_fit_90 rfl (lv_at hl 4 rfl) ?_
      refine x_get (ci := 8) (C := RX8) (T := TX8) (N := 7) (v := .ref s6) B 0 rfl rfl in_X8 6 (by decide) mw_1149 (fun _ h9 => h9) rfl dX8_fit_91 ?_
      refine lv_iconst (v := iI 0) hx hb dX8_fit_94 (by decide) ?_
      refine lv_iconst (v := iI 3) hx hb dX8_fit_95 (by decide) ?_
      refine x_copyI (f := fb) (g := f6) (sp := 0) (dp := 0) (z := 3) B hl mw_1343 mw_659 mw_658 mw_27 2 4 rfl rfl (by omega) (by omega) (by omega) (by omega) (by omega) (Nat.le_of_ble_eq_true rfl) (Nat.le_of_ble_eq_true rfl) dX8_fit_96 (fun H locs B => ?_)
      have B := bd_to (ws' := [(tb, .inr (8, [.ref s0, .ref s1, .ref s2, .ref s3, .ref s4, .ref s5, .ref s6])), (s3, .inl (k 0, 3, .inl (fun i9 : Nat => iI (fl i9)))), (s4, .inl (k 0, 3, .inl (fun i9 : Nat => iI (fb i9)))), (s5, .inl (k 0, 3, .inl (fun i9 : Nat => iI ((wiF fl fb) i9)))), (s6, .inl (k 0, 3, .inl (fun i9 : Nat => iI ((cpz fb f6 0 0 3) i9))))]) rfl B
      have B := bd_ext (f := (cpz fb f6 0 0 3)) (g := fb) 4 rfl (fun i9 h9 h8 => by simp only [cpz]; rw [if_pos (by omega)]; congr 1; omega) B
      have B := bd_to (ws' := [(tb, .inr (8, [.ref s0, .ref s1, .ref s2, .ref s3, .ref s4, .ref s5, .ref s6])), (s3, .inl (k 0, 3, .inl (fun i9 : Nat => iI (fl i9)))), (s4, .inl (k 0, 3, .inl (fun i9 : Nat => iI (fb i9)))), (s5, .inl (k 0, 3, .inl (fun i9 : Nat => iI ((wiF fl fb) i9)))), (s6, .inl (k 0, 3, .inl (fun i9 : Nat => iI (fb i9))))]) rfl B
      refine lv_goto (tgt := 130) hx hb dX8_fit_99 (by decide) ?_
      exact k_vret B hr (⟨fb, (by have e3 : Int.toNat co = 3 := (by omega); rw [e3] at hle hbe hal; unfold fitZ; rw [if_pos (by omega)]), (fun i9 => by have q9 := hs4 i9; omega), rfl, rfl, rfl, rfl⟩) ⟨Nat.le_of_ble_eq_true rfl, Nat.le_of_ble_eq_true rfl⟩ ⟨Nat.le_of_ble_eq_true rfl, Nat.le_of_ble_eq_true rfl⟩ dX8_fit_130
  · have zc_2 : co < 3 := jnle (a := 3) (b := co) (by omega) (by omega) c_2
    refine lv_iload_n hx hb dX8_fit_16 rfl (lv_at hl 3 rfl) ?_
    refine lv_aload_n hx hb dX8_fit_17 rfl (lv_at hl 4 rfl) ?_
    refine x_get (ci := 8) (C := RX8) (T := TX8) (N := 7) (v := .ref s3) B 0 rfl rfl in_X8 3 (by decide) mw_1146 (fun _ h9 => h9) rfl dX8_fit_18 ?_
    refine lv_iload hx hb dX8_fit_21 (lv_at hl 0 rfl) ?_
    refine x_iald' (f := fl) (z := co) B 1 rfl (by omega) dX8_fit_23 ?_
    have z_8 : 0 ≤ (fl co) ∧ (fl co) ≤ 10000 := hs3 co
    refine y_add hx hb dX8_fit_24 ?_
    refine lv_istore_n (lv' := [(2, .int (iI (le + (fl co)))), (5, .int (iI co)), (4, .int (iI al)), (3, .int (iI be)), (0, .ref tb), (1, .int (iI pw))]) hx hb dX8_fit_25 rfl hl (by decide) rfl (fun ls hl => ?_)
    refine lv_iload_n hx hb dX8_fit_26 rfl (lv_at hl 3 rfl) ?_
    refine lv_aload_n hx hb dX8_fit_27 rfl (lv_at hl 4 rfl) ?_
    refine x_get (ci := 8) (C := RX8) (T := TX8) (N := 7) (v := .ref s4) B 0 rfl rfl in_X8 4 (by decide) mw_1147 (fun _ h9 => h9) rfl dX8_fit_28 ?_
    refine lv_iload hx hb dX8_fit_31 (lv_at hl 1 rfl) ?_
    refine x_iald' (f := fb) (z := co) B 2 rfl (by omega) dX8_fit_33 ?_
    have z_9 : 0 ≤ (fb co) ∧ (fb co) ≤ 10000 := hs4 co
    refine y_add hx hb dX8_fit_34 ?_
    refine lv_istore_n (lv' := [(3, .int (iI (be + (fb co)))), (2, .int (iI (le + (fl co)))), (5, .int (iI co)), (4, .int (iI al)), (0, .ref tb), (1, .int (iI pw))]) hx hb dX8_fit_35 rfl hl (by decide) rfl (fun ls hl => ?_)
    refine lv_aload_n hx hb dX8_fit_36 rfl (lv_at hl 4 rfl) ?_
    refine x_get (ci := 8) (C := RX8) (T := TX8) (N := 7) (v := .ref s5) B 0 rfl rfl in_X8 5 (by decide) mw_1148 (fun _ h9 => h9) rfl dX8_fit_37 ?_
    refine lv_iload hx hb dX8_fit_40 (lv_at hl 2 rfl) ?_
    refine lv_iconst (v := iI 0) hx hb dX8_fit_42 (by decide) ?_
    refine lv_aload_n hx hb dX8_fit_43 rfl (lv_at hl 4 rfl) ?_
    refine x_get (ci := 8) (C := RX8) (T := TX8) (N := 7) (v := .ref s4) B 0 rfl rfl in_X8 4 (by decide) mw_1147 (fun _ h9 => h9) rfl dX8_fit_44 ?_
    refine lv_iload hx hb dX8_fit_47 (lv_at hl 2 rfl) ?_
    refine x_iald' (f := fb) (z := co) B 2 rfl (by omega) dX8_fit_49 ?_
    have z_10 : 0 ≤ (fb co) ∧ (fb co) ≤ 10000 := hs4 co
    refine lv_aload_n hx hb dX8_fit_50 rfl (lv_at hl 4 rfl) ?_
    refine x_get (ci := 8) (C := RX8) (T := TX8) (N := 7) (v := .ref s3) B 0 rfl rfl in_X8 3 (by decide) mw_1146 (fun _ h9 => h9) rfl dX8_fit_51 ?_
    refine lv_iload hx hb dX8_fit_54 (lv_at hl 2 rfl) ?_
    refine x_iald' (f := fl) (z := co) B 1 rfl (by omega) dX8_fit_56 ?_
    have z_11 : 0 ≤ (fl co) ∧ (fl co) ≤ 10000 := hs3 co
    refine y_sub hx hb dX8_fit_57 ?_
    refine y_max (a := 0) (b := ((fb co) - (fl co))) B hl mw_1324 mw_700 mw_26 mw_701 (Nat.le_of_ble_eq_true rfl) (Nat.le_of_ble_eq_true rfl) (Nat.le_of_ble_eq_true rfl) (Nat.le_of_ble_eq_true rfl) (by omega) (by omega) dX8_fit_58 ?_
    refine x_iast' (f := dv) (z := co) (v := (max 0 ((fb co) - (fl co)))) B 3 rfl (by omega) dX8_fit_61 (fun H locs B => ?_)
    have B := bd_to (ws' := [(tb, .inr (8, [.ref s0, .ref s1, .ref s2, .ref s3, .ref s4, .ref s5, .ref s6])), (s3, .inl (k 0, 3, .inl (fun i9 : Nat => iI (fl i9)))), (s4, .inl (k 0, 3, .inl (fun i9 : Nat => iI (fb i9)))), (s5, .inl (k 0, 3, .inl (fun i9 : Nat => iI ((uz dv co (max 0 ((fb co) - (fl co)))) i9)))), (s6, .inl (k 0, 3, .inl (fun i9 : Nat => iI (f6 i9))))]) rfl B
    refine lv_iload hx hb dX8_fit_62 (lv_at hl 3 rfl) ?_
    refine lv_aload_n hx hb dX8_fit_64 rfl (lv_at hl 4 rfl) ?_
    refine x_get (ci := 8) (C := RX8) (T := TX8) (N := 7) (v := .ref s5) B 0 rfl rfl in_X8 5 (by decide) mw_1148 (fun _ h9 => h9) rfl dX8_fit_65 ?_
    refine lv_iload hx hb dX8_fit_68 (lv_at hl 2 rfl) ?_
    refine x_iald' (f := (uz dv co (max 0 ((fb co) - (fl co))))) (z := co) B 3 rfl (by omega) dX8_fit_70 ?_
    have z_12 : 0 ≤ ((uz dv co (max 0 ((fb co) - (fl co)))) co) ∧ ((uz dv co (max 0 ((fb co) - (fl co)))) co) ≤ 10000 := by rw [uz_s]; omega
    refine y_add hx hb dX8_fit_71 ?_
    refine lv_istore (lv' := [(4, .int (iI (al + ((uz dv co (max 0 ((fb co) - (fl co)))) co)))), (3, .int (iI (be + (fb co)))), (2, .int (iI (le + (fl co)))), (5, .int (iI co)), (0, .ref tb), (1, .int (iI pw))]) hx hb dX8_fit_72 hl (by decide) rfl (fun ls hl => ?_)
    refine lv_iinc (v := iI (co + 1)) (lv' := [(5, .int (iI (co + 1))), (4, .int (iI (al + ((uz dv co (max 0 ((fb co) - (fl co)))) co)))), (3, .int (iI (be + (fb co)))), (2, .int (iI (le + (fl co)))), (0, .ref tb), (1, .int (iI pw))]) hx hb dX8_fit_74 hl (k := 3) rfl (iI_add _ _) (by decide) rfl (fun ls hl => ?_)
    refine lv_goto (tgt := 10) hx hb dX8_fit_77 (by decide) ?_
    exact ih_1 ((co + 1), (le + (fl co)), (be + (fb co)), (al + ((uz dv co (max 0 ((fb co) - (fl co)))) co)), (uz dv co (max 0 ((fb co) - (fl co))))) ⟨(show 0 ≤ (co + 1) ∧ (co + 1) ≤ 3 ∧ 0 ≤ (le + (fl co)) ∧ (le + (fl co)) ≤ 10000 * (co + 1) ∧ 0 ≤ (be + (fb co)) ∧ (be + (fb co)) ≤ 10000 * (co + 1) ∧ 0 ≤ (al + ((uz dv co (max 0 ((fb co) - (fl co)))) co)) ∧ (al + ((uz dv co (max 0 ((fb co) - (fl co)))) co)) ≤ 10000 * (co + 1) from (by omega)), (show (le + (fl co)) = smZ fl 0 (Int.toNat (co + 1)) from (by rw [smZ_s (by omega), ← hle, Int.zero_add])), (show (be + (fb co)) = smZ fb 0 (Int.toNat (co + 1)) from (by rw [smZ_s (by omega), ← hbe, Int.zero_add])), (show (al + ((uz dv co (max 0 ((fb co) - (fl co)))) co)) = smZ (wiF fl fb) 0 (Int.toNat (co + 1)) from (by rw [smZ_s (by omega), ← hal, Int.zero_add, uz_s]; first | done | rfl)), (show ∀ i9 : Int, 0 ≤ i9 → i9 < (co + 1) → (uz dv co (max 0 ((fb co) - (fl co)))) i9 = wiF fl fb i9 from (fun i9 h9 h8 => by by_cases e9 : i9 = co; (rw [e9]; exact uz_s); rw [uz_n e9]; exact hdv i9 h9 (by omega)))⟩ (by first | omega | (dsimp only; omega)) _ _ _ (lv_sub hl [0, 1, 2, 3, 4, 5] rfl) (bd_to rfl B)

theorem mw_12 : (Jvm.Cond.initialized "java/util/Arrays") ∈ gt := gt_at 82 (by decide +kernel) (by decide +kernel)
theorem mw_472 : (Jvm.Cond.static ({ cls := "java/util/Arrays", name := "fill", desc := "([II)V" } : Jvm.MethodName)) ∈ gt := gt_at 542 (by decide +kernel) (by decide +kernel)
theorem mw_473 : (Jvm.Cond.code ({ cls := "java/util/Arrays", name := "fill", desc := "([II)V" } : Jvm.MethodName) prog_41_method_103_code (4 : Nat) (Option.none : Option Jvm.ClassFile.FieldType)) ∈ gt := gt_at 543 (by decide +kernel) (by decide +kernel)
theorem mw_1330 : (Jvm.Cond.methodLink "Galleyforge$Table" (39 : Nat) ({ cls := "java/util/Arrays", name := "fill", desc := "([II)V" } : Jvm.MethodName)) ∈ gt := gt_at 1400 (by decide +kernel) (by decide +kernel)
theorem mw_1331 : (Jvm.Cond.methodLink "Galleyforge$Table" (45 : Nat) ({ cls := "Galleyforge$Table", name := "shareOut", desc := "([III)V" } : Jvm.MethodName)) ∈ gt := gt_at 1401 (by decide +kernel) (by decide +kernel)
theorem mw_1333 : (Jvm.Cond.instanceMethod ({ cls := "Galleyforge$Table", name := "shareOut", desc := "([III)V" } : Jvm.MethodName)) ∈ gt := gt_at 1403 (by decide +kernel) (by decide +kernel)
theorem mw_1334 : (Jvm.Cond.code ({ cls := "Galleyforge$Table", name := "shareOut", desc := "([III)V" } : Jvm.MethodName) prog_10_method_6_code (8 : Nat) (Option.none : Option Jvm.ClassFile.FieldType)) ∈ gt := gt_at 1404 (by decide +kernel) (by decide +kernel)
theorem mw_1339 : (Jvm.Cond.methodLink "Galleyforge$Table" (49 : Nat) ({ cls := "Galleyforge$Table", name := "fit", desc := "(I)V" } : Jvm.MethodName)) ∈ gt := gt_at 1409 (by decide +kernel) (by decide +kernel)
theorem mw_1341 : (Jvm.Cond.instanceMethod ({ cls := "Galleyforge$Table", name := "fit", desc := "(I)V" } : Jvm.MethodName)) ∈ gt := gt_at 1411 (by decide +kernel) (by decide +kernel)
theorem mw_1342 : (Jvm.Cond.code ({ cls := "Galleyforge$Table", name := "fit", desc := "(I)V" } : Jvm.MethodName) prog_10_method_8_code (6 : Nat) (Option.none : Option Jvm.ClassFile.FieldType)) ∈ gt := gt_at 1412 (by decide +kernel) (by decide +kernel)
theorem mS_J7_fill_53178 : mS yJ7_fill_53178 cJ7_fill_53178 4 none 2 := ⟨⟨mw_473, mw_12, by decide, by decide, by decide +kernel⟩, mw_472⟩
theorem ms_16 : Cond.selects "Galleyforge$Table" (⟨"Galleyforge$Table", "fit", "(I)V"⟩ : MethodName) (⟨"Galleyforge$Table", "fit", "(I)V"⟩ : MethodName) ∈ gt := gt_at 16 (by decide +kernel) (by decide +kernel)
theorem mV_X8_fit : mV yX8_fit cX8_fit 6 none 1 := ⟨⟨mw_1342, mw_20, by decide, by decide, by decide +kernel⟩, mw_1341, ms_16⟩
theorem ms_14 : Cond.selects "Galleyforge$Table" (⟨"Galleyforge$Table", "shareOut", "([III)V"⟩ : MethodName) (⟨"Galleyforge$Table", "shareOut", "([III)V"⟩ : MethodName) ∈ gt := gt_at 14 (by decide +kernel) (by decide +kernel)
theorem mV_X8_shareOut : mV yX8_shareOut cX8_shareOut 8 none 3 := ⟨⟨mw_1334, mw_20, by decide, by decide, by decide +kernel⟩, mw_1333, ms_14⟩
theorem dX8_measure_0 : decode cX8_measure 0 = .ok (.aload_n 0, 1) := by decide +kernel
theorem dX8_measure_1 : decode cX8_measure 1 = .ok (.getfield 21, 3) := by decide +kernel
theorem dX8_measure_4 : decode cX8_measure 4 = .ok (.iconst 0, 1) := by decide +kernel
theorem dX8_measure_5 : decode cX8_measure 5 = .ok (.invokestatic 39, 3) := by decide +kernel
theorem dX8_measure_8 : decode cX8_measure 8 = .ok (.aload_n 0, 1) := by decide +kernel
theorem dX8_measure_9 : decode cX8_measure 9 = .ok (.getfield 24, 3) := by decide +kernel
theorem dX8_measure_12 : decode cX8_measure 12 = .ok (.iconst 0, 1) := by decide +kernel
theorem dX8_measure_13 : decode cX8_measure 13 = .ok (.invokestatic 39, 3) := by decide +kernel
theorem dX8_measure_16 : decode cX8_measure 16 = .ok (.iconst 1, 1) := by decide +kernel
theorem dX8_measure_17 : decode cX8_measure 17 = .ok (.istore_n 2, 1) := by decide +kernel
theorem dX8_measure_18 : decode cX8_measure 18 = .ok (.iload_n 2, 1) := by decide +kernel
theorem dX8_measure_19 : decode cX8_measure 19 = .ok (.iconst 3, 1) := by decide +kernel
theorem dX8_measure_20 : decode cX8_measure 20 = .ok (.if_icmp .gt 66, 3) := by decide +kernel
theorem dX8_measure_23 : decode cX8_measure 23 = .ok (.iconst 0, 1) := by decide +kernel
theorem dX8_measure_24 : decode cX8_measure 24 = .ok (.istore_n 3, 1) := by decide +kernel
theorem dX8_measure_25 : decode cX8_measure 25 = .ok (.iload_n 3, 1) := by decide +kernel
theorem dX8_measure_26 : decode cX8_measure 26 = .ok (.aload_n 0, 1) := by decide +kernel
theorem dX8_measure_27 : decode cX8_measure 27 = .ok (.getfield 9, 3) := by decide +kernel
theorem dX8_measure_30 : decode cX8_measure 30 = .ok (.arraylength, 1) := by decide +kernel
theorem dX8_measure_31 : decode cX8_measure 31 = .ok (.if_icmp .ge 49, 3) := by decide +kernel
theorem dX8_measure_34 : decode cX8_measure 34 = .ok (.aload_n 0, 1) := by decide +kernel
theorem dX8_measure_35 : decode cX8_measure 35 = .ok (.getfield 9, 3) := by decide +kernel
theorem dX8_measure_38 : decode cX8_measure 38 = .ok (.iload_n 3, 1) := by decide +kernel
theorem dX8_measure_39 : decode cX8_measure 39 = .ok (.iaload, 1) := by decide +kernel
theorem dX8_measure_40 : decode cX8_measure 40 = .ok (.iload_n 2, 1) := by decide +kernel
theorem dX8_measure_41 : decode cX8_measure 41 = .ok (.if_icmp .ne 33, 3) := by decide +kernel
theorem dX8_measure_44 : decode cX8_measure 44 = .ok (.aload_n 0, 1) := by decide +kernel
theorem dX8_measure_45 : decode cX8_measure 45 = .ok (.aload_n 0, 1) := by decide +kernel
theorem dX8_measure_46 : decode cX8_measure 46 = .ok (.getfield 21, 3) := by decide +kernel
theorem dX8_measure_49 : decode cX8_measure 49 = .ok (.iload_n 3, 1) := by decide +kernel
theorem dX8_measure_50 : decode cX8_measure 50 = .ok (.aload_n 0, 1) := by decide +kernel
theorem dX8_measure_51 : decode cX8_measure 51 = .ok (.getfield 15, 3) := by decide +kernel
theorem dX8_measure_54 : decode cX8_measure 54 = .ok (.iload_n 3, 1) := by decide +kernel
theorem dX8_measure_55 : decode cX8_measure 55 = .ok (.iaload, 1) := by decide +kernel
theorem dX8_measure_56 : decode cX8_measure 56 = .ok (.invokevirtual 45, 3) := by decide +kernel
theorem dX8_measure_59 : decode cX8_measure 59 = .ok (.aload_n 0, 1) := by decide +kernel
theorem dX8_measure_60 : decode cX8_measure 60 = .ok (.aload_n 0, 1) := by decide +kernel
theorem dX8_measure_61 : decode cX8_measure 61 = .ok (.getfield 24, 3) := by decide +kernel
theorem dX8_measure_64 : decode cX8_measure 64 = .ok (.iload_n 3, 1) := by decide +kernel
theorem dX8_measure_65 : decode cX8_measure 65 = .ok (.aload_n 0, 1) := by decide +kernel
theorem dX8_measure_66 : decode cX8_measure 66 = .ok (.getfield 18, 3) := by decide +kernel
theorem dX8_measure_69 : decode cX8_measure 69 = .ok (.iload_n 3, 1) := by decide +kernel
theorem dX8_measure_70 : decode cX8_measure 70 = .ok (.iaload, 1) := by decide +kernel
theorem dX8_measure_71 : decode cX8_measure 71 = .ok (.invokevirtual 45, 3) := by decide +kernel
theorem dX8_measure_74 : decode cX8_measure 74 = .ok (.iinc 3 1, 3) := by decide +kernel
theorem dX8_measure_77 : decode cX8_measure 77 = .ok (.goto (-52), 3) := by decide +kernel
theorem dX8_measure_80 : decode cX8_measure 80 = .ok (.iinc 2 1, 3) := by decide +kernel
theorem dX8_measure_83 : decode cX8_measure 83 = .ok (.goto (-65), 3) := by decide +kernel
theorem dX8_measure_86 : decode cX8_measure 86 = .ok (.aload_n 0, 1) := by decide +kernel
theorem dX8_measure_87 : decode cX8_measure 87 = .ok (.iload_n 1, 1) := by decide +kernel
theorem dX8_measure_88 : decode cX8_measure 88 = .ok (.invokevirtual 49, 3) := by decide +kernel
theorem dX8_measure_91 : decode cX8_measure 91 = .ok (.return_, 1) := by decide +kernel
set_option maxHeartbeats 4000000 in
set_option maxRecDepth 100000 in
theorem k_measure (l : Launch) (dC : Nat → ClassId) (dI : Nat → Nat → Nat) (k : Nat → ClassId) (tb : Nat) (s0 : Nat) (s1 : Nat) (s2 : Nat) (s3 : Nat) (s4 : Nat) (s5 : Nat) (s6 : Nat) (f0 : Int → Int) (f1 : Int → Int) (f2 : Int → Int) (f3 : Int → Int) (f4 : Int → Int) (f5 : Int → Int) (f6 : Int → Int) (pw : Int) (hs0 : Bd 0 3 f0) (hsp : ∀ c9 : Int, c9 % 3 + f0 c9 ≤ 3) (hs1 : Bd 0 60 f1) (hs2 : Bd 0 200 f2) (h1 : 30 ≤ pw ∧ pw ≤ 120) : Kn l dC dI k yX8_measure (.code yX8_measure cX8_measure 4 none) ({ frames := 2, cells := 0, slots := 0, locals := 65 } : Room) [.ref tb, .int (iI pw)] [(tb, .inr (8, [.ref s0, .ref s1, .ref s2, .ref s3, .ref s4, .ref s5, .ref s6])), (s0, .inl (k 0, 12, .inl (fun i9 : Nat => iI (f0 i9)))), (s1, .inl (k 0, 12, .inl (fun i9 : Nat => iI (f1 i9)))), (s2, .inl (k 0, 12, .inl (fun i9 : Nat => iI (f2 i9)))), (s3, .inl (k 0, 3, .inl (fun i9 : Nat => iI (f3 i9)))), (s4, .inl (k 0, 3, .inl (fun i9 : Nat => iI (f4 i9)))), (s5, .inl (k 0, 3, .inl (fun i9 : Nat => iI (f5 i9)))), (s6, .inl (k 0, 3, .inl (fun i9 : Nat => iI (f6 i9))))] (fun r w gc gs => ((Bd 0 1210001 (fitZ (msW f0 f1 3) (msW f0 f2 3) pw)) ∧ r = none ∧ w = [(tb, .inr (8, [.ref s0, .ref s1, .ref s2, .ref s3, .ref s4, .ref s5, .ref s6])), (s0, .inl (k 0, 12, .inl (fun i9 : Nat => iI (f0 i9)))), (s1, .inl (k 0, 12, .inl (fun i9 : Nat => iI (f1 i9)))), (s2, .inl (k 0, 12, .inl (fun i9 : Nat => iI (f2 i9)))), (s3, .inl (k 0, 3, .inl (fun i9 : Nat => iI ((msW f0 f1 3) i9)))), (s4, .inl (k 0, 3, .inl (fun i9 : Nat => iI ((msW f0 f2 3) i9)))), (s5, .inl (k 0, 3, .inl (fun i9 : Nat => iI ((wiF (msW f0 f1 3) (msW f0 f2 3)) i9)))), (s6, .inl (k 0, 3, .inl (fun i9 : Nat => iI ((fitZ (msW f0 f1 3) (msW f0 f2 3) pw) i9))))] ∧ gc = 0 ∧ gs = 0)) := by
  refine kn_of (by decide) (Nat.le_of_ble_eq_true rfl) ?_
  intro p e s m args below meth c H locs B hr hnm ls hl
  have hx := B.1.1
  have hb := B.1.2.1
  have hl : lv_has ls 4 [(0, .ref tb), (1, .int (iI pw))] := hl
  refine lv_aload_n hx hb dX8_measure_0 rfl (lv_at hl 0 rfl) ?_
  refine x_get (ci := 8) (C := RX8) (T := TX8) (N := 7) (v := .ref s3) B 0 rfl rfl in_X8 3 (by decide) mw_1146 (fun _ h9 => h9) rfl dX8_measure_1 ?_
  refine lv_iconst (v := iI 0) hx hb dX8_measure_4 (by decide) ?_
  have B := bd_sub (ws' := [(s3, .inl (k 0, 3, .inl (fun i9 : Nat => iI (f3 i9)))), (tb, .inr (8, [.ref s0, .ref s1, .ref s2, .ref s3, .ref s4, .ref s5, .ref s6])), (s0, .inl (k 0, 12, .inl (fun i9 : Nat => iI (f0 i9)))), (s1, .inl (k 0, 12, .inl (fun i9 : Nat => iI (f1 i9)))), (s2, .inl (k 0, 12, .inl (fun i9 : Nat => iI (f2 i9)))), (s4, .inl (k 0, 3, .inl (fun i9 : Nat => iI (f4 i9)))), (s5, .inl (k 0, 3, .inl (fun i9 : Nat => iI (f5 i9)))), (s6, .inl (k 0, 3, .inl (fun i9 : Nat => iI (f6 i9))))]) [4, 0, 1, 2, 3, 5, 6, 7] (by decide) rfl B
  have B := bd_to (ws' := [(s3, .inl (k 0, 3, .inl (fun i9 : Nat => iI (f3 i9))))] ++ [(tb, .inr (8, [.ref s0, .ref s1, .ref s2, .ref s3, .ref s4, .ref s5, .ref s6])), (s0, .inl (k 0, 12, .inl (fun i9 : Nat => iI (f0 i9)))), (s1, .inl (k 0, 12, .inl (fun i9 : Nat => iI (f1 i9)))), (s2, .inl (k 0, 12, .inl (fun i9 : Nat => iI (f2 i9)))), (s4, .inl (k 0, 3, .inl (fun i9 : Nat => iI (f4 i9)))), (s5, .inl (k 0, 3, .inl (fun i9 : Nat => iI (f5 i9)))), (s6, .inl (k 0, 3, .inl (fun i9 : Nat => iI (f6 i9))))]) rfl B
  refine k_S (rest := []) (wc := [(s3, .inl (k 0, 3, .inl (fun i9 : Nat => iI (f3 i9))))]) (wr := [(tb, .inr (8, [.ref s0, .ref s1, .ref s2, .ref s3, .ref s4, .ref s5, .ref s6])), (s0, .inl (k 0, 12, .inl (fun i9 : Nat => iI (f0 i9)))), (s1, .inl (k 0, 12, .inl (fun i9 : Nat => iI (f1 i9)))), (s2, .inl (k 0, 12, .inl (fun i9 : Nat => iI (f2 i9)))), (s4, .inl (k 0, 3, .inl (fun i9 : Nat => iI (f4 i9)))), (s5, .inl (k 0, 3, .inl (fun i9 : Nat => iI (f5 i9)))), (s6, .inl (k 0, 3, .inl (fun i9 : Nat => iI (f6 i9))))]) (k_fill l dC dI k s3 3 f3 0 (by omega)) B mS_J7_fill_53178 mw_1330 hl ⟨Nat.le_of_ble_eq_true rfl, Nat.le_of_ble_eq_true rfl⟩ (Nat.le_of_ble_eq_true rfl) rfl dX8_measure_5 ⟨Nat.le_of_ble_eq_true rfl, Nat.le_of_ble_eq_true rfl⟩ (fun r w gc gs H locs hp B => ?_)
  obtain ⟨rfl, hw9, rfl, rfl⟩ := hp
  rw [hw9] at B; clear hw9
  have B := bd_to (ws' := [(tb, .inr (8, [.ref s0, .ref s1, .ref s2, .ref s3, .ref s4, .ref s5, .ref s6])), (s0, .inl (k 0, 12, .inl (fun i9 : Nat => iI (f0 i9)))), (s1, .inl (k 0, 12, .inl (fun i9 : Nat => iI (f1 i9)))), (s2, .inl (k 0, 12, .inl (fun i9 : Nat => iI (f2 i9)))), (s4, .inl (k 0, 3, .inl (fun i9 : Nat => iI (f4 i9)))), (s5, .inl (k 0, 3, .inl (fun i9 : Nat => iI (f5 i9)))), (s6, .inl (k 0, 3, .inl (fun i9 : Nat => iI (f6 i9)))), (s3, .inl (k 0, 3, .inl (fun i9 : Nat => iI ((fun _ : Int => 0) i9))))]) rfl B
  refine lv_aload_n hx hb dX8_measure_8 rfl (lv_at hl 0 rfl) ?_
  refine x_get (ci := 8) (C := RX8) (T := TX8) (N := 7) (v := .ref s4) B 0 rfl rfl in_X8 4 (by decide) mw_1147 (fun _ h9 => h9) rfl dX8_measure_9 ?_
  refine lv_iconst (v := iI 0) hx hb dX8_measure_12 (by decide) ?_
  have B := bd_sub (ws' := [(s4, .inl (k 0, 3, .inl (fun i9 : Nat => iI (f4 i9)))), (tb, .inr (8, [.ref s0, .ref s1, .ref s2, .ref s3, .ref s4, .ref s5, .ref s6])), (s0, .inl (k 0, 12, .inl (fun i9 : Nat => iI (f0 i9)))), (s1, .inl (k 0, 12, .inl (fun i9 : Nat => iI (f1 i9)))), (s2, .inl (k 0, 12, .inl (fun i9 : Nat => iI (f2 i9)))), (s5, .inl (k 0, 3, .inl (fun i9 : Nat => iI (f5 i9)))), (s6, .inl (k 0, 3, .inl (fun i9 : Nat => iI (f6 i9)))), (s3, .inl (k 0, 3, .inl (fun i9 : Nat => iI ((fun _ : Int => 0) i9))))]) [4, 0, 1, 2, 3, 5, 6, 7] (by decide) rfl B
  have B := bd_to (ws' := [(s4, .inl (k 0, 3, .inl (fun i9 : Nat => iI (f4 i9))))] ++ [(tb, .inr (8, [.ref s0, .ref s1, .ref s2, .ref s3, .ref s4, .ref s5, .ref s6])), (s0, .inl (k 0, 12, .inl (fun i9 : Nat => iI (f0 i9)))), (s1, .inl (k 0, 12, .inl (fun i9 : Nat => iI (f1 i9)))), (s2, .inl (k 0, 12, .inl (fun i9 : Nat => iI (f2 i9)))), (s5, .inl (k 0, 3, .inl (fun i9 : Nat => iI (f5 i9)))), (s6, .inl (k 0, 3, .inl (fun i9 : Nat => iI (f6 i9)))), (s3, .inl (k 0, 3, .inl (fun i9 : Nat => iI ((fun _ : Int => 0) i9))))]) rfl B
  refine k_S (rest := []) (wc := [(s4, .inl (k 0, 3, .inl (fun i9 : Nat => iI (f4 i9))))]) (wr := [(tb, .inr (8, [.ref s0, .ref s1, .ref s2, .ref s3, .ref s4, .ref s5, .ref s6])), (s0, .inl (k 0, 12, .inl (fun i9 : Nat => iI (f0 i9)))), (s1, .inl (k 0, 12, .inl (fun i9 : Nat => iI (f1 i9)))), (s2, .inl (k 0, 12, .inl (fun i9 : Nat => iI (f2 i9)))), (s5, .inl (k 0, 3, .inl (fun i9 : Nat => iI (f5 i9)))), (s6, .inl (k 0, 3, .inl (fun i9 : Nat => iI (f6 i9)))), (s3, .inl (k 0, 3, .inl (fun i9 : Nat => iI ((fun _ : Int => 0) i9))))]) (k_fill l dC dI k s4 3 f4 0 (by omega)) B mS_J7_fill_53178 mw_1330 hl ⟨Nat.le_of_ble_eq_true rfl, Nat.le_of_ble_eq_true rfl⟩ (Nat.le_of_ble_eq_true rfl) rfl dX8_measure_13 ⟨Nat.le_of_ble_eq_true rfl, Nat.le_of_ble_eq_true rfl⟩ (fun r w gc gs H locs hp B => ?_)
  obtain ⟨rfl, hw9, rfl, rfl⟩ := hp
  rw [hw9] at B; clear hw9
  have B := bd_to (ws' := [(tb, .inr (8, [.ref s0, .ref s1, .ref s2, .ref s3, .ref s4, .ref s5, .ref s6])), (s0, .inl (k 0, 12, .inl (fun i9 : Nat => iI (f0 i9)))), (s1, .inl (k 0, 12, .inl (fun i9 : Nat => iI (f1 i9)))), (s2, .inl (k 0, 12, .inl (fun i9 : Nat => iI (f2 i9)))), (s5, .inl (k 0, 3, .inl (fun i9 : Nat => iI (f5 i9)))), (s6, .inl (k 0, 3, .inl (fun i9 : Nat => iI (f6 i9)))), (s3, .inl (k 0, 3, .inl (fun i9 : Nat => iI ((fun _ : Int => 0) i9)))), (s4, .inl (k 0, 3, .inl (fun i9 : Nat => iI ((fun _ : Int => 0) i9))))]) rfl B
  refine lv_iconst (v := iI 1) hx hb dX8_measure_16 (by decide) ?_
  refine lv_istore_n (lv' := [(2, .int (iI 1)), (0, .ref tb), (1, .int (iI pw))]) hx hb dX8_measure_17 rfl hl (by decide) rfl (fun ls hl => ?_)
  refine k_loop (σ := Int × (Int → Int) × (Int → Int)) B (fun g9 : Int × (Int → Int) × (Int → Int) => (1 ≤ g9.1 ∧ g9.1 ≤ 4) ∧ (g9.2.1 = msW f0 f1 (Int.toNat (g9.1 - 1))) ∧ (g9.2.2 = msW f0 f2 (Int.toNat (g9.1 - 1))) ∧ (Bd 0 (2412 * (g9.1 - 1)) g9.2.1) ∧ (Bd 0 (2412 * (g9.1 - 1)) g9.2.2)) (fun g9 : Int × (Int → Int) × (Int → Int) => (4 - g9.1).toNat) (fun g9 : Int × (Int → Int) × (Int → Int) => [(2, .int (iI g9.1)), (0, .ref tb), (1, .int (iI pw))]) (fun g9 : Int × (Int → Int) × (Int → Int) => [(tb, .inr (8, [.ref s0, .ref s1, .ref s2, .ref s3, .ref s4, .ref s5, .ref s6])), (s0, .inl (k 0, 12, .inl (fun i9 : Nat => iI (f0 i9)))), (s1, .inl (k 0, 12, .inl (fun i9 : Nat => iI (f1 i9)))), (s2, .inl (k 0, 12, .inl (fun i9 : Nat => iI (f2 i9)))), (s5, .inl (k 0, 3, .inl (fun i9 : Nat => iI (f5 i9)))), (s6, .inl (k 0, 3, .inl (fun i9 : Nat => iI (f6 i9)))), (s3, .inl (k 0, 3, .inl (fun i9 : Nat => iI (g9.2.1 i9)))), (s4, .inl (k 0, 3, .inl (fun i9 : Nat => iI (g9.2.2 i9))))]) ?_ (1, (fun _ : Int => 0), (fun _ : Int => 0)) ⟨(show 1 ≤ 1 ∧ 1 ≤ 4 from (by omega)), (show (fun _ : Int => 0) = msW f0 f1 (Int.toNat (1 - 1)) from rfl), (show (fun _ : Int => 0) = msW f0 f2 (Int.toNat (1 - 1)) from rfl), (show Bd 0 (2412 * (1 - 1)) (fun _ : Int => 0) from (fun i9 => by show (0 : Int) ≤ 0 ∧ (0 : Int) ≤ 2412 * (1 - 1); omega)), (show Bd 0 (2412 * (1 - 1)) (fun _ : Int => 0) from (fun i9 => by show (0 : Int) ≤ 0 ∧ (0 : Int) ≤ 2412 * (1 - 1); omega))⟩ ls H locs (lv_sub hl [0, 1, 2] rfl) (bd_to rfl B)
  clear hl B
  rintro ⟨sp, d3, d4⟩ ⟨hsp9, hd3, hd4, bd3, bd4⟩ ih_1 ls H locs hl B
  have hsp9 : 1 ≤ sp ∧ sp ≤ 4 := hsp9
  have hd3 : d3 = msW f0 f1 (Int.toNat (sp - 1)) := hd3
  have hd4 : d4 = msW f0 f2 (Int.toNat (sp - 1)) := hd4
  have bd3 : Bd 0 (2412 * (sp - 1)) d3 := bd3
  have bd4 : Bd 0 (2412 * (sp - 1)) d4 := bd4
  have hl : lv_has ls 4 [(2, .int (iI sp)), (0, .ref tb), (1, .int (iI pw))] := hl
  have B := bd_to (ws' := [(tb, .inr (8, [.ref s0, .ref s1, .ref s2, .ref s3, .ref s4, .ref s5, .ref s6])), (s0, .inl (k 0, 12, .inl (fun i9 : Nat => iI (f0 i9)))), (s1, .inl (k 0, 12, .inl (fun i9 : Nat => iI (f1 i9)))), (s2, .inl (k 0, 12, .inl (fun i9 : Nat => iI (f2 i9)))), (s5, .inl (k 0, 3, .inl (fun i9 : Nat => iI (f5 i9)))), (s6, .inl (k 0, 3, .inl (fun i9 : Nat => iI (f6 i9)))), (s3, .inl (k 0, 3, .inl (fun i9 : Nat => iI (d3 i9)))), (s4, .inl (k 0, 3, .inl (fun i9 : Nat => iI (d4 i9))))]) rfl B
  refine lv_iload_n hx hb dX8_measure_18 rfl (lv_at hl 0 rfl) ?_
  refine lv_iconst (v := iI 3) hx hb dX8_measure_19 (by decide) ?_
  refine lv_icmp_gt (tgt := 86) hx hb dX8_measure_20 (by decide) (fun c_2 => ?_) (fun c_2 => ?_)
  · have zc_2 : 3 < sp := jlt (a := 3) (b := sp) (by omega) (by omega) c_2
    refine lv_aload_n hx hb dX8_measure_86 rfl (lv_at hl 1 rfl) ?_
    refine lv_iload_n hx hb dX8_measure_87 rfl (lv_at hl 2 rfl) ?_
    have B := bd_sub (ws' := [(tb, .inr (8, [.ref s0, .ref s1, .ref s2, .ref s3, .ref s4, .ref s5, .ref s6])), (s3, .inl (k 0, 3, .inl (fun i9 : Nat => iI (d3 i9)))), (s4, .inl (k 0, 3, .inl (fun i9 : Nat => iI (d4 i9)))), (s5, .inl (k 0, 3, .inl (fun i9 : Nat => iI (f5 i9)))), (s6, .inl (k 0, 3, .inl (fun i9 : Nat => iI (f6 i9)))), (s0, .inl (k 0, 12, .inl (fun i9 : Nat => iI (f0 i9)))), (s1, .inl (k 0, 12, .inl (fun i9 : Nat => iI (f1 i9)))), (s2, .inl (k 0, 12, .inl (fun i9 : Nat => iI (f2 i9))))]) [0, 6, 7, 4, 5, 1, 2, 3] (by decide) rfl B
    have B := bd_to (ws' := [(tb, .inr (8, [.ref s0, .ref s1, .ref s2, .ref s3, .ref s4, .ref s5, .ref s6])), (s3, .inl (k 0, 3, .inl (fun i9 : Nat => iI (d3 i9)))), (s4, .inl (k 0, 3, .inl (fun i9 : Nat => iI (d4 i9)))), (s5, .inl (k 0, 3, .inl (fun i9 : Nat => iI (f5 i9)))), (s6, .inl (k 0, 3, .inl (fun i9 : Nat => iI (f6 i9))))] ++ [(s0, .inl (k 0, 12, .inl (fun i9 : Nat => iI (f0 i9)))), (s1, .inl (k 0, 12, .inl (fun i9 : Nat => iI (f1 i9)))), (s2, .inl (k 0, 12, .inl (fun i9 : Nat => iI (f2 i9))))]) rfl B
    refine k_V (rest := []) (wc := [(tb, .inr (8, [.ref s0, .ref s1, .ref s2, .ref s3, .ref s4, .ref s5, .ref s6])), (s3, .inl (k 0, 3, .inl (fun i9 : Nat => iI (d3 i9)))), (s4, .inl (k 0, 3, .inl (fun i9 : Nat => iI (d4 i9)))), (s5, .inl (k 0, 3, .inl (fun i9 : Nat => iI (f5 i9)))), (s6, .inl (k 0, 3, .inl (fun i9 : Nat => iI (f6 i9))))]) (wr := [(s0, .inl (k 0, 12, .inl (fun i9 : Nat => iI (f0 i9)))), (s1, .inl (k 0, 12, .inl (fun i9 : Nat => iI (f1 i9)))), (s2, .inl (k 0, 12, .inl (fun i9 : Nat => iI (f2 i9))))]) (k_fit l dC dI k tb s0 s1 s2 s3 s4 s5 s6 d3 d4 f5 f6 pw (fun i9 => ⟨by have := (bd3 i9).1; omega, by have := (bd3 i9).2; omega⟩) (fun i9 => ⟨by have := (bd4 i9).1; omega, by have := (bd4 i9).2; omega⟩) h1) B mV_X8_fit mw_1339 hl (q0 := 0) rfl rfl rfl ⟨Nat.le_of_ble_eq_true rfl, Nat.le_of_ble_eq_true rfl⟩ (Nat.le_of_ble_eq_true rfl) rfl dX8_measure_88 ⟨Nat.le_of_ble_eq_true rfl, Nat.le_of_ble_eq_true rfl⟩ (fun r w gc gs H locs hp B => ?_)
    obtain ⟨dw_3, z_4, z_5, rfl, hw9, rfl, rfl⟩ := hp
    rw [hw9] at B; clear hw9
    have B := bd_to (ws' := [(s0, .inl (k 0, 12, .inl (fun i9 : Nat => iI (f0 i9)))), (s1, .inl (k 0, 12, .inl (fun i9 : Nat => iI (f1 i9)))), (s2, .inl (k 0, 12, .inl (fun i9 : Nat => iI (f2 i9)))), (tb, .inr (8, [.ref s0, .ref s1, .ref s2, .ref s3, .ref s4, .ref s5, .ref s6])), (s3, .inl (k 0, 3, .inl (fun i9 : Nat => iI (d3 i9)))), (s4, .inl (k 0, 3, .inl (fun i9 : Nat => iI (d4 i9)))), (s5, .inl (k 0, 3, .inl (fun i9 : Nat => iI ((wiF d3 d4) i9)))), (s6, .inl (k 0, 3, .inl (fun i9 : Nat => iI (dw_3 i9))))]) rfl B
    have e_6 : (msW f0 f1 3) = d3 := (by rw [hd3, show Int.toNat (sp - 1) = 3 by omega])
    have e_7 : (msW f0 f2 3) = d4 := (by rw [hd4, show Int.toNat (sp - 1) = 3 by omega])
    have e_8 : (wiF (msW f0 f1 3) (msW f0 f2 3)) = (wiF d3 d4) := (by rw [hd3, hd4, show Int.toNat (sp - 1) = 3 by omega])
    have e_9 : (fitZ (msW f0 f1 3) (msW f0 f2 3) pw) = dw_3 := (by rw [z_4, hd3, hd4, show Int.toNat (sp - 1) = 3 by omega])
    have B := bd_sub (ws' := [(tb, .inr (8, [.ref s0, .ref s1, .ref s2, .ref s3, .ref s4, .ref s5, .ref s6])), (s0, .inl (k 0, 12, .inl (fun i9 : Nat => iI (f0 i9)))), (s1, .inl (k 0, 12, .inl (fun i9 : Nat => iI (f1 i9)))), (s2, .inl (k 0, 12, .inl (fun i9 : Nat => iI (f2 i9)))), (s3, .inl (k 0, 3, .inl (fun i9 : Nat => iI (d3 i9)))), (s4, .inl (k 0, 3, .inl (fun i9 : Nat => iI (d4 i9)))), (s5, .inl (k 0, 3, .inl (fun i9 : Nat => iI ((wiF d3 d4) i9)))), (s6, .inl (k 0, 3, .inl (fun i9 : Nat => iI (dw_3 i9))))]) [3, 0, 1, 2, 4, 5, 6, 7] (by decide) rfl B
    have B := bd_to (ws' := [(tb, .inr (8, [.ref s0, .ref s1, .ref s2, .ref s3, .ref s4, .ref s5, .ref s6])), (s0, .inl (k 0, 12, .inl (fun i9 : Nat => iI (f0 i9)))), (s1, .inl (k 0, 12, .inl (fun i9 : Nat => iI (f1 i9)))), (s2, .inl (k 0, 12, .inl (fun i9 : Nat => iI (f2 i9)))), (s3, .inl (k 0, 3, .inl (fun i9 : Nat => iI ((msW f0 f1 3) i9)))), (s4, .inl (k 0, 3, .inl (fun i9 : Nat => iI ((msW f0 f2 3) i9)))), (s5, .inl (k 0, 3, .inl (fun i9 : Nat => iI ((wiF (msW f0 f1 3) (msW f0 f2 3)) i9)))), (s6, .inl (k 0, 3, .inl (fun i9 : Nat => iI ((fitZ (msW f0 f1 3) (msW f0 f2 3) pw) i9))))]) (by first | rfl | (rw [e_6, e_7, e_8, e_9]) | (rw [e_9, e_8, e_7, e_6])) B
    exact k_vret B hr (⟨(by have q9 := z_5; rw [z_4, hd3, hd4, show Int.toNat (sp - 1) = 3 by omega] at q9; exact q9), rfl, rfl, rfl, rfl⟩) ⟨Nat.le_of_ble_eq_true rfl, Nat.le_of_ble_eq_true rfl⟩ ⟨Nat.le_of_ble_eq_true rfl, Nat.le_of_ble_eq_true rfl⟩ dX8_measure_91
  · have zc_2 : sp ≤ 3 := jnlt (a := 3) (b := sp) (by omega) (by omega) c_2
    refine lv_iconst (v := iI 0) hx hb dX8_measure_23 (by decide) ?_
    refine lv_istore_n (lv' := [(3, .int (iI 0)), (2, .int (iI sp)), (0, .ref tb), (1, .int (iI pw))]) hx hb dX8_measure_24 rfl hl (by decide) rfl (fun ls hl => ?_)
    refine k_loop (σ := Int × (Int → Int) × (Int → Int)) B (fun g9 : Int × (Int → Int) × (Int → Int) => (0 ≤ g9.1 ∧ g9.1 ≤ 12) ∧ (g9.2.1 = msC f0 f1 d3 sp (Int.toNat g9.1)) ∧ (g9.2.2 = msC f0 f2 d4 sp (Int.toNat g9.1)) ∧ (Bd 0 (2412 * (sp - 1) + 201 * g9.1) g9.2.1) ∧ (Bd 0 (2412 * (sp - 1) + 201 * g9.1) g9.2.2)) (fun g9 : Int × (Int → Int) × (Int → Int) => (12 - g9.1).toNat) (fun g9 : Int × (Int → Int) × (Int → Int) => [(3, .int (iI g9.1)), (2, .int (iI sp)), (0, .ref tb), (1, .int (iI pw))]) (fun g9 : Int × (Int → Int) × (Int → Int) => [(tb, .inr (8, [.ref s0, .ref s1, .ref s2, .ref s3, .ref s4, .ref s5, .ref s6])), (s0, .inl (k 0, 12, .inl (fun i9 : Nat => iI (f0 i9)))), (s1, .inl (k 0, 12, .inl (fun i9 : Nat => iI (f1 i9)))), (s2, .inl (k 0, 12, .inl (fun i9 : Nat => iI (f2 i9)))), (s5, .inl (k 0, 3, .inl (fun i9 : Nat => iI (f5 i9)))), (s6, .inl (k 0, 3, .inl (fun i9 : Nat => iI (f6 i9)))), (s3, .inl (k 0, 3, .inl (fun i9 : Nat => iI (g9.2.1 i9)))), (s4, .inl (k 0, 3, .inl (fun i9 : Nat => iI (g9.2.2 i9))))]) ?_ (0, d3, d4) ⟨(show 0 ≤ 0 ∧ 0 ≤ 12 from (by omega)), (show d3 = msC f0 f1 d3 sp (Int.toNat 0) from rfl), (show d4 = msC f0 f2 d4 sp (Int.toNat 0) from rfl), (show Bd 0 (2412 * (sp - 1) + 201 * 0) d3 from (fun i9 => by have q9 := bd3 i9; omega)), (show Bd 0 (2412 * (sp - 1) + 201 * 0) d4 from (fun i9 => by have q9 := bd4 i9; omega))⟩ ls H locs (lv_sub hl [0, 1, 2, 3] rfl) (bd_to rfl B)
    clear hl B
    rintro ⟨cx, d5, d6⟩ ⟨hcx, hd5, hd6, bd5, bd6⟩ ih_10 ls H locs hl B
    have hcx : 0 ≤ cx ∧ cx ≤ 12 := hcx
    have hd5 : d5 = msC f0 f1 d3 sp (Int.toNat cx) := hd5
    have hd6 : d6 = msC f0 f2 d4 sp (Int.toNat cx) := hd6
    have bd5 : Bd 0 (2412 * (sp - 1) + 201 * cx) d5 := bd5
    have bd6 : Bd 0 (2412 * (sp - 1) + 201 * cx) d6 := bd6
    have hl : lv_has ls 4 [(3, .int (iI cx)), (2, .int (iI sp)), (0, .ref tb), (1, .int (iI pw))] := hl
    have B := bd_to (ws' := [(tb, .inr (8, [.ref s0, .ref s1, .ref s2, .ref s3, .ref s4, .ref s5, .ref s6])), (s0, .inl (k 0, 12, .inl (fun i9 : Nat => iI (f0 i9)))), (s1, .inl (k 0, 12, .inl (fun i9 : Nat => iI (f1 i9)))), (s2, .inl (k 0, 12, .inl (fun i9 : Nat => iI (f2 i9)))), (s5, .inl (k 0, 3, .inl (fun i9 : Nat => iI (f5 i9)))), (s6, .inl (k 0, 3, .inl (fun i9 : Nat => iI (f6 i9)))), (s3, .inl (k 0, 3, .inl (fun i9 : Nat => iI (d5 i9)))), (s4, .inl (k 0, 3, .inl (fun i9 : Nat => iI (d6 i9))))]) rfl B
    refine lv_iload_n hx hb dX8_measure_25 rfl (lv_at hl 0 rfl) ?_
    refine lv_aload_n hx hb dX8_measure_26 rfl (lv_at hl 2 rfl) ?_
    refine x_get (ci := 8) (C := RX8) (T := TX8) (N := 7) (v := .ref s0) B 0 rfl rfl in_X8 0 (by decide) mw_1143 (fun _ h9 => h9) rfl dX8_measure_27 ?_
    refine x_alen' B 1 0 rfl rfl dX8_measure_30 ?_
    refine lv_seti (y := iI 12) (by decide) ?_
    refine lv_icmp_ge (tgt := 80) hx hb dX8_measure_31 (by decide) (fun c_11 => ?_) (fun c_11 => ?_)
    · have zc_11 : 12 ≤ cx := jle (a := 12) (b := cx) (by omega) (by omega) c_11
      refine lv_iinc (v := iI (sp + 1)) (lv' := [(2, .int (iI (sp + 1))), (3, .int (iI cx)), (0, .ref tb), (1, .int (iI pw))]) hx hb dX8_measure_80 hl (k := 1) rfl (iI_add _ _) (by decide) rfl (fun ls hl => ?_)
      refine lv_goto (tgt := 18) hx hb dX8_measure_83 (by decide) ?_
      exact ih_1 ((sp + 1), d5, d6) ⟨(show 1 ≤ (sp + 1) ∧ (sp + 1) ≤ 4 from (by omega)), (show d5 = msW f0 f1 (Int.toNat ((sp + 1) - 1)) from (by rw [show (sp + 1) - 1 = sp by omega, msW_s (by omega), ← hd3, hd5, show Int.toNat cx = 12 by omega])), (show d6 = msW f0 f2 (Int.toNat ((sp + 1) - 1)) from (by rw [show (sp + 1) - 1 = sp by omega, msW_s (by omega), ← hd4, hd6, show Int.toNat cx = 12 by omega])), (show Bd 0 (2412 * ((sp + 1) - 1)) d5 from (fun i9 => ⟨by have := (bd5 i9).1; omega, by have := (bd5 i9).2; omega⟩)), (show Bd 0 (2412 * ((sp + 1) - 1)) d6 from (fun i9 => ⟨by have := (bd6 i9).1; omega, by have := (bd6 i9).2; omega⟩))⟩ (by first | omega | (dsimp only; omega)) _ _ _ (lv_sub hl [0, 2, 3] rfl) (bd_to rfl B)
    · have zc_11 : cx < 12 := jnle (a := 12) (b := cx) (by omega) (by omega) c_11
      refine lv_aload_n hx hb dX8_measure_34 rfl (lv_at hl 2 rfl) ?_
      refine x_get (ci := 8) (C := RX8) (T := TX8) (N := 7) (v := .ref s0) B 0 rfl rfl in_X8 0 (by decide) mw_1143 (fun _ h9 => h9) rfl dX8_measure_35 ?_
      refine lv_iload_n hx hb dX8_measure_38 rfl (lv_at hl 0 rfl) ?_
      refine x_iald' (f := f0) (z := cx) B 1 rfl (by omega) dX8_measure_39 ?_
      have z_12 : 0 ≤ (f0 cx) ∧ (f0 cx) ≤ 3 := hs0 cx
      refine lv_iload_n hx hb dX8_measure_40 rfl (lv_at hl 1 rfl) ?_
      refine lv_icmp_ne (tgt := 74) hx hb dX8_measure_41 (by decide) (fun c_13 => ?_) (fun c_13 => ?_)
      · have zc_13 : (f0 cx) ≠ sp := jne (a := (f0 cx)) (b := sp) (by omega) (by omega) c_13
        refine lv_iinc (v := iI (cx + 1)) (lv' := [(3, .int (iI (cx + 1))), (2, .int (iI sp)), (0, .ref tb), (1, .int (iI pw))]) hx hb dX8_measure_74 hl (k := 0) rfl (iI_add _ _) (by decide) rfl (fun ls hl => ?_)
        refine lv_goto (tgt := 25) hx hb dX8_measure_77 (by decide) ?_
        exact ih_10 ((cx + 1), d5, d6) ⟨(show 0 ≤ (cx + 1) ∧ (cx + 1) ≤ 12 from (by omega)), (show d5 = msC f0 f1 d3 sp (Int.toNat (cx + 1)) from (by rw [msC_s (by omega), if_neg (by omega)]; exact hd5)), (show d6 = msC f0 f2 d4 sp (Int.toNat (cx + 1)) from (by rw [msC_s (by omega), if_neg (by omega)]; exact hd6)), (show Bd 0 (2412 * (sp - 1) + 201 * (cx + 1)) d5 from (fun i9 => ⟨by have := (bd5 i9).1; omega, by have := (bd5 i9).2; omega⟩)), (show Bd 0 (2412 * (sp - 1) + 201 * (cx + 1)) d6 from (fun i9 => ⟨by have := (bd6 i9).1; omega, by have := (bd6 i9).2; omega⟩))⟩ (by first | omega | (dsimp only; omega)) _ _ _ (lv_sub hl [0, 1, 2, 3] rfl) (bd_to rfl B)
      · have zc_13 : (f0 cx) = sp := jeq (a := (f0 cx)) (b := sp) (by omega) (by omega) c_13
        refine lv_aload_n hx hb dX8_measure_44 rfl (lv_at hl 2 rfl) ?_
        refine lv_aload_n hx hb dX8_measure_45 rfl (lv_at hl 2 rfl) ?_
        refine x_get (ci := 8) (C := RX8) (T := TX8) (N := 7) (v := .ref s3) B 0 rfl rfl in_X8 3 (by decide) mw_1146 (fun _ h9 => h9) rfl dX8_measure_46 ?_
        refine lv_iload_n hx hb dX8_measure_49 rfl (lv_at hl 0 rfl) ?_
        refine lv_aload_n hx hb dX8_measure_50 rfl (lv_at hl 2 rfl) ?_
        refine x_get (ci := 8) (C := RX8) (T := TX8) (N := 7) (v := .ref s1) B 0 rfl rfl in_X8 1 (by decide) mw_1144 (fun _ h9 => h9) rfl dX8_measure_51 ?_
        refine lv_iload_n hx hb dX8_measure_54 rfl (lv_at hl 0 rfl) ?_
        refine x_iald' (f := f1) (z := cx) B 2 rfl (by omega) dX8_measure_55 ?_
        have z_14 : 0 ≤ (f1 cx) ∧ (f1 cx) ≤ 60 := hs1 cx
        have B := bd_sub (ws' := [(tb, .inr (8, [.ref s0, .ref s1, .ref s2, .ref s3, .ref s4, .ref s5, .ref s6])), (s0, .inl (k 0, 12, .inl (fun i9 : Nat => iI (f0 i9)))), (s3, .inl (k 0, 3, .inl (fun i9 : Nat => iI (d5 i9)))), (s1, .inl (k 0, 12, .inl (fun i9 : Nat => iI (f1 i9)))), (s2, .inl (k 0, 12, .inl (fun i9 : Nat => iI (f2 i9)))), (s5, .inl (k 0, 3, .inl (fun i9 : Nat => iI (f5 i9)))), (s6, .inl (k 0, 3, .inl (fun i9 : Nat => iI (f6 i9)))), (s4, .inl (k 0, 3, .inl (fun i9 : Nat => iI (d6 i9))))]) [0, 1, 6, 2, 3, 4, 5, 7] (by decide) rfl B
        have B := bd_to (ws' := [(tb, .inr (8, [.ref s0, .ref s1, .ref s2, .ref s3, .ref s4, .ref s5, .ref s6])), (s0, .inl (k 0, 12, .inl (fun i9 : Nat => iI (f0 i9)))), (s3, .inl (k 0, 3, .inl (fun i9 : Nat => iI (d5 i9))))] ++ [(s1, .inl (k 0, 12, .inl (fun i9 : Nat => iI (f1 i9)))), (s2, .inl (k 0, 12, .inl (fun i9 : Nat => iI (f2 i9)))), (s5, .inl (k 0, 3, .inl (fun i9 : Nat => iI (f5 i9)))), (s6, .inl (k 0, 3, .inl (fun i9 : Nat => iI (f6 i9)))), (s4, .inl (k 0, 3, .inl (fun i9 : Nat => iI (d6 i9))))]) rfl B
        refine k_V (rest := []) (wc := [(tb, .inr (8, [.ref s0, .ref s1, .ref s2, .ref s3, .ref s4, .ref s5, .ref s6])), (s0, .inl (k 0, 12, .inl (fun i9 : Nat => iI (f0 i9)))), (s3, .inl (k 0, 3, .inl (fun i9 : Nat => iI (d5 i9))))]) (wr := [(s1, .inl (k 0, 12, .inl (fun i9 : Nat => iI (f1 i9)))), (s2, .inl (k 0, 12, .inl (fun i9 : Nat => iI (f2 i9)))), (s5, .inl (k 0, 3, .inl (fun i9 : Nat => iI (f5 i9)))), (s6, .inl (k 0, 3, .inl (fun i9 : Nat => iI (f6 i9)))), (s4, .inl (k 0, 3, .inl (fun i9 : Nat => iI (d6 i9))))]) (k_shareOut l dC dI k tb s0 s1 s2 s3 s4 s5 s6 s3 f0 d5 cx (f1 cx) (2412 * (sp - 1) + 201 * cx) hs0 hsp bd5 (by omega) (by omega) (by omega)) B mV_X8_shareOut mw_1331 hl (q0 := 0) rfl rfl rfl ⟨Nat.le_of_ble_eq_true rfl, Nat.le_of_ble_eq_true rfl⟩ (Nat.le_of_ble_eq_true rfl) rfl dX8_measure_56 ⟨Nat.le_of_ble_eq_true rfl, Nat.le_of_ble_eq_true rfl⟩ (fun r w gc gs H locs hp B => ?_)
        obtain ⟨dw_15, z_16, z_17, rfl, hw9, rfl, rfl⟩ := hp
        rw [hw9] at B; clear hw9
        have B := bd_to (ws' := [(s1, .inl (k 0, 12, .inl (fun i9 : Nat => iI (f1 i9)))), (s2, .inl (k 0, 12, .inl (fun i9 : Nat => iI (f2 i9)))), (s5, .inl (k 0, 3, .inl (fun i9 : Nat => iI (f5 i9)))), (s6, .inl (k 0, 3, .inl (fun i9 : Nat => iI (f6 i9)))), (s4, .inl (k 0, 3, .inl (fun i9 : Nat => iI (d6 i9)))), (tb, .inr (8, [.ref s0, .ref s1, .ref s2, .ref s3, .ref s4, .ref s5, .ref s6])), (s0, .inl (k 0, 12, .inl (fun i9 : Nat => iI (f0 i9)))), (s3, .inl (k 0, 3, .inl (fun i9 : Nat => iI (dw_15 i9))))]) rfl B
        refine lv_aload_n hx hb dX8_measure_59 rfl (lv_at hl 2 rfl) ?_
        refine lv_aload_n hx hb dX8_measure_60 rfl (lv_at hl 2 rfl) ?_
        refine x_get (ci := 8) (C := RX8) (T := TX8) (N := 7) (v := .ref s4) B 5 rfl rfl in_X8 4 (by decide) mw_1147 (fun _ h9 => h9) rfl dX8_measure_61 ?_
        refine lv_iload_n hx hb dX8_measure_64 rfl (lv_at hl 0 rfl) ?_
        refine lv_aload_n hx hb dX8_measure_65 rfl (lv_at hl 2 rfl) ?_
        refine x_get (ci := 8) (C := RX8) (T := TX8) (N := 7) (v := .ref s2) B 5 rfl rfl in_X8 2 (by decide) mw_1145 (fun _ h9 => h9) rfl dX8_measure_66 ?_
        refine lv_iload_n hx hb dX8_measure_69 rfl (lv_at hl 0 rfl) ?_
        refine x_iald' (f := f2) (z := cx) B 1 rfl (by omega) dX8_measure_70 ?_
        have z_18 : 0 ≤ (f2 cx) ∧ (f2 cx) ≤ 200 := hs2 cx
        have B := bd_sub (ws' := [(tb, .inr (8, [.ref s0, .ref s1, .ref s2, .ref s3, .ref s4, .ref s5, .ref s6])), (s0, .inl (k 0, 12, .inl (fun i9 : Nat => iI (f0 i9)))), (s4, .inl (k 0, 3, .inl (fun i9 : Nat => iI (d6 i9)))), (s1, .inl (k 0, 12, .inl (fun i9 : Nat => iI (f1 i9)))), (s2, .inl (k 0, 12, .inl (fun i9 : Nat => iI (f2 i9)))), (s5, .inl (k 0, 3, .inl (fun i9 : Nat => iI (f5 i9)))), (s6, .inl (k 0, 3, .inl (fun i9 : Nat => iI (f6 i9)))), (s3, .inl (k 0, 3, .inl (fun i9 : Nat => iI (dw_15 i9))))]) [5, 6, 4, 0, 1, 2, 3, 7] (by decide) rfl B
        have B := bd_to (ws' := [(tb, .inr (8, [.ref s0, .ref s1, .ref s2, .ref s3, .ref s4, .ref s5, .ref s6])), (s0, .inl (k 0, 12, .inl (fun i9 : Nat => iI (f0 i9)))), (s4, .inl (k 0, 3, .inl (fun i9 : Nat => iI (d6 i9))))] ++ [(s1, .inl (k 0, 12, .inl (fun i9 : Nat => iI (f1 i9)))), (s2, .inl (k 0, 12, .inl (fun i9 : Nat => iI (f2 i9)))), (s5, .inl (k 0, 3, .inl (fun i9 : Nat => iI (f5 i9)))), (s6, .inl (k 0, 3, .inl (fun i9 : Nat => iI (f6 i9)))), (s3, .inl (k 0, 3, .inl (fun i9 : Nat => iI (dw_15 i9))))]) rfl B
        refine k_V (rest := []) (wc := [(tb, .inr (8, [.ref s0, .ref s1, .ref s2, .ref s3, .ref s4, .ref s5, .ref s6])), (s0, .inl (k 0, 12, .inl (fun i9 : Nat => iI (f0 i9)))), (s4, .inl (k 0, 3, .inl (fun i9 : Nat => iI (d6 i9))))]) (wr := [(s1, .inl (k 0, 12, .inl (fun i9 : Nat => iI (f1 i9)))), (s2, .inl (k 0, 12, .inl (fun i9 : Nat => iI (f2 i9)))), (s5, .inl (k 0, 3, .inl (fun i9 : Nat => iI (f5 i9)))), (s6, .inl (k 0, 3, .inl (fun i9 : Nat => iI (f6 i9)))), (s3, .inl (k 0, 3, .inl (fun i9 : Nat => iI (dw_15 i9))))]) (k_shareOut l dC dI k tb s0 s1 s2 s3 s4 s5 s6 s4 f0 d6 cx (f2 cx) (2412 * (sp - 1) + 201 * cx) hs0 hsp bd6 (by omega) (by omega) z_18) B mV_X8_shareOut mw_1331 hl (q0 := 0) rfl rfl rfl ⟨Nat.le_of_ble_eq_true rfl, Nat.le_of_ble_eq_true rfl⟩ (Nat.le_of_ble_eq_true rfl) rfl dX8_measure_71 ⟨Nat.le_of_ble_eq_true rfl, Nat.le_of_ble_eq_true rfl⟩ (fun r w gc gs H locs hp B => ?_)
        obtain ⟨dw_19, z_20, z_21, rfl, hw9, rfl, rfl⟩ := hp
        rw [hw9] at B; clear hw9
        have B := bd_to (ws' := [(s1, .inl (k 0, 12, .inl (fun i9 : Nat => iI (f1 i9)))), (s2, .inl (k 0, 12, .inl (fun i9 : Nat => iI (f2 i9)))), (s5, .inl (k 0, 3, .inl (fun i9 : Nat => iI (f5 i9)))), (s6, .inl (k 0, 3, .inl (fun i9 : Nat => iI (f6 i9)))), (s3, .inl (k 0, 3, .inl (fun i9 : Nat => iI (dw_15 i9)))), (tb, .inr (8, [.ref s0, .ref s1, .ref s2, .ref s3, .ref s4, .ref s5, .ref s6])), (s0, .inl (k 0, 12, .inl (fun i9 : Nat => iI (f0 i9)))), (s4, .inl (k 0, 3, .inl (fun i9 : Nat => iI (dw_19 i9))))]) rfl B
        refine lv_iinc (v := iI (cx + 1)) (lv' := [(3, .int (iI (cx + 1))), (2, .int (iI sp)), (0, .ref tb), (1, .int (iI pw))]) hx hb dX8_measure_74 hl (k := 0) rfl (iI_add _ _) (by decide) rfl (fun ls hl => ?_)
        refine lv_goto (tgt := 25) hx hb dX8_measure_77 (by decide) ?_
        have B := bd_sub (ws' := [(tb, .inr (8, [.ref s0, .ref s1, .ref s2, .ref s3, .ref s4, .ref s5, .ref s6])), (s0, .inl (k 0, 12, .inl (fun i9 : Nat => iI (f0 i9)))), (s1, .inl (k 0, 12, .inl (fun i9 : Nat => iI (f1 i9)))), (s2, .inl (k 0, 12, .inl (fun i9 : Nat => iI (f2 i9)))), (s5, .inl (k 0, 3, .inl (fun i9 : Nat => iI (f5 i9)))), (s6, .inl (k 0, 3, .inl (fun i9 : Nat => iI (f6 i9)))), (s3, .inl (k 0, 3, .inl (fun i9 : Nat => iI (dw_15 i9)))), (s4, .inl (k 0, 3, .inl (fun i9 : Nat => iI (dw_19 i9))))]) [5, 6, 0, 1, 2, 3, 4, 7] (by decide) rfl B
        exact ih_10 ((cx + 1), dw_15, dw_19) ⟨(show 0 ≤ (cx + 1) ∧ (cx + 1) ≤ 12 from (by omega)), (show dw_15 = msC f0 f1 d3 sp (Int.toNat (cx + 1)) from (by rw [msC_s (by omega), if_pos (by omega), ← hd5]; exact z_16)), (show dw_19 = msC f0 f2 d4 sp (Int.toNat (cx + 1)) from (by rw [msC_s (by omega), if_pos (by omega), ← hd6]; exact z_20)), (show Bd 0 (2412 * (sp - 1) + 201 * (cx + 1)) dw_15 from (fun i9 => ⟨by have := (z_17 i9).1; omega, by have := (z_17 i9).2; omega⟩)), (show Bd 0 (2412 * (sp - 1) + 201 * (cx + 1)) dw_19 from (fun i9 => ⟨by have := (z_21 i9).1; omega, by have := (z_21 i9).2; omega⟩))⟩ (by first | omega | (dsimp only; omega)) _ _ _ (lv_sub hl [0, 1, 2, 3] rfl) (bd_to rfl B)

theorem dX8_heightOf_0 : decode cX8_heightOf 0 = .ok (.iconst 1, 1) := by decide +kernel
theorem dX8_heightOf_1 : decode cX8_heightOf 1 = .ok (.istore_n 2, 1) := by decide +kernel
theorem dX8_heightOf_2 : decode cX8_heightOf 2 = .ok (.iconst 0, 1) := by decide +kernel
theorem dX8_heightOf_3 : decode cX8_heightOf 3 = .ok (.istore_n 3, 1) := by decide +kernel
theorem dX8_heightOf_4 : decode cX8_heightOf 4 = .ok (.iload_n 3, 1) := by decide +kernel
theorem dX8_heightOf_5 : decode cX8_heightOf 5 = .ok (.iconst 3, 1) := by decide +kernel
theorem dX8_heightOf_6 : decode cX8_heightOf 6 = .ok (.if_icmp .ge 53, 3) := by decide +kernel
theorem dX8_heightOf_9 : decode cX8_heightOf 9 = .ok (.iload_n 1, 1) := by decide +kernel
theorem dX8_heightOf_10 : decode cX8_heightOf 10 = .ok (.iconst 3, 1) := by decide +kernel
theorem dX8_heightOf_11 : decode cX8_heightOf 11 = .ok (.imul, 1) := by decide +kernel
theorem dX8_heightOf_12 : decode cX8_heightOf 12 = .ok (.iload_n 3, 1) := by decide +kernel
theorem dX8_heightOf_13 : decode cX8_heightOf 13 = .ok (.iadd, 1) := by decide +kernel
theorem dX8_heightOf_14 : decode cX8_heightOf 14 = .ok (.istore 4, 2) := by decide +kernel
theorem dX8_heightOf_16 : decode cX8_heightOf 16 = .ok (.aload_n 0, 1) := by decide +kernel
theorem dX8_heightOf_17 : decode cX8_heightOf 17 = .ok (.aload_n 0, 1) := by decide +kernel
theorem dX8_heightOf_18 : decode cX8_heightOf 18 = .ok (.getfield 30, 3) := by decide +kernel
theorem dX8_heightOf_21 : decode cX8_heightOf 21 = .ok (.iload 4, 2) := by decide +kernel
theorem dX8_heightOf_23 : decode cX8_heightOf 23 = .ok (.invokevirtual 53, 3) := by decide +kernel
theorem dX8_heightOf_26 : decode cX8_heightOf 26 = .ok (.istore 5, 2) := by decide +kernel
theorem dX8_heightOf_28 : decode cX8_heightOf 28 = .ok (.iload 5, 2) := by decide +kernel
theorem dX8_heightOf_30 : decode cX8_heightOf 30 = .ok (.ifCond .le 23, 3) := by decide +kernel
theorem dX8_heightOf_33 : decode cX8_heightOf 33 = .ok (.iload_n 2, 1) := by decide +kernel
theorem dX8_heightOf_34 : decode cX8_heightOf 34 = .ok (.aload_n 0, 1) := by decide +kernel
theorem dX8_heightOf_35 : decode cX8_heightOf 35 = .ok (.getfield 18, 3) := by decide +kernel
theorem dX8_heightOf_38 : decode cX8_heightOf 38 = .ok (.iload 4, 2) := by decide +kernel
theorem dX8_heightOf_40 : decode cX8_heightOf 40 = .ok (.iaload, 1) := by decide +kernel
theorem dX8_heightOf_41 : decode cX8_heightOf 41 = .ok (.iload 5, 2) := by decide +kernel
theorem dX8_heightOf_43 : decode cX8_heightOf 43 = .ok (.iadd, 1) := by decide +kernel
theorem dX8_heightOf_44 : decode cX8_heightOf 44 = .ok (.iconst 1, 1) := by decide +kernel
theorem dX8_heightOf_45 : decode cX8_heightOf 45 = .ok (.isub, 1) := by decide +kernel
theorem dX8_heightOf_46 : decode cX8_heightOf 46 = .ok (.iload 5, 2) := by decide +kernel
theorem dX8_heightOf_48 : decode cX8_heightOf 48 = .ok (.idiv, 1) := by decide +kernel
theorem dX8_heightOf_49 : decode cX8_heightOf 49 = .ok (.invokestatic 33, 3) := by decide +kernel
theorem dX8_heightOf_52 : decode cX8_heightOf 52 = .ok (.istore_n 2, 1) := by decide +kernel
theorem dX8_heightOf_53 : decode cX8_heightOf 53 = .ok (.iinc 3 1, 3) := by decide +kernel
theorem dX8_heightOf_56 : decode cX8_heightOf 56 = .ok (.goto (-52), 3) := by decide +kernel
theorem dX8_heightOf_59 : decode cX8_heightOf 59 = .ok (.iload_n 2, 1) := by decide +kernel
theorem dX8_heightOf_60 : decode cX8_heightOf 60 = .ok (.ireturn, 1) := by decide +kernel
set_option maxHeartbeats 4000000 in
set_option maxRecDepth 100000 in
theorem k_heightOf (l : Launch) (dC : Nat → ClassId) (dI : Nat → Nat → Nat) (k : Nat → ClassId) (tb : Nat) (s0 : Nat) (s1 : Nat) (s2 : Nat) (s3 : Nat) (s4 : Nat) (s5 : Nat) (s6 : Nat) (f0 : Int → Int) (f2 : Int → Int) (fw : Int → Int) (ro : Int) (hs0 : Bd 0 3 f0) (hsp : ∀ c9 : Int, c9 % 3 + f0 c9 ≤ 3) (hs2 : Bd 0 200 f2) (hs6 : Bd 0 1210001 fw) (h1 : 0 ≤ ro ∧ ro ≤ 3) : Kn l dC dI k yX8_heightOf (.code yX8_heightOf cX8_heightOf 6 (some .int)) ({ frames := 1, cells := 0, slots := 0, locals := 25 } : Room) [.ref tb, .int (iI ro)] [(tb, .inr (8, [.ref s0, .ref s1, .ref s2, .ref s3, .ref s4, .ref s5, .ref s6])), (s0, .inl (k 0, 12, .inl (fun i9 : Nat => iI (f0 i9)))), (s2, .inl (k 0, 12, .inl (fun i9 : Nat => iI (f2 i9)))), (s6, .inl (k 0, 3, .inl (fun i9 : Nat => iI (fw i9))))] (fun r w gc gs => ((1 ≤ htZ f0 f2 fw ro 3 ∧ htZ f0 f2 fw ro 3 ≤ 200) ∧ r = some (.int (iI (htZ f0 f2 fw ro 3))) ∧ w = [(tb, .inr (8, [.ref s0, .ref s1, .ref s2, .ref s3, .ref s4, .ref s5, .ref s6])), (s0, .inl (k 0, 12, .inl (fun i9 : Nat => iI (f0 i9)))), (s2, .inl (k 0, 12, .inl (fun i9 : Nat => iI (f2 i9)))), (s6, .inl (k 0, 3, .inl (fun i9 : Nat => iI (fw i9))))] ∧ gc = 0 ∧ gs = 0)) := by
  refine kn_of (by decide) (Nat.le_of_ble_eq_true rfl) ?_
  intro p e s m args below meth c H locs B hr hnm ls hl
  have hx := B.1.1
  have hb := B.1.2.1
  have hl : lv_has ls 6 [(0, .ref tb), (1, .int (iI ro))] := hl
  refine lv_iconst (v := iI 1) hx hb dX8_heightOf_0 (by decide) ?_
  refine lv_istore_n (lv' := [(2, .int (iI 1)), (0, .ref tb), (1, .int (iI ro))]) hx hb dX8_heightOf_1 rfl hl (by decide) rfl (fun ls hl => ?_)
  refine lv_iconst (v := iI 0) hx hb dX8_heightOf_2 (by decide) ?_
  refine lv_istore_n (lv' := [(3, .int (iI 0)), (2, .int (iI 1)), (0, .ref tb), (1, .int (iI ro))]) hx hb dX8_heightOf_3 rfl hl (by decide) rfl (fun ls hl => ?_)
  refine k_loop (σ := Int × Int) B (fun g9 : Int × Int => (0 ≤ g9.1 ∧ g9.1 ≤ 3 ∧ 1 ≤ g9.2 ∧ g9.2 ≤ 200) ∧ (g9.2 = htZ f0 f2 fw ro (Int.toNat g9.1))) (fun g9 : Int × Int => (3 - g9.1).toNat) (fun g9 : Int × Int => [(3, .int (iI g9.1)), (2, .int (iI g9.2)), (0, .ref tb), (1, .int (iI ro))]) (fun g9 : Int × Int => [(tb, .inr (8, [.ref s0, .ref s1, .ref s2, .ref s3, .ref s4, .ref s5, .ref s6])), (s0, .inl (k 0, 12, .inl (fun i9 : Nat => iI (f0 i9)))), (s2, .inl (k 0, 12, .inl (fun i9 : Nat => iI (f2 i9)))), (s6, .inl (k 0, 3, .inl (fun i9 : Nat => iI (fw i9))))]) ?_ (0, 1) ⟨(show 0 ≤ 0 ∧ 0 ≤ 3 ∧ 1 ≤ 1 ∧ 1 ≤ 200 from (by omega)), (show 1 = htZ f0 f2 fw ro (Int.toNat 0) from rfl)⟩ ls H locs (lv_sub hl [0, 1, 2, 3] rfl) (bd_to rfl B)
  clear hl B
  rintro ⟨co, hh⟩ ⟨hco, hhh⟩ ih_1 ls H locs hl B
  have hco : 0 ≤ co ∧ co ≤ 3 ∧ 1 ≤ hh ∧ hh ≤ 200 := hco
  have hhh : hh = htZ f0 f2 fw ro (Int.toNat co) := hhh
  have hl : lv_has ls 6 [(3, .int (iI co)), (2, .int (iI hh)), (0, .ref tb), (1, .int (iI ro))] := hl
  have B := bd_to (ws' := [(tb, .inr (8, [.ref s0, .ref s1, .ref s2, .ref s3, .ref s4, .ref s5, .ref s6])), (s0, .inl (k 0, 12, .inl (fun i9 : Nat => iI (f0 i9)))), (s2, .inl (k 0, 12, .inl (fun i9 : Nat => iI (f2 i9)))), (s6, .inl (k 0, 3, .inl (fun i9 : Nat => iI (fw i9))))]) rfl B
  refine lv_iload_n hx hb dX8_heightOf_4 rfl (lv_at hl 0 rfl) ?_
  refine lv_iconst (v := iI 3) hx hb dX8_heightOf_5 (by decide) ?_
  refine lv_icmp_ge (tgt := 59) hx hb dX8_heightOf_6 (by decide) (fun c_2 => ?_) (fun c_2 => ?_)
  · have zc_2 : 3 ≤ co := jle (a := 3) (b := co) (by omega) (by omega) c_2
    refine lv_iload_n hx hb dX8_heightOf_59 rfl (lv_at hl 1 rfl) ?_
    have e_3 : (htZ f0 f2 fw ro 3) = hh := (by rw [hhh, show co = 3 by omega]; rfl)
    skip
    exact k_iret B hr (⟨(by have q9 : htZ f0 f2 fw ro 3 = hh := (by rw [hhh, show co = 3 by omega]; rfl); omega), (by rw [e_3]), rfl, rfl, rfl⟩) ⟨Nat.le_of_ble_eq_true rfl, Nat.le_of_ble_eq_true rfl⟩ ⟨Nat.le_of_ble_eq_true rfl, Nat.le_of_ble_eq_true rfl⟩ dX8_heightOf_60
  · have zc_2 : co < 3 := jnle (a := 3) (b := co) (by omega) (by omega) c_2
    refine lv_iload_n hx hb dX8_heightOf_9 rfl (lv_at hl 3 rfl) ?_
    refine lv_iconst (v := iI 3) hx hb dX8_heightOf_10 (by decide) ?_
    refine y_mul hx hb dX8_heightOf_11 ?_
    refine lv_iload_n hx hb dX8_heightOf_12 rfl (lv_at hl 0 rfl) ?_
    refine y_add hx hb dX8_heightOf_13 ?_
    refine lv_istore (lv' := [(4, .int (iI ((ro * 3) + co))), (3, .int (iI co)), (2, .int (iI hh)), (0, .ref tb), (1, .int (iI ro))]) hx hb dX8_heightOf_14 hl (by decide) rfl (fun ls hl => ?_)
    refine lv_aload_n hx hb dX8_heightOf_16 rfl (lv_at hl 3 rfl) ?_
    refine lv_aload_n hx hb dX8_heightOf_17 rfl (lv_at hl 3 rfl) ?_
    refine x_get (ci := 8) (C := RX8) (T := TX8) (N := 7) (v := .ref s6) B 0 rfl rfl in_X8 6 (by decide) mw_1149 (fun _ h9 => h9) rfl dX8_heightOf_18 ?_
    refine lv_iload hx hb dX8_heightOf_21 (lv_at hl 0 rfl) ?_
    have B := bd_sub (ws' := [(tb, .inr (8, [.ref s0, .ref s1, .ref s2, .ref s3, .ref s4, .ref s5, .ref s6])), (s0, .inl (k 0, 12, .inl (fun i9 : Nat => iI (f0 i9)))), (s6, .inl (k 0, 3, .inl (fun i9 : Nat => iI (fw i9)))), (s2, .inl (k 0, 12, .inl (fun i9 : Nat => iI (f2 i9))))]) [0, 1, 3, 2] (by decide) rfl B
    have B := bd_to (ws' := [(tb, .inr (8, [.ref s0, .ref s1, .ref s2, .ref s3, .ref s4, .ref s5, .ref s6])), (s0, .inl (k 0, 12, .inl (fun i9 : Nat => iI (f0 i9)))), (s6, .inl (k 0, 3, .inl (fun i9 : Nat => iI (fw i9))))] ++ [(s2, .inl (k 0, 12, .inl (fun i9 : Nat => iI (f2 i9))))]) rfl B
    refine k_V (rest := []) (wc := [(tb, .inr (8, [.ref s0, .ref s1, .ref s2, .ref s3, .ref s4, .ref s5, .ref s6])), (s0, .inl (k 0, 12, .inl (fun i9 : Nat => iI (f0 i9)))), (s6, .inl (k 0, 3, .inl (fun i9 : Nat => iI (fw i9))))]) (wr := [(s2, .inl (k 0, 12, .inl (fun i9 : Nat => iI (f2 i9))))]) (k_sumOf l dC dI k tb s0 s1 s2 s3 s4 s5 s6 s6 f0 fw ((ro * 3) + co) 1210001 hs0 hsp hs6 (by omega) (by omega)) B mV_X8_sumOf mw_1335 hl (q0 := 0) rfl rfl rfl ⟨Nat.le_of_ble_eq_true rfl, Nat.le_of_ble_eq_true rfl⟩ (Nat.le_of_ble_eq_true rfl) rfl dX8_heightOf_23 ⟨Nat.le_of_ble_eq_true rfl, Nat.le_of_ble_eq_true rfl⟩ (fun r w gc gs H locs hp B => ?_)
    obtain ⟨rfl, hw9, rfl, rfl⟩ := hp
    rw [hw9] at B; clear hw9
    have B := bd_to (ws' := [(s2, .inl (k 0, 12, .inl (fun i9 : Nat => iI (f2 i9)))), (tb, .inr (8, [.ref s0, .ref s1, .ref s2, .ref s3, .ref s4, .ref s5, .ref s6])), (s0, .inl (k 0, 12, .inl (fun i9 : Nat => iI (f0 i9)))), (s6, .inl (k 0, 3, .inl (fun i9 : Nat => iI (fw i9))))]) rfl B
    have z_4 : 0 ≤ (smZ fw (((ro * 3) + co) % 3) (Int.toNat (f0 ((ro * 3) + co)))) ∧ (smZ fw (((ro * 3) + co) % 3) (Int.toNat (f0 ((ro * 3) + co)))) ≤ 3630003 := by have q9 := smZ_in hs6 (c := ((ro * 3) + co) % 3) (Int.toNat (f0 ((ro * 3) + co))) (by have := hs0 ((ro * 3) + co); omega); omega
    refine lv_istore (lv' := [(5, .int (iI (smZ fw (((ro * 3) + co) % 3) (Int.toNat (f0 ((ro * 3) + co)))))), (4, .int (iI ((ro * 3) + co))), (3, .int (iI co)), (2, .int (iI hh)), (0, .ref tb), (1, .int (iI ro))]) hx hb dX8_heightOf_26 hl (by decide) rfl (fun ls hl => ?_)
    refine lv_iload hx hb dX8_heightOf_28 (lv_at hl 0 rfl) ?_
    refine lv_if_le (tgt := 53) hx hb dX8_heightOf_30 (by decide) (fun c_5 => ?_) (fun c_5 => ?_)
    · have zc_5 : (smZ fw (((ro * 3) + co) % 3) (Int.toNat (f0 ((ro * 3) + co)))) ≤ 0 := jle (a := (smZ fw (((ro * 3) + co) % 3) (Int.toNat (f0 ((ro * 3) + co))))) (b := 0) (by omega) (by omega) c_5
      refine lv_iinc (v := iI (co + 1)) (lv' := [(3, .int (iI (co + 1))), (5, .int (iI (smZ fw (((ro * 3) + co) % 3) (Int.toNat (f0 ((ro * 3) + co)))))), (4, .int (iI ((ro * 3) + co))), (2, .int (iI hh)), (0, .ref tb), (1, .int (iI ro))]) hx hb dX8_heightOf_53 hl (k := 2) rfl (iI_add _ _) (by decide) rfl (fun ls hl => ?_)
      refine lv_goto (tgt := 4) hx hb dX8_heightOf_56 (by decide) ?_
      have B := bd_sub (ws' := [(tb, .inr (8, [.ref s0, .ref s1, .ref s2, .ref s3, .ref s4, .ref s5, .ref s6])), (s0, .inl (k 0, 12, .inl (fun i9 : Nat => iI (f0 i9)))), (s2, .inl (k 0, 12, .inl (fun i9 : Nat => iI (f2 i9)))), (s6, .inl (k 0, 3, .inl (fun i9 : Nat => iI (fw i9))))]) [1, 2, 0, 3] (by decide) rfl B
      exact ih_1 ((co + 1), hh) ⟨(show 0 ≤ (co + 1) ∧ (co + 1) ≤ 3 ∧ 1 ≤ hh ∧ hh ≤ 200 from (by omega)), (show hh = htZ f0 f2 fw ro (Int.toNat (co + 1)) from (by rw [htZ_s (by omega), if_neg (by omega)]; exact hhh))⟩ (by first | omega | (dsimp only; omega)) _ _ _ (lv_sub hl [0, 3, 4, 5] rfl) (bd_to rfl B)
    · have zc_5 : 0 < (smZ fw (((ro * 3) + co) % 3) (Int.toNat (f0 ((ro * 3) + co)))) := jnle (a := (smZ fw (((ro * 3) + co) % 3) (Int.toNat (f0 ((ro * 3) + co))))) (b := 0) (by omega) (by omega) c_5
      refine lv_iload_n hx hb dX8_heightOf_33 rfl (lv_at hl 3 rfl) ?_
      refine lv_aload_n hx hb dX8_heightOf_34 rfl (lv_at hl 4 rfl) ?_
      refine x_get (ci := 8) (C := RX8) (T := TX8) (N := 7) (v := .ref s2) B 1 rfl rfl in_X8 2 (by decide) mw_1145 (fun _ h9 => h9) rfl dX8_heightOf_35 ?_
      refine lv_iload hx hb dX8_heightOf_38 (lv_at hl 1 rfl) ?_
      refine x_iald' (f := f2) (z := ((ro * 3) + co)) B 0 rfl (by omega) dX8_heightOf_40 ?_
      have z_6 : 0 ≤ (f2 ((ro * 3) + co)) ∧ (f2 ((ro * 3) + co)) ≤ 200 := hs2 ((ro * 3) + co)
      refine lv_iload hx hb dX8_heightOf_41 (lv_at hl 0 rfl) ?_
      refine y_add hx hb dX8_heightOf_43 ?_
      refine lv_iconst (v := iI 1) hx hb dX8_heightOf_44 (by decide) ?_
      refine y_sub hx hb dX8_heightOf_45 ?_
      refine lv_iload hx hb dX8_heightOf_46 (lv_at hl 0 rfl) ?_
      refine y_div hx hb (a := (((f2 ((ro * 3) + co)) + (smZ fw (((ro * 3) + co) % 3) (Int.toNat (f0 ((ro * 3) + co))))) - 1)) (b := (smZ fw (((ro * 3) + co) % 3) (Int.toNat (f0 ((ro * 3) + co))))) (by omega) (by omega) dX8_heightOf_48 ?_
      have z_7 : 0 ≤ ((((f2 ((ro * 3) + co)) + (smZ fw (((ro * 3) + co) % 3) (Int.toNat (f0 ((ro * 3) + co))))) - 1) / (smZ fw (((ro * 3) + co) % 3) (Int.toNat (f0 ((ro * 3) + co))))) ∧ ((((f2 ((ro * 3) + co)) + (smZ fw (((ro * 3) + co) % 3) (Int.toNat (f0 ((ro * 3) + co))))) - 1) / (smZ fw (((ro * 3) + co) % 3) (Int.toNat (f0 ((ro * 3) + co))))) ≤ (((f2 ((ro * 3) + co)) + (smZ fw (((ro * 3) + co) % 3) (Int.toNat (f0 ((ro * 3) + co))))) - 1) := div_in (by omega) (by omega)
      have z_8 : 0 ≤ ((((f2 ((ro * 3) + co)) + (smZ fw (((ro * 3) + co) % 3) (Int.toNat (f0 ((ro * 3) + co))))) - 1) / (smZ fw (((ro * 3) + co) % 3) (Int.toNat (f0 ((ro * 3) + co))))) ∧ ((((f2 ((ro * 3) + co)) + (smZ fw (((ro * 3) + co) % 3) (Int.toNat (f0 ((ro * 3) + co))))) - 1) / (smZ fw (((ro * 3) + co) % 3) (Int.toNat (f0 ((ro * 3) + co))))) ≤ f2 ((ro * 3) + co) := cdiv_in (by omega) (by omega)
      refine y_max (a := hh) (b := ((((f2 ((ro * 3) + co)) + (smZ fw (((ro * 3) + co) % 3) (Int.toNat (f0 ((ro * 3) + co))))) - 1) / (smZ fw (((ro * 3) + co) % 3) (Int.toNat (f0 ((ro * 3) + co)))))) B hl mw_1324 mw_700 mw_26 mw_701 (Nat.le_of_ble_eq_true rfl) (Nat.le_of_ble_eq_true rfl) (Nat.le_of_ble_eq_true rfl) (Nat.le_of_ble_eq_true rfl) (by omega) (by omega) dX8_heightOf_49 ?_
      refine lv_istore_n (lv' := [(2, .int (iI (max hh ((((f2 ((ro * 3) + co)) + (smZ fw (((ro * 3) + co) % 3) (Int.toNat (f0 ((ro * 3) + co))))) - 1) / (smZ fw (((ro * 3) + co) % 3) (Int.toNat (f0 ((ro * 3) + co)))))))), (5, .int (iI (smZ fw (((ro * 3) + co) % 3) (Int.toNat (f0 ((ro * 3) + co)))))), (4, .int (iI ((ro * 3) + co))), (3, .int (iI co)), (0, .ref tb), (1, .int (iI ro))]) hx hb dX8_heightOf_52 rfl hl (by decide) rfl (fun ls hl => ?_)
      refine lv_iinc (v := iI (co + 1)) (lv' := [(3, .int (iI (co + 1))), (2, .int (iI (max hh ((((f2 ((ro * 3) + co)) + (smZ fw (((ro * 3) + co) % 3) (Int.toNat (f0 ((ro * 3) + co))))) - 1) / (smZ fw (((ro * 3) + co) % 3) (Int.toNat (f0 ((ro * 3) + co)))))))), (5, .int (iI (smZ fw (((ro * 3) + co) % 3) (Int.toNat (f0 ((ro * 3) + co)))))), (4, .int (iI ((ro * 3) + co))), (0, .ref tb), (1, .int (iI ro))]) hx hb dX8_heightOf_53 hl (k := 3) rfl (iI_add _ _) (by decide) rfl (fun ls hl => ?_)
      refine lv_goto (tgt := 4) hx hb dX8_heightOf_56 (by decide) ?_
      have B := bd_sub (ws' := [(tb, .inr (8, [.ref s0, .ref s1, .ref s2, .ref s3, .ref s4, .ref s5, .ref s6])), (s0, .inl (k 0, 12, .inl (fun i9 : Nat => iI (f0 i9)))), (s2, .inl (k 0, 12, .inl (fun i9 : Nat => iI (f2 i9)))), (s6, .inl (k 0, 3, .inl (fun i9 : Nat => iI (fw i9))))]) [1, 2, 0, 3] (by decide) rfl B
      exact ih_1 ((co + 1), (max hh ((((f2 ((ro * 3) + co)) + (smZ fw (((ro * 3) + co) % 3) (Int.toNat (f0 ((ro * 3) + co))))) - 1) / (smZ fw (((ro * 3) + co) % 3) (Int.toNat (f0 ((ro * 3) + co))))))) ⟨(show 0 ≤ (co + 1) ∧ (co + 1) ≤ 3 ∧ 1 ≤ (max hh ((((f2 ((ro * 3) + co)) + (smZ fw (((ro * 3) + co) % 3) (Int.toNat (f0 ((ro * 3) + co))))) - 1) / (smZ fw (((ro * 3) + co) % 3) (Int.toNat (f0 ((ro * 3) + co)))))) ∧ (max hh ((((f2 ((ro * 3) + co)) + (smZ fw (((ro * 3) + co) % 3) (Int.toNat (f0 ((ro * 3) + co))))) - 1) / (smZ fw (((ro * 3) + co) % 3) (Int.toNat (f0 ((ro * 3) + co)))))) ≤ 200 from (by omega)), (show (max hh ((((f2 ((ro * 3) + co)) + (smZ fw (((ro * 3) + co) % 3) (Int.toNat (f0 ((ro * 3) + co))))) - 1) / (smZ fw (((ro * 3) + co) % 3) (Int.toNat (f0 ((ro * 3) + co)))))) = htZ f0 f2 fw ro (Int.toNat (co + 1)) from (by rw [htZ_s (by omega), if_pos (by omega), ← hhh]))⟩ (by first | omega | (dsimp only; omega)) _ _ _ (lv_sub hl [0, 1, 4, 5] rfl) (bd_to rfl B)

end
