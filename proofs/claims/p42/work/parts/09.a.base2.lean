section BASE2
theorem in_of (ws : List Cond) (ps : List Nat) (hp : ws = ps.filterMap (fun i => lw_tbl[i]?)) (h : ws.all goodWord = true) : ∀ w ∈ ws, w ∈ gt := fun w hw => gt_in ((goodIn_r (big := lw_tbl) ws ps hp h) w hw).1 (List.all_eq_true.mp h w hw)
end BASE2
/-! rows over 'bd': arrays of references, the empty array of all lists -/
section ROWS4
variable {p : Program} {l : Launch} {e : Env} {R : Room} {s : State} {m : MethodId} {args : Array Value} {below : List Frame} {meth : Method} {c : Code} {H : Heap} {locs : List Loc} {cells slots : Nat} {Q : State → Prop}
variable {dC : Nat → ClassId} {dI : Nat → Nat → Nat} {k : Nat → ClassId} {A : Nat → Prop} {cc : ByteArray} {nL : Nat} {own : String} {ws : va_W} {pc : Nat} {ls : Array Slot} {rest st0 : List Value} {lv : List (Nat × Value)}
theorem pr_obj (C : String) : ∀ (U : State) (c1 c2 : ClassId), va_RA U c1 (.object C) → va_RA U c2 (.object C) → c1 = c2 := fun U c1 c2 h1 h2 => by
  obtain ⟨_, _, _, _, _, e1⟩ := h1
  obtain ⟨_, _, _, _, _, e2⟩ := h2
  exact Option.some.inj (e1.symm.trans e2)
theorem x_anew (B : bd p s m args meth c cc nL own dC dI k A ws H locs) {C : String} {index : Nat} (hcl : Cond.classLink own index C ∈ gt) (hov : va_AO C s) (t0 : Nat) {cT : ClassId} (ht : (ty5 k)[t0]? = some (cT, .object C)) {i : Int32} {N' : Nat} (hn : ¬ i < 0) (hN : i.toNatClampNeg = N') (hbytes : N' * 4 ≤ 536870912) (hcells : cells + 1 ≤ R.cells) (hslots : slots + N' ≤ R.slots) (hdg : decode cc pc = .ok (.anewarray index, 3))
    (kk : ∀ (q : Nat) (H1 : Heap), bd p s m args meth c cc nL own dC dI k A (ws ++ [(q, .inl (cT, N', .inr (.inr (.inr (.inr (fun _ => none))))))]) H1 locs → W p l e R s m args below meth c H1 locs (cells + 1) (slots + N') Q (F0 m (pc + 3) ls (.ref q :: rest))) : W p l e R s m args below meth c H locs cells slots Q (F0 m pc ls (.int i :: rest)) := by
  obtain ⟨⟨hx, hb, hml, hown, hts, hlk⟩, hE, hA, hP, hD, hS⟩ := B
  refine va_newq hx hb hown (hts _ hcl) hov hE.1 hP hD hS hA hn hN hbytes hcells hslots hdg (fun q cA H1 hK1 h1 h2 h3 => ?_)
  have e1 := (hK1.2 5 (cA, .object C) (by simp [ty5])).2
  have e2 := (hE.1.2 t0 (cT, .object C) ht).2
  have e3 : cA = cT := pr_obj C s cA cT e1 e2
  subst e3
  exact kk q H1 ⟨⟨hx, hb, hml, hown, hts, hlk⟩, hE, hA, h1, h2, h3⟩
theorem x_astq {a n v : Nat} {vs : List Value} {f : Nat → Option Nat} (B : bd p s m args meth c cc nL own dC dI k A ws H locs) (q0 qk : Nat) (ha : ws[q0]? = some (a, .inl (k 3, n, .inr (.inr (.inr (.inr f)))))) (hv : ws[qk]? = some (v, .inr (1, vs))) {i : Int32} (hin : vp_in i n) (hdg : decode cc pc = .ok (.aastore, 1)) {j : Nat} (hj : i.toNatClampNeg = j)
    (kk : ∀ (H1 : Heap) (locs1 : List Loc), bd p s m args meth c cc nL own dC dI k A (ws.set q0 (a, .inl (k 3, n, .inr (.inr (.inr (.inr (va_up f j (some v)))))))) H1 locs1 → W p l e R s m args below meth c H1 locs1 cells slots Q (F0 m (pc + 1) ls rest)) : W p l e R s m args below meth c H locs cells slots Q (F0 m pc ls (.ref v :: .int i :: .ref a :: rest)) := by
  obtain ⟨⟨hx, hb, hml, hown, hts, hlk⟩, hE, hA, hP, hD, hS⟩ := B
  refine va_astq (r := (RX1, TX1, 17)) hx hb hE.1 hP hD hS q0 3 qk 1 ha rfl hv rfl hin hdg (fun H1 locs1 h1 h2 h3 => ?_)
  rw [hj] at h1 h2
  exact kk H1 locs1 ⟨⟨hx, hb, hml, hown, hts, hlk⟩, hE, hA, h1, h2, h3⟩
theorem x_astqO {a n v ci : Nat} {r : vw_C} {vs : List Value} {f : Int → Option Nat} (B : bd p s m args meth c cc nL own dC dI k A ws H locs) (q0 qk : Nat) (ha : ws[q0]? = some (a, .inl (k 4, n, .inr (.inr (.inr (.inr (fun i : Nat => f i))))))) (hv : ws[qk]? = some (v, .inr (ci, vs))) (hc : classes[ci]? = some r) (hca : (r.1, "java/lang/Object") ∈ nCS) {z : Int} (hz : 0 ≤ z ∧ z < n ∧ z < 2147483648) (hdg : decode cc pc = .ok (.aastore, 1))
    (kk : ∀ (H1 : Heap) (locs1 : List Loc), bd p s m args meth c cc nL own dC dI k A (ws.set q0 (a, .inl (k 4, n, .inr (.inr (.inr (.inr (fun i : Nat => uz f z (some v) i))))))) H1 locs1 → W p l e R s m args below meth c H1 locs1 cells slots Q (F0 m (pc + 1) ls rest)) : W p l e R s m args below meth c H locs cells slots Q (F0 m pc ls (.ref v :: .int (iI z) :: .ref a :: rest)) := by
  obtain ⟨⟨hx, hb, hml, hown, hts, hlk⟩, hE, hA, hP, hD, hS⟩ := B
  refine va_astqO (r := r) (E := "java/lang/Object") hx hb hE.1 hP hD hS q0 4 qk ci ha rfl (hE.2.1.2.1 _ hca) hv hc (iI_in hz) hdg (fun H1 locs1 h1 h2 h3 => ?_)
  rw [iI_cl hz, uz_Q hz.1] at h1 h2
  exact kk H1 locs1 ⟨⟨hx, hb, hml, hown, hts, hlk⟩, hE, hA, h1, h2, h3⟩
theorem x_astN {a n : Nat} {f : Int → Option Nat} (B : bd p s m args meth c cc nL own dC dI k A ws H locs) (q0 : Nat) (ha : ws[q0]? = some (a, .inl (k 4, n, .inr (.inr (.inr (.inr (fun i : Nat => f i))))))) {z : Int} (hz : 0 ≤ z ∧ z < n ∧ z < 2147483648) (hdg : decode cc pc = .ok (.aastore, 1))
    (kk : ∀ (H1 : Heap) (locs1 : List Loc), bd p s m args meth c cc nL own dC dI k A (ws.set q0 (a, .inl (k 4, n, .inr (.inr (.inr (.inr (fun i : Nat => uz f z none i))))))) H1 locs1 → W p l e R s m args below meth c H1 locs1 cells slots Q (F0 m (pc + 1) ls rest)) : W p l e R s m args below meth c H locs cells slots Q (F0 m pc ls (.null :: .int (iI z) :: .ref a :: rest)) := by
  obtain ⟨⟨hx, hb, hml, hown, hts, hlk⟩, hE, hA, hP, hD, hS⟩ := B
  refine va_astqN (C := "java/lang/Object") hx hb hE.1 hP hD hS q0 4 ha rfl (iI_in hz) hdg (fun H1 locs1 h1 h2 h3 => ?_)
  rw [iI_cl hz, uz_Q hz.1] at h1 h2
  exact kk H1 locs1 ⟨⟨hx, hb, hml, hown, hts, hlk⟩, hE, hA, h1, h2, h3⟩
/-- a run of one array copied into another -/
def cpz {α : Type} (f g : Int → α) (sp dp n : Int) : Int → α := fun i => if dp ≤ i ∧ i < dp + n then f (sp + (i - dp)) else g i
theorem cpz_cpy {α : Type} {f g : Int → α} {sp dp n : Int} (h1 : 0 ≤ sp) (h2 : 0 ≤ dp) (h3 : 0 ≤ n) : va_cpy (fun i : Nat => f i) (fun i : Nat => g i) sp.toNat dp.toNat n.toNat = fun i : Nat => cpz f g sp dp n i := by
  funext i
  simp only [va_cpy, cpz]
  by_cases h : dp.toNat ≤ i ∧ i < dp.toNat + n.toNat
  · rw [if_pos h, if_pos (by omega)]
    congr 1
    omega
  · rw [if_neg h, if_neg (by omega)]
theorem iI_nn {z : Int} (h : 0 ≤ z ∧ z < 2147483648) : ¬ iI z < 0 := fun q => by
  have h2 := Int32.lt_iff_toInt_lt.mp q
  rw [iI_toInt (by omega)] at h2
  have : (0 : Int32).toInt = 0 := by decide
  omega
theorem iI_clz {z : Int} (h : 0 ≤ z ∧ z < 2147483648) : (iI z).toNatClampNeg = z.toNat := by
  show (iI z).toInt.toNat = z.toNat
  rw [iI_toInt (by omega)]
/-- arraycopy between arrays of objects, all of one class -/
theorem x_copyO {a0 a n0 n1 : Nat} {f g : Int → Option Nat} {index ci : Nat} {r : vw_C} (B : bd p s m args meth c cc nL own dC dI k A ws H locs) (hls : lv_has ls nL lv) (hlink : Cond.methodLink own index arraycopyName ∈ gt) (hnat : Cond.native arraycopyName ∈ gt) (hstat : Cond.static arraycopyName ∈ gt) (hini : Cond.initialized "java/lang/System" ∈ gt) (q0 q1 : Nat) (ha0 : ws[q0]? = some (a0, .inl (k 4, n0, .inr (.inr (.inr (.inr (fun i : Nat => f i))))))) (ha1 : ws[q1]? = some (a, .inl (k 4, n1, .inr (.inr (.inr (.inr (fun i : Nat => g i))))))) {sp dp z : Int} (h1 : 0 ≤ sp ∧ sp < 2147483648) (h2 : 0 ≤ dp ∧ dp < 2147483648) (hz : 0 ≤ z ∧ z < 2147483648) (h4 : sp + z ≤ n0) (h5 : dp + z ≤ n1)
    (hc : classes[ci]? = some r) (hca : (r.1, "java/lang/Object") ∈ nCS) (hel : ∀ i : Int, 0 ≤ i → i < z → ∀ y : Nat, f (sp + i) = some y → ∃ (q : Nat) (fs : List Value), ws[q]? = some (y, .inr (ci, fs)))
    (hfr : 1 ≤ R.frames) (hlo : (rest.map fun v => v.category).sum + (nativeFrameWords "java/lang/System" "arraycopy" 5 + 11) ≤ R.locals) (hdg : decode cc pc = .ok (.invokestatic index, 3))
    (kk : ∀ (H1 : Heap) (locs1 : List Loc), bd p s m args meth c cc nL own dC dI k A (ws.set q1 (a, .inl (k 4, n1, .inr (.inr (.inr (.inr (fun i : Nat => cpz f g sp dp z i))))))) H1 locs1 → W p l e R s m args below meth c H1 locs1 cells slots Q (F0 m (pc + 3) ls rest)) : W p l e R s m args below meth c H locs cells slots Q (F0 m pc ls (.int (iI z) :: .int (iI dp) :: .ref a :: .int (iI sp) :: .ref a0 :: rest)) := by
  obtain ⟨⟨hx, hb, hml, hown, hts, hlk⟩, hE, hA, hP, hD, hS⟩ := B
  refine va_copyq (C := r.1) (E0 := "java/lang/Object") (E1 := "java/lang/Object") hx hb (by rw [hml]; exact hls.1.symm) hown (hts _ hlink) (hts _ hnat) (hts _ hstat) (hts _ hini) hE.1 hP hD hS q0 q1 4 4 ha0 ha1 rfl rfl (iI_nn h1) (iI_nn h2) (iI_nn hz) (by rw [iI_clz h1, iI_clz hz]; omega) (by rw [iI_clz h2, iI_clz hz]; omega) (fun i hi y hy => ?_) (fun c1 c2 e1 e2 => vb_asgC (hE.2.1.2.1 _ hca) c1 c2 e1 e2) hfr hlo hdg (fun H1 locs1 g1 g2 g3 => ?_)
  · rw [iI_clz hz] at hi
    rw [iI_clz h1] at hy
    obtain ⟨q, fs, hq⟩ := hel (i : Int) (by omega) (by omega) y (by rw [show sp + (i : Int) = ((sp.toNat + i : Nat) : Int) by omega]; exact hy)
    exact va_recv hE.1 hP hc hq
  · rw [iI_clz h1, iI_clz h2, iI_clz hz, cpz_cpy h1.1 h2.1 hz.1] at g1 g2
    exact kk H1 locs1 ⟨⟨hx, hb, hml, hown, hts, hlk⟩, hE, hA, g1, g2, g3⟩
/-- .. between arrays of ints -/
theorem x_copyI {a0 a n0 n1 : Nat} {f g : Int → Int} {index : Nat} (B : bd p s m args meth c cc nL own dC dI k A ws H locs) (hls : lv_has ls nL lv) (hlink : Cond.methodLink own index arraycopyName ∈ gt) (hnat : Cond.native arraycopyName ∈ gt) (hstat : Cond.static arraycopyName ∈ gt) (hini : Cond.initialized "java/lang/System" ∈ gt) (q0 q1 : Nat) (ha0 : ws[q0]? = some (a0, .inl (k 0, n0, .inl (fun i : Nat => iI (f i))))) (ha1 : ws[q1]? = some (a, .inl (k 0, n1, .inl (fun i : Nat => iI (g i))))) {sp dp z : Int} (h1 : 0 ≤ sp ∧ sp < 2147483648) (h2 : 0 ≤ dp ∧ dp < 2147483648) (hz : 0 ≤ z ∧ z < 2147483648) (h4 : sp + z ≤ n0) (h5 : dp + z ≤ n1)
    (hfr : 1 ≤ R.frames) (hlo : (rest.map fun v => v.category).sum + (nativeFrameWords "java/lang/System" "arraycopy" 5 + 11) ≤ R.locals) (hdg : decode cc pc = .ok (.invokestatic index, 3))
    (kk : ∀ (H1 : Heap) (locs1 : List Loc), bd p s m args meth c cc nL own dC dI k A (ws.set q1 (a, .inl (k 0, n1, .inl (fun i : Nat => iI (cpz f g sp dp z i))))) H1 locs1 → W p l e R s m args below meth c H1 locs1 cells slots Q (F0 m (pc + 3) ls rest)) : W p l e R s m args below meth c H locs cells slots Q (F0 m pc ls (.int (iI z) :: .int (iI dp) :: .ref a :: .int (iI sp) :: .ref a0 :: rest)) := by
  obtain ⟨⟨hx, hb, hml, hown, hts, hlk⟩, hE, hA, hP, hD, hS⟩ := B
  refine va_copyi (ty := .int) hx hb (by rw [hml]; exact hls.1.symm) hown (hts _ hlink) (hts _ hnat) (hts _ hstat) (hts _ hini) hE.1 hP hD hS q0 q1 0 0 ha0 ha1 rfl rfl rfl (iI_nn h1) (iI_nn h2) (iI_nn hz) (by rw [iI_clz h1, iI_clz hz]; omega) (by rw [iI_clz h2, iI_clz hz]; omega) (fun i hi => rfl) hfr hlo hdg (fun H1 locs1 g1 g2 g3 => ?_)
  have e := cpz_cpy (f := fun i => iI (f i)) (g := fun i => iI (g i)) h1.1 h2.1 hz.1
  have e2 : (fun i : Nat => cpz (fun i => iI (f i)) (fun i => iI (g i)) sp dp z (i : Int)) = fun i : Nat => iI (cpz f g sp dp z i) := by
    funext i
    simp only [cpz]
    split <;> rfl
  rw [iI_clz h1, iI_clz h2, iI_clz hz, e, e2] at g1 g2
  exact kk H1 locs1 ⟨⟨hx, hb, hml, hown, hts, hlk⟩, hE, hA, g1, g2, g3⟩
/-- an array of ints, cloned -/
theorem x_clone {a n index : Nat} {f : Int → Int} (B : bd p s m args meth c cc nL own dC dI k A ws H locs) (hls : lv_has ls nL lv) (hlink : Cond.methodLink own index ⟨"[I", "clone", "()Ljava/lang/Object;"⟩ ∈ gt) (hsame : Cond.sameMethod "[I" "java/lang/Object" "clone" "()Ljava/lang/Object;" ∈ gt) (hnat : Cond.native ⟨"java/lang/Object", "clone", "()Ljava/lang/Object;"⟩ ∈ gt) (hinst : Cond.instanceMethod ⟨"java/lang/Object", "clone", "()Ljava/lang/Object;"⟩ ∈ gt) (hsel : Cond.selects "[I" ⟨"[I", "clone", "()Ljava/lang/Object;"⟩ ⟨"java/lang/Object", "clone", "()Ljava/lang/Object;"⟩ ∈ gt)
    (q0 : Nat) (ha : ws[q0]? = some (a, .inl (k 0, n, .inl (fun i : Nat => iI (f i))))) (hfr : 1 ≤ R.frames) (hlo : (rest.map fun v => v.category).sum + 14 ≤ R.locals) (hcells : cells + 1 ≤ R.cells) (hslots : slots + n ≤ R.slots) (hdg : decode cc pc = .ok (.invokevirtual index, 3))
    (kk : ∀ (q : Nat) (H1 : Heap), bd p s m args meth c cc nL own dC dI k A (ws ++ [(q, .inl (k 0, n, .inl (fun i : Nat => iI (f i))))]) H1 locs → W p l e R s m args below meth c H1 locs (cells + 1) (slots + n) Q (F0 m (pc + 3) ls (.ref q :: rest))) : W p l e R s m args below meth c H locs cells slots Q (F0 m pc ls (.ref a :: rest)) := by
  obtain ⟨⟨hx, hb, hml, hown, hts, hlk⟩, hE, hA, hP, hD, hS⟩ := B
  have hra : va_RA s (k 0) .int := (hE.1.2 0 _ rfl).2
  refine va_clone hx hb (by rw [hml]; exact hls.1.symm) hown (hts _ hlink) (hts _ hsame) (hts _ hnat) (hts _ hinst) (hts _ hsel) (hE.2.1.2.1 ("[I", "java/lang/Cloneable") (by simp [nCS])) hE.1 hP hD hS hA q0 0 ha rfl hra (fun i v hv => ?_) hfr hlo hcells hslots hdg (fun q H1 _ h1 h2 h3 => kk q H1 ⟨⟨hx, hb, hml, hown, hts, hlk⟩, hE, hA, h1, h2, h3⟩)
  have hv2 : (arrV (k 0) n (fun i => Value.int (iI (f (i : Nat))))).slots[i]? = some v := hv
  by_cases h : i < n
  · rw [arrV_read _ _ h] at hv2
    cases hv2
    rfl
  · have : (arrV (k 0) n (fun i => Value.int (iI (f (i : Nat))))).slots.size ≤ i := by rw [arrV_size]; omega
    rw [Array.getElem?_eq_none this] at hv2
    cases hv2
theorem x_dalen (B : bd p s m args meth c cc nL own dC dI k A ws H locs) (hdg : decode cc pc = .ok (.arraylength, 1)) (kk : W p l e R s m args below meth c H locs cells slots Q (F0 m (pc + 1) ls (.int (iI 0) :: rest))) : W p l e R s m args below meth c H locs cells slots Q (F0 m pc ls (.ref (dI 99 1) :: rest)) :=
  va_tlen B.1.1 B.1.2.1 B.2.1.2.2.2.2.2.1.2 B.2.2.2.2.2 (v := iI 0) (by decide) hdg kk
end ROWS4
