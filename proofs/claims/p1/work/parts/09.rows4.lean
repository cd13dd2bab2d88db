/-! rows over 'bd': arrays of references, the empty array of all lists -/
section ROWS4
variable {p : Program} {l : Launch} {e : Env} {R : Room} {s : State} {m : MethodId} {args : Array Value} {below : List Frame} {meth : Method} {c : Code} {H : Heap} {locs : List Loc} {cells slots : Nat} {Q : State → Prop}
variable {dC : Nat → ClassId} {dI : Nat → Nat → Nat} {k : Nat → ClassId} {A : Nat → Prop} {cc : ByteArray} {nL : Nat} {own : String} {ws : va_W} {pc : Nat} {ls : Array Slot} {rest st0 : List Value} {lv : List (Nat × Value)}
theorem pr_obj (C : String) : ∀ (U : State) (c1 c2 : ClassId), va_RA U c1 (.object C) → va_RA U c2 (.object C) → c1 = c2 := fun U c1 c2 h1 h2 => by
  obtain ⟨_, _, _, _, _, e1⟩ := h1
  obtain ⟨_, _, _, _, _, e2⟩ := h2
  exact Option.some.inj (e1.symm.trans e2)
theorem x_anew (B : bd p s m args meth c cc nL own dC dI k A ws H locs) {C : String} {index : Nat} (hcl : Cond.classLink own index C ∈ gt) (hov : va_AO C s) (t0 : Nat) {cT : ClassId} (ht : (ty5 k)[t0]? = some (cT, .object C)) {i : Int32} {N' : Nat} (hn : ¬ i < 0) (hN : i.toNatClampNeg = N') (hbytes : N' * 4 ≤ 536870912) (hcells : cells + 1 ≤ R.cells) (hslots : slots + N' ≤ R.slots) (hdg : decode cc pc = .ok (.anewarray index, 3))
    (kk : ∀ (q : Nat) (H1 : Heap), bd p s m args meth c cc nL own dC dI k A (ws ++ [(q, .inl (cT, N', .inr (.inr (.inr (.inr (fun _ => none))))))]) H1 locs → W p l e R s m args below meth c H1 locs (cells + 1) (slots + N') Q (F0 m (pc + 3) ls (.ref q :: rest))) : W p l e R s m args below meth c H locs cells slots Q (F0 m pc ls (.int i :: rest)) := by
  obtain ⟨⟨hx, hb, hml, hown, hts, hlk⟩, hE, hA, hP, hD, hS⟩ := B
  refine va_newq hx hb hown (hts _ hcl) hov hE.1 hP hD hS hA hn hN hbytes hcells hslots hdg (fun q cA H1 hK1 h1 h2 h3 => ?_)
  have e1 := (hK1.2 5 (cA, .object C) (by simp [ty5])).2
  have e2 := (hE.1.2 t0 (cT, .object C) ht).2
  have e3 : cA = cT := pr_obj C s cA cT e1 e2
  subst e3
  exact kk q H1 ⟨⟨hx, hb, hml, hown, hts, hlk⟩, hE, hA, h1, h2, h3⟩
theorem x_astq {a n v : Nat} {vs : List Value} {f : Nat → Option Nat} (B : bd p s m args meth c cc nL own dC dI k A ws H locs) (q0 qk : Nat) (ha : ws[q0]? = some (a, .inl (k 3, n, .inr (.inr (.inr (.inr f)))))) (hv : ws[qk]? = some (v, .inr (1, vs))) {i : Int32} (hin : vp_in i n) (hdg : decode cc pc = .ok (.aastore, 1)) {j : Nat} (hj : i.toNatClampNeg = j)
    (kk : ∀ (H1 : Heap) (locs1 : List Loc), bd p s m args meth c cc nL own dC dI k A (ws.set q0 (a, .inl (k 3, n, .inr (.inr (.inr (.inr (va_up f j (some v)))))))) H1 locs1 → W p l e R s m args below meth c H1 locs1 cells slots Q (F0 m (pc + 1) ls rest)) : W p l e R s m args below meth c H locs cells slots Q (F0 m pc ls (.ref v :: .int i :: .ref a :: rest)) := by
  obtain ⟨⟨hx, hb, hml, hown, hts, hlk⟩, hE, hA, hP, hD, hS⟩ := B
  refine va_astq (r := (RX1, TX1, 17)) hx hb hE.1 hP hD hS q0 3 qk 1 ha rfl hv rfl hin hdg (fun H1 locs1 h1 h2 h3 => ?_)
  rw [hj] at h1 h2
  exact kk H1 locs1 ⟨⟨hx, hb, hml, hown, hts, hlk⟩, hE, hA, h1, h2, h3⟩
theorem x_astqO {a n v : Nat} {vs : List Value} {f : Nat → Option Nat} (B : bd p s m args meth c cc nL own dC dI k A ws H locs) (q0 qk : Nat) (ha : ws[q0]? = some (a, .inl (k 4, n, .inr (.inr (.inr (.inr f)))))) (hv : ws[qk]? = some (v, .inr (0, vs))) {i : Int32} (hin : vp_in i n) (hdg : decode cc pc = .ok (.aastore, 1)) {j : Nat} (hj : i.toNatClampNeg = j)
    (kk : ∀ (H1 : Heap) (locs1 : List Loc), bd p s m args meth c cc nL own dC dI k A (ws.set q0 (a, .inl (k 4, n, .inr (.inr (.inr (.inr (va_up f j (some v)))))))) H1 locs1 → W p l e R s m args below meth c H1 locs1 cells slots Q (F0 m (pc + 1) ls rest)) : W p l e R s m args below meth c H locs cells slots Q (F0 m pc ls (.ref v :: .int i :: .ref a :: rest)) := by
  obtain ⟨⟨hx, hb, hml, hown, hts, hlk⟩, hE, hA, hP, hD, hS⟩ := B
  refine va_astqO (r := (RX0, TX0, 4)) (E := "java/lang/Object") hx hb hE.1 hP hD hS q0 4 qk 0 ha rfl hE.2.1.2.2.2.2.2.1 hv rfl hin hdg (fun H1 locs1 h1 h2 h3 => ?_)
  rw [hj] at h1 h2
  exact kk H1 locs1 ⟨⟨hx, hb, hml, hown, hts, hlk⟩, hE, hA, h1, h2, h3⟩
theorem cpy0 {α : Type} (f : Nat → α) (a b : Nat) : va_cpy f f a b 0 = f := by
  funext j
  show (if b ≤ j ∧ j < b + 0 then f (a + (j - b)) else f j) = f j
  rw [if_neg (by omega)]
/-- arraycopy of no element, within one array of objects -/
theorem x_copy0 {a n : Nat} {f : Nat → Option Nat} {index : Nat} (B : bd p s m args meth c cc nL own dC dI k A ws H locs) (hls : lv_has ls nL lv) (hlink : Cond.methodLink own index arraycopyName ∈ gt) (hnat : Cond.native arraycopyName ∈ gt) (hstat : Cond.static arraycopyName ∈ gt) (hini : Cond.initialized "java/lang/System" ∈ gt) (q0 : Nat) (ha : ws[q0]? = some (a, .inl (k 4, n, .inr (.inr (.inr (.inr f)))))) {sp dp z : Int32} (h1 : ¬ sp < 0) (h2 : ¬ dp < 0) (hz : z = 0) (h4 : sp.toNatClampNeg ≤ n) (h5 : dp.toNatClampNeg ≤ n)
    (hfr : 1 ≤ R.frames) (hlo : (rest.map fun v => v.category).sum + (nativeFrameWords "java/lang/System" "arraycopy" 5 + 11) ≤ R.locals) (hdg : decode cc pc = .ok (.invokestatic index, 3))
    (kk : ∀ (H1 : Heap) (locs1 : List Loc), bd p s m args meth c cc nL own dC dI k A ws H1 locs1 → W p l e R s m args below meth c H1 locs1 cells slots Q (F0 m (pc + 3) ls rest)) : W p l e R s m args below meth c H locs cells slots Q (F0 m pc ls (.int z :: .int dp :: .ref a :: .int sp :: .ref a :: rest)) := by
  subst hz
  obtain ⟨⟨hx, hb, hml, hown, hts, hlk⟩, hE, hA, hP, hD, hS⟩ := B
  have e0 : (0 : Int32).toNatClampNeg = 0 := by decide
  refine va_copyq (C := RX0) (E0 := "java/lang/Object") (E1 := "java/lang/Object") hx hb (by rw [hml]; exact hls.1.symm) hown (hts _ hlink) (hts _ hnat) (hts _ hstat) (hts _ hini) hE.1 hP hD hS q0 q0 4 4 ha ha rfl rfl h1 h2 (by decide) (by rw [e0]; exact h4) (by rw [e0]; exact h5) (fun i hi => by rw [e0] at hi; omega) (fun c1 c2 e1 e2 => vb_asgC hE.2.1.2.2.2.2.2.1 c1 c2 e1 e2) hfr hlo hdg (fun H1 locs1 g1 g2 g3 => ?_)
  · have e1 : ws.set q0 (a, .inl (k 4, n, .inr (.inr (.inr (.inr (va_cpy f f sp.toNatClampNeg dp.toNatClampNeg (0 : Int32).toNatClampNeg)))))) = ws := by
      rw [e0, cpy0]
      apply List.ext_getElem?
      intro i
      by_cases h : q0 = i
      · subst h
        rw [ha, List.getElem?_set_self (List.getElem?_eq_some_iff.mp ha).1]
      · rw [List.getElem?_set_ne h]
    rw [e1] at g1 g2
    exact kk H1 locs1 ⟨⟨hx, hb, hml, hown, hts, hlk⟩, hE, hA, g1, g2, g3⟩
theorem x_lalen {ty : FieldType} {n : Int32} {q : Nat} (h : la ty n q A s s.heap) (B : bd p s m args meth c cc nL own dC dI k A ws H locs) (hdg : decode cc pc = .ok (.arraylength, 1)) (kk : W p l e R s m args below meth c H locs cells slots Q (F0 m (pc + 1) ls (.int n :: rest))) : W p l e R s m args below meth c H locs cells slots Q (F0 m pc ls (.ref q :: rest)) := by
  obtain ⟨⟨hx, hb, hml, hown, hts, hlk⟩, hE, hA, hP, hD, hS⟩ := B
  obtain ⟨cell, h1, h2, h3, h4, h5⟩ := h
  exact W.alen (n := n) hx hb (by rw [hS.2.1 _ (Array.getElem?_eq_some_iff.mp h1).1 h5]; exact h1) h2 h4 rfl rfl hdg kk
theorem x_dalen (B : bd p s m args meth c cc nL own dC dI k A ws H locs) (hdg : decode cc pc = .ok (.arraylength, 1)) (kk : W p l e R s m args below meth c H locs cells slots Q (F0 m (pc + 1) ls (.int 0 :: rest))) : W p l e R s m args below meth c H locs cells slots Q (F0 m pc ls (.ref (dI 99 1) :: rest)) := x_lalen B.2.1.2.2.2.2.2.1.2 B hdg kk
end ROWS4
