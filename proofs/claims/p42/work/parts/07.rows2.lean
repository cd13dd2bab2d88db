/-! rows over 'bd', continued: fields, arrays -/
section ROWS2
variable {p : Program} {l : Launch} {e : Env} {R : Room} {s : State} {m : MethodId} {args : Array Value} {below : List Frame} {meth : Method} {c : Code} {H : Heap} {locs : List Loc} {cells slots : Nat} {Q : State → Prop}
variable {dC : Nat → ClassId} {dI : Nat → Nat → Nat} {k : Nat → ClassId} {A : Nat → Prop} {cc : ByteArray} {nL : Nat} {own : String} {ws : va_W} {pc : Nat} {ls : Array Slot} {rest st0 : List Value} {lv : List (Nat × Value)}
section FIELDS
variable {C ref : String} {T : u_T} {N ci index a : Nat} {fs : List Value}
theorem x_get (B : bd p s m args meth c cc nL own dC dI k A ws H locs) (q0 : Nat) (he : ws[q0]? = some (a, .inr (ci, fs))) (hc : classes[ci]? = some (C, T, N)) (hin : ∀ w ∈ u_ws C T N, w ∈ gt) (k0 : Nat) (hk : k0 < N) (hlink : Cond.fieldLink own index ref (T k0).2.1 (T k0).2.2.1 ∈ gt) (hsame : ∀ x, s.fieldFound? (T k0).1 (T k0).2.1 (T k0).2.2.1 = some x → s.fieldFound? ref (T k0).2.1 (T k0).2.2.1 = some x) {v : Value} (hv : fs[k0]? = some v) (hdg : decode cc pc = .ok (.getfield index, 3))
    (kk : W p l e R s m args below meth c H locs cells slots Q (F0 m (pc + 3) ls (v :: rest))) : W p l e R s m args below meth c H locs cells slots Q (F0 m pc ls (.ref a :: rest)) := by
  obtain ⟨⟨hx, hb, hml, hown, hts, hlk⟩, hE, hA, hP, hD, hS⟩ := B
  exact va_get hx hb hts hin hown hE.1 hP q0 he hc k0 hk (hts _ hlink) hsame hv hdg kk
theorem x_put (B : bd p s m args meth c cc nL own dC dI k A ws H locs) {ty0 : Nat → FieldType} (hty : ∀ k, k < N → parseFieldDescriptor (T k).2.2.1 = some (ty0 k)) (hnm : ∀ a, a < N → ∀ b, b < N → a ≠ b → (T a).2.1 ≠ (T b).2.1) (q0 : Nat) (he : ws[q0]? = some (a, .inr (ci, fs))) (hc : classes[ci]? = some (C, T, N)) (hin : ∀ w ∈ u_ws C T N, w ∈ gt) (k0 : Nat) (hk : k0 < N) (hlink : Cond.fieldLink own index ref (T k0).2.1 (T k0).2.2.1 ∈ gt) (hsame : ∀ x, s.fieldFound? (T k0).1 (T k0).2.1 (T k0).2.2.1 = some x → s.fieldFound? ref (T k0).2.1 (T k0).2.2.1 = some x) (hfin : (T k0).2.2.2 = false) {ty : FieldType} {v : Value} (hd : parseFieldDescriptor (T k0).2.2.1 = some ty) (hn : narrow ty v = v) (hfit : fits ty v = true) (hl : k0 < fs.length) (hdg : decode cc pc = .ok (.putfield index, 3))
    (kk : ∀ (H1 : Heap) (locs1 : List Loc), bd p s m args meth c cc nL own dC dI k A (ws.set q0 (a, .inr (ci, fs.set k0 v))) H1 locs1 → W p l e R s m args below meth c H1 locs1 cells slots Q (F0 m (pc + 3) ls rest)) : W p l e R s m args below meth c H locs cells slots Q (F0 m pc ls (v :: .ref a :: rest)) := by
  obtain ⟨⟨hx, hb, hml, hown, hts, hlk⟩, hE, hA, hP, hD, hS⟩ := B
  exact va_put hx hb hts hin ty0 hty hnm hown hE.1 hP hD hS q0 he hc k0 hk (hts _ hlink) hsame hfin hd hn hfit hl hdg (fun H1 locs1 h1 h2 h3 => kk H1 locs1 ⟨⟨hx, hb, hml, hown, hts, hlk⟩, hE, hA, h1, h2, h3⟩)
theorem x_putF (B : bd p s m args meth c cc nL own dC dI k A ws H locs) {ty0 : Nat → FieldType} (hty : ∀ k, k < N → parseFieldDescriptor (T k).2.2.1 = some (ty0 k)) (hnm : ∀ a, a < N → ∀ b, b < N → a ≠ b → (T a).2.1 ≠ (T b).2.1) (q0 : Nat) (he : ws[q0]? = some (a, .inr (ci, fs))) (hc : classes[ci]? = some (C, T, N)) (hin : ∀ w ∈ u_ws C T N, w ∈ gt) (k0 : Nat) (hk : k0 < N) (hlink : Cond.fieldLink own index ref (T k0).2.1 (T k0).2.2.1 ∈ gt) (hsame : ∀ x, s.fieldFound? (T k0).1 (T k0).2.1 (T k0).2.2.1 = some x → s.fieldFound? ref (T k0).2.1 (T k0).2.2.1 = some x) (hfin : (T k0).2.2.2 = true) (hin0 : meth.name = "<init>") (hdecl : (T k0).1 = own) {ty : FieldType} {v : Value} (hd : parseFieldDescriptor (T k0).2.2.1 = some ty) (hn : narrow ty v = v) (hfit : fits ty v = true) (hl : k0 < fs.length) (hdg : decode cc pc = .ok (.putfield index, 3))
    (kk : ∀ (H1 : Heap) (locs1 : List Loc), bd p s m args meth c cc nL own dC dI k A (ws.set q0 (a, .inr (ci, fs.set k0 v))) H1 locs1 → W p l e R s m args below meth c H1 locs1 cells slots Q (F0 m (pc + 3) ls rest)) : W p l e R s m args below meth c H locs cells slots Q (F0 m pc ls (v :: .ref a :: rest)) := by
  obtain ⟨⟨hx, hb, hml, hown, hts, hlk⟩, hE, hA, hP, hD, hS⟩ := B
  exact va_putF hx hb hts hin ty0 hty hnm hown hE.1 hP hD hS q0 he hc k0 hk (hts _ hlink) hsame hfin hin0 hdecl hd hn hfit hl hdg (fun H1 locs1 h1 h2 h3 => kk H1 locs1 ⟨⟨hx, hb, hml, hown, hts, hlk⟩, hE, hA, h1, h2, h3⟩)
end FIELDS
section ARR
variable {a n : Nat}
theorem x_iald (B : bd p s m args meth c cc nL own dC dI k A ws H locs) (q0 : Nat) {f : Nat → Int32} (ha : ws[q0]? = some (a, .inl (k 0, n, .inl f))) {i : Int32} (hin : vp_in i n) (hdg : decode cc pc = .ok (.iaload, 1)) {v : Int32} (hv : f i.toNatClampNeg = v)
    (kk : W p l e R s m args below meth c H locs cells slots Q (F0 m (pc + 1) ls (.int v :: rest))) : W p l e R s m args below meth c H locs cells slots Q (F0 m pc ls (.int i :: .ref a :: rest)) := by
  obtain ⟨⟨hx, hb, hml, hown, hts, hlk⟩, hE, hA, hP, hD, hS⟩ := B
  refine va_iald hx hb hE.1 hP q0 0 ha rfl hin hdg ?_
  rw [hv]; exact kk
theorem x_zald (B : bd p s m args meth c cc nL own dC dI k A ws H locs) (q0 : Nat) {f : Nat → Int32} (ha : ws[q0]? = some (a, .inl (k 1, n, .inl f))) {i : Int32} (hin : vp_in i n) (hdg : decode cc pc = .ok (.baload, 1)) {v : Int32} (hv : f i.toNatClampNeg = v)
    (kk : W p l e R s m args below meth c H locs cells slots Q (F0 m (pc + 1) ls (.int v :: rest))) : W p l e R s m args below meth c H locs cells slots Q (F0 m pc ls (.int i :: .ref a :: rest)) := by
  obtain ⟨⟨hx, hb, hml, hown, hts, hlk⟩, hE, hA, hP, hD, hS⟩ := B
  refine va_zald hx hb hE.1 hP q0 1 ha rfl hin hdg ?_
  rw [hv]; exact kk
theorem x_lald (B : bd p s m args meth c cc nL own dC dI k A ws H locs) (q0 : Nat) {f : Nat → Int64} (ha : ws[q0]? = some (a, .inl (k 2, n, .inr (.inl f)))) {i : Int32} (hin : vp_in i n) (hdg : decode cc pc = .ok (.laload, 1)) {v : Int64} (hv : f i.toNatClampNeg = v)
    (kk : W p l e R s m args below meth c H locs cells slots Q (F0 m (pc + 1) ls (.long v :: rest))) : W p l e R s m args below meth c H locs cells slots Q (F0 m pc ls (.int i :: .ref a :: rest)) := by
  obtain ⟨⟨hx, hb, hml, hown, hts, hlk⟩, hE, hA, hP, hD, hS⟩ := B
  refine va_lald hx hb hE.1 hP q0 2 ha rfl hin hdg ?_
  rw [hv]; exact kk
theorem x_aldq (B : bd p s m args meth c cc nL own dC dI k A ws H locs) (q0 : Nat) {f : Nat → Option Nat} (ha : ws[q0]? = some (a, .inl (k 3, n, .inr (.inr (.inr (.inr f)))))) {i : Int32} (hin : vp_in i n) (hdg : decode cc pc = .ok (.aaload, 1)) {v : Nat} (hv : f i.toNatClampNeg = some v)
    (kk : W p l e R s m args below meth c H locs cells slots Q (F0 m (pc + 1) ls (.ref v :: rest))) : W p l e R s m args below meth c H locs cells slots Q (F0 m pc ls (.int i :: .ref a :: rest)) := by
  obtain ⟨⟨hx, hb, hml, hown, hts, hlk⟩, hE, hA, hP, hD, hS⟩ := B
  refine va_aldq hx hb hE.1 hP q0 3 ha rfl hin hdg ?_
  rw [hv]; exact kk
theorem x_iast (B : bd p s m args meth c cc nL own dC dI k A ws H locs) (q0 : Nat) {f : Nat → Int32} (ha : ws[q0]? = some (a, .inl (k 0, n, .inl f))) {i : Int32} {x : Int32} (hin : vp_in i n) (hdg : decode cc pc = .ok (.iastore, 1)) {j : Nat} (hj : i.toNatClampNeg = j)
    (kk : ∀ (H1 : Heap) (locs1 : List Loc), bd p s m args meth c cc nL own dC dI k A (ws.set q0 (a, .inl (k 0, n, .inl (upd f j x)))) H1 locs1 → W p l e R s m args below meth c H1 locs1 cells slots Q (F0 m (pc + 1) ls rest)) : W p l e R s m args below meth c H locs cells slots Q (F0 m pc ls (.int x :: .int i :: .ref a :: rest)) := by
  obtain ⟨⟨hx, hb, hml, hown, hts, hlk⟩, hE, hA, hP, hD, hS⟩ := B
  refine va_iast hx hb hE.1 hP hD hS q0 0 ha rfl hin hdg (fun H1 locs1 h1 h2 h3 => ?_)
  rw [hj] at h1 h2
  exact kk H1 locs1 ⟨⟨hx, hb, hml, hown, hts, hlk⟩, hE, hA, h1, h2, h3⟩
theorem x_zast (B : bd p s m args meth c cc nL own dC dI k A ws H locs) (q0 : Nat) {f : Nat → Int32} (ha : ws[q0]? = some (a, .inl (k 1, n, .inl f))) {i : Int32} {x x' : Int32} (hx' : vp_nar .boolean x = x') (hin : vp_in i n) (hdg : decode cc pc = .ok (.bastore, 1)) {j : Nat} (hj : i.toNatClampNeg = j)
    (kk : ∀ (H1 : Heap) (locs1 : List Loc), bd p s m args meth c cc nL own dC dI k A (ws.set q0 (a, .inl (k 1, n, .inl (upd f j x')))) H1 locs1 → W p l e R s m args below meth c H1 locs1 cells slots Q (F0 m (pc + 1) ls rest)) : W p l e R s m args below meth c H locs cells slots Q (F0 m pc ls (.int x :: .int i :: .ref a :: rest)) := by
  obtain ⟨⟨hx, hb, hml, hown, hts, hlk⟩, hE, hA, hP, hD, hS⟩ := B
  refine va_zast hx hb hE.1 hP hD hS q0 1 ha rfl hin hdg (fun H1 locs1 h1 h2 h3 => ?_)
  rw [hj, hx'] at h1 h2
  exact kk H1 locs1 ⟨⟨hx, hb, hml, hown, hts, hlk⟩, hE, hA, h1, h2, h3⟩
theorem x_last (B : bd p s m args meth c cc nL own dC dI k A ws H locs) (q0 : Nat) {f : Nat → Int64} (ha : ws[q0]? = some (a, .inl (k 2, n, .inr (.inl f)))) {i : Int32} {x : Int64} (hin : vp_in i n) (hdg : decode cc pc = .ok (.lastore, 1)) {j : Nat} (hj : i.toNatClampNeg = j)
    (kk : ∀ (H1 : Heap) (locs1 : List Loc), bd p s m args meth c cc nL own dC dI k A (ws.set q0 (a, .inl (k 2, n, .inr (.inl (vp_updL f j x))))) H1 locs1 → W p l e R s m args below meth c H1 locs1 cells slots Q (F0 m (pc + 1) ls rest)) : W p l e R s m args below meth c H locs cells slots Q (F0 m pc ls (.long x :: .int i :: .ref a :: rest)) := by
  obtain ⟨⟨hx, hb, hml, hown, hts, hlk⟩, hE, hA, hP, hD, hS⟩ := B
  refine va_last hx hb hE.1 hP hD hS q0 2 ha rfl hin hdg (fun H1 locs1 h1 h2 h3 => ?_)
  rw [hj] at h1 h2
  exact kk H1 locs1 ⟨⟨hx, hb, hml, hown, hts, hlk⟩, hE, hA, h1, h2, h3⟩
theorem x_alen (B : bd p s m args meth c cc nL own dC dI k A ws H locs) (q0 t0 : Nat) {cA : ClassId} {x : vp_A} (ha : ws[q0]? = some (a, .inl (cA, x))) {ty : FieldType} (ht : (ty5 k)[t0]? = some (cA, ty)) {v : Int32} (hv : Int32.ofNat x.1 = v) (hdg : decode cc pc = .ok (.arraylength, 1))
    (kk : W p l e R s m args below meth c H locs cells slots Q (F0 m (pc + 1) ls (.int v :: rest))) : W p l e R s m args below meth c H locs cells slots Q (F0 m pc ls (.ref a :: rest)) := by
  obtain ⟨⟨hx, hb, hml, hown, hts, hlk⟩, hE, hA, hP, hD, hS⟩ := B
  exact va_alen hx hb hE.1 hP q0 t0 ha ht hv hdg kk
theorem x_newa (B : bd p s m args meth c cc nL own dC dI k A ws H locs) {atype : ArrayType} (harr : Cond.arrayClass (newarray.typeOf atype) ∈ gt) {ty : FieldType} (hty : newarray.typeOf atype = ty) (t0 : Nat) {cT : ClassId} (ht : (ty5 k)[t0]? = some (cT, ty)) (hprim : ∀ (U : State) (c1 c2 : ClassId), va_RA U c1 ty → va_RA U c2 ty → c1 = c2)
    {i : Int32} {N' : Nat} {a0 : vp_A} (ha : ∀ cA : ClassId, vp_cell cA a0 = arrV cA N' (fun _ => defaultValue ty)) (hn : ¬ i < 0) (hN : i.toNatClampNeg = N') (hbytes : N' * componentBytes ty ≤ 536870912) (hcells : cells + 1 ≤ R.cells) (hslots : slots + N' ≤ R.slots) (hdg : decode cc pc = .ok (.newarray atype, 2))
    (kk : ∀ (q : Nat) (H1 : Heap), bd p s m args meth c cc nL own dC dI k A (ws ++ [(q, .inl (cT, a0))]) H1 locs → W p l e R s m args below meth c H1 locs (cells + 1) (slots + N') Q (F0 m (pc + 2) ls (.ref q :: rest))) : W p l e R s m args below meth c H locs cells slots Q (F0 m pc ls (.int i :: rest)) := by
  obtain ⟨⟨hx, hb, hml, hown, hts, hlk⟩, hE, hA, hP, hD, hS⟩ := B
  refine va_newa hx hb (hts _ harr) hty hE.1 hP hD hS hA ha hn hN hbytes hcells hslots hdg (fun q cA H1 hK1 h1 h2 h3 => ?_)
  have e1 := (hK1.2 5 (cA, ty) (by simp [ty5])).2
  have e2 := (hE.1.2 t0 (cT, ty) ht).2
  have e3 : cA = cT := hprim s cA cT e1 e2
  subst e3
  exact kk q H1 ⟨⟨hx, hb, hml, hown, hts, hlk⟩, hE, hA, h1, h2, h3⟩
theorem pr_int : ∀ (U : State) (c1 c2 : ClassId), va_RA U c1 .int → va_RA U c2 .int → c1 = c2 := fun U c1 c2 h1 h2 => Option.some.inj (h1.symm.trans h2)
theorem pr_bool : ∀ (U : State) (c1 c2 : ClassId), va_RA U c1 .boolean → va_RA U c2 .boolean → c1 = c2 := fun U c1 c2 h1 h2 => Option.some.inj (h1.symm.trans h2)
theorem pr_long : ∀ (U : State) (c1 c2 : ClassId), va_RA U c1 .long → va_RA U c2 .long → c1 = c2 := fun U c1 c2 h1 h2 => Option.some.inj (h1.symm.trans h2)
theorem x_new (B : bd p s m args meth c cc nL own dC dI k A ws H locs) {C : String} {T : u_T} {N ci index : Nat} {ty : Nat → FieldType} (hty : ∀ k, k < N → parseFieldDescriptor (T k).2.2.1 = some (ty k)) (hin : ∀ w ∈ u_ws C T N, w ∈ gt) (hcl : Cond.classLink own index C ∈ gt) (hinst : Cond.instantiable C N ∈ gt) (hini : Cond.initialized C ∈ gt)
    (hc : classes[ci]? = some (C, T, N)) {fs : List Value} (hfs : ∀ j, j < N → defaultValue (ty j) = vp_V fs j) (hcells : cells + 1 ≤ R.cells) (hslots : slots + N ≤ R.slots) (hdg : decode cc pc = .ok (.new index, 3))
    (kk : ∀ (q : Nat) (H1 : Heap), bd p s m args meth c cc nL own dC dI k A (ws ++ [(q, .inr (ci, fs))]) H1 locs → W p l e R s m args below meth c H1 locs (cells + 1) (slots + N) Q (F0 m (pc + 3) ls (.ref q :: rest))) : W p l e R s m args below meth c H locs cells slots Q (F0 m pc ls rest) := by
  obtain ⟨⟨hx, hb, hml, hown, hts, hlk⟩, hE, hA, hP, hD, hS⟩ := B
  exact va_new hx hb hts hin ty hty hown (hts _ hcl) (hts _ hinst) (hts _ hini) hE.1 hP hD hS hA hc hfs hcells hslots hdg (fun q H1 h1 h2 h3 => kk q H1 ⟨⟨hx, hb, hml, hown, hts, hlk⟩, hE, hA, h1, h2, h3⟩)
theorem x_obj (B : bd p s m args meth c cc nL own dC dI k A ws H locs) {idx : Nat} (hk : Cond.methodLink own idx objectInit ∈ gt) (hi : Cond.instanceMethod objectInit ∈ gt) (hco : Cond.code objectInit ⟨#[0xb1]⟩ 1 none ∈ gt) (hl : lv_has ls nL lv) (hdg : decode cc pc = .ok (.invokespecial idx, 3)) (hfr : 1 ≤ R.frames) (hlo : 2 * (F0 m pc ls (.ref a :: rest)).monitorRoom + (rest.map fun v => v.category).sum + 12 ≤ R.locals)
    (kk : W p l e R s m args below meth c H locs cells slots Q (F0 m (pc + 3) ls rest)) : W p l e R s m args below meth c H locs cells slots Q (F0 m pc ls (.ref a :: rest)) := by
  obtain ⟨⟨hx, hb, hml, hown, hts, hlk⟩, hE, hA, hP, hD, hS⟩ := B
  exact W.objInit hx hb hown (hts _ hk) (hts _ hi) (hts _ hco) rfl (by rw [hml]; exact hl.1) rfl hdg hfr hlo kk
end ARR
section ARR2
variable {a n : Nat}
theorem x_aldO (B : bd p s m args meth c cc nL own dC dI k A ws H locs) (q0 : Nat) {f : Nat → Option Nat} (ha : ws[q0]? = some (a, .inl (k 4, n, .inr (.inr (.inr (.inr f)))))) {i : Int32} (hin : vp_in i n) (hdg : decode cc pc = .ok (.aaload, 1)) {v : Option Nat} (hv : f i.toNatClampNeg = v)
    (kk : W p l e R s m args below meth c H locs cells slots Q (F0 m (pc + 1) ls (va_rf v :: rest))) : W p l e R s m args below meth c H locs cells slots Q (F0 m pc ls (.int i :: .ref a :: rest)) := by
  obtain ⟨⟨hx, hb, hml, hown, hts, hlk⟩, hE, hA, hP, hD, hS⟩ := B
  refine va_aldq hx hb hE.1 hP q0 4 ha rfl hin hdg ?_
  rw [hv]; exact kk
theorem x_iald' (B : bd p s m args meth c cc nL own dC dI k A ws H locs) (q0 : Nat) {f : Int → Int} (ha : ws[q0]? = some (a, .inl (k 0, n, .inl (fun i : Nat => iI (f i))))) {z : Int} (hz : 0 ≤ z ∧ z < n ∧ z < 2147483648) (hdg : decode cc pc = .ok (.iaload, 1))
    (kk : W p l e R s m args below meth c H locs cells slots Q (F0 m (pc + 1) ls (.int (iI (f z)) :: rest))) : W p l e R s m args below meth c H locs cells slots Q (F0 m pc ls (.int (iI z) :: .ref a :: rest)) :=
  x_iald B q0 ha (iI_in hz) hdg (v := iI (f z)) (by rw [iI_cl hz, show ((z.toNat : Nat) : Int) = z by omega]) kk
theorem x_zald' (B : bd p s m args meth c cc nL own dC dI k A ws H locs) (q0 : Nat) {f : Int → Int} (ha : ws[q0]? = some (a, .inl (k 1, n, .inl (fun i : Nat => iI (f i))))) {z : Int} (hz : 0 ≤ z ∧ z < n ∧ z < 2147483648) (hdg : decode cc pc = .ok (.baload, 1))
    (kk : W p l e R s m args below meth c H locs cells slots Q (F0 m (pc + 1) ls (.int (iI (f z)) :: rest))) : W p l e R s m args below meth c H locs cells slots Q (F0 m pc ls (.int (iI z) :: .ref a :: rest)) :=
  x_zald B q0 ha (iI_in hz) hdg (v := iI (f z)) (by rw [iI_cl hz, show ((z.toNat : Nat) : Int) = z by omega]) kk
theorem x_lald' (B : bd p s m args meth c cc nL own dC dI k A ws H locs) (q0 : Nat) {f : Int → Int} (ha : ws[q0]? = some (a, .inl (k 2, n, .inr (.inl (fun i : Nat => lI (f i)))))) {z : Int} (hz : 0 ≤ z ∧ z < n ∧ z < 2147483648) (hdg : decode cc pc = .ok (.laload, 1))
    (kk : W p l e R s m args below meth c H locs cells slots Q (F0 m (pc + 1) ls (.long (lI (f z)) :: rest))) : W p l e R s m args below meth c H locs cells slots Q (F0 m pc ls (.int (iI z) :: .ref a :: rest)) :=
  x_lald B q0 ha (iI_in hz) hdg (v := lI (f z)) (by rw [iI_cl hz, show ((z.toNat : Nat) : Int) = z by omega]) kk
theorem x_iast' (B : bd p s m args meth c cc nL own dC dI k A ws H locs) (q0 : Nat) {f : Int → Int} (ha : ws[q0]? = some (a, .inl (k 0, n, .inl (fun i : Nat => iI (f i))))) {z v : Int} (hz : 0 ≤ z ∧ z < n ∧ z < 2147483648) (hdg : decode cc pc = .ok (.iastore, 1))
    (kk : ∀ (H1 : Heap) (locs1 : List Loc), bd p s m args meth c cc nL own dC dI k A (ws.set q0 (a, .inl (k 0, n, .inl (fun i : Nat => iI (uz f z v i))))) H1 locs1 → W p l e R s m args below meth c H1 locs1 cells slots Q (F0 m (pc + 1) ls rest)) : W p l e R s m args below meth c H locs cells slots Q (F0 m pc ls (.int (iI v) :: .int (iI z) :: .ref a :: rest)) := by
  refine x_iast B q0 ha (iI_in hz) hdg (iI_cl hz) (fun H1 locs1 B1 => kk H1 locs1 ?_)
  rw [uz_I hz.1] at B1
  exact B1
theorem x_zast' (B : bd p s m args meth c cc nL own dC dI k A ws H locs) (q0 : Nat) {f : Int → Int} (ha : ws[q0]? = some (a, .inl (k 1, n, .inl (fun i : Nat => iI (f i))))) {z v : Int} (hv : v = 0 ∨ v = 1) (hz : 0 ≤ z ∧ z < n ∧ z < 2147483648) (hdg : decode cc pc = .ok (.bastore, 1))
    (kk : ∀ (H1 : Heap) (locs1 : List Loc), bd p s m args meth c cc nL own dC dI k A (ws.set q0 (a, .inl (k 1, n, .inl (fun i : Nat => iI (uz f z v i))))) H1 locs1 → W p l e R s m args below meth c H1 locs1 cells slots Q (F0 m (pc + 1) ls rest)) : W p l e R s m args below meth c H locs cells slots Q (F0 m pc ls (.int (iI v) :: .int (iI z) :: .ref a :: rest)) := by
  refine x_zast B q0 ha (x' := iI v) (by rcases hv with rfl | rfl <;> decide) (iI_in hz) hdg (iI_cl hz) (fun H1 locs1 B1 => kk H1 locs1 ?_)
  rw [uz_I hz.1] at B1
  exact B1
theorem x_last' (B : bd p s m args meth c cc nL own dC dI k A ws H locs) (q0 : Nat) {f : Int → Int} (ha : ws[q0]? = some (a, .inl (k 2, n, .inr (.inl (fun i : Nat => lI (f i)))))) {z v : Int} (hz : 0 ≤ z ∧ z < n ∧ z < 2147483648) (hdg : decode cc pc = .ok (.lastore, 1))
    (kk : ∀ (H1 : Heap) (locs1 : List Loc), bd p s m args meth c cc nL own dC dI k A (ws.set q0 (a, .inl (k 2, n, .inr (.inl (fun i : Nat => lI (uz f z v i)))))) H1 locs1 → W p l e R s m args below meth c H1 locs1 cells slots Q (F0 m (pc + 1) ls rest)) : W p l e R s m args below meth c H locs cells slots Q (F0 m pc ls (.long (lI v) :: .int (iI z) :: .ref a :: rest)) := by
  refine x_last B q0 ha (iI_in hz) hdg (iI_cl hz) (fun H1 locs1 B1 => kk H1 locs1 ?_)
  rw [uz_L hz.1] at B1
  exact B1
theorem x_alen' (B : bd p s m args meth c cc nL own dC dI k A ws H locs) (q0 t0 : Nat) {cA : ClassId} {x : (Nat → Int32) ⊕ (Nat → Int64) ⊕ (Nat → UInt32) ⊕ (Nat → UInt64) ⊕ (Nat → Option Nat)} (ha : ws[q0]? = some (a, .inl (cA, n, x))) {ty : FieldType} (ht : (ty5 k)[t0]? = some (cA, ty)) (hdg : decode cc pc = .ok (.arraylength, 1))
    (kk : W p l e R s m args below meth c H locs cells slots Q (F0 m (pc + 1) ls (.int (iI (n : Int)) :: rest))) : W p l e R s m args below meth c H locs cells slots Q (F0 m pc ls (.ref a :: rest)) := x_alen B q0 t0 ha ht (v := iI (n : Int)) (iI_nat n).symm hdg kk
/-- the widths of the letters -/
theorem x_lw (B : bd p s m args meth c cc nL own dC dI k A ws H locs) {lw : Nat} (hT : va_T .int lw 4 (fun j => .int (iI (LWz j))) A s s.heap) {z : Int} (hz : 0 ≤ z ∧ z < 4) (hdg : decode cc pc = .ok (.iaload, 1))
    (kk : W p l e R s m args below meth c H locs cells slots Q (F0 m (pc + 1) ls (.int (iI (LWz z)) :: rest))) : W p l e R s m args below meth c H locs cells slots Q (F0 m pc ls (.int (iI z) :: .ref lw :: rest)) := by
  obtain ⟨⟨hx, hb, hml, hown, hts, hlk⟩, hE, hA, hP, hD, hS⟩ := B
  refine va_ti hx hb hT hS (iI_in (n := 4) (by omega)) (v := .int (iI (LWz z))) ?_ hdg kk
  rw [iI_cl (n := 4) (by omega), show ((z.toNat : Nat) : Int) = z by omega]
theorem x_lwlen (B : bd p s m args meth c cc nL own dC dI k A ws H locs) {lw : Nat} (hT : va_T .int lw 4 (fun j => .int (iI (LWz j))) A s s.heap) (hdg : decode cc pc = .ok (.arraylength, 1))
    (kk : W p l e R s m args below meth c H locs cells slots Q (F0 m (pc + 1) ls (.int (iI 4) :: rest))) : W p l e R s m args below meth c H locs cells slots Q (F0 m pc ls (.ref lw :: rest)) :=
  va_tlen B.1.1 B.1.2.1 hT B.2.2.2.2.2 (v := iI 4) (by decide) hdg kk
/-- an object is cast to its own class -/
theorem x_cast (B : bd p s m args meth c cc nL own dC dI k A ws H locs) (q0 : Nat) {ci index N : Nat} {C : String} {T : u_T} {fs : List Value} (he : ws[q0]? = some (a, .inr (ci, fs))) (hc : classes[ci]? = some (C, T, N)) (hlink : Cond.classLink own index C ∈ gt) (hdg : decode cc pc = .ok (.checkcast index, 3))
    (kk : W p l e R s m args below meth c H locs cells slots Q (F0 m (pc + 3) ls (.ref a :: rest))) : W p l e R s m args below meth c H locs cells slots Q (F0 m pc ls (.ref a :: rest)) := by
  obtain ⟨⟨hx, hb, hml, hown, hts, hlk⟩, hE, hA, hP, hD, hS⟩ := B
  have hr := va_recv hE.1 hP hc he
  exact va_castS hx hb hown (hts _ hlink) (hE.1.1 ci _ hc).2 hr hdg kk
end ARR2
end ROWS2
