/-! rows over 'bd': arrays, ends, throws -/
section ROWS3
variable {p : Program} {l : Launch} {e : Env} {R : Room} {s : State} {m : MethodId} {args : Array Value} {below : List Frame} {meth : Method} {c : Code} {H : Heap} {locs : List Loc} {cells slots : Nat} {Q : State → Prop}
variable {dC : Nat → ClassId} {dI : Nat → Nat → Nat} {k : Nat → ClassId} {A : Nat → Prop} {cc : ByteArray} {nL : Nat} {own : String} {ws : va_W} {pc : Nat} {ls : Array Slot} {rest st0 : List Value} {lv : List (Nat × Value)}
section ARR
variable {a n : Nat}
theorem x_iald (B : bd p s m args meth c cc nL own dC dI k A ws H locs) (q0 : Nat) {f : Nat → Int32} (ha : ws[q0]? = some (a, .inl (k 0, n, .inl f))) {i : Int32} (hin : vp_in i n) (hdg : decode cc pc = .ok (.iaload, 1)) {v : Int32} (hv : f i.toNatClampNeg = v)
    (kk : W p l e R s m args below meth c H locs cells slots Q (F0 m (pc + 1) ls (.int v :: rest))) : W p l e R s m args below meth c H locs cells slots Q (F0 m pc ls (.int i :: .ref a :: rest)) := by
  obtain ⟨⟨hx, hb, hml, hown, hts, hlk⟩, hE, hA, hP, hD, hS⟩ := B
  refine va_iald hx hb hE.1 hP q0 0 ha rfl hin hdg ?_
  rw [hv]; exact kk
theorem x_zald (B : bd p s m args meth c cc nL own dC dI k A ws H locs) (q0 : Nat) {f : Nat → Int32} (ha : ws[q0]? = some (a, .inl (k 1, n, .inl f))) {i : Int32} (hin : vp_in i n) (hdg : decode cc pc = .ok (.baload, 1)) {v : Int32} (hv : f i.toNatClampNeg = v)
    (kk : W p l e R s m args below meth c H locs cells slots Q (F0 m (pc + 1) ls (.int v :: rest))) : W p l e R s m args below meth c H locs cells slots Q (F0 m pc ls (.int i :: .ref a :: rest)) := by
  obtain ⟨⟨hx, hb, hml, hown, hts, hlk⟩, hE, hA, hP, hD, hS⟩ := B
  refine va_zald hx hb hE.1 hP q0 1 ha rfl hin hdg ?_
  rw [hv]; exact kk
theorem x_lald (B : bd p s m args meth c cc nL own dC dI k A ws H locs) (q0 : Nat) {f : Nat → Int64} (ha : ws[q0]? = some (a, .inl (k 2, n, .inr (.inl f)))) {i : Int32} (hin : vp_in i n) (hdg : decode cc pc = .ok (.laload, 1)) {v : Int64} (hv : f i.toNatClampNeg = v)
    (kk : W p l e R s m args below meth c H locs cells slots Q (F0 m (pc + 1) ls (.long v :: rest))) : W p l e R s m args below meth c H locs cells slots Q (F0 m pc ls (.int i :: .ref a :: rest)) := by
  obtain ⟨⟨hx, hb, hml, hown, hts, hlk⟩, hE, hA, hP, hD, hS⟩ := B
  refine va_lald hx hb hE.1 hP q0 2 ha rfl hin hdg ?_
  rw [hv]; exact kk
theorem x_aldq (B : bd p s m args meth c cc nL own dC dI k A ws H locs) (q0 : Nat) {f : Nat → Option Nat} (ha : ws[q0]? = some (a, .inl (k 3, n, .inr (.inr (.inr (.inr f)))))) {i : Int32} (hin : vp_in i n) (hdg : decode cc pc = .ok (.aaload, 1)) {v : Nat} (hv : f i.toNatClampNeg = some v)
    (kk : W p l e R s m args below meth c H locs cells slots Q (F0 m (pc + 1) ls (.ref v :: rest))) : W p l e R s m args below meth c H locs cells slots Q (F0 m pc ls (.int i :: .ref a :: rest)) := by
  obtain ⟨⟨hx, hb, hml, hown, hts, hlk⟩, hE, hA, hP, hD, hS⟩ := B
  refine va_aldq hx hb hE.1 hP q0 3 ha rfl hin hdg ?_
  rw [hv]; exact kk
theorem x_iast (B : bd p s m args meth c cc nL own dC dI k A ws H locs) (q0 : Nat) {f : Nat → Int32} (ha : ws[q0]? = some (a, .inl (k 0, n, .inl f))) {i : Int32} {x : Int32} (hin : vp_in i n) (hdg : decode cc pc = .ok (.iastore, 1)) {j : Nat} (hj : i.toNatClampNeg = j)
    (kk : ∀ (H1 : Heap) (locs1 : List Loc), bd p s m args meth c cc nL own dC dI k A (ws.set q0 (a, .inl (k 0, n, .inl (upd f j x)))) H1 locs1 → W p l e R s m args below meth c H1 locs1 cells slots Q (F0 m (pc + 1) ls rest)) : W p l e R s m args below meth c H locs cells slots Q (F0 m pc ls (.int x :: .int i :: .ref a :: rest)) := by
  obtain ⟨⟨hx, hb, hml, hown, hts, hlk⟩, hE, hA, hP, hD, hS⟩ := B
  refine va_iast hx hb hE.1 hP hD hS q0 0 ha rfl hin hdg (fun H1 locs1 h1 h2 h3 => ?_)
  rw [hj] at h1 h2
  exact kk H1 locs1 ⟨⟨hx, hb, hml, hown, hts, hlk⟩, hE, hA, h1, h2, h3⟩
theorem x_zast (B : bd p s m args meth c cc nL own dC dI k A ws H locs) (q0 : Nat) {f : Nat → Int32} (ha : ws[q0]? = some (a, .inl (k 1, n, .inl f))) {i : Int32} {x x' : Int32} (hx' : vp_nar .boolean x = x') (hin : vp_in i n) (hdg : decode cc pc = .ok (.bastore, 1)) {j : Nat} (hj : i.toNatClampNeg = j)
    (kk : ∀ (H1 : Heap) (locs1 : List Loc), bd p s m args meth c cc nL own dC dI k A (ws.set q0 (a, .inl (k 1, n, .inl (upd f j x')))) H1 locs1 → W p l e R s m args below meth c H1 locs1 cells slots Q (F0 m (pc + 1) ls rest)) : W p l e R s m args below meth c H locs cells slots Q (F0 m pc ls (.int x :: .int i :: .ref a :: rest)) := by
  obtain ⟨⟨hx, hb, hml, hown, hts, hlk⟩, hE, hA, hP, hD, hS⟩ := B
  refine va_zast hx hb hE.1 hP hD hS q0 1 ha rfl hin hdg (fun H1 locs1 h1 h2 h3 => ?_)
  rw [hj, hx'] at h1 h2
  exact kk H1 locs1 ⟨⟨hx, hb, hml, hown, hts, hlk⟩, hE, hA, h1, h2, h3⟩
theorem x_last (B : bd p s m args meth c cc nL own dC dI k A ws H locs) (q0 : Nat) {f : Nat → Int64} (ha : ws[q0]? = some (a, .inl (k 2, n, .inr (.inl f)))) {i : Int32} {x : Int64} (hin : vp_in i n) (hdg : decode cc pc = .ok (.lastore, 1)) {j : Nat} (hj : i.toNatClampNeg = j)
    (kk : ∀ (H1 : Heap) (locs1 : List Loc), bd p s m args meth c cc nL own dC dI k A (ws.set q0 (a, .inl (k 2, n, .inr (.inl (vp_updL f j x))))) H1 locs1 → W p l e R s m args below meth c H1 locs1 cells slots Q (F0 m (pc + 1) ls rest)) : W p l e R s m args below meth c H locs cells slots Q (F0 m pc ls (.long x :: .int i :: .ref a :: rest)) := by
  obtain ⟨⟨hx, hb, hml, hown, hts, hlk⟩, hE, hA, hP, hD, hS⟩ := B
  refine va_last hx hb hE.1 hP hD hS q0 2 ha rfl hin hdg (fun H1 locs1 h1 h2 h3 => ?_)
  rw [hj] at h1 h2
  exact kk H1 locs1 ⟨⟨hx, hb, hml, hown, hts, hlk⟩, hE, hA, h1, h2, h3⟩
theorem x_alen (B : bd p s m args meth c cc nL own dC dI k A ws H locs) (q0 t0 : Nat) {cA : ClassId} {x : vp_A} (ha : ws[q0]? = some (a, .inl (cA, x))) {ty : FieldType} (ht : (ty5 k)[t0]? = some (cA, ty)) {v : Int32} (hv : Int32.ofNat x.1 = v) (hdg : decode cc pc = .ok (.arraylength, 1))
    (kk : W p l e R s m args below meth c H locs cells slots Q (F0 m (pc + 1) ls (.int v :: rest))) : W p l e R s m args below meth c H locs cells slots Q (F0 m pc ls (.ref a :: rest)) := by
  obtain ⟨⟨hx, hb, hml, hown, hts, hlk⟩, hE, hA, hP, hD, hS⟩ := B
  exact va_alen hx hb hE.1 hP q0 t0 ha ht hv hdg kk
theorem x_newa (B : bd p s m args meth c cc nL own dC dI k A ws H locs) {atype : ArrayType} (harr : Cond.arrayClass (newarray.typeOf atype) ∈ gt) {ty : FieldType} (hty : newarray.typeOf atype = ty) (t0 : Nat) {cT : ClassId} (ht : (ty5 k)[t0]? = some (cT, ty)) (hprim : ∀ (U : State) (c1 c2 : ClassId), va_RA U c1 ty → va_RA U c2 ty → c1 = c2)
    {i : Int32} {N' : Nat} {a0 : vp_A} (ha : ∀ cA : ClassId, vp_cell cA a0 = arrV cA N' (fun _ => defaultValue ty)) (hn : ¬ i < 0) (hN : i.toNatClampNeg = N') (hbytes : N' * componentBytes ty ≤ 536870912) (hcells : cells + 1 ≤ R.cells) (hslots : slots + N' ≤ R.slots) (hdg : decode cc pc = .ok (.newarray atype, 2))
    (kk : ∀ (q : Nat) (H1 : Heap), bd p s m args meth c cc nL own dC dI k A (ws ++ [(q, .inl (cT, a0))]) H1 locs → W p l e R s m args below meth c H1 locs (cells + 1) (slots + N') Q (F0 m (pc + 2) ls (.ref q :: rest))) : W p l e R s m args below meth c H locs cells slots Q (F0 m pc ls (.int i :: rest)) := by
  obtain ⟨⟨hx, hb, hml, hown, hts, hlk⟩, hE, hA, hP, hD, hS⟩ := B
  refine va_newa hx hb (hts _ harr) hty hE.1 hP hD hS hA ha hn hN hbytes hcells hslots hdg (fun q cA H1 hK1 h1 h2 h3 => ?_)
  have e1 := (hK1.2 5 (cA, ty) (by simp [ty5])).2
  have e2 := (hE.1.2 t0 (cT, ty) ht).2
  have e3 : cA = cT := hprim s cA cT e1 e2
  subst e3
  exact kk q H1 ⟨⟨hx, hb, hml, hown, hts, hlk⟩, hE, hA, h1, h2, h3⟩
theorem pr_int : ∀ (U : State) (c1 c2 : ClassId), va_RA U c1 .int → va_RA U c2 .int → c1 = c2 := fun U c1 c2 h1 h2 => Option.some.inj (h1.symm.trans h2)
theorem pr_bool : ∀ (U : State) (c1 c2 : ClassId), va_RA U c1 .boolean → va_RA U c2 .boolean → c1 = c2 := fun U c1 c2 h1 h2 => Option.some.inj (h1.symm.trans h2)
theorem pr_long : ∀ (U : State) (c1 c2 : ClassId), va_RA U c1 .long → va_RA U c2 .long → c1 = c2 := fun U c1 c2 h1 h2 => Option.some.inj (h1.symm.trans h2)
theorem x_new (B : bd p s m args meth c cc nL own dC dI k A ws H locs) {C : String} {T : u_T} {N ci index : Nat} {ty : Nat → FieldType} (hty : ∀ k, k < N → parseFieldDescriptor (T k).2.2.1 = some (ty k)) (hin : ∀ w ∈ u_ws C T N, w ∈ gt) (hcl : Cond.classLink own index C ∈ gt) (hinst : Cond.instantiable C N ∈ gt) (hini : Cond.initialized C ∈ gt)
    (hc : classes[ci]? = some (C, T, N)) {fs : List Value} (hfs : ∀ j, j < N → defaultValue (ty j) = vp_V fs j) (hcells : cells + 1 ≤ R.cells) (hslots : slots + N ≤ R.slots) (hdg : decode cc pc = .ok (.new index, 3))
    (kk : ∀ (q : Nat) (H1 : Heap), bd p s m args meth c cc nL own dC dI k A (ws ++ [(q, .inr (ci, fs))]) H1 locs → W p l e R s m args below meth c H1 locs (cells + 1) (slots + N) Q (F0 m (pc + 3) ls (.ref q :: rest))) : W p l e R s m args below meth c H locs cells slots Q (F0 m pc ls rest) := by
  obtain ⟨⟨hx, hb, hml, hown, hts, hlk⟩, hE, hA, hP, hD, hS⟩ := B
  exact va_new hx hb hts hin ty hty hown (hts _ hcl) (hts _ hinst) (hts _ hini) hE.1 hP hD hS hA hc hfs hcells hslots hdg (fun q H1 h1 h2 h3 => kk q H1 ⟨⟨hx, hb, hml, hown, hts, hlk⟩, hE, hA, h1, h2, h3⟩)
theorem x_obj (B : bd p s m args meth c cc nL own dC dI k A ws H locs) {idx : Nat} (hk : Cond.methodLink own idx objectInit ∈ gt) (hi : Cond.instanceMethod objectInit ∈ gt) (hco : Cond.code objectInit ⟨#[0xb1]⟩ 1 none ∈ gt) (hl : lv_has ls nL lv) (hdg : decode cc pc = .ok (.invokespecial idx, 3)) (hfr : 1 ≤ R.frames) (hlo : 2 * (F0 m pc ls (.ref a :: rest)).monitorRoom + (rest.map fun v => v.category).sum + 12 ≤ R.locals)
    (kk : W p l e R s m args below meth c H locs cells slots Q (F0 m (pc + 3) ls rest)) : W p l e R s m args below meth c H locs cells slots Q (F0 m pc ls (.ref a :: rest)) := by
  obtain ⟨⟨hx, hb, hml, hown, hts, hlk⟩, hE, hA, hP, hD, hS⟩ := B
  exact W.objInit hx hb hown (hts _ hk) (hts _ hi) (hts _ hco) rfl (by rw [hml]; exact hl.1) rfl hdg hfr hlo kk
end ARR
section ENDS
variable {rm : Room} {ws0 w : va_W} {post : Option Value → va_W → Prop} {px : String → Prop}
theorem x_q {r : Option Value} (B : bd p s m args meth c cc nL own dC dI k (va_A ws0 s.heap.size) w H locs) (hq : post r w) : ∀ t : State, t.heap = H → s.WarmedH t.vm → Qw dC dI ws0 s.heap.size post args s (.returned r) t := by
  obtain ⟨hx, hE, hA, hP, hD, hS⟩ := B
  exact fun t ht _ => ⟨⟨r, w, rfl, hq, by rw [ht]; exact hP, hD⟩, hS.F ht⟩
theorem x_iret {v : Int32} (B : bd p s m args meth c cc nL own dC dI k (va_A ws0 s.heap.size) w H locs) (hr : meth.sig.returnType = some .int) (hq : post (some (.int v)) w) (hc : cells ≤ rm.cells) (hs : slots ≤ rm.slots) (hdg : decode cc pc = .ok (.ireturn, 1)) :
    W p l e R s m args below meth c H locs cells slots (MQ below (Qw dC dI ws0 s.heap.size post) args s rm.cells rm.slots (va_A ws0 s.heap.size)) (F0 m pc ls [.int v]) :=
  W.widen hc hs (W.iret B.1.1 B.1.2.1 hr (x_q B hq) B.2.2.2.2.2.2.2 hdg B.1.2.2.2.2.2)
theorem x_zret {v : Int32} (B : bd p s m args meth c cc nL own dC dI k (va_A ws0 s.heap.size) w H locs) (hr : meth.sig.returnType = some .boolean) (hn : narrow .boolean (.int v) = .int v) (hq : post (some (.int v)) w) (hc : cells ≤ rm.cells) (hs : slots ≤ rm.slots) (hdg : decode cc pc = .ok (.ireturn, 1)) :
    W p l e R s m args below meth c H locs cells slots (MQ below (Qw dC dI ws0 s.heap.size post) args s rm.cells rm.slots (va_A ws0 s.heap.size)) (F0 m pc ls [.int v]) :=
  W.widen hc hs (W.zret B.1.1 B.1.2.1 hr hn (x_q B hq) B.2.2.2.2.2.2.2 hdg B.1.2.2.2.2.2)
theorem x_lret {v : Int64} (B : bd p s m args meth c cc nL own dC dI k (va_A ws0 s.heap.size) w H locs) (hr : meth.sig.returnType = some .long) (hq : post (some (.long v)) w) (hc : cells ≤ rm.cells) (hs : slots ≤ rm.slots) (hdg : decode cc pc = .ok (.lreturn, 1)) :
    W p l e R s m args below meth c H locs cells slots (MQ below (Qw dC dI ws0 s.heap.size post) args s rm.cells rm.slots (va_A ws0 s.heap.size)) (F0 m pc ls [.long v]) :=
  W.widen hc hs (W.lret B.1.1 B.1.2.1 hr (x_q B hq) B.2.2.2.2.2.2.2 hdg B.1.2.2.2.2.2)
theorem x_vret (B : bd p s m args meth c cc nL own dC dI k (va_A ws0 s.heap.size) w H locs) (hr : meth.sig.returnType = none) (hq : post none w) (hc : cells ≤ rm.cells) (hs : slots ≤ rm.slots) (hdg : decode cc pc = .ok (.return_, 1)) :
    W p l e R s m args below meth c H locs cells slots (MQ below (Qw dC dI ws0 s.heap.size post) args s rm.cells rm.slots (va_A ws0 s.heap.size)) (F0 m pc ls []) :=
  W.widen hc hs (W.vret B.1.1 B.1.2.1 hr (x_q B hq) B.2.2.2.2.2.2.2 hdg B.1.2.2.2.2.2)
theorem x_aret {v : Nat} {nm : String} (B : bd p s m args meth c cc nL own dC dI k (va_A ws0 s.heap.size) w H locs) (hr : meth.sig.returnType = some (.object nm)) (hq : post (some (.ref v)) w) (hc : cells ≤ rm.cells) (hs : slots ≤ rm.slots) (hdg : decode cc pc = .ok (.areturn, 1)) :
    W p l e R s m args below meth c H locs cells slots (MQ below (Qw dC dI ws0 s.heap.size post) args s rm.cells rm.slots (va_A ws0 s.heap.size)) (F0 m pc ls [.ref v]) :=
  W.widen hc hs (W.aret B.1.1 B.1.2.1 hr (Or.inl ⟨nm, rfl⟩) (Or.inr ⟨v, rfl⟩) (x_q B hq) B.2.2.2.2.2.2.2 hdg B.1.2.2.2.2.2)
end ENDS
/-- the three exceptions of the class: link of the class, of the constructor -/
def exE (E : String) (ik ic : Nat) : Prop := Bundle.fit E = true ∧ Cond.classLink RX11 ik E ∈ gt ∧ Cond.initialized E ∈ gt ∧ (∀ w ∈ vx_atS RX11 ic E ["java/lang/RuntimeException", "java/lang/Exception"], w ∈ gt ∨ w = .castable E E ∨ ∃ x ∈ decls, w = .declares x) ∧ E ∈ [nIO, nIS, nIA]
theorem x_thr {rm : Room} {ws0 : va_W} {post : Option Value → va_W → Prop} {px : String → Prop} {E tx : String} {ik ic is : Nat} (hE : exE E ik ic) (hp : px E) (hl : l.stackTraces = false) (B : bd p s m args meth c cc nL RX11 dC dI k (va_A ws0 s.heap.size) ws H locs) (hex : ∀ x ∈ c.exceptionTable.toList, False) (hls : lv_has ls nL lv) (htx : (is, tx) ∈ strs)
    (d0 : decode cc pc = .ok (.new ik, 3)) (d3 : decode cc (pc + 3) = .ok (.dup, 1)) (d4 : decode cc (pc + 4) = .ok (.ldc is, 2)) (d6 : decode cc (pc + 6) = .ok (.invokespecial ic, 3)) (d9 : decode cc (pc + 9) = .ok (.athrow, 1))
    (hR : 5 < R.frames ∧ (rest.map fun v => v.category).sum + 82 ≤ R.locals ∧ cells + 1 ≤ R.cells ∧ slots + 6 ≤ R.slots) (hc : cells + 1 ≤ rm.cells ∧ slots + 6 ≤ rm.slots) :
    W p l e R s m args below meth c H locs cells slots (vx_MQ below (Qw dC dI ws0 s.heap.size post) (fun E st t => px E ∧ va_F (va_A ws0 s.heap.size) st t) args s rm.cells rm.slots (va_A ws0 s.heap.size)) (F0 m pc ls rest) := by
  obtain ⟨⟨hx, hb, hml, hown, hts, hlk⟩, ⟨hE1, hE2, hE3, ⟨hE4, hE5⟩, -, -, ⟨hca, hde⟩, -⟩, hA, hP, hD, hS⟩ := B
  obtain ⟨sa, hsa⟩ := hE3 _ htx
  obtain ⟨e1, e2, e3, e4, e5⟩ := hE
  refine vx_throwS hx hb hl hown e1 (by decide +kernel) (hts _ e2) (hts _ e3) hsa (fun w hw => (e4 w hw).elim (fun h => hts _ h) (fun h => h.elim (fun h => by rw [h]; exact (hca _ e5).use) (fun ⟨x, hx, h⟩ => by rw [h]; exact va_Nw.use rfl (hde x hx)))) ?_ hE4 hE5 hS (by rw [hml]; exact hls.1) d0 d3 d4 d6 d9 (fun x hx => (hex x hx).elim) hR.1 hR.2.1 hR.2.2.1 hR.2.2.2 hlk ?_ hS.2.2 hc.1 hc.2
  · intro w hw
    have hg : w ∈ gt ∨ w = .castable E E ∨ ∃ x ∈ decls, w = .declares x := by
      rcases List.mem_cons.mp hw with rfl | hw
      · exact Or.inl e2
      rcases List.mem_cons.mp hw with rfl | hw
      · exact Or.inl e3
      exact e4 w hw
    rcases hg with hg | rfl | ⟨x, -, rfl⟩
    · simp only [vx_ot, (List.mem_filter.mp hg).2, Bool.or_true]
    · rfl
    · rfl
  · intro t _ h1 h2
    exact ⟨hp, Nat.le_trans hS.1 h1, fun q hq hnA => by rw [h2 q (Nat.lt_of_lt_of_le hq hS.1)]; exact hS.2.1 q hq hnA⟩
theorem x_thrW {rm : Room} {ws0 : va_W} {post : Option Value → va_W → Prop} {px : String → Prop} {E tx : String} {ik ic is : Nat} (hE : exE E ik ic) (hp : px E) (hl : l.stackTraces = false) (B : bd p s m args meth c cc nL RX11 dC dI k (va_A ws0 s.heap.size) ws H locs) (hex : ∀ x ∈ c.exceptionTable.toList, False) (hls : lv_has ls nL lv) (htx : (is, tx) ∈ strs)
    (d0 : decode cc pc = .ok (.new ik, 3)) (d3 : decode cc (pc + 3) = .ok (.dup, 1)) (d4 : decode cc (pc + 4) = .ok (.ldc_w is, 3)) (d6 : decode cc (pc + 7) = .ok (.invokespecial ic, 3)) (d9 : decode cc (pc + 10) = .ok (.athrow, 1))
    (hR : 5 < R.frames ∧ (rest.map fun v => v.category).sum + 82 ≤ R.locals ∧ cells + 1 ≤ R.cells ∧ slots + 6 ≤ R.slots) (hc : cells + 1 ≤ rm.cells ∧ slots + 6 ≤ rm.slots) :
    W p l e R s m args below meth c H locs cells slots (vx_MQ below (Qw dC dI ws0 s.heap.size post) (fun E st t => px E ∧ va_F (va_A ws0 s.heap.size) st t) args s rm.cells rm.slots (va_A ws0 s.heap.size)) (F0 m pc ls rest) := by
  obtain ⟨⟨hx, hb, hml, hown, hts, hlk⟩, ⟨hE1, hE2, hE3, ⟨hE4, hE5⟩, -, -, ⟨hca, hde⟩, -⟩, hA, hP, hD, hS⟩ := B
  obtain ⟨sa, hsa⟩ := hE3 _ htx
  obtain ⟨e1, e2, e3, e4, e5⟩ := hE
  refine vx_throwSW hx hb hl hown e1 (by decide +kernel) (hts _ e2) (hts _ e3) hsa (fun w hw => (e4 w hw).elim (fun h => hts _ h) (fun h => h.elim (fun h => by rw [h]; exact (hca _ e5).use) (fun ⟨x, hx, h⟩ => by rw [h]; exact va_Nw.use rfl (hde x hx)))) ?_ hE4 hE5 hS (by rw [hml]; exact hls.1) d0 d3 d4 d6 d9 (fun x hx => (hex x hx).elim) hR.1 hR.2.1 hR.2.2.1 hR.2.2.2 hlk ?_ hS.2.2 hc.1 hc.2
  · intro w hw
    have hg : w ∈ gt ∨ w = .castable E E ∨ ∃ x ∈ decls, w = .declares x := by
      rcases List.mem_cons.mp hw with rfl | hw
      · exact Or.inl e2
      rcases List.mem_cons.mp hw with rfl | hw
      · exact Or.inl e3
      exact e4 w hw
    rcases hg with hg | rfl | ⟨x, -, rfl⟩
    · simp only [vx_ot, (List.mem_filter.mp hg).2, Bool.or_true]
    · rfl
    · rfl
  · intro t _ h1 h2
    exact ⟨hp, Nat.le_trans hS.1 h1, fun q hq hnA => by rw [h2 q (Nat.lt_of_lt_of_le hq hS.1)]; exact hS.2.1 q hq hnA⟩
end ROWS3
