/-! rows over 'bd': calls, fields, arrays, ends -/
section ROWS1
variable {p : Program} {l : Launch} {e : Env} {R : Room} {s : State} {m : MethodId} {args : Array Value} {below : List Frame} {meth : Method} {c : Code} {H : Heap} {locs : List Loc} {cells slots : Nat} {Q : State → Prop}
variable {dC : Nat → ClassId} {dI : Nat → Nat → Nat} {k : Nat → ClassId} {A : Nat → Prop} {cc : ByteArray} {nL : Nat} {own : String} {ws : va_W} {pc : Nat} {ls : Array Slot} {rest st0 : List Value} {lv : List (Nat × Value)}
theorem bd_to {ws' : va_W} (h : ws = ws') (B : bd p s m args meth c cc nL own dC dI k A ws H locs) : bd p s m args meth c cc nL own dC dI k A ws' H locs := h ▸ B
theorem bd_sub {ws' : va_W} (is : List Nat) (hn : va_nd is = true) (hs : is.map (fun i => ws[i]?) = ws'.map some) (B : bd p s m args meth c cc nL own dC dI k A ws H locs) : bd p s m args meth c cc nL own dC dI k A ws' H locs := by
  obtain ⟨h1, h2, h3, h4, h5, h6⟩ := B
  refine ⟨h1, h2, h3, ?_, h5.sub is hn hs, h6⟩
  intro j q hq
  have e1 : (is.map (fun i => ws[i]?))[j]? = some (some q) := by rw [hs]; simp [hq]
  rw [List.getElem?_map] at e1
  cases hi : is[j]? with
  | none => rw [hi] at e1; cases e1
  | some i => rw [hi] at e1; exact h4 i q (Option.some.inj e1)
theorem lv_seti {x y : Int32} (h : x = y) (kk : W p l e R s m args below meth c H locs cells slots Q (F0 m pc ls (.int y :: rest))) : W p l e R s m args below meth c H locs cells slots Q (F0 m pc ls (.int x :: rest)) := h ▸ kk
theorem lv_setv {x y : Value} (h : x = y) (kk : W p l e R s m args below meth c H locs cells slots Q (F0 m pc ls (y :: rest))) : W p l e R s m args below meth c H locs cells slots Q (F0 m pc ls (x :: rest)) := h ▸ kk
def mC (y : MethodName) (bytes : ByteArray) (maxL : Nat) (ret : Option FieldType) (n : Nat) : Prop := Cond.code y bytes maxL ret ∈ gt ∧ Cond.initialized y.cls ∈ gt ∧ (y.cls ≠ "java/lang/invoke/MethodHandle" ∧ y.cls ≠ "java/lang/invoke/VarHandle" ∧ (parseMethodDescriptor y.desc).map (fun d => d.parameters.length) = some n)
def mV (y : MethodName) (bytes : ByteArray) (maxL : Nat) (ret : Option FieldType) (n : Nat) : Prop := mC y bytes maxL ret n ∧ Cond.instanceMethod y ∈ gt ∧ Cond.selects y.cls y y ∈ gt
def mS (y : MethodName) (bytes : ByteArray) (maxL : Nat) (ret : Option FieldType) (n : Nat) : Prop := mC y bytes maxL ret n ∧ Cond.static y ∈ gt
def mI (y : MethodName) (bytes : ByteArray) (maxL : Nat) (n : Nat) : Prop := mC y bytes maxL none n ∧ Cond.instanceMethod y ∈ gt ∧ y.name = "<init>"
section CALLROWS
variable {y : MethodName} {bytes : ByteArray} {maxL idx b q0 ci n : Nat} {ret : Option FieldType} {rm : Room} {As fs : List Value} {wc wr : va_W} {post : Option Value → va_W → Prop} {px : String → Prop}
theorem x_callV (hM : Ct l dC dI k y (.code y bytes maxL ret) rm (.ref b :: As) wc post) (B : bd p s m args meth c cc nL own dC dI k A ws H locs) (hm : mV y bytes maxL ret As.length) (hk : Cond.methodLink own idx y ∈ gt) (hl : lv_has ls nL lv)
    (isC isR : List Nat) (hC : isC.map (fun i => ws[i]?) = wc.map some) (hR : isR.map (fun i => ws[i]?) = wr.map some) (hn : va_nd isR = true ∧ va_nd isC = true) (hdis : ∀ i ∈ isR, i ∉ isC) {r9 : vw_C} (he : wc[q0]? = some (b, .inr (ci, fs))) (hc : classes[ci]? = some r9) (hr9 : r9.1 = y.cls)
    (hrm : rm.frames + 1 ≤ R.frames ∧ 8 + (maxL + 11) + rm.locals ≤ R.locals) (hcat : (rest.map fun v => v.category).sum ≤ 8) (hst : st0 = As.reverse ++ .ref b :: rest) (hdg : decode cc pc = .ok (.invokevirtual idx, 3)) (hf : cells + rm.cells ≤ R.cells ∧ slots + rm.slots ≤ R.slots)
    (kk : ∀ (r : Option Value) (w : va_W) (H1 : Heap) (locs1 : List Loc), post r w → bd p s m args meth c cc nL own dC dI k A (wr ++ w) H1 locs1 → W p l e R s m args below meth c H1 locs1 (cells + rm.cells) (slots + rm.slots) Q (F0 m (pc + 3) ls (r.toList ++ rest))) : W p l e R s m args below meth c H locs cells slots Q (F0 m pc ls st0) := by
  obtain ⟨⟨hx, hb, hml, hown, hts, hlk⟩, hE, hA, hP, hD, hS⟩ := B
  obtain ⟨⟨hco, hini, hd⟩, hin, hse⟩ := hm
  subst hst
  have hpre := x_pre hE hP hD hS hA isC hC hn.2 (av := .ref b :: As)
  have hPc : va_P (dC, dI) classes wc H := by
    intro j q hq
    have e1 : (isC.map (fun i => ws[i]?))[j]? = some (some q) := by rw [hC]; simp [hq]
    rw [List.getElem?_map] at e1
    cases hi : isC[j]? with
    | none => rw [hi] at e1; cases e1
    | some i => rw [hi] at e1; exact hP i q (Option.some.inj e1)
  have hrecv := va_recv hE.1 hPc hc he
  rw [hr9] at hrecv
  refine x_go (va_runV (As := As) (rest := rest) ⟨hx, hb, hml, hown, hts⟩ (hM H.size) (cwV As.length hts (gi_V hk hin hse hini hco) rfl rfl rfl ⟨rfl, hd⟩ hrm) ⟨Pw_blind, hrecv, hpre⟩ rfl rfl hl.1 rfl (lv_room hcat) hdg hf) hP hD hS hA isC isR hC hR hn.1 hdis (fun r w H1 locs1 h1 h2 h3 h4 => kk r w H1 locs1 h1 ⟨⟨hx, hb, hml, hown, hts, hlk⟩, hE, hA, h2, h3, h4⟩)
theorem x_callS (hM : Ct l dC dI k y (.code y bytes maxL ret) rm As wc post) (B : bd p s m args meth c cc nL own dC dI k A ws H locs) (hm : mS y bytes maxL ret As.length) (hk : Cond.methodLink own idx y ∈ gt) (hl : lv_has ls nL lv)
    (isC isR : List Nat) (hC : isC.map (fun i => ws[i]?) = wc.map some) (hR : isR.map (fun i => ws[i]?) = wr.map some) (hn : va_nd isR = true ∧ va_nd isC = true) (hdis : ∀ i ∈ isR, i ∉ isC)
    (hrm : rm.frames + 1 ≤ R.frames ∧ 8 + (maxL + 11) + rm.locals ≤ R.locals) (hcat : (rest.map fun v => v.category).sum ≤ 8) (hst : st0 = As.reverse ++ rest) (hdg : decode cc pc = .ok (.invokestatic idx, 3)) (hf : cells + rm.cells ≤ R.cells ∧ slots + rm.slots ≤ R.slots)
    (kk : ∀ (r : Option Value) (w : va_W) (H1 : Heap) (locs1 : List Loc), post r w → bd p s m args meth c cc nL own dC dI k A (wr ++ w) H1 locs1 → W p l e R s m args below meth c H1 locs1 (cells + rm.cells) (slots + rm.slots) Q (F0 m (pc + 3) ls (r.toList ++ rest))) : W p l e R s m args below meth c H locs cells slots Q (F0 m pc ls st0) := by
  obtain ⟨⟨hx, hb, hml, hown, hts, hlk⟩, hE, hA, hP, hD, hS⟩ := B
  obtain ⟨⟨hco, hini, hd⟩, hstt⟩ := hm
  subst hst
  have hpre := x_pre hE hP hD hS hA isC hC hn.2 (av := As)
  refine x_go (va_runS (As := As) (rest := rest) ⟨hx, hb, hml, hown, hts⟩ (hM H.size) (va_cwS As.length hts (gi_S hk hstt hini hco) rfl rfl rfl hd hrm) ⟨Pw_blind, hpre⟩ rfl rfl hl.1 rfl (lv_room hcat) hdg hf) hP hD hS hA isC isR hC hR hn.1 hdis (fun r w H1 locs1 h1 h2 h3 h4 => kk r w H1 locs1 h1 ⟨⟨hx, hb, hml, hown, hts, hlk⟩, hE, hA, h2, h3, h4⟩)
theorem x_callI (hM : Ct l dC dI k y (.code y bytes maxL none) rm (.ref b :: As) wc post) (B : bd p s m args meth c cc nL own dC dI k A ws H locs) (hm : mI y bytes maxL As.length) (hk : Cond.methodLink own idx y ∈ gt) (hl : lv_has ls nL lv)
    (isC isR : List Nat) (hC : isC.map (fun i => ws[i]?) = wc.map some) (hR : isR.map (fun i => ws[i]?) = wr.map some) (hn : va_nd isR = true ∧ va_nd isC = true) (hdis : ∀ i ∈ isR, i ∉ isC)
    (hrm : rm.frames + 1 ≤ R.frames ∧ 8 + (maxL + 11) + rm.locals ≤ R.locals) (hcat : (rest.map fun v => v.category).sum ≤ 8) (hst : st0 = As.reverse ++ .ref b :: rest) (hdg : decode cc pc = .ok (.invokespecial idx, 3)) (hf : cells + rm.cells ≤ R.cells ∧ slots + rm.slots ≤ R.slots)
    (kk : ∀ (r : Option Value) (w : va_W) (H1 : Heap) (locs1 : List Loc), post r w → bd p s m args meth c cc nL own dC dI k A (wr ++ w) H1 locs1 → W p l e R s m args below meth c H1 locs1 (cells + rm.cells) (slots + rm.slots) Q (F0 m (pc + 3) ls (r.toList ++ rest))) : W p l e R s m args below meth c H locs cells slots Q (F0 m pc ls st0) := by
  obtain ⟨⟨hx, hb, hml, hown, hts, hlk⟩, hE, hA, hP, hD, hS⟩ := B
  obtain ⟨⟨hco, hini, hd⟩, hin, hnm⟩ := hm
  subst hst
  have hpre := x_pre hE hP hD hS hA isC hC hn.2 (av := .ref b :: As)
  refine x_go (va_runI (As := As) (rest := rest) ⟨hx, hb, hml, hown, hts⟩ (hM H.size) (cwI As.length hts (gi_c hco) rfl rfl rfl (hts _ hini) (hts _ hk) (hts _ hin) hnm hd hrm) ⟨Pw_blind, hpre⟩ rfl rfl hl.1 rfl (lv_room hcat) hdg hf) hP hD hS hA isC isR hC hR hn.1 hdis (fun r w H1 locs1 h1 h2 h3 h4 => kk r w H1 locs1 h1 ⟨⟨hx, hb, hml, hown, hts, hlk⟩, hE, hA, h2, h3, h4⟩)
end CALLROWS
end ROWS1
