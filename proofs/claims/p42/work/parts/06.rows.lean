/-! rows over 'bd': worlds, calls -/
section ROWS1
variable {p : Program} {l : Launch} {e : Env} {R : Room} {s : State} {m : MethodId} {args : Array Value} {below : List Frame} {meth : Method} {c : Code} {H : Heap} {locs : List Loc} {cells slots : Nat} {Q : State → Prop}
variable {dC : Nat → ClassId} {dI : Nat → Nat → Nat} {k : Nat → ClassId} {A : Nat → Prop} {cc : ByteArray} {nL : Nat} {own : String} {ws : va_W} {pc : Nat} {ls : Array Slot} {rest st0 : List Value} {lv : List (Nat × Value)}
theorem bd_to {ws' : va_W} (h : ws = ws') (B : bd p s m args meth c cc nL own dC dI k A ws H locs) : bd p s m args meth c cc nL own dC dI k A ws' H locs := h ▸ B
theorem bd_sub {ws' : va_W} (is : List Nat) (hn : va_nd is = true) (hs : is.map (fun i => ws[i]?) = ws'.map some) (B : bd p s m args meth c cc nL own dC dI k A ws H locs) : bd p s m args meth c cc nL own dC dI k A ws' H locs := by
  obtain ⟨h1, h2, h3, h4, h5, h6⟩ := B
  refine ⟨h1, h2, h3, ?_, h5.sub is hn hs, h6⟩
  intro j q hq
  have e1 : (is.map (fun i => ws[i]?))[j]? = some (some q) := by rw [hs]; simp [hq]
  rw [List.getElem?_map] at e1
  cases hi : is[j]? with
  | none => rw [hi] at e1; cases e1
  | some i => rw [hi] at e1; exact h4 i q (Option.some.inj e1)
theorem bd_perm {ws' : va_W} (h : List.Perm ws ws') (B : bd p s m args meth c cc nL own dC dI k A ws H locs) : bd p s m args meth c cc nL own dC dI k A ws' H locs := by
  induction h with
  | nil => exact B
  | @cons x l1 l2 h ih => 
    obtain ⟨h1, h2, h3, h4, h5, h6⟩ := B
    have ih2 := ih ⟨h1, h2, h3, h4.by (fun i => i + 1) (fun k q hk => by simpa using hk), h5.by (fun i => i + 1) (fun k q hk => by simpa using hk) (fun i j _ _ e => by omega), h6⟩
    obtain ⟨-, -, -, g4, g5, -⟩ := ih2
    refine ⟨h1, h2, h3, ?_, ?_, h6⟩
    · intro k q hk
      cases k with
      | zero => exact h4 0 q hk
      | succ k => exact g4 k q (by simpa using hk)
    · refine ⟨fun i j a b hi hj e => ?_, fun k q hk => ?_⟩
      · have mem : ∀ (q : Nat × va_E), q ∈ l2 → ∃ i, (x :: l1)[i + 1]? = some q := by
          intro q hq
          obtain ⟨i, hi⟩ := List.mem_iff_getElem?.mp (h.mem_iff.mpr hq)
          exact ⟨i, by simpa using hi⟩
        cases i with
        | zero =>
          cases j with
          | zero => rfl
          | succ j =>
            obtain ⟨i2, hi2⟩ := mem b (List.mem_of_getElem? (by simpa using hj))
            have := h5.1 0 (i2 + 1) a b (by simpa using hi) hi2 e
            omega
        | succ i =>
          cases j with
          | zero =>
            obtain ⟨i2, hi2⟩ := mem a (List.mem_of_getElem? (by simpa using hi))
            have := h5.1 (i2 + 1) 0 a b hi2 (by simpa using hj) e
            omega
          | succ j =>
            have := g5.1 i j a b (by simpa using hi) (by simpa using hj) e
            omega
      · cases k with
        | zero => exact h5.2 0 q hk
        | succ k => exact g5.2 k q (by simpa using hk)
  | swap x y l1 =>
    refine bd_sub ([1, 0] ++ (List.range l1.length).map (fun i => 2 + i)) ?_ ?_ B
    · apply nd_of
      rw [List.nodup_append]
      refine ⟨by decide, ?_, ?_⟩
      · rw [List.nodup_iff_pairwise_ne, List.pairwise_map]
        exact List.Pairwise.imp (fun h e => h (by omega)) (List.nodup_iff_pairwise_ne.mp List.nodup_range)
      · intro a ha b hb
        obtain ⟨j, -, rfl⟩ := List.mem_map.mp hb
        simp at ha
        omega
    · have e := ix_r [y, x] l1
      rw [List.map_append, show ([y, x] : va_W).length = 2 from rfl] at *
      simp only [List.cons_append, List.nil_append] at e
      rw [e]
      rfl
  | trans _ _ ih1 ih2 => exact ih2 (ih1 B)
/-- the last two parts of a world change places -/
theorem bd_swap {a b d : va_W} (B : bd p s m args meth c cc nL own dC dI k A ((a ++ b) ++ d) H locs) : bd p s m args meth c cc nL own dC dI k A ((a ++ d) ++ b) H locs :=
  ⟨B.1, B.2.1, B.2.2.1, va_P.swap B.2.2.2.1, va_D.swap B.2.2.2.2.1, B.2.2.2.2.2⟩
/-- some of the first cells, in another order -/
theorem bd_pick {hs ws' tl : va_W} (is : List Nat) (hn : va_nd is = true) (hsel : is.map (fun i => hs[i]?) = ws'.map some) (B : bd p s m args meth c cc nL own dC dI k A (hs ++ tl) H locs) : bd p s m args meth c cc nL own dC dI k A (ws' ++ tl) H locs :=
  ⟨B.1, B.2.1, B.2.2.1, va_P.part B.2.2.2.1 is hsel, va_D.part B.2.2.2.2.1 is hn hsel, B.2.2.2.2.2⟩
theorem lv_seti {x y : Int32} (h : x = y) (kk : W p l e R s m args below meth c H locs cells slots Q (F0 m pc ls (.int y :: rest))) : W p l e R s m args below meth c H locs cells slots Q (F0 m pc ls (.int x :: rest)) := h ▸ kk
theorem lv_setl {x y : Int64} (h : x = y) (kk : W p l e R s m args below meth c H locs cells slots Q (F0 m pc ls (.long y :: rest))) : W p l e R s m args below meth c H locs cells slots Q (F0 m pc ls (.long x :: rest)) := h ▸ kk
theorem lv_setv {x y : Value} (h : x = y) (kk : W p l e R s m args below meth c H locs cells slots Q (F0 m pc ls (y :: rest))) : W p l e R s m args below meth c H locs cells slots Q (F0 m pc ls (x :: rest)) := h ▸ kk
def mC (y : MethodName) (bytes : ByteArray) (maxL : Nat) (ret : Option FieldType) (n : Nat) : Prop := Cond.code y bytes maxL ret ∈ gt ∧ Cond.initialized y.cls ∈ gt ∧ (y.cls ≠ "java/lang/invoke/MethodHandle" ∧ y.cls ≠ "java/lang/invoke/VarHandle" ∧ (parseMethodDescriptor y.desc).map (fun d => d.parameters.length) = some n)
def mV (y : MethodName) (bytes : ByteArray) (maxL : Nat) (ret : Option FieldType) (n : Nat) : Prop := mC y bytes maxL ret n ∧ Cond.instanceMethod y ∈ gt ∧ Cond.selects y.cls y y ∈ gt
def mS (y : MethodName) (bytes : ByteArray) (maxL : Nat) (ret : Option FieldType) (n : Nat) : Prop := mC y bytes maxL ret n ∧ Cond.static y ∈ gt
def mI (y : MethodName) (bytes : ByteArray) (maxL : Nat) (n : Nat) : Prop := mC y bytes maxL none n ∧ Cond.instanceMethod y ∈ gt ∧ y.name = "<init>"
section CALLROWS
variable {y : MethodName} {bytes : ByteArray} {maxL idx b q0 ci n : Nat} {ret : Option FieldType} {rm : Room} {As fs : List Value} {wc wr : va_W} {post : Option Value → va_W → Nat → Nat → Prop} {px : String → va_W → Nat → Nat → Prop}
theorem k_V (hM : Kn l dC dI k y (.code y bytes maxL ret) rm (.ref b :: As) wc post) (B : bd p s m args meth c cc nL own dC dI k A (wc ++ wr) H locs) (hm : mV y bytes maxL ret As.length) (hk : Cond.methodLink own idx y ∈ gt) (hl : lv_has ls nL lv)
    {r9 : vw_C} (he : wc[q0]? = some (b, .inr (ci, fs))) (hc : classes[ci]? = some r9) (hr9 : r9.1 = y.cls)
    (hrm : rm.frames + 1 ≤ R.frames ∧ 8 + (maxL + 11) + rm.locals ≤ R.locals) (hcat : (rest.map fun v => v.category).sum ≤ 8) (hst : st0 = As.reverse ++ .ref b :: rest) (hdg : decode cc pc = .ok (.invokevirtual idx, 3)) (hf : cells + rm.cells ≤ R.cells ∧ slots + rm.slots ≤ R.slots)
    (kk : ∀ (r : Option Value) (w : va_W) (gc gs : Nat) (H1 : Heap) (locs1 : List Loc), post r w gc gs → bd p s m args meth c cc nL own dC dI k A (wr ++ w) H1 locs1 → W p l e R s m args below meth c H1 locs1 (cells + gc) (slots + gs) Q (F0 m (pc + 3) ls (r.toList ++ rest))) : W p l e R s m args below meth c H locs cells slots Q (F0 m pc ls st0) := by
  obtain ⟨⟨hx, hb, hml, hown, hts, hlk⟩, hE, hA, hP, hD, hS⟩ := B
  obtain ⟨⟨hco, hini, hd⟩, hin, hse⟩ := hm
  subst hst
  have hpre := k_pre hE hP hD hS hA (av := .ref b :: As)
  have hPc : va_P (dC, dI) classes wc H := fun j q hq => hP j q (by rw [List.getElem?_append_left (List.getElem?_eq_some_iff.mp hq).1]; exact hq)
  have hrecv := va_recv hE.1 hPc hc he
  rw [hr9] at hrecv
  refine k_go (va_runV (As := As) (rest := rest) ⟨hx, hb, hml, hown, hts⟩ (hM H.size) (cwV As.length hts (gi_V hk hin hse hini hco) rfl rfl rfl ⟨rfl, hd⟩ hrm) ⟨Pw_blind, hrecv, hpre⟩ rfl rfl hl.1 rfl (lv_room hcat) hdg hf) hP hD hS hA (fun r w gc gs H1 locs1 h1 h2 h3 h4 => kk r w gc gs H1 locs1 h1 ⟨⟨hx, hb, hml, hown, hts, hlk⟩, hE, hA, h2, h3, h4⟩)
theorem k_S (hM : Kn l dC dI k y (.code y bytes maxL ret) rm As wc post) (B : bd p s m args meth c cc nL own dC dI k A (wc ++ wr) H locs) (hm : mS y bytes maxL ret As.length) (hk : Cond.methodLink own idx y ∈ gt) (hl : lv_has ls nL lv)
    (hrm : rm.frames + 1 ≤ R.frames ∧ 8 + (maxL + 11) + rm.locals ≤ R.locals) (hcat : (rest.map fun v => v.category).sum ≤ 8) (hst : st0 = As.reverse ++ rest) (hdg : decode cc pc = .ok (.invokestatic idx, 3)) (hf : cells + rm.cells ≤ R.cells ∧ slots + rm.slots ≤ R.slots)
    (kk : ∀ (r : Option Value) (w : va_W) (gc gs : Nat) (H1 : Heap) (locs1 : List Loc), post r w gc gs → bd p s m args meth c cc nL own dC dI k A (wr ++ w) H1 locs1 → W p l e R s m args below meth c H1 locs1 (cells + gc) (slots + gs) Q (F0 m (pc + 3) ls (r.toList ++ rest))) : W p l e R s m args below meth c H locs cells slots Q (F0 m pc ls st0) := by
  obtain ⟨⟨hx, hb, hml, hown, hts, hlk⟩, hE, hA, hP, hD, hS⟩ := B
  obtain ⟨⟨hco, hini, hd⟩, hstt⟩ := hm
  subst hst
  have hpre := k_pre hE hP hD hS hA (av := As)
  refine k_go (va_runS (As := As) (rest := rest) ⟨hx, hb, hml, hown, hts⟩ (hM H.size) (va_cwS As.length hts (gi_S hk hstt hini hco) rfl rfl rfl hd hrm) ⟨Pw_blind, hpre⟩ rfl rfl hl.1 rfl (lv_room hcat) hdg hf) hP hD hS hA (fun r w gc gs H1 locs1 h1 h2 h3 h4 => kk r w gc gs H1 locs1 h1 ⟨⟨hx, hb, hml, hown, hts, hlk⟩, hE, hA, h2, h3, h4⟩)
theorem k_I (hM : Kn l dC dI k y (.code y bytes maxL none) rm (.ref b :: As) wc post) (B : bd p s m args meth c cc nL own dC dI k A (wc ++ wr) H locs) (hm : mI y bytes maxL As.length) (hk : Cond.methodLink own idx y ∈ gt) (hl : lv_has ls nL lv)
    (hrm : rm.frames + 1 ≤ R.frames ∧ 8 + (maxL + 11) + rm.locals ≤ R.locals) (hcat : (rest.map fun v => v.category).sum ≤ 8) (hst : st0 = As.reverse ++ .ref b :: rest) (hdg : decode cc pc = .ok (.invokespecial idx, 3)) (hf : cells + rm.cells ≤ R.cells ∧ slots + rm.slots ≤ R.slots)
    (kk : ∀ (r : Option Value) (w : va_W) (gc gs : Nat) (H1 : Heap) (locs1 : List Loc), post r w gc gs → bd p s m args meth c cc nL own dC dI k A (wr ++ w) H1 locs1 → W p l e R s m args below meth c H1 locs1 (cells + gc) (slots + gs) Q (F0 m (pc + 3) ls (r.toList ++ rest))) : W p l e R s m args below meth c H locs cells slots Q (F0 m pc ls st0) := by
  obtain ⟨⟨hx, hb, hml, hown, hts, hlk⟩, hE, hA, hP, hD, hS⟩ := B
  obtain ⟨⟨hco, hini, hd⟩, hin, hnm⟩ := hm
  subst hst
  have hpre := k_pre hE hP hD hS hA (av := .ref b :: As)
  refine k_go (va_runI (As := As) (rest := rest) ⟨hx, hb, hml, hown, hts⟩ (hM H.size) (cwI As.length hts (gi_c hco) rfl rfl rfl (hts _ hini) (hts _ hk) (hts _ hin) hnm hd hrm) ⟨Pw_blind, hpre⟩ rfl rfl hl.1 rfl (lv_room hcat) hdg hf) hP hD hS hA (fun r w gc gs H1 locs1 h1 h2 h3 h4 => kk r w gc gs H1 locs1 h1 ⟨⟨hx, hb, hml, hown, hts, hlk⟩, hE, hA, h2, h3, h4⟩)
/-- the private constructor of a nest mate -/
theorem k_N {host : String} (hM : Kn l dC dI k y (.code y bytes maxL none) rm (.ref b :: As) wc post) (B : bd p s m args meth c cc nL own dC dI k A (wc ++ wr) H locs) (hm : mI y bytes maxL As.length) (hk : (own, idx, y, host) ∈ nML) (hl : lv_has ls nL lv)
    (hrm : rm.frames + 1 ≤ R.frames ∧ 8 + (maxL + 11) + rm.locals ≤ R.locals) (hcat : (rest.map fun v => v.category).sum ≤ 8) (hst : st0 = As.reverse ++ .ref b :: rest) (hdg : decode cc pc = .ok (.invokespecial idx, 3)) (hf : cells + rm.cells ≤ R.cells ∧ slots + rm.slots ≤ R.slots)
    (kk : ∀ (r : Option Value) (w : va_W) (gc gs : Nat) (H1 : Heap) (locs1 : List Loc), post r w gc gs → bd p s m args meth c cc nL own dC dI k A (wr ++ w) H1 locs1 → W p l e R s m args below meth c H1 locs1 (cells + gc) (slots + gs) Q (F0 m (pc + 3) ls (r.toList ++ rest))) : W p l e R s m args below meth c H locs cells slots Q (F0 m pc ls st0) := by
  obtain ⟨⟨hx, hb, hml, hown, hts, hlk⟩, hE, hA, hP, hD, hS⟩ := B
  obtain ⟨⟨hco, hini, hd⟩, hin, hnm⟩ := hm
  subst hst
  have hpre := k_pre hE hP hD hS hA (av := .ref b :: As)
  have hk2 := hE.2.1.1 _ hk
  refine k_go (va_runIN (As := As) (rest := rest) ⟨hx, hb, hml, hown, hts⟩ (hM H.size) ⟨va_cnB As.length hts (gi_c hco) rfl rfl rfl hk2 (hts _ hini) hd hrm, hnm, hts _ hin⟩ ⟨Pw_blind, hpre⟩ rfl rfl hl.1 rfl (lv_room hcat) hdg hf) hP hD hS hA (fun r w gc gs H1 locs1 h1 h2 h3 h4 => kk r w gc gs H1 locs1 h1 ⟨⟨hx, hb, hml, hown, hts, hlk⟩, hE, hA, h2, h3, h4⟩)
/-- calls that may throw; kx: the exception over this frame -/
theorem k_Vx (hM : Kx l dC dI k y (.code y bytes maxL ret) rm (.ref b :: As) wc post px) (B : bd p s m args meth c cc nL own dC dI k A (wc ++ wr) H locs) (hm : mV y bytes maxL ret As.length) (hk : Cond.methodLink own idx y ∈ gt) (hl : lv_has ls nL lv)
    {r9 : vw_C} (he : wc[q0]? = some (b, .inr (ci, fs))) (hc : classes[ci]? = some r9) (hr9 : r9.1 = y.cls)
    (hrm : rm.frames + 1 ≤ R.frames ∧ 8 + (maxL + 11) + rm.locals ≤ R.locals) (hcat : (rest.map fun v => v.category).sum ≤ 8) (hst : st0 = As.reverse ++ .ref b :: rest) (hdg : decode cc pc = .ok (.invokevirtual idx, 3)) (hf : cells + rm.cells ≤ R.cells ∧ slots + rm.slots ≤ R.slots)
    (kx : ∀ (E : String) (ce : Cell) (q9 : Addr) (w : va_W) (gc gs : Nat) (H1 : Heap) (locs1 : List Loc), px E w gc gs → bd p s m args meth c cc nL own dC dI k A (wr ++ w) H1 locs1 → H1[q9]? = some ce → ce.vm = .none → s.vm.findClass E = some ce.cls → vx_W p l e R s m args below meth c H1 locs1 (cells + gc) (slots + gs) Q (F0 m pc ls rest) q9)
    (kk : ∀ (r : Option Value) (w : va_W) (gc gs : Nat) (H1 : Heap) (locs1 : List Loc), post r w gc gs → bd p s m args meth c cc nL own dC dI k A (wr ++ w) H1 locs1 → W p l e R s m args below meth c H1 locs1 (cells + gc) (slots + gs) Q (F0 m (pc + 3) ls (r.toList ++ rest))) : W p l e R s m args below meth c H locs cells slots Q (F0 m pc ls st0) := by
  obtain ⟨⟨hx, hb, hml, hown, hts, hlk⟩, hE, hA, hP, hD, hS⟩ := B
  obtain ⟨⟨hco, hini, hd⟩, hin, hse⟩ := hm
  subst hst
  have hpre := k_pre hE hP hD hS hA (av := .ref b :: As)
  have hPc : va_P (dC, dI) classes wc H := fun j q hq => hP j q (by rw [List.getElem?_append_left (List.getElem?_eq_some_iff.mp hq).1]; exact hq)
  have hrecv := va_recv hE.1 hPc hc he
  rw [hr9] at hrecv
  refine k_gox rfl rfl (vx_runV (As := As) (rest := rest) ⟨hx, hb, hml, hown, hts⟩ (hM H.size) (cwV As.length hts (gi_V hk hin hse hini hco) rfl rfl rfl ⟨rfl, hd⟩ hrm) ⟨Pw_blind, hrecv, hpre⟩ rfl rfl hl.1 rfl (lv_room hcat) hdg hf) hP hD hS hA (fun E ce q9 w gc gs H1 locs1 h1 h2 h3 h4 h5 h6 h7 => kx E ce q9 w gc gs H1 locs1 h1 ⟨⟨hx, hb, hml, hown, hts, hlk⟩, hE, hA, h2, h3, h4⟩ h5 h6 h7) (fun r w gc gs H1 locs1 h1 h2 h3 h4 => kk r w gc gs H1 locs1 h1 ⟨⟨hx, hb, hml, hown, hts, hlk⟩, hE, hA, h2, h3, h4⟩)
theorem k_Sx (hM : Kx l dC dI k y (.code y bytes maxL ret) rm As wc post px) (B : bd p s m args meth c cc nL own dC dI k A (wc ++ wr) H locs) (hm : mS y bytes maxL ret As.length) (hk : Cond.methodLink own idx y ∈ gt) (hl : lv_has ls nL lv)
    (hrm : rm.frames + 1 ≤ R.frames ∧ 8 + (maxL + 11) + rm.locals ≤ R.locals) (hcat : (rest.map fun v => v.category).sum ≤ 8) (hst : st0 = As.reverse ++ rest) (hdg : decode cc pc = .ok (.invokestatic idx, 3)) (hf : cells + rm.cells ≤ R.cells ∧ slots + rm.slots ≤ R.slots)
    (kx : ∀ (E : String) (ce : Cell) (q9 : Addr) (w : va_W) (gc gs : Nat) (H1 : Heap) (locs1 : List Loc), px E w gc gs → bd p s m args meth c cc nL own dC dI k A (wr ++ w) H1 locs1 → H1[q9]? = some ce → ce.vm = .none → s.vm.findClass E = some ce.cls → vx_W p l e R s m args below meth c H1 locs1 (cells + gc) (slots + gs) Q (F0 m pc ls rest) q9)
    (kk : ∀ (r : Option Value) (w : va_W) (gc gs : Nat) (H1 : Heap) (locs1 : List Loc), post r w gc gs → bd p s m args meth c cc nL own dC dI k A (wr ++ w) H1 locs1 → W p l e R s m args below meth c H1 locs1 (cells + gc) (slots + gs) Q (F0 m (pc + 3) ls (r.toList ++ rest))) : W p l e R s m args below meth c H locs cells slots Q (F0 m pc ls st0) := by
  obtain ⟨⟨hx, hb, hml, hown, hts, hlk⟩, hE, hA, hP, hD, hS⟩ := B
  obtain ⟨⟨hco, hini, hd⟩, hstt⟩ := hm
  subst hst
  have hpre := k_pre hE hP hD hS hA (av := As)
  refine k_gox rfl rfl (vx_runS (As := As) (rest := rest) ⟨hx, hb, hml, hown, hts⟩ (hM H.size) (va_cwS As.length hts (gi_S hk hstt hini hco) rfl rfl rfl hd hrm) ⟨Pw_blind, hpre⟩ rfl rfl hl.1 rfl (lv_room hcat) hdg hf) hP hD hS hA (fun E ce q9 w gc gs H1 locs1 h1 h2 h3 h4 h5 h6 h7 => kx E ce q9 w gc gs H1 locs1 h1 ⟨⟨hx, hb, hml, hown, hts, hlk⟩, hE, hA, h2, h3, h4⟩ h5 h6 h7) (fun r w gc gs H1 locs1 h1 h2 h3 h4 => kk r w gc gs H1 locs1 h1 ⟨⟨hx, hb, hml, hown, hts, hlk⟩, hE, hA, h2, h3, h4⟩)
end CALLROWS
end ROWS1
