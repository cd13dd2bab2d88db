/-! contracts over worlds; what a call leaves behind, and how far the heap has grown -/
section CALLS1
variable {p : Program} {l : Launch} {e : Env} {R : Room} {s : State} {m : MethodId} {args : Array Value} {below : List Frame} {meth : Method} {c : Code} {H H0 : Heap} {locs : List Loc} {cells slots : Nat} {Q : State → Prop}
variable {dC : Nat → ClassId} {dI : Nat → Nat → Nat} {k : Nat → ClassId} {A0 A1 : Nat → Prop}
def SzK (H0 H : Heap) : Prop := ∀ (a : Nat) (c : Cell), H0[a]? = some c → ∃ c' : Cell, H[a]? = some c' ∧ c'.slots.size = c.slots.size
/-- at most gc cells of gs slots have come -/
def Gr (H0 H : Heap) (gc gs : Nat) : Prop := H.size ≤ H0.size + gc ∧ ((H.toList.drop H0.size).map (·.slots.size)).sum ≤ gs
theorem Gr.mono {H0 H : Heap} {a b a' b' : Nat} (h : Gr H0 H a b) (h1 : a ≤ a') (h2 : b ≤ b') : Gr H0 H a' b' := ⟨by have := h.1; omega, by have := h.2; omega⟩
theorem sum_split {α : Type} (f : α → Nat) (L1 L2 : List α) (n : Nat) (hn : n ≤ L1.length) (h : ∀ (i : Nat) (c : α), L1[i]? = some c → ∃ c', L2[i]? = some c' ∧ f c' = f c) :
    ((L2.drop n).map f).sum = ((L1.drop n).map f).sum + ((L2.drop L1.length).map f).sum := by
  have hl : L1.length ≤ L2.length := by
    apply Nat.le_of_not_lt
    intro hlt
    obtain ⟨c', h1, -⟩ := h L2.length _ (List.getElem?_eq_getElem hlt)
    simp at h1
  have e1 : ((L2.take L1.length).drop n).map f = (L1.drop n).map f := by
    apply List.ext_getElem?
    intro i
    simp only [List.getElem?_map, List.getElem?_drop, List.getElem?_take]
    by_cases hi : n + i < L1.length
    · rw [if_pos hi]
      obtain ⟨c', h1, h2⟩ := h (n + i) _ (List.getElem?_eq_getElem hi)
      rw [h1, List.getElem?_eq_getElem hi]
      simp [h2]
    · rw [if_neg hi, List.getElem?_eq_none (by omega)]
  have e2 : L2.drop n = (L2.take L1.length).drop n ++ L2.drop L1.length := by
    conv => lhs; rw [← List.take_append_drop L1.length L2]
    rw [List.drop_append_of_le_length (by simp; omega)]
  rw [e2, List.map_append, List.sum_append, e1]
theorem Gr.trans {H0 H1 H2 : Heap} {a b c' d : Nat} (h1 : Gr H0 H1 a b) (h2 : Gr H1 H2 c' d) (hs : H0.size ≤ H1.size) (z : SzK H1 H2) : Gr H0 H2 (a + c') (b + d) := by
  refine ⟨by have := h1.1; have := h2.1; omega, ?_⟩
  have e := sum_split (fun c : Cell => c.slots.size) H1.toList H2.toList H0.size (by simpa using hs) (fun i c hc => by
    obtain ⟨c', g1, g2⟩ := z i c (by simpa using hc)
    exact ⟨c', by simpa using g1, g2⟩)
  have e3 : H1.toList.length = H1.size := by simp
  rw [e3] at e
  have q1 := h1.2
  have q2 := h2.2
  show ((H2.toList.drop H0.size).map (fun c : Cell => c.slots.size)).sum ≤ b + d
  omega
/-- what stands says how far the heap has grown -/
theorem stand_gr {T : State} (X : Stand p l e R s m args below meth c T locs cells slots) : s.heap.size ≤ T.heap.size ∧ Gr s.heap T.heap cells slots ∧ SzK s.heap T.heap := by
  obtain ⟨h1, h2, h3, h4, h5, h6⟩ := X.same
  exact ⟨h2, ⟨h3, h5⟩, fun a c hc => by obtain ⟨c', g1, -, g2, -⟩ := h6 a c hc; exact ⟨c', g1, g2⟩⟩
theorem stand_tight {T : State} {c2 s2 : Nat} (X : Stand p l e R s m args below meth c T locs cells slots) (h : Gr s.heap T.heap c2 s2) : Stand p l e R s m args below meth c T locs c2 s2 := by
  obtain ⟨h1, h2, h3, h4, h5, h6⟩ := X.same
  exact { X with same := ⟨h1, h2, h.1, h4, h.2, h6⟩ }
theorem k_same {g : JFrame} (kk : s.heap.size ≤ H.size → Gr s.heap H cells slots → SzK s.heap H → W p l e R s m args below meth c H locs cells slots Q g) : W p l e R s m args below meth c H locs cells slots Q g := by
  intro T hT X
  have h := stand_gr X
  rw [hT] at h
  exact kk h.1 h.2.1 h.2.2 T hT X
theorem k_sameX {g : JFrame} {q9 : Addr} (kk : s.heap.size ≤ H.size → Gr s.heap H cells slots → SzK s.heap H → vx_W p l e R s m args below meth c H locs cells slots Q g q9) : vx_W p l e R s m args below meth c H locs cells slots Q g q9 := by
  intro T hT X
  have h := stand_gr X
  rw [hT] at h
  exact kk h.1 h.2.1 h.2.2 T hT X
def cx (p : Program) (s : State) (m : MethodId) (args : Array Value) (meth : Method) (c : Code) (cc : ByteArray) (nL : Nat) (own : String) : Prop :=
  p.tables.exec = Jvm.exec ∧ c.code = cc ∧ c.maxLocals = nL ∧ s.vm.findClass own = some m.cls ∧ (∀ w ∈ gt, w.before args s = true) ∧ meth.locks = false
def Pw (dC : Nat → ClassId) (dI : Nat → Nat → Nat) (k : Nat → ClassId) (av : List Value) (ws : va_W) (sz : Nat) : Array Value → State → Prop := fun v U => v = av.toArray ∧ U.heap.size = sz ∧ va_P (dC, dI) classes ws U.heap ∧ va_D (fun _ => True) ws ∧ en dC dI k (va_A ws sz) U U.heap
theorem Pw_blind {av : List Value} {ws : va_W} {sz : Nat} : FrameBlind (Pw dC dI k av ws sz) := fun a U g mk h => ⟨h.1, h.2.1, h.2.2.1, h.2.2.2.1, en.same (u := U) (U := U.calling g mk a) rfl h.2.2.2.2⟩
/-- the end of a method: its answer, its world, and how far the heap has grown -/
def Qk (dC : Nat → ClassId) (dI : Nat → Nat → Nat) (ws : va_W) (sz : Nat) (post : Option Value → va_W → Nat → Nat → Prop) : Array Value → State → Outcome → State → Prop := fun _ st oc t =>
  (∃ (r : Option Value) (w : va_W) (gc gs : Nat), oc = .returned r ∧ post r w gc gs ∧ va_P (dC, dI) classes w t.heap ∧ va_D (va_A ws sz) w ∧ Gr st.heap t.heap gc gs ∧ SzK st.heap t.heap) ∧ va_F (va_A ws sz) st t
def Qx (dC : Nat → ClassId) (dI : Nat → Nat → Nat) (ws : va_W) (sz : Nat) (rm : Room) (px : String → va_W → Nat → Nat → Prop) : String → State → State → Prop := fun E st t =>
  (∃ (w : va_W) (gc gs : Nat), px E w gc gs ∧ va_P (dC, dI) classes w t.heap ∧ va_D (va_A ws sz) w ∧ ((Gr st.heap t.heap gc gs ∧ SzK st.heap t.heap) ∨ (rm.cells ≤ gc ∧ rm.slots ≤ gs))) ∧ va_F (va_A ws sz) st t
/-- a method that returns -/
def Kn (l : Launch) (dC : Nat → ClassId) (dI : Nat → Nat → Nat) (k : Nat → ClassId) (y : MethodName) (c0 : Cond) (rm : Room) (av : List Value) (ws : va_W) (post : Option Value → va_W → Nat → Nat → Prop) : Prop :=
  ∀ sz : Nat, Met l y (c0 :: gt) rm (Pw dC dI k av ws sz) (Qk dC dI ws sz post) rm.cells rm.slots (va_A ws sz)
/-- a method that returns, or throws E with px E -/
def Kx (l : Launch) (dC : Nat → ClassId) (dI : Nat → Nat → Nat) (k : Nat → ClassId) (y : MethodName) (c0 : Cond) (rm : Room) (av : List Value) (ws : va_W) (post : Option Value → va_W → Nat → Nat → Prop) (px : String → va_W → Nat → Nat → Prop) : Prop :=
  ∀ sz : Nat, vx_Met l y (c0 :: gt) rm (Pw dC dI k av ws sz) (Qk dC dI ws sz post) (Qx dC dI ws sz rm px) rm.cells rm.slots (va_A ws sz)
/-- what a body begins with -/
def bd (p : Program) (s : State) (m : MethodId) (args : Array Value) (meth : Method) (c : Code) (cc : ByteArray) (nL : Nat) (own : String) (dC : Nat → ClassId) (dI : Nat → Nat → Nat) (k : Nat → ClassId) (A : Nat → Prop) (ws : va_W) (H : Heap) (locs : List Loc) : Prop :=
  cx p s m args meth c cc nL own ∧ en dC dI k A s s.heap ∧ (∀ q, s.heap.size ≤ q → A q) ∧ va_P (dC, dI) classes ws H ∧ va_D A ws ∧ va_S A s.heap H locs
theorem kn_of {y : MethodName} {cc : ByteArray} {nL : Nat} {ret : Option FieldType} {rm : Room} {av : List Value} {ws : va_W} {post : Option Value → va_W → Nat → Nat → Prop} (hy : plainName y.cls = true) (hlen : (lg_sl av).length ≤ nL)
    (body : ∀ (p : Program) (e : Env) (s : State) (m : MethodId) (args : Array Value) (below : List Frame) (meth : Method) (c : Code) (H : Heap) (locs : List Loc), bd p s m args meth c cc nL y.cls dC dI k (va_A ws s.heap.size) ws H locs → meth.sig.returnType = ret → meth.name = y.name → ∀ ls : Array Slot, lv_has ls nL (lv_args 0 av) →
      W p l e rm s m args below meth c H locs 0 0 (MQ below (Qk dC dI ws s.heap.size post) args s rm.cells rm.slots (va_A ws s.heap.size)) (F0 m 0 ls [])) : Kn l dC dI k y (.code y cc nL ret) rm av ws post := by
  intro sz
  refine Met.ofW (cc := cc) (maxL := nL) (ret := ret) hy rfl ?_
  intro p e s m args below meth c s₁ B hml hv
  obtain ⟨rfl, hsz, hP, hD0, hE⟩ := hv
  subst hsz
  have hts := atoms_spec (ws := Cond.code y cc nL ret :: gt) B.pre
  have hl := lv_entry av (n := nL) hlen
  rw [lg_entry_eq]
  exact body p e s m _ below meth c _ _ ⟨⟨B.exec, B.bytes, hml, findClass_of_methodNamed B.named, fun w hw => hts w (List.mem_cons_of_mem _ hw), B.notSynchronized⟩, hE, fun q h => Or.inr h, hP, hD0.self, va_S.rf⟩ B.returns (name_of_methodNamed B.named B.method).1 _ hl
theorem kx_of {y : MethodName} {cc : ByteArray} {nL : Nat} {ret : Option FieldType} {rm : Room} {av : List Value} {ws : va_W} {post : Option Value → va_W → Nat → Nat → Prop} {px : String → va_W → Nat → Nat → Prop} (hy : plainName y.cls = true) (hlen : (lg_sl av).length ≤ nL)
    (body : ∀ (p : Program) (e : Env) (s : State) (m : MethodId) (args : Array Value) (below : List Frame) (meth : Method) (c : Code) (H : Heap) (locs : List Loc), bd p s m args meth c cc nL y.cls dC dI k (va_A ws s.heap.size) ws H locs → meth.sig.returnType = ret → (∀ x ∈ c.exceptionTable.toList, False) → ∀ ls : Array Slot, lv_has ls nL (lv_args 0 av) →
      W p l e rm s m args below meth c H locs 0 0 (vx_MQ below (Qk dC dI ws s.heap.size post) (Qx dC dI ws s.heap.size rm px) args s rm.cells rm.slots (va_A ws s.heap.size)) (F0 m 0 ls [])) : Kx l dC dI k y (.code y cc nL ret) rm av ws post px := by
  intro sz
  refine vx_ofW (cc := cc) (maxL := nL) (ret := ret) hy rfl ?_
  intro p e s m args below meth c s₁ B hml hex hv
  obtain ⟨rfl, hsz, hP, hD0, hE⟩ := hv
  subst hsz
  have hts := atoms_spec (ws := Cond.code y cc nL ret :: gt) B.pre
  have hl := lv_entry av (n := nL) hlen
  rw [lg_entry_eq]
  exact body p e s m _ below meth c _ _ ⟨⟨B.exec, B.bytes, hml, findClass_of_methodNamed B.named, fun w hw => hts w (List.mem_cons_of_mem _ hw), B.notSynchronized⟩, hE, fun q h => Or.inr h, hP, hD0.self, va_S.rf⟩ B.returns hex _ hl
theorem ix_l (a b : va_W) : (List.range a.length).map (fun i => (a ++ b)[i]?) = a.map some := by
  apply List.ext_getElem?
  intro i
  simp only [List.getElem?_map, List.getElem?_range']
  by_cases h : i < a.length
  · simp [List.getElem?_range h, List.getElem?_append_left h, List.getElem?_eq_getElem h]
  · rw [List.getElem?_eq_none (by simpa using h), List.getElem?_eq_none (by omega)]
    rfl
theorem ix_r (a b : va_W) : ((List.range b.length).map (fun i => a.length + i)).map (fun i => (a ++ b)[i]?) = b.map some := by
  apply List.ext_getElem?
  intro i
  simp only [List.map_map, List.getElem?_map]
  by_cases h : i < b.length
  · have e : (a ++ b)[a.length + i]? = b[i]? := by rw [List.getElem?_append_right (Nat.le_add_right _ _), Nat.add_sub_cancel_left]
    simp [List.getElem?_range h, List.getElem?_eq_getElem h, e]
  · rw [List.getElem?_eq_none (by simpa using h), List.getElem?_eq_none (by omega)]
    rfl
theorem nd_of : ∀ {l : List Nat}, l.Nodup → va_nd l = true
  | [], _ => rfl
  | a :: l, h => by
    have h2 := List.nodup_cons.mp h
    simp only [va_nd, Bool.and_eq_true, decide_eq_true_eq]
    exact ⟨h2.1, nd_of h2.2⟩
theorem nd_l (n : Nat) : va_nd (List.range n) = true := nd_of List.nodup_range
theorem nd_r (a n : Nat) : va_nd ((List.range n).map (fun i => a + i)) = true := by
  apply nd_of
  rw [List.nodup_iff_pairwise_ne, List.pairwise_map]
  exact List.Pairwise.imp (fun h e => h (by omega)) (List.nodup_iff_pairwise_ne.mp List.nodup_range)
theorem nd_x (a b : va_W) : ∀ i ∈ (List.range b.length).map (fun i => a.length + i), i ∉ List.range a.length := by
  intro i hi h
  obtain ⟨j, -, rfl⟩ := List.mem_map.mp hi
  have := List.mem_range.mp h
  omega
/-- the world behind a call -/
theorem k_go {mc ms pc : Nat} {ls : Array Slot} {st0 rest : List Value} {a : Array Value} {wc wr : va_W} {post : Option Value → va_W → Nat → Nat → Prop} (hr : va_Run p l e R s m args below meth c H locs cells slots mc ms (F0 m pc ls st0) rest (Qk dC dI wc H.size post a) (va_A wc H.size))
    (hP : va_P (dC, dI) classes (wc ++ wr) H) (hD : va_D A0 (wc ++ wr)) (hS : va_S A0 s.heap H locs) (hA : ∀ q, s.heap.size ≤ q → A0 q)
    (kk : ∀ (r : Option Value) (w : va_W) (gc gs : Nat) (H1 : Heap) (locs1 : List Loc), post r w gc gs → va_P (dC, dI) classes (wr ++ w) H1 → va_D A0 (wr ++ w) → va_S A0 s.heap H1 locs1 → W p l e R s m args below meth c H1 locs1 (cells + gc) (slots + gs) Q (F0 m (pc + 3) ls (r.toList ++ rest))) : W p l e R s m args below meth c H locs cells slots Q (F0 m pc ls st0) := by
  have hF := va_free (wc := wc) hD hS hA (List.range wc.length) (ix_l wc wr)
  intro T hT X
  have g0 := stand_gr X
  obtain ⟨v, st₀, t, T', L, h0, X', hL, e1, e2, ⟨⟨r, w, gc, gs, hv, hp, hPw, hDw, hg, hz0⟩, hz, hk⟩, st⟩ := hr T hT X
  cases hv
  rw [h0] at hz hk hg hz0
  rw [hT] at g0
  obtain ⟨hP1, hD1⟩ := va_join (wr := wr) (w1 := w) (H1 := T'.heap) hP hD (List.range wc.length) _ (ix_l wc wr) (ix_r wc wr) (nd_r _ _) (nd_x _ _) (fun q h1 h2 => by rw [e1]; exact hk q h1 h2) hF (by rw [e1]; exact hPw) hDw
  have hg' : Gr s.heap T'.heap (cells + gc) (slots + gs) := by rw [e1]; exact g0.2.1.trans hg g0.1 hz0
  obtain ⟨t2, a1, b1⟩ := kk v w gc gs T'.heap (locs ++ L) hp hP1 hD1
    ⟨Nat.le_trans hS.1 (by rw [e1]; exact hz), fun q h1 h2 => by rw [e1, hk q (Nat.lt_of_lt_of_le h1 hS.1) (fun z => h2 (hF q z))]; exact hS.2.1 q h1 h2, fun q hq => by
      rcases List.mem_append.mp hq with h | h
      · exact hS.2.2 q h
      · exact hF _ (hL q h)⟩ T' rfl (stand_tight X' hg')
  exact ⟨t2, st t2 a1, b1⟩
/-- .. and behind one that may throw -/
theorem k_gox {mc ms pc : Nat} {ls : Array Slot} {st0 rest : List Value} {a : Array Value} {wc wr : va_W} {rm : Room} {post : Option Value → va_W → Nat → Nat → Prop} {px : String → va_W → Nat → Nat → Prop} (hmc : mc = rm.cells) (hms : ms = rm.slots) (hr : vx_Run p l e R s m args below meth c H locs cells slots mc ms (F0 m pc ls st0) rest (Qk dC dI wc H.size post a) (Qx dC dI wc H.size rm px) (va_A wc H.size))
    (hP : va_P (dC, dI) classes (wc ++ wr) H) (hD : va_D A0 (wc ++ wr)) (hS : va_S A0 s.heap H locs) (hA : ∀ q, s.heap.size ≤ q → A0 q)
    (kx : ∀ (E : String) (ce : Cell) (q9 : Addr) (w : va_W) (gc gs : Nat) (H1 : Heap) (locs1 : List Loc), px E w gc gs → va_P (dC, dI) classes (wr ++ w) H1 → va_D A0 (wr ++ w) → va_S A0 s.heap H1 locs1 → H1[q9]? = some ce → ce.vm = .none → s.vm.findClass E = some ce.cls → vx_W p l e R s m args below meth c H1 locs1 (cells + gc) (slots + gs) Q (F0 m pc ls rest) q9)
    (kk : ∀ (r : Option Value) (w : va_W) (gc gs : Nat) (H1 : Heap) (locs1 : List Loc), post r w gc gs → va_P (dC, dI) classes (wr ++ w) H1 → va_D A0 (wr ++ w) → va_S A0 s.heap H1 locs1 → W p l e R s m args below meth c H1 locs1 (cells + gc) (slots + gs) Q (F0 m (pc + 3) ls (r.toList ++ rest))) : W p l e R s m args below meth c H locs cells slots Q (F0 m pc ls st0) := by
  have hF := va_free (wc := wc) hD hS hA (List.range wc.length) (ix_l wc wr)
  intro T hT X
  have g0 := stand_gr X
  rw [hT] at g0
  rcases hr T hT X with ⟨v, st₀, t, T', L, h0, X', hL, e1, e2, ⟨⟨r, w, gc, gs, hv, hp, hPw, hDw, hg, hz0⟩, hz, hk⟩, st⟩ | ⟨q, st₀, t, T', L, E, ce, h0, X', hL, e1, e2, ⟨⟨w, gc, gs, hp, hPw, hDw, hg⟩, hz, hk⟩, hce, hcv, hcl, st⟩
  · cases hv
    rw [h0] at hz hk hg hz0
    obtain ⟨hP1, hD1⟩ := va_join (wr := wr) (w1 := w) (H1 := T'.heap) hP hD (List.range wc.length) _ (ix_l wc wr) (ix_r wc wr) (nd_r _ _) (nd_x _ _) (fun q h1 h2 => by rw [e1]; exact hk q h1 h2) hF (by rw [e1]; exact hPw) hDw
    have hg' : Gr s.heap T'.heap (cells + gc) (slots + gs) := by rw [e1]; exact g0.2.1.trans hg g0.1 hz0
    obtain ⟨t2, a1, b1⟩ := kk v w gc gs T'.heap (locs ++ L) hp hP1 hD1
      ⟨Nat.le_trans hS.1 (by rw [e1]; exact hz), fun q h1 h2 => by rw [e1, hk q (Nat.lt_of_lt_of_le h1 hS.1) (fun z => h2 (hF q z))]; exact hS.2.1 q h1 h2, fun q hq => by
        rcases List.mem_append.mp hq with h | h
        · exact hS.2.2 q h
        · exact hF _ (hL q h)⟩ T' rfl (stand_tight X' hg')
    exact ⟨t2, st t2 a1, b1⟩
  · rw [h0] at hz hk hg
    obtain ⟨hP1, hD1⟩ := va_join (wr := wr) (w1 := w) (H1 := T'.heap) hP hD (List.range wc.length) _ (ix_l wc wr) (ix_r wc wr) (nd_r _ _) (nd_x _ _) (fun q h1 h2 => by rw [e1]; exact hk q h1 h2) hF (by rw [e1]; exact hPw) hDw
    have X2 : Stand p l e R s m args below meth c T' (locs ++ L) (cells + gc) (slots + gs) := by
      rcases hg with hg | hg
      · exact stand_tight X' (by rw [e1]; exact g0.2.1.trans hg.1 g0.1 hg.2)
      · exact stand_widen X' (by omega) (by omega)
    obtain ⟨t2, a1, b1⟩ := kx E ce q w gc gs T'.heap (locs ++ L) hp hP1 hD1
      ⟨Nat.le_trans hS.1 (by rw [e1]; exact hz), fun q h1 h2 => by rw [e1, hk q (Nat.lt_of_lt_of_le h1 hS.1) (fun z => h2 (hF q z))]; exact hS.2.1 q h1 h2, fun q hq => by
        rcases List.mem_append.mp hq with h | h
        · exact hS.2.2 q h
        · exact hF _ (hL q h)⟩ (by rw [e1]; exact hce) hcv hcl T' rfl X2
    exact ⟨t2, st.trans a1, b1⟩
/-- a callee's start out of the caller's world -/
theorem k_pre {av : List Value} {wc wr : va_W} (E : en dC dI k A0 s s.heap) (hP : va_P (dC, dI) classes (wc ++ wr) H) (hD : va_D A0 (wc ++ wr)) (hS : va_S A0 s.heap H locs) (hA : ∀ q, s.heap.size ≤ q → A0 q) :
    ∀ U : State, U.heap = H → s.WarmedH U.vm → Pw dC dI k av wc H.size av.toArray U := by
  have hF := va_free (wc := wc) hD hS hA (List.range wc.length) (ix_l wc wr)
  intro U hU hW
  refine ⟨rfl, by rw [hU], ?_, ?_, ?_⟩
  · rw [hU]
    intro j q hq
    have hj : j < wc.length := (List.getElem?_eq_some_iff.mp hq).1
    exact hP j q (by rw [List.getElem?_append_left hj]; exact hq)
  · exact (hD.sub (List.range wc.length) (nd_l _) (ix_l wc wr)).weaken (fun _ _ _ _ => trivial)
  · have h1 : en dC dI k A0 s H := en.kept E hS.2.1
    have h2 := en.warm (U := U) hW (en.narrow h1 hF)
    rw [hU]
    exact h2
end CALLS1
