/-! loops; methods with a table of exceptions; longs compared -/
theorem x_loop {p : Program} {l : Launch} {e : Env} {R : Room} {s : State} {m : MethodId} {args : Array Value} {below : List Frame} {meth : Method} {c : Code} {cells slots pc : Nat} {Q : State → Prop} {st : List Value} {M : Nat → Array Slot → Heap → List Loc → Prop} (N : Nat)
    (step : ∀ i, i < N → (∀ ls H locs, M (i + 1) ls H locs → W p l e R s m args below meth c H locs cells slots Q (F0 m pc ls st)) → ∀ ls H locs, M i ls H locs → W p l e R s m args below meth c H locs cells slots Q (F0 m pc ls st))
    (last : ∀ ls H locs, M N ls H locs → W p l e R s m args below meth c H locs cells slots Q (F0 m pc ls st)) (i : Nat) (hi : i ≤ N) : ∀ ls H locs, M i ls H locs → W p l e R s m args below meth c H locs cells slots Q (F0 m pc ls st) := by
  obtain ⟨n, hn⟩ : ∃ n, i + n = N := ⟨N - i, by omega⟩
  induction n generalizing i with
  | zero =>
    have e : i = N := by omega
    rw [e]
    exact last
  | succ n ih => exact step i (by omega) (ih (i + 1) (by omega) (by omega))
theorem fillstep {g : Nat → Int32} {i : Nat} {v : Int32} (h : ∀ j, j < i → g j = v) : ∀ j, j < i + 1 → upd g i v j = v := by
  intro j hj
  by_cases e : j = i
  · simp [upd, e]
  · simp [upd, e]
    exact h j (by omega)
section ROWS5
variable {p : Program} {l : Launch} {e : Env} {R : Room} {s : State} {m : MethodId} {args : Array Value} {below : List Frame} {meth : Method} {c : Code} {H : Heap} {locs : List Loc} {cells slots : Nat} {Q : State → Prop}
variable {dC : Nat → ClassId} {dI : Nat → Nat → Nat} {k : Nat → ClassId} {A : Nat → Prop} {cc : ByteArray} {nL : Nat} {own : String} {ws : va_W} {pc : Nat} {ls : Array Slot} {rest st0 : List Value} {lv : List (Nat × Value)}
theorem cw_of {y : MethodName} {cc : ByteArray} {nL : Nat} {ret : Option FieldType} {hh : List (Nat × Nat × Nat × Nat)} {rm : Room} {av : List Value} {ws : va_W} {post : Option Value → va_W → Prop} (hy : plainName y.cls = true) (hlen : (lg_sl av).length ≤ nL)
    (body : ∀ (p : Program) (e : Env) (s : State) (m : MethodId) (args : Array Value) (below : List Frame) (meth : Method) (c : Code) (H : Heap) (locs : List Loc), bd p s m args meth c cc nL y.cls dC dI k (va_A ws s.heap.size) ws H locs → meth.sig.returnType = ret → c.exceptionTable.toList = tableOf hh → ∀ ls : Array Slot, lv_has ls nL (lv_args 0 av) →
      W p l e rm s m args below meth c H locs 0 0 (MQ below (Qw dC dI ws s.heap.size post) args s rm.cells rm.slots (va_A ws s.heap.size)) (F0 m 0 ls [])) : Ct l dC dI k y (.codeWith y cc nL ret hh) rm av ws post := by
  intro sz
  refine MetFree.of_bodyS (code := cc) (maxLocals := nL) (ret := ret) hy ?_ ?_
  · intro args s m h hn
    obtain ⟨m9, meth, c, hn9, h1, h2, h3, h4, -, h5, h6, -⟩ := Cond.codeWith_spec (atoms_spec (ws := Cond.codeWith y cc nL ret hh :: gt) h _ List.mem_cons_self)
    cases hn.symm.trans hn9
    exact ⟨meth, c, h1, h2, h3, h4, h5, h6⟩
  · intro p e s m args below meth c s₁ B hml hP _
    have hh0 : s₁.heap = s.heap := by rw [B.state]; rfl
    obtain ⟨rfl, hsz, hP, hD0, hE⟩ := hP
    subst hsz
    have hts := atoms_spec (ws := Cond.codeWith y cc nL ret hh :: gt) B.pre
    have hl := lv_entry av (n := nL) hlen
    have K : W p l e rm s m av.toArray below meth c s.heap [] 0 0 (MQ below (Qw dC dI ws s.heap.size post) av.toArray s rm.cells rm.slots (va_A ws s.heap.size)) (entryFrame m av.toArray nL) := by
      rw [lg_entry_eq]
      exact body p e s m _ below meth c _ _ ⟨⟨B.exec, B.bytes, hml, findClass_of_methodNamed B.named, fun w hw => hts w (List.mem_cons_of_mem _ hw), B.notSynchronized⟩, hE, fun q h => Or.inr h, hP, hD0.self, va_S.rf⟩ B.returns (vx_table (x := y) B (hts _ List.mem_cons_self)) _ hl
    obtain ⟨t, a1, o, b1, b2, b3⟩ := K s₁ hh0 (Stand.of_body B)
    exact ⟨t, o, a1, b1, b2, ⟨b3.1, b3.2⟩⟩
def mW (y : MethodName) (bytes : ByteArray) (maxL : Nat) (ret : Option FieldType) (hh : List (Nat × Nat × Nat × Nat)) (n : Nat) : Prop := (Cond.codeWith y bytes maxL ret hh ∈ gt ∧ Cond.initialized y.cls ∈ gt ∧ (y.cls ≠ "java/lang/invoke/MethodHandle" ∧ y.cls ≠ "java/lang/invoke/VarHandle" ∧ (parseMethodDescriptor y.desc).map (fun d => d.parameters.length) = some n)) ∧ Cond.static y ∈ gt
theorem x_callW {y : MethodName} {bytes : ByteArray} {maxL idx : Nat} {ret : Option FieldType} {hh : List (Nat × Nat × Nat × Nat)} {rm : Room} {As : List Value} {wc wr : va_W} {post : Option Value → va_W → Prop} (hM : Ct l dC dI k y (.codeWith y bytes maxL ret hh) rm As wc post) (B : bd p s m args meth c cc nL own dC dI k A ws H locs) (hm : mW y bytes maxL ret hh As.length) (hk : Cond.methodLink own idx y ∈ gt) (hl : lv_has ls nL lv)
    (isC isR : List Nat) (hC : isC.map (fun i => ws[i]?) = wc.map some) (hR : isR.map (fun i => ws[i]?) = wr.map some) (hn : va_nd isR = true ∧ va_nd isC = true) (hdis : ∀ i ∈ isR, i ∉ isC)
    (hrm : rm.frames + 1 ≤ R.frames ∧ 8 + (maxL + 11) + rm.locals ≤ R.locals) (hcat : (rest.map fun v => v.category).sum ≤ 8) (hst : st0 = As.reverse ++ rest) (hdg : decode cc pc = .ok (.invokestatic idx, 3)) (hf : cells + rm.cells ≤ R.cells ∧ slots + rm.slots ≤ R.slots)
    (kk : ∀ (r : Option Value) (w : va_W) (H1 : Heap) (locs1 : List Loc), post r w → bd p s m args meth c cc nL own dC dI k A (wr ++ w) H1 locs1 → W p l e R s m args below meth c H1 locs1 (cells + rm.cells) (slots + rm.slots) Q (F0 m (pc + 3) ls (r.toList ++ rest))) : W p l e R s m args below meth c H locs cells slots Q (F0 m pc ls st0) := by
  obtain ⟨⟨hx, hb, hml, hown, hts, hlk⟩, hE, hA, hP, hD, hS⟩ := B
  obtain ⟨⟨hco, hini, hd⟩, hstt⟩ := hm
  subst hst
  have hpre := x_pre hE hP hD hS hA isC hC hn.2 (av := As)
  refine x_go (vx_runSW (As := As) (rest := rest) ⟨hx, hb, hml, hown, hts⟩ (hM H.size) (vx_cwSW As.length hts (gi_S hk hstt hini hco) rfl rfl rfl hd hrm) ⟨Pw_blind, hpre⟩ rfl rfl hl.1 rfl (lv_room hcat) hdg hf) hP hD hS hA isC isR hC hR hn.1 hdis (fun r w H1 locs1 h1 h2 h3 h4 => kk r w H1 locs1 h1 ⟨⟨hx, hb, hml, hown, hts, hlk⟩, hE, hA, h2, h3, h4⟩)
theorem x_lcmp (B : bd p s m args meth c cc nL own dC dI k A ws H locs) {x y : Int64} {z : Int32} (hz : lg_cmp x y = z) (hdg : decode cc pc = .ok (.lcmp, 1)) (kk : W p l e R s m args below meth c H locs cells slots Q (F0 m (pc + 1) ls (.int z :: rest))) : W p l e R s m args below meth c H locs cells slots Q (F0 m pc ls (.long y :: .long x :: rest)) := by
  subst hz
  exact W.lcmp B.1.1 B.1.2.1 hdg kk
theorem x_aretA {rm : Room} {ws0 w : va_W} {post : Option Value → va_W → Prop} {v : Nat} {tt : FieldType} (B : bd p s m args meth c cc nL own dC dI k (va_A ws0 s.heap.size) w H locs) (hr : meth.sig.returnType = some (.array tt)) (hq : post (some (.ref v)) w) (hc : cells ≤ rm.cells) (hs : slots ≤ rm.slots) (hdg : decode cc pc = .ok (.areturn, 1)) :
    W p l e R s m args below meth c H locs cells slots (MQ below (Qw dC dI ws0 s.heap.size post) args s rm.cells rm.slots (va_A ws0 s.heap.size)) (F0 m pc ls [.ref v]) :=
  W.widen hc hs (W.aret B.1.1 B.1.2.1 hr (Or.inr ⟨tt, rfl⟩) (Or.inr ⟨v, rfl⟩) (x_q B hq) B.2.2.2.2.2.2.2 hdg B.1.2.2.2.2.2)
theorem vpc {x : Int32} {n : Nat} (h : 0 ≤ x.toInt ∧ x.toInt < n) : vp_in x n := vp_in_iff.mpr h
theorem x_max {index : Nat} (B : bd p s m args meth c cc nL own dC dI k A ws H locs) (hls : lv_has ls nL lv) (hlink : Cond.methodLink own index Lib.Math.max.name ∈ gt) (hstat : Cond.static Lib.Math.max.name ∈ gt) (hini : Cond.initialized "java/lang/Math" ∈ gt) (hcode : Cond.code Lib.Math.max.name Lib.Math.max.code 2 (some .int) ∈ gt)
    (hfr : 1 ≤ R.frames) (hlo : (rest.map fun v => v.category).sum + 13 ≤ R.locals) (hc : cells ≤ R.cells) (hs : slots ≤ R.slots) {x y z : Int32} (hz : (if x < y then y else x) = z) (hdg : decode cc pc = .ok (.invokestatic index, 3))
    (kk : W p l e R s m args below meth c H locs cells slots Q (F0 m (pc + 3) ls (.int z :: rest))) : W p l e R s m args below meth c H locs cells slots Q (F0 m pc ls (.int y :: .int x :: rest)) := by
  subst hz
  obtain ⟨⟨hx, hb, hml, hown, hts, hlk⟩, hE, hA, hP, hD, hS⟩ := B
  exact va_mmax hx hb (by rw [hml]; exact hls.1.symm) hown (hts _ hlink) (hts _ hstat) (hts _ hini) (hts _ hcode) hfr hlo hc hs hdg kk
end ROWS5
