/-! law's wrappers, loops, whole numbers -/
section ROWS5
variable {p : Program} {l : Launch} {e : Env} {R : Room} {s : State} {m : MethodId} {args : Array Value} {below : List Frame} {meth : Method} {c : Code} {H : Heap} {locs : List Loc} {cells slots : Nat} {Q : State → Prop}
variable {dC : Nat → ClassId} {dI : Nat → Nat → Nat} {k : Nat → ClassId} {A : Nat → Prop} {cc : ByteArray} {nL : Nat} {own : String} {ws : va_W} {pc : Nat} {ls : Array Slot} {rest st0 : List Value} {lv : List (Nat × Value)}
theorem kw_of {y : MethodName} {cc : ByteArray} {nL : Nat} {ret : Option FieldType} {hh : List (Nat × Nat × Nat × Nat)} {rm : Room} {av : List Value} {ws : va_W} {post : Option Value → va_W → Nat → Nat → Prop} (hy : plainName y.cls = true) (hlen : (lg_sl av).length ≤ nL)
    (body : ∀ (p : Program) (e : Env) (s : State) (m : MethodId) (args : Array Value) (below : List Frame) (meth : Method) (c : Code) (H : Heap) (locs : List Loc), bd p s m args meth c cc nL y.cls dC dI k (va_A ws s.heap.size) ws H locs → meth.sig.returnType = ret → c.exceptionTable.toList = tableOf hh → ∀ ls : Array Slot, lv_has ls nL (lv_args 0 av) →
      W p l e rm s m args below meth c H locs 0 0 (MQ below (Qk dC dI ws s.heap.size post) args s rm.cells rm.slots (va_A ws s.heap.size)) (F0 m 0 ls [])) : Kn l dC dI k y (.codeWith y cc nL ret hh) rm av ws post := by
  intro sz
  refine MetFree.of_bodyS (code := cc) (maxLocals := nL) (ret := ret) hy ?_ ?_
  · intro args s m h hn
    obtain ⟨m9, meth, c, hn9, h1, h2, h3, h4, -, h5, h6, -⟩ := Cond.codeWith_spec (atoms_spec (ws := Cond.codeWith y cc nL ret hh :: gt) h _ List.mem_cons_self)
    cases hn.symm.trans hn9
    exact ⟨meth, c, h1, h2, h3, h4, h5, h6⟩
  · intro p e s m args below meth c s₁ B hml hP _
    have hh0 : s₁.heap = s.heap := by rw [B.state]; rfl
    obtain ⟨rfl, hsz, hP, hD0, hE⟩ := hP
    subst hsz
    have hts := atoms_spec (ws := Cond.codeWith y cc nL ret hh :: gt) B.pre
    have hl := lv_entry av (n := nL) hlen
    have K : W p l e rm s m av.toArray below meth c s.heap [] 0 0 (MQ below (Qk dC dI ws s.heap.size post) av.toArray s rm.cells rm.slots (va_A ws s.heap.size)) (entryFrame m av.toArray nL) := by
      rw [lg_entry_eq]
      exact body p e s m _ below meth c _ _ ⟨⟨B.exec, B.bytes, hml, findClass_of_methodNamed B.named, fun w hw => hts w (List.mem_cons_of_mem _ hw), B.notSynchronized⟩, hE, fun q h => Or.inr h, hP, hD0.self, va_S.rf⟩ B.returns (vx_table (x := y) B (hts _ List.mem_cons_self)) _ hl
    obtain ⟨t, a1, o, b1, b2, b3⟩ := K s₁ hh0 (Stand.of_body B)
    exact ⟨t, o, a1, b1, b2, ⟨b3.1, b3.2⟩⟩
def mW (y : MethodName) (bytes : ByteArray) (maxL : Nat) (ret : Option FieldType) (hh : List (Nat × Nat × Nat × Nat)) (n : Nat) : Prop := (Cond.codeWith y bytes maxL ret hh ∈ gt ∧ Cond.initialized y.cls ∈ gt ∧ (y.cls ≠ "java/lang/invoke/MethodHandle" ∧ y.cls ≠ "java/lang/invoke/VarHandle" ∧ (parseMethodDescriptor y.desc).map (fun d => d.parameters.length) = some n)) ∧ Cond.static y ∈ gt
theorem k_W {y : MethodName} {bytes : ByteArray} {maxL idx : Nat} {ret : Option FieldType} {hh : List (Nat × Nat × Nat × Nat)} {rm : Room} {As : List Value} {wc wr : va_W} {post : Option Value → va_W → Nat → Nat → Prop} (hM : Kn l dC dI k y (.codeWith y bytes maxL ret hh) rm As wc post) (B : bd p s m args meth c cc nL own dC dI k A (wc ++ wr) H locs) (hm : mW y bytes maxL ret hh As.length) (hk : Cond.methodLink own idx y ∈ gt) (hl : lv_has ls nL lv)
    (hrm : rm.frames + 1 ≤ R.frames ∧ 8 + (maxL + 11) + rm.locals ≤ R.locals) (hcat : (rest.map fun v => v.category).sum ≤ 8) (hst : st0 = As.reverse ++ rest) (hdg : decode cc pc = .ok (.invokestatic idx, 3)) (hf : cells + rm.cells ≤ R.cells ∧ slots + rm.slots ≤ R.slots)
    (kk : ∀ (r : Option Value) (w : va_W) (gc gs : Nat) (H1 : Heap) (locs1 : List Loc), post r w gc gs → bd p s m args meth c cc nL own dC dI k A (wr ++ w) H1 locs1 → W p l e R s m args below meth c H1 locs1 (cells + gc) (slots + gs) Q (F0 m (pc + 3) ls (r.toList ++ rest))) : W p l e R s m args below meth c H locs cells slots Q (F0 m pc ls st0) := by
  obtain ⟨⟨hx, hb, hml, hown, hts, hlk⟩, hE, hA, hP, hD, hS⟩ := B
  obtain ⟨⟨hco, hini, hd⟩, hstt⟩ := hm
  subst hst
  have hpre := k_pre hE hP hD hS hA (av := As)
  refine k_go (vx_runSW (As := As) (rest := rest) ⟨hx, hb, hml, hown, hts⟩ (hM H.size) (vx_cwSW As.length hts (gi_S hk hstt hini hco) rfl rfl rfl hd hrm) ⟨Pw_blind, hpre⟩ rfl rfl hl.1 rfl (lv_room hcat) hdg hf) hP hD hS hA (fun r w gc gs H1 locs1 h1 h2 h3 h4 => kk r w gc gs H1 locs1 h1 ⟨⟨hx, hb, hml, hown, hts, hlk⟩, hE, hA, h2, h3, h4⟩)
theorem x_lcmp (B : bd p s m args meth c cc nL own dC dI k A ws H locs) {x y : Int64} {z : Int32} (hz : lg_cmp x y = z) (hdg : decode cc pc = .ok (.lcmp, 1)) (kk : W p l e R s m args below meth c H locs cells slots Q (F0 m (pc + 1) ls (.int z :: rest))) : W p l e R s m args below meth c H locs cells slots Q (F0 m pc ls (.long y :: .long x :: rest)) := by
  subst hz
  exact W.lcmp B.1.1 B.1.2.1 hdg kk
theorem x_max {index : Nat} (B : bd p s m args meth c cc nL own dC dI k A ws H locs) (hls : lv_has ls nL lv) (hlink : Cond.methodLink own index Lib.Math.max.name ∈ gt) (hstat : Cond.static Lib.Math.max.name ∈ gt) (hini : Cond.initialized "java/lang/Math" ∈ gt) (hcode : Cond.code Lib.Math.max.name Lib.Math.max.code 2 (some .int) ∈ gt)
    (hfr : 1 ≤ R.frames) (hlo : (rest.map fun v => v.category).sum + 13 ≤ R.locals) (hc : cells ≤ R.cells) (hs : slots ≤ R.slots) {x y z : Int32} (hz : (if x < y then y else x) = z) (hdg : decode cc pc = .ok (.invokestatic index, 3))
    (kk : W p l e R s m args below meth c H locs cells slots Q (F0 m (pc + 3) ls (.int z :: rest))) : W p l e R s m args below meth c H locs cells slots Q (F0 m pc ls (.int y :: .int x :: rest)) := by
  subst hz
  obtain ⟨⟨hx, hb, hml, hown, hts, hlk⟩, hE, hA, hP, hD, hS⟩ := B
  exact va_mmax hx hb (by rw [hml]; exact hls.1.symm) hown (hts _ hlink) (hts _ hstat) (hts _ hini) (hts _ hcode) hfr hlo hc hs hdg kk
theorem x_min {index : Nat} (B : bd p s m args meth c cc nL own dC dI k A ws H locs) (hls : lv_has ls nL lv) (hlink : Cond.methodLink own index Lib.Math.min.name ∈ gt) (hstat : Cond.static Lib.Math.min.name ∈ gt) (hini : Cond.initialized "java/lang/Math" ∈ gt) (hcode : Cond.code Lib.Math.min.name Lib.Math.min.code 2 (some .int) ∈ gt)
    (hfr : 1 ≤ R.frames) (hlo : (rest.map fun v => v.category).sum + 13 ≤ R.locals) (hc : cells ≤ R.cells) (hs : slots ≤ R.slots) {x y z : Int32} (hz : (if y < x then y else x) = z) (hdg : decode cc pc = .ok (.invokestatic index, 3))
    (kk : W p l e R s m args below meth c H locs cells slots Q (F0 m (pc + 3) ls (.int z :: rest))) : W p l e R s m args below meth c H locs cells slots Q (F0 m pc ls (.int y :: .int x :: rest)) := by
  subst hz
  obtain ⟨⟨hx, hb, hml, hown, hts, hlk⟩, hE, hA, hP, hD, hS⟩ := B
  exact va_mmin hx hb (by rw [hml]; exact hls.1.symm) hown (hts _ hlink) (hts _ hstat) (hts _ hini) (hts _ hcode) hfr hlo hc hs hdg kk

/-- a loop: the ghost state g with I g, a measure that falls; locals and world by g -/
theorem k_loop {σ : Type} {ws0 : va_W} {H0 : Heap} {locs0 : List Loc} (B0 : bd p s m args meth c cc nL own dC dI k A ws0 H0 locs0) (I : σ → Prop) (μ : σ → Nat) (lvF : σ → List (Nat × Value)) (wF : σ → va_W) {st : List Value}
    (hs : ∀ g, I g → (∀ g', I g' → μ g' < μ g → ∀ ls H locs, lv_has ls nL (lvF g') → bd p s m args meth c cc nL own dC dI k A (wF g') H locs → W p l e R s m args below meth c H locs cells slots Q (F0 m pc ls st)) →
      ∀ ls H locs, lv_has ls nL (lvF g) → bd p s m args meth c cc nL own dC dI k A (wF g) H locs → W p l e R s m args below meth c H locs cells slots Q (F0 m pc ls st))
    (g : σ) (h : I g) : ∀ ls H locs, lv_has ls nL (lvF g) → bd p s m args meth c cc nL own dC dI k A (wF g) H locs → W p l e R s m args below meth c H locs cells slots Q (F0 m pc ls st) := by
  have key : ∀ n g, μ g < n → I g → ∀ ls H locs, lv_has ls nL (lvF g) → bd p s m args meth c cc nL own dC dI k A (wF g) H locs → W p l e R s m args below meth c H locs cells slots Q (F0 m pc ls st) := by
    intro n
    induction n with
    | zero => intro g hg; omega
    | succ n ih => intro g hg hI; exact hs g hI (fun g' h1 h2 => ih g' (by omega) h1)
  exact key _ g (Nat.lt_succ_self _) h
/-- .. where the heap grows -/
theorem k_loopG {σ : Type} {ws0 : va_W} {H0 : Heap} {locs0 : List Loc} (B0 : bd p s m args meth c cc nL own dC dI k A ws0 H0 locs0) (I : σ → Prop) (μ : σ → Nat) (lvF : σ → List (Nat × Value)) (wF : σ → va_W) (cF sF : σ → Nat) {st : List Value}
    (hs : ∀ g, I g → (∀ g', I g' → μ g' < μ g → ∀ ls H locs, lv_has ls nL (lvF g') → bd p s m args meth c cc nL own dC dI k A (wF g') H locs → W p l e R s m args below meth c H locs (cF g') (sF g') Q (F0 m pc ls st)) →
      ∀ ls H locs, lv_has ls nL (lvF g) → bd p s m args meth c cc nL own dC dI k A (wF g) H locs → W p l e R s m args below meth c H locs (cF g) (sF g) Q (F0 m pc ls st))
    (g : σ) (h : I g) : ∀ ls H locs, lv_has ls nL (lvF g) → bd p s m args meth c cc nL own dC dI k A (wF g) H locs → W p l e R s m args below meth c H locs (cF g) (sF g) Q (F0 m pc ls st) := by
  have key : ∀ n g, μ g < n → I g → ∀ ls H locs, lv_has ls nL (lvF g) → bd p s m args meth c cc nL own dC dI k A (wF g) H locs → W p l e R s m args below meth c H locs (cF g) (sF g) Q (F0 m pc ls st) := by
    intro n
    induction n with
    | zero => intro g hg; omega
    | succ n ih => intro g hg hI; exact hs g hI (fun g' h1 h2 => ih g' (by omega) h1)
  exact key _ g (Nat.lt_succ_self _) h
/-- a place that several ways reach -/
theorem k_join {σ : Type} {g0 : JFrame} (B0 : bd p s m args meth c cc nL own dC dI k A ws H locs) (pj : Nat) (I : σ → Prop) (lvF : σ → List (Nat × Value)) (wF : σ → va_W) (sF : σ → List Value)
    (body : ∀ g, I g → ∀ ls H locs, lv_has ls nL (lvF g) → bd p s m args meth c cc nL own dC dI k A (wF g) H locs → W p l e R s m args below meth c H locs cells slots Q (F0 m pj ls (sF g)))
    (rest : (∀ g, I g → ∀ ls H locs, lv_has ls nL (lvF g) → bd p s m args meth c cc nL own dC dI k A (wF g) H locs → W p l e R s m args below meth c H locs cells slots Q (F0 m pj ls (sF g))) → W p l e R s m args below meth c H locs cells slots Q g0) : W p l e R s m args below meth c H locs cells slots Q g0 := rest body
section INTS
theorem y_add (hx : p.tables.exec = Jvm.exec) (hb : c.code = cc) {a b : Int} (hdg : decode cc pc = .ok (.iadd, 1)) (kk : W p l e R s m args below meth c H locs cells slots Q (F0 m (pc + 1) ls (.int (iI (a + b)) :: rest))) : W p l e R s m args below meth c H locs cells slots Q (F0 m pc ls (.int (iI b) :: .int (iI a) :: rest)) := lv_iadd hx hb hdg (by rw [iI_add]; exact kk)
theorem y_sub (hx : p.tables.exec = Jvm.exec) (hb : c.code = cc) {a b : Int} (hdg : decode cc pc = .ok (.isub, 1)) (kk : W p l e R s m args below meth c H locs cells slots Q (F0 m (pc + 1) ls (.int (iI (a - b)) :: rest))) : W p l e R s m args below meth c H locs cells slots Q (F0 m pc ls (.int (iI b) :: .int (iI a) :: rest)) := lv_isub hx hb hdg (by rw [iI_sub]; exact kk)
theorem y_mul (hx : p.tables.exec = Jvm.exec) (hb : c.code = cc) {a b : Int} (hdg : decode cc pc = .ok (.imul, 1)) (kk : W p l e R s m args below meth c H locs cells slots Q (F0 m (pc + 1) ls (.int (iI (a * b)) :: rest))) : W p l e R s m args below meth c H locs cells slots Q (F0 m pc ls (.int (iI b) :: .int (iI a) :: rest)) := lv_imul hx hb hdg (by rw [iI_mul]; exact kk)
theorem y_neg (hx : p.tables.exec = Jvm.exec) (hb : c.code = cc) {a : Int} (hdg : decode cc pc = .ok (.ineg, 1)) (kk : W p l e R s m args below meth c H locs cells slots Q (F0 m (pc + 1) ls (.int (iI (-a)) :: rest))) : W p l e R s m args below meth c H locs cells slots Q (F0 m pc ls (.int (iI a) :: rest)) := lv_ineg hx hb hdg (by rw [iI_neg]; exact kk)
theorem y_div (hx : p.tables.exec = Jvm.exec) (hb : c.code = cc) {a b : Int} (ha : 0 ≤ a ∧ a < 2147483648) (hb2 : 0 < b ∧ b < 2147483648) (hdg : decode cc pc = .ok (.idiv, 1)) (kk : W p l e R s m args below meth c H locs cells slots Q (F0 m (pc + 1) ls (.int (iI (a / b)) :: rest))) : W p l e R s m args below meth c H locs cells slots Q (F0 m pc ls (.int (iI b) :: .int (iI a) :: rest)) := lv_idiv hx hb hdg (iI_ne0 (by omega) (by omega)) (by rw [iI_div ha hb2]; exact kk)
theorem y_rem (hx : p.tables.exec = Jvm.exec) (hb : c.code = cc) {a b : Int} (ha : 0 ≤ a ∧ a < 2147483648) (hb2 : 0 < b ∧ b < 2147483648) (hdg : decode cc pc = .ok (.irem, 1)) (kk : W p l e R s m args below meth c H locs cells slots Q (F0 m (pc + 1) ls (.int (iI (a % b)) :: rest))) : W p l e R s m args below meth c H locs cells slots Q (F0 m pc ls (.int (iI b) :: .int (iI a) :: rest)) := lv_irem hx hb hdg (iI_ne0 (by omega) (by omega)) (by rw [iI_rem ha hb2]; exact kk)
theorem y_and (hx : p.tables.exec = Jvm.exec) (hb : c.code = cc) {a b : Int} (ha : 0 ≤ a ∧ a < 2147483648) (hb2 : 0 ≤ b ∧ b < 2147483648) (hdg : decode cc pc = .ok (.iand, 1)) (kk : W p l e R s m args below meth c H locs cells slots Q (F0 m (pc + 1) ls (.int (iI (bAnd a b)) :: rest))) : W p l e R s m args below meth c H locs cells slots Q (F0 m pc ls (.int (iI b) :: .int (iI a) :: rest)) := lv_iand hx hb hdg (by rw [iI_and ha hb2]; exact kk)
theorem y_dif (hx : p.tables.exec = Jvm.exec) (hb : c.code = cc) {a b : Int} (ha : 0 ≤ a ∧ a < 2147483648) (hb2 : 0 ≤ b ∧ b < 2147483648) (hdg : decode cc pc = .ok (.iand, 1)) (kk : W p l e R s m args below meth c H locs cells slots Q (F0 m (pc + 1) ls (.int (iI (bDif a b)) :: rest))) : W p l e R s m args below meth c H locs cells slots Q (F0 m pc ls (.int (iI (-b - 1)) :: .int (iI a) :: rest)) := lv_iand hx hb hdg (by rw [iI_dif ha hb2]; exact kk)
theorem y_or (hx : p.tables.exec = Jvm.exec) (hb : c.code = cc) {a b : Int} (ha : 0 ≤ a ∧ a < 2147483648) (hb2 : 0 ≤ b ∧ b < 2147483648) (hdg : decode cc pc = .ok (.ior, 1)) (kk : W p l e R s m args below meth c H locs cells slots Q (F0 m (pc + 1) ls (.int (iI (bOr a b)) :: rest))) : W p l e R s m args below meth c H locs cells slots Q (F0 m pc ls (.int (iI b) :: .int (iI a) :: rest)) := lv_ior hx hb hdg (by rw [iI_or ha hb2]; exact kk)
theorem y_xor (hx : p.tables.exec = Jvm.exec) (hb : c.code = cc) {a b : Int} (ha : 0 ≤ a ∧ a < 2147483648) (hb2 : 0 ≤ b ∧ b < 2147483648) (hdg : decode cc pc = .ok (.ixor, 1)) (kk : W p l e R s m args below meth c H locs cells slots Q (F0 m (pc + 1) ls (.int (iI (bXor a b)) :: rest))) : W p l e R s m args below meth c H locs cells slots Q (F0 m pc ls (.int (iI b) :: .int (iI a) :: rest)) := lv_ixor hx hb hdg (by rw [iI_xor ha hb2]; exact kk)
theorem y_not (hx : p.tables.exec = Jvm.exec) (hb : c.code = cc) {a : Int} (hdg : decode cc pc = .ok (.ixor, 1)) (kk : W p l e R s m args below meth c H locs cells slots Q (F0 m (pc + 1) ls (.int (iI (-a - 1)) :: rest))) : W p l e R s m args below meth c H locs cells slots Q (F0 m pc ls (.int (iI (-1)) :: .int (iI a) :: rest)) := lv_ixor hx hb hdg (by rw [iI_not]; exact kk)
theorem y_shl (hx : p.tables.exec = Jvm.exec) (hb : c.code = cc) {a b : Int} (ha : 0 ≤ a) (hb2 : 0 ≤ b ∧ b < 32) (h : bShl a b < 4294967296) (hdg : decode cc pc = .ok (.ishl, 1)) (kk : W p l e R s m args below meth c H locs cells slots Q (F0 m (pc + 1) ls (.int (iI (bShl a b)) :: rest))) : W p l e R s m args below meth c H locs cells slots Q (F0 m pc ls (.int (iI b) :: .int (iI a) :: rest)) := lv_ishl hx hb hdg (by rw [iI_shl ha hb2 h]; exact kk)
theorem y_shr (hx : p.tables.exec = Jvm.exec) (hb : c.code = cc) {a b : Int} (ha : 0 ≤ a ∧ a < 2147483648) (hb2 : 0 ≤ b ∧ b < 32) (hdg : decode cc pc = .ok (.ishr, 1)) (kk : W p l e R s m args below meth c H locs cells slots Q (F0 m (pc + 1) ls (.int (iI (bShr a b)) :: rest))) : W p l e R s m args below meth c H locs cells slots Q (F0 m pc ls (.int (iI b) :: .int (iI a) :: rest)) := lv_ishr hx hb hdg (by rw [iI_shr ha hb2]; exact kk)
theorem y_i2l (hx : p.tables.exec = Jvm.exec) (hb : c.code = cc) {a : Int} (ha : -2147483648 ≤ a ∧ a < 2147483648) (hdg : decode cc pc = .ok (.i2l, 1)) (kk : W p l e R s m args below meth c H locs cells slots Q (F0 m (pc + 1) ls (.long (lI a) :: rest))) : W p l e R s m args below meth c H locs cells slots Q (F0 m pc ls (.int (iI a) :: rest)) := lv_i2l hx hb hdg (v := lI a) (by
  apply Int64.toInt_inj.mp
  rw [Int32.toInt_toInt64, iI_toInt ha, lI_toInt (by omega)]) kk
theorem y_ladd (hx : p.tables.exec = Jvm.exec) (hb : c.code = cc) {a b : Int} (hdg : decode cc pc = .ok (.ladd, 1)) (kk : W p l e R s m args below meth c H locs cells slots Q (F0 m (pc + 1) ls (.long (lI (a + b)) :: rest))) : W p l e R s m args below meth c H locs cells slots Q (F0 m pc ls (.long (lI b) :: .long (lI a) :: rest)) := lv_ladd hx hb hdg (by rw [lI_add]; exact kk)
theorem y_lmul (hx : p.tables.exec = Jvm.exec) (hb : c.code = cc) {a b : Int} (hdg : decode cc pc = .ok (.lmul, 1)) (kk : W p l e R s m args below meth c H locs cells slots Q (F0 m (pc + 1) ls (.long (lI (a * b)) :: rest))) : W p l e R s m args below meth c H locs cells slots Q (F0 m pc ls (.long (lI b) :: .long (lI a) :: rest)) := lv_lmul hx hb hdg (by rw [lI_mul]; exact kk)
end INTS
/-- how two longs compare -/
def cmpZ (a b : Int) : Int := if a < b then -1 else if a = b then 0 else 1
theorem y_lcmp (B : bd p s m args meth c cc nL own dC dI k A ws H locs) {a b : Int} (ha : -9223372036854775808 ≤ a ∧ a < 9223372036854775808) (hb : -9223372036854775808 ≤ b ∧ b < 9223372036854775808) (hdg : decode cc pc = .ok (.lcmp, 1)) (kk : W p l e R s m args below meth c H locs cells slots Q (F0 m (pc + 1) ls (.int (iI (cmpZ a b)) :: rest))) : W p l e R s m args below meth c H locs cells slots Q (F0 m pc ls (.long (lI b) :: .long (lI a) :: rest)) := by
  refine x_lcmp B (z := iI (cmpZ a b)) ?_ hdg kk
  unfold lg_cmp cmpZ
  have e1 : (lI b < lI a) ↔ b < a := by rw [Int64.lt_iff_toInt_lt, lI_toInt ha, lI_toInt hb]
  have e2 : (lI a = lI b) ↔ a = b := ⟨lI_inj ha hb, fun h => by rw [h]⟩
  rcases (show a < b ∨ a = b ∨ b < a by omega) with h | h | h
  · rw [if_neg (fun q => by have := e1.mp q; omega), if_neg (fun q => by have := e2.mp q; omega), if_pos h]; rfl
  · rw [if_neg (fun q => by have := e1.mp q; omega), if_pos (e2.mpr h), if_neg (by omega), if_pos h]; rfl
  · rw [if_pos (e1.mpr h), if_neg (by omega), if_neg (by omega)]; rfl
theorem y_max {index : Nat} (B : bd p s m args meth c cc nL own dC dI k A ws H locs) (hls : lv_has ls nL lv) (hlink : Cond.methodLink own index Lib.Math.max.name ∈ gt) (hstat : Cond.static Lib.Math.max.name ∈ gt) (hini : Cond.initialized "java/lang/Math" ∈ gt) (hcode : Cond.code Lib.Math.max.name Lib.Math.max.code 2 (some .int) ∈ gt)
    (hfr : 1 ≤ R.frames) (hlo : (rest.map fun v => v.category).sum + 13 ≤ R.locals) (hc : cells ≤ R.cells) (hs : slots ≤ R.slots) {a b : Int} (ha : -2147483648 ≤ a ∧ a < 2147483648) (hb : -2147483648 ≤ b ∧ b < 2147483648) (hdg : decode cc pc = .ok (.invokestatic index, 3))
    (kk : W p l e R s m args below meth c H locs cells slots Q (F0 m (pc + 3) ls (.int (iI (max a b)) :: rest))) : W p l e R s m args below meth c H locs cells slots Q (F0 m pc ls (.int (iI b) :: .int (iI a) :: rest)) := by
  refine x_max B hls hlink hstat hini hcode hfr hlo hc hs (z := iI (max a b)) ?_ hdg kk
  by_cases h : a < b
  · rw [if_pos (iI_lt ha hb h)]; congr 1; omega
  · rw [if_neg (fun q => h (jlt ha hb q))]; congr 1; omega
theorem y_min {index : Nat} (B : bd p s m args meth c cc nL own dC dI k A ws H locs) (hls : lv_has ls nL lv) (hlink : Cond.methodLink own index Lib.Math.min.name ∈ gt) (hstat : Cond.static Lib.Math.min.name ∈ gt) (hini : Cond.initialized "java/lang/Math" ∈ gt) (hcode : Cond.code Lib.Math.min.name Lib.Math.min.code 2 (some .int) ∈ gt)
    (hfr : 1 ≤ R.frames) (hlo : (rest.map fun v => v.category).sum + 13 ≤ R.locals) (hc : cells ≤ R.cells) (hs : slots ≤ R.slots) {a b : Int} (ha : -2147483648 ≤ a ∧ a < 2147483648) (hb : -2147483648 ≤ b ∧ b < 2147483648) (hdg : decode cc pc = .ok (.invokestatic index, 3))
    (kk : W p l e R s m args below meth c H locs cells slots Q (F0 m (pc + 3) ls (.int (iI (min a b)) :: rest))) : W p l e R s m args below meth c H locs cells slots Q (F0 m pc ls (.int (iI b) :: .int (iI a) :: rest)) := by
  refine x_min B hls hlink hstat hini hcode hfr hlo hc hs (z := iI (min a b)) ?_ hdg kk
  by_cases h : b < a
  · rw [if_pos (iI_lt hb ha h)]; congr 1; omega
  · rw [if_neg (fun q => h (jlt hb ha q))]; congr 1; omega
end ROWS5
