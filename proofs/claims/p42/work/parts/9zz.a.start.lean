section
/-! THE CLAIM OUT OF ONE WALK OF THE LAW'S BODY. Your part is whole_start (and what it stands on); all else here is the same for every law, but numbers. -/
def R_law : String := "GalleyforgeLaw"
def lw_P (b : Addr) (xs : List Int32) (args : Array Value) (s : State) : Prop := args = #[.ref b] ∧ s.IntsAt b xs ∧ xs.length ≤ 260 ∧ (Jvm.Cond.and given_1 narrow_1).before args s = true
def lw_Q (_ : Array Value) (s : State) (o : Outcome) (t : State) : Prop := o = .returned (some (.int 1)) ∧ Framed s o t [] 683193 7052191
def lw_Z (below : List Frame) (a : Array Value) (s : State) : State → Prop := fun t => ∃ o, t.status = .running ∧ Ended t below o ∧ lw_Q a s o t
/-- the law's own end, with 1 on the stack, nothing written that was there before, its room as the claim has it -/
theorem lw_ret {p : Program} {l : Launch} {e : Env} {s : State} {m : MethodId} {below : List Frame} {meth : Method} {c : Code} {b : Nat} (hx : p.tables.exec = Jvm.exec) (hb : c.code = code) (hr : meth.sig.returnType = ret) (hlocks : meth.locks = false) {pc : Nat} {H : Heap} {ls : Array Slot} (hdg : decode code pc = .ok (.ireturn, 1)) : W p l e room_1 s m #[Value.ref b] below meth c H [] 683193 7052191 (lw_Z below #[Value.ref b] s) (F0 m pc ls [.int 1]) := by
  intro T hT X
  obtain ⟨fs, hret, hrun, hended, hW, hframe⟩ := X.leave (v := some (.int 1)) (hlocks := hlocks) (fun h => by rw [hr] at h; cases h)
  have hmeth' : T.vm.method? m = some meth := X.method'
  refine ⟨T.setFrames fs, ?_, .returned (some (.int 1)), hrun, hended, rfl, ⟨_, rfl⟩, hW, hframe⟩
  jvm_step X.here [X.here.top, hx, hb, hdg, hmeth', hr, ret, narrow_b1]
  (try refine ⟨rfl, ?_⟩); (try refine ⟨rfl, ?_⟩)
  first | (intro acts; rw [hret _ acts rfl rfl rfl]) | rw [hret _ _ rfl rfl rfl]
  exact Steps.refl _
/-- what holds at the law's entry: the machine, the code, the tables' words (any of lw_tbl by 'hts w (by decide +kernel)'), the script of L ints xs at the cell b, what the Statement gives of the start (any of its parts by flat_of_before) -/
def lw_At (p : Program) (s : State) (m : MethodId) (meth : Method) (c : Code) (b L : Nat) (xs : Nat → Int32) : Prop :=
  p.tables.exec = Jvm.exec ∧ c.code = code ∧ meth.sig.returnType = ret ∧ c.maxLocals = 9 ∧ s.vm.findClass R_law = some m.cls ∧ (∀ w ∈ lw_tbl, w.before #[Value.ref b] s = true) ∧ va_X b L xs s s.heap ∧ b < s.heap.size ∧ meth.locks = false ∧ (Jvm.Cond.and given_1 narrow_1).before #[Value.ref b] s = true

set_option maxHeartbeats 4000000 in
set_option maxRecDepth 100000 in
theorem en_start {b : Nat} {s : State} (hts : ∀ w ∈ lw_tbl, w.before #[Value.ref b] s = true) (hgv : (Jvm.Cond.and given_1 narrow_1).before #[Value.ref b] s = true) : ∃ (dC : Nat → ClassId) (dI : Nat → Nat → Nat) (k : Nat → ClassId), en dC dI k (fun q => s.heap.size ≤ q) s s.heap := by
  have htg : ∀ w ∈ gt, w.before #[Value.ref b] s = true := fun w h => hts w (List.mem_filter.mp h).1
  have hat : ∀ (i : Nat) (w : Cond), lw_tbl[i]? = some w → w.before #[Value.ref b] s = true := fun i w h => hts w (List.mem_of_getElem? h)
  have hg := flat_of_before _ hgv
  have hA : ∀ a : Nat, a < s.heap.size → ¬ (fun q : Nat => s.heap.size ≤ q) a := fun a h => Nat.not_le.mpr h
  obtain ⟨c0, i0, K0⟩ := u_known (C := RX0) (T := TX0) (N := 4) (n := 4) htg in_X0 (hat 1200 _ (by decide +kernel))
  obtain ⟨c1, i1, K1⟩ := u_known (C := RX1) (T := TX1) (N := 17) (n := 17) htg in_X1 (hat 282 _ (by decide +kernel))
  obtain ⟨c2, i2, K2⟩ := u_known (C := RX2) (T := TX2) (N := 13) (n := 13) htg in_X2 (hat 191 _ (by decide +kernel))
  obtain ⟨c3, i3, K3⟩ := u_known (C := RX3) (T := TX3) (N := 15) (n := 15) htg in_X3 (hat 378 _ (by decide +kernel))
  obtain ⟨c4, i4, K4⟩ := u_known (C := RX4) (T := TX4) (N := 12) (n := 12) htg in_X4 (hat 372 _ (by decide +kernel))
  obtain ⟨c5, i5, K5⟩ := u_known (C := RX5) (T := TX5) (N := 3) (n := 3) htg in_X5 (hat 713 _ (by decide +kernel))
  obtain ⟨c6, i6, K6⟩ := u_known (C := RX6) (T := TX6) (N := 18) (n := 18) htg in_X6 (hat 288 _ (by decide +kernel))
  obtain ⟨c7, i7, K7⟩ := u_known (C := RX7) (T := TX7) (N := 8) (n := 8) htg in_X7 (hat 242 _ (by decide +kernel))
  obtain ⟨c8, i8, K8⟩ := u_known (C := RX8) (T := TX8) (N := 7) (n := 7) htg in_X8 (hat 1208 _ (by decide +kernel))
  obtain ⟨c9, i9, K9⟩ := u_known (C := RX9) (T := TX9) (N := 8) (n := 8) htg in_X9 (hat 114 _ (by decide +kernel))
  obtain ⟨c10, i10, K10⟩ := u_known (C := RX10) (T := TX10) (N := 4) (n := 4) htg in_X10 (hat 883 _ (by decide +kernel))
  obtain ⟨c11, i11, K11⟩ := u_known (C := RX11) (T := TX11) (N := 5) (n := 5) htg in_X11 (hat 106 _ (by decide +kernel))
  obtain ⟨c12, i12, K12⟩ := u_known (C := RJx4a65c) (T := TJx4a65c) (N := 3) (n := 3) htg in_Jx4a65c (hat 120 _ (by decide +kernel))
  obtain ⟨a0, k0, p0, f0, g0, h0⟩ := Cond.arrayClass_spec (type := .int) (hat 189 (.arrayClass .int) (by decide +kernel))
  obtain ⟨a1, k1, p1, f1, g1, h1⟩ := Cond.arrayClass_spec (type := .boolean) (hat 370 (.arrayClass .boolean) (by decide +kernel))
  obtain ⟨a2, k2, p2, f2, g2, h2⟩ := Cond.arrayClass_spec (type := .long) (hat 240 (.arrayClass .long) (by decide +kernel))
  obtain ⟨p3, a3, k3, e3, y3, f3, g3, h3⟩ := Cond.arrayOver_spec (n := "Galleyforge$Layout") (hat 281 (.arrayOver (.object "Galleyforge$Layout")) (by decide +kernel))
  obtain ⟨p4, a4, k4, e4, y4, f4, g4, h4⟩ := Cond.arrayOver_spec (n := "java/lang/Object") (hat 805 (.arrayOver (.object "java/lang/Object")) (by decide +kernel))
  have hlw : ∃ t : Nat, (Term.static "Galleyforge" "LETTER_WIDTHS" "[I").eval #[Value.ref b] s none [] s = some (.ref t) ∧ va_T .int t 4 (fun j => .int (iI (LWz j))) (fun q => s.heap.size ≤ q) s s.heap := by
    refine va_Tof (by decide) (hg (Cond.arrayOf (.static "Galleyforge" "LETTER_WIDTHS" "[I") .int) (by decide +kernel)) (va_eqt (hg (Cond.eq (.length (.static "Galleyforge" "LETTER_WIDTHS" "[I")) (.int 4)) (by decide +kernel))) (fun j hj => ?_) hA
    rcases (show j = 0 ∨ j = 1 ∨ j = 2 ∨ j = 3 by omega) with rfl | rfl | rfl | rfl
    · exact (va_eqt (hg (Cond.eq (.elem (.static "Galleyforge" "LETTER_WIDTHS" "[I") (.int 0)) (.int 2)) (by decide +kernel))).trans (congrArg (fun z9 => some (Value.int z9)) (by decide : (2 : Int32) = iI (LWz ((0 : Nat) : Int))))
    · exact (va_eqt (hg (Cond.eq (.elem (.static "Galleyforge" "LETTER_WIDTHS" "[I") (.int 1)) (.int 3)) (by decide +kernel))).trans (congrArg (fun z9 => some (Value.int z9)) (by decide : (3 : Int32) = iI (LWz ((1 : Nat) : Int))))
    · exact (va_eqt (hg (Cond.eq (.elem (.static "Galleyforge" "LETTER_WIDTHS" "[I") (.int 2)) (.int 4)) (by decide +kernel))).trans (congrArg (fun z9 => some (Value.int z9)) (by decide : (4 : Int32) = iI (LWz ((2 : Nat) : Int))))
    · exact (va_eqt (hg (Cond.eq (.elem (.static "Galleyforge" "LETTER_WIDTHS" "[I") (.int 3)) (.int 6)) (by decide +kernel))).trans (congrArg (fun z9 => some (Value.int z9)) (by decide : (6 : Int32) = iI (LWz ((3 : Nat) : Int))))
  obtain ⟨lw, v1lw, valw⟩ := hlw
  have vzlw : va_Z "Galleyforge" "LETTER_WIDTHS" "[I" (.ref lw) (fun q => s.heap.size ≤ q) s s.heap := va_Zof (hat 578 _ (by decide +kernel)) (hat 71 _ (by decide +kernel)) v1lw hA
  have hda : ∃ t : Nat, (Term.static "java/util/ArrayList" "DEFAULTCAPACITY_EMPTY_ELEMENTDATA" "[Ljava/lang/Object;").eval #[Value.ref b] s none [] s = some (.ref t) ∧ va_T (.object "java/lang/Object") t 0 (fun _ => .null) (fun q => s.heap.size ≤ q) s s.heap := by
    refine va_Tof (by decide) (hg (Cond.arrayOf (.static "java/util/ArrayList" "DEFAULTCAPACITY_EMPTY_ELEMENTDATA" "[Ljava/lang/Object;") (.object "java/lang/Object")) (by decide +kernel)) (va_eqt (hg (Cond.eq (.length (.static "java/util/ArrayList" "DEFAULTCAPACITY_EMPTY_ELEMENTDATA" "[Ljava/lang/Object;")) (.int 0)) (by decide +kernel))) (fun j hj => by omega) hA
  obtain ⟨da, v1da, vada⟩ := hda
  have vzda : va_Z "java/util/ArrayList" "DEFAULTCAPACITY_EMPTY_ELEMENTDATA" "[Ljava/lang/Object;" (.ref da) (fun q => s.heap.size ≤ q) s s.heap := va_Zof (hat 132 _ (by decide +kernel)) (hat 75 _ (by decide +kernel)) v1da hA
  obtain ⟨mi, hmi⟩ := va_Mi.of (hg (Cond.isRef (.mirror "[Ljava/lang/Object;")) (by decide +kernel))
  refine ⟨fun c => if c = 0 then c0 else if c = 1 then c1 else if c = 2 then c2 else if c = 3 then c3 else if c = 4 then c4 else if c = 5 then c5 else if c = 6 then c6 else if c = 7 then c7 else if c = 8 then c8 else if c = 9 then c9 else if c = 10 then c10 else if c = 11 then c11 else if c = 12 then c12 else c0, fun c => if c = 99 then (fun _ => da) else if c = 0 then i0 else if c = 1 then i1 else if c = 2 then i2 else if c = 3 then i3 else if c = 4 then i4 else if c = 5 then i5 else if c = 6 then i6 else if c = 7 then i7 else if c = 8 then i8 else if c = 9 then i9 else if c = 10 then i10 else if c = 11 then i11 else if c = 12 then i12 else i0, fun c => if c = 0 then a0 else if c = 1 then a1 else if c = 2 then a2 else if c = 3 then a3 else a4, ⟨?_, ?_⟩, ⟨?_, ?_, ?_, ?_, ?_⟩, ?_, ⟨?_, ?_⟩, ⟨lw, vzlw, valw⟩, ⟨vzda, vada⟩, ⟨⟨?_, ?_⟩, ?_, ?_, ?_⟩, ⟨mi, hmi⟩, ?_⟩
  · intro c q hq
    match c, hq with
    | 0, hq => cases hq; exact K0
    | 1, hq => cases hq; exact K1
    | 2, hq => cases hq; exact K2
    | 3, hq => cases hq; exact K3
    | 4, hq => cases hq; exact K4
    | 5, hq => cases hq; exact K5
    | 6, hq => cases hq; exact K6
    | 7, hq => cases hq; exact K7
    | 8, hq => cases hq; exact K8
    | 9, hq => cases hq; exact K9
    | 10, hq => cases hq; exact K10
    | 11, hq => cases hq; exact K11
    | 12, hq => cases hq; exact K12
    | c + 13, hq => simp [classes] at hq
  · intro c q hq
    match c, hq with
    | 0, hq => cases hq; exact ⟨fun n z => ⟨(fun k h => by cases h), k0, g0, p0, h0⟩, f0⟩
    | 1, hq => cases hq; exact ⟨fun n z => ⟨(fun k h => by cases h), k1, g1, p1, h1⟩, f1⟩
    | 2, hq => cases hq; exact ⟨fun n z => ⟨(fun k h => by cases h), k2, g2, p2, h2⟩, f2⟩
    | 3, hq => cases hq; exact ⟨fun n z => ⟨(fun k h => by cases h), k3, f3, p3, g3⟩, k3, p3, f3, g3, e3, h3⟩
    | 4, hq => cases hq; exact ⟨fun n z => ⟨(fun k h => by cases h), k4, f4, p4, g4⟩, k4, p4, f4, g4, e4, h4⟩
    | c + 5, hq => simp [ty5] at hq
  · intro q hq
    exact va_Nw.of rfl (hts _ ((by decide +kernel : ∀ q ∈ nML, Cond.methodLinkNest q.1 q.2.1 q.2.2.1 q.2.2.2 ∈ lw_tbl) q hq))
  · intro q hq
    exact va_Nw.of rfl (hts _ ((by decide +kernel : ∀ q ∈ nCS, Cond.castable q.1 q.2 ∈ lw_tbl) q hq))
  · exact va_Nw.of rfl (hts _ (by decide +kernel))
  · exact va_AO.of (hat 281 _ (by decide +kernel))
  · exact va_AO.of (hat 805 _ (by decide +kernel))
  · intro q hq
    have hw := hts _ ((by decide +kernel : ∀ q ∈ strs, Cond.stringRef RX11 q.1 q.2 ∈ lw_tbl) q hq)
    obtain ⟨_, _, _, sa, _, _, _, _, _, h9⟩ := Cond.stringRef_spec K11.2.1 hw
    exact ⟨sa, vk_R.of hw h9⟩
  · exact vx_Zqof (hts _ (by decide +kernel)) (hts _ (by decide +kernel)) (hg _ (by decide +kernel)) hA
  · exact vx_Zqof (hts _ (by decide +kernel)) (hts _ (by decide +kernel)) (hg _ (by decide +kernel)) hA
  · intro E hE
    exact ca.of (hts _ ((by decide +kernel : ∀ E ∈ [nIO, nIS, nIA], Cond.castable E E ∈ lw_tbl) E hE))
  · intro x hx
    exact va_Nw.of rfl (hts _ ((by decide +kernel : ∀ x ∈ decls, Cond.declares x ∈ lw_tbl) x hx))
  · exact va_Nc.of (hg _ (by decide +kernel))
  · exact va_Nc.of (hg _ (by decide +kernel))
  · exact va_Nc.of (hg _ (by decide +kernel))
  · exact va_Dc.of (hts _ (by decide +kernel))

end
