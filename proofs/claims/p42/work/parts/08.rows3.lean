/-! ends, throws -/
section ROWS3
variable {p : Program} {l : Launch} {e : Env} {R : Room} {s : State} {m : MethodId} {args : Array Value} {below : List Frame} {meth : Method} {c : Code} {H : Heap} {locs : List Loc} {cells slots : Nat} {Q : State → Prop}
variable {dC : Nat → ClassId} {dI : Nat → Nat → Nat} {k : Nat → ClassId} {A : Nat → Prop} {cc : ByteArray} {nL : Nat} {own : String} {ws : va_W} {pc : Nat} {ls : Array Slot} {rest st0 : List Value} {lv : List (Nat × Value)}
section ENDS
variable {rm : Room} {ws0 w : va_W} {post : Option Value → va_W → Nat → Nat → Prop} {px : String → va_W → Nat → Nat → Prop} {gc gs : Nat}
theorem k_q {r : Option Value} (B : bd p s m args meth c cc nL own dC dI k (va_A ws0 s.heap.size) w H locs) (hq : post r w gc gs) (hg : Gr s.heap H cells slots) (hz : SzK s.heap H) (hc : cells ≤ gc) (hs : slots ≤ gs) : ∀ t : State, t.heap = H → s.WarmedH t.vm → Qk dC dI ws0 s.heap.size post args s (.returned r) t := by
  obtain ⟨hx, hE, hA, hP, hD, hS⟩ := B
  exact fun t ht _ => ⟨⟨r, w, gc, gs, rfl, hq, by rw [ht]; exact hP, hD, by rw [ht]; exact hg.mono hc hs, by rw [ht]; exact hz⟩, hS.F ht⟩
theorem k_iret {v : Int32} (B : bd p s m args meth c cc nL own dC dI k (va_A ws0 s.heap.size) w H locs) (hr : meth.sig.returnType = some .int) (hq : post (some (.int v)) w gc gs) (hc : cells ≤ gc ∧ cells ≤ rm.cells) (hs : slots ≤ gs ∧ slots ≤ rm.slots) (hdg : decode cc pc = .ok (.ireturn, 1)) :
    W p l e R s m args below meth c H locs cells slots (MQ below (Qk dC dI ws0 s.heap.size post) args s rm.cells rm.slots (va_A ws0 s.heap.size)) (F0 m pc ls [.int v]) :=
  k_same fun _ hg hz => W.widen hc.2 hs.2 (W.iret B.1.1 B.1.2.1 hr (k_q B hq hg hz hc.1 hs.1) B.2.2.2.2.2.2.2 hdg B.1.2.2.2.2.2)
theorem k_zret {v : Int} (B : bd p s m args meth c cc nL own dC dI k (va_A ws0 s.heap.size) w H locs) (hr : meth.sig.returnType = some .boolean) (hn : v = 0 ∨ v = 1) (hq : post (some (.int (iI v))) w gc gs) (hc : cells ≤ gc ∧ cells ≤ rm.cells) (hs : slots ≤ gs ∧ slots ≤ rm.slots) (hdg : decode cc pc = .ok (.ireturn, 1)) :
    W p l e R s m args below meth c H locs cells slots (MQ below (Qk dC dI ws0 s.heap.size post) args s rm.cells rm.slots (va_A ws0 s.heap.size)) (F0 m pc ls [.int (iI v)]) :=
  k_same fun _ hg hz => W.widen hc.2 hs.2 (W.zret B.1.1 B.1.2.1 hr (by rcases hn with rfl | rfl <;> decide) (k_q B hq hg hz hc.1 hs.1) B.2.2.2.2.2.2.2 hdg B.1.2.2.2.2.2)
theorem k_lret {v : Int64} (B : bd p s m args meth c cc nL own dC dI k (va_A ws0 s.heap.size) w H locs) (hr : meth.sig.returnType = some .long) (hq : post (some (.long v)) w gc gs) (hc : cells ≤ gc ∧ cells ≤ rm.cells) (hs : slots ≤ gs ∧ slots ≤ rm.slots) (hdg : decode cc pc = .ok (.lreturn, 1)) :
    W p l e R s m args below meth c H locs cells slots (MQ below (Qk dC dI ws0 s.heap.size post) args s rm.cells rm.slots (va_A ws0 s.heap.size)) (F0 m pc ls [.long v]) :=
  k_same fun _ hg hz => W.widen hc.2 hs.2 (W.lret B.1.1 B.1.2.1 hr (k_q B hq hg hz hc.1 hs.1) B.2.2.2.2.2.2.2 hdg B.1.2.2.2.2.2)
theorem k_vret (B : bd p s m args meth c cc nL own dC dI k (va_A ws0 s.heap.size) w H locs) (hr : meth.sig.returnType = none) (hq : post none w gc gs) (hc : cells ≤ gc ∧ cells ≤ rm.cells) (hs : slots ≤ gs ∧ slots ≤ rm.slots) (hdg : decode cc pc = .ok (.return_, 1)) :
    W p l e R s m args below meth c H locs cells slots (MQ below (Qk dC dI ws0 s.heap.size post) args s rm.cells rm.slots (va_A ws0 s.heap.size)) (F0 m pc ls []) :=
  k_same fun _ hg hz => W.widen hc.2 hs.2 (W.vret B.1.1 B.1.2.1 hr (k_q B hq hg hz hc.1 hs.1) B.2.2.2.2.2.2.2 hdg B.1.2.2.2.2.2)
theorem k_aret {v : Nat} {nm : String} (B : bd p s m args meth c cc nL own dC dI k (va_A ws0 s.heap.size) w H locs) (hr : meth.sig.returnType = some (.object nm)) (hq : post (some (.ref v)) w gc gs) (hc : cells ≤ gc ∧ cells ≤ rm.cells) (hs : slots ≤ gs ∧ slots ≤ rm.slots) (hdg : decode cc pc = .ok (.areturn, 1)) :
    W p l e R s m args below meth c H locs cells slots (MQ below (Qk dC dI ws0 s.heap.size post) args s rm.cells rm.slots (va_A ws0 s.heap.size)) (F0 m pc ls [.ref v]) :=
  k_same fun _ hg hz => W.widen hc.2 hs.2 (W.aret B.1.1 B.1.2.1 hr (Or.inl ⟨nm, rfl⟩) (Or.inr ⟨v, rfl⟩) (k_q B hq hg hz hc.1 hs.1) B.2.2.2.2.2.2.2 hdg B.1.2.2.2.2.2)
theorem k_aretA {v : Nat} {tt : FieldType} (B : bd p s m args meth c cc nL own dC dI k (va_A ws0 s.heap.size) w H locs) (hr : meth.sig.returnType = some (.array tt)) (hq : post (some (.ref v)) w gc gs) (hc : cells ≤ gc ∧ cells ≤ rm.cells) (hs : slots ≤ gs ∧ slots ≤ rm.slots) (hdg : decode cc pc = .ok (.areturn, 1)) :
    W p l e R s m args below meth c H locs cells slots (MQ below (Qk dC dI ws0 s.heap.size post) args s rm.cells rm.slots (va_A ws0 s.heap.size)) (F0 m pc ls [.ref v]) :=
  k_same fun _ hg hz => W.widen hc.2 hs.2 (W.aret B.1.1 B.1.2.1 hr (Or.inr ⟨tt, rfl⟩) (Or.inr ⟨v, rfl⟩) (k_q B hq hg hz hc.1 hs.1) B.2.2.2.2.2.2.2 hdg B.1.2.2.2.2.2)
/-- a method without a table lets the exception through -/
theorem k_out {E : String} {ce : Cell} {q9 : Addr} (hex : ∀ x ∈ c.exceptionTable.toList, False) (hE : px E w gc gs) (B : bd p s m args meth c cc nL own dC dI k (va_A ws0 s.heap.size) w H locs) (h1 : H[q9]? = some ce) (h2 : ce.vm = .none) (h3 : s.vm.findClass E = some ce.cls) (hc : cells ≤ gc ∧ cells ≤ rm.cells) (hs : slots ≤ gs ∧ slots ≤ rm.slots) :
    vx_W p l e R s m args below meth c H locs cells slots (vx_MQ below (Qk dC dI ws0 s.heap.size post) (Qx dC dI ws0 s.heap.size rm px) args s rm.cells rm.slots (va_A ws0 s.heap.size)) (F0 m pc ls rest) q9 := by
  obtain ⟨⟨hx, hb, hml, hown, hts, hlk⟩, hE9, hA, hP, hD, hS⟩ := B
  refine k_sameX fun _ hg hz => vx_out (fun x hx => (hex x hx).elim) hlk h1 h2 h3 (fun t ht _ => ⟨⟨w, gc, gs, hE, by rw [ht]; exact hP, hD, Or.inl ⟨by rw [ht]; exact hg.mono hc.1 hs.1, by rw [ht]; exact hz⟩⟩, hS.F ht⟩) hS.2.2 hc.2 hs.2
end ENDS
/-- the three exceptions of the class: link of the class, of the constructor -/
def exE (E : String) (ik ic : Nat) : Prop := Bundle.fit E = true ∧ Cond.classLink RX11 ik E ∈ gt ∧ Cond.initialized E ∈ gt ∧ (∀ w ∈ vx_atS RX11 ic E ["java/lang/RuntimeException", "java/lang/Exception"], w ∈ gt ∨ w = .castable E E ∨ ∃ x ∈ decls, w = .declares x) ∧ E ∈ [nIO, nIS, nIA]
theorem k_thr {rm : Room} {ws0 : va_W} {post : Option Value → va_W → Nat → Nat → Prop} {px : String → va_W → Nat → Nat → Prop} {gc gs : Nat} {E tx : String} {ik ic is : Nat} (hE : exE E ik ic) (hp : px E ws gc gs) (hgr : rm.cells ≤ gc ∧ rm.slots ≤ gs) (hl : l.stackTraces = false) (B : bd p s m args meth c cc nL RX11 dC dI k (va_A ws0 s.heap.size) ws H locs) (hex : ∀ x ∈ c.exceptionTable.toList, False) (hls : lv_has ls nL lv) (htx : (is, tx) ∈ strs)
    (d0 : decode cc pc = .ok (.new ik, 3)) (d3 : decode cc (pc + 3) = .ok (.dup, 1)) (d4 : decode cc (pc + 4) = .ok (.ldc is, 2)) (d6 : decode cc (pc + 6) = .ok (.invokespecial ic, 3)) (d9 : decode cc (pc + 9) = .ok (.athrow, 1))
    (hR : 5 < R.frames ∧ (rest.map fun v => v.category).sum + 82 ≤ R.locals ∧ cells + 1 ≤ R.cells ∧ slots + 6 ≤ R.slots) (hc : cells + 1 ≤ rm.cells ∧ slots + 6 ≤ rm.slots) :
    W p l e R s m args below meth c H locs cells slots (vx_MQ below (Qk dC dI ws0 s.heap.size post) (Qx dC dI ws0 s.heap.size rm px) args s rm.cells rm.slots (va_A ws0 s.heap.size)) (F0 m pc ls rest) := by
  obtain ⟨⟨hx, hb, hml, hown, hts, hlk⟩, ⟨hE1, hE2, hE3, ⟨hE4, hE5⟩, -, -, ⟨⟨hca, hde⟩, -⟩, -⟩, hA, hP, hD, hS⟩ := B
  obtain ⟨sa, hsa⟩ := hE3 _ htx
  obtain ⟨e1, e2, e3, e4, e5⟩ := hE
  refine vx_throwS hx hb hl hown e1 (by decide +kernel) (hts _ e2) (hts _ e3) hsa (fun w hw => (e4 w hw).elim (fun h => hts _ h) (fun h => h.elim (fun h => by rw [h]; exact (hca _ e5).use) (fun ⟨x, hx, h⟩ => by rw [h]; exact va_Nw.use rfl (hde x hx)))) ?_ hE4 hE5 hS (by rw [hml]; exact hls.1) d0 d3 d4 d6 d9 (fun x hx => (hex x hx).elim) hR.1 hR.2.1 hR.2.2.1 hR.2.2.2 hlk ?_ hS.2.2 hc.1 hc.2
  · intro w hw
    have hg : w ∈ gt ∨ w = .castable E E ∨ ∃ x ∈ decls, w = .declares x := by
      rcases List.mem_cons.mp hw with rfl | hw
      · exact Or.inl e2
      rcases List.mem_cons.mp hw with rfl | hw
      · exact Or.inl e3
      exact e4 w hw
    rcases hg with hg | rfl | ⟨x, -, rfl⟩
    · simp only [vx_ot, (List.mem_filter.mp hg).2, Bool.or_true]
    · rfl
    · rfl
  · intro t _ h1 h2
    exact ⟨⟨ws, gc, gs, hp, hP.kept (fun j q hq => h2 q.1 (hP j q hq).lt), hD, Or.inr hgr⟩, Nat.le_trans hS.1 h1, fun q hq hnA => by rw [h2 q (Nat.lt_of_lt_of_le hq hS.1)]; exact hS.2.1 q hq hnA⟩
theorem k_thrW {rm : Room} {ws0 : va_W} {post : Option Value → va_W → Nat → Nat → Prop} {px : String → va_W → Nat → Nat → Prop} {gc gs : Nat} {E tx : String} {ik ic is : Nat} (hE : exE E ik ic) (hp : px E ws gc gs) (hgr : rm.cells ≤ gc ∧ rm.slots ≤ gs) (hl : l.stackTraces = false) (B : bd p s m args meth c cc nL RX11 dC dI k (va_A ws0 s.heap.size) ws H locs) (hex : ∀ x ∈ c.exceptionTable.toList, False) (hls : lv_has ls nL lv) (htx : (is, tx) ∈ strs)
    (d0 : decode cc pc = .ok (.new ik, 3)) (d3 : decode cc (pc + 3) = .ok (.dup, 1)) (d4 : decode cc (pc + 4) = .ok (.ldc_w is, 3)) (d6 : decode cc (pc + 7) = .ok (.invokespecial ic, 3)) (d9 : decode cc (pc + 10) = .ok (.athrow, 1))
    (hR : 5 < R.frames ∧ (rest.map fun v => v.category).sum + 82 ≤ R.locals ∧ cells + 1 ≤ R.cells ∧ slots + 6 ≤ R.slots) (hc : cells + 1 ≤ rm.cells ∧ slots + 6 ≤ rm.slots) :
    W p l e R s m args below meth c H locs cells slots (vx_MQ below (Qk dC dI ws0 s.heap.size post) (Qx dC dI ws0 s.heap.size rm px) args s rm.cells rm.slots (va_A ws0 s.heap.size)) (F0 m pc ls rest) := by
  obtain ⟨⟨hx, hb, hml, hown, hts, hlk⟩, ⟨hE1, hE2, hE3, ⟨hE4, hE5⟩, -, -, ⟨⟨hca, hde⟩, -⟩, -⟩, hA, hP, hD, hS⟩ := B
  obtain ⟨sa, hsa⟩ := hE3 _ htx
  obtain ⟨e1, e2, e3, e4, e5⟩ := hE
  refine vx_throwSW hx hb hl hown e1 (by decide +kernel) (hts _ e2) (hts _ e3) hsa (fun w hw => (e4 w hw).elim (fun h => hts _ h) (fun h => h.elim (fun h => by rw [h]; exact (hca _ e5).use) (fun ⟨x, hx, h⟩ => by rw [h]; exact va_Nw.use rfl (hde x hx)))) ?_ hE4 hE5 hS (by rw [hml]; exact hls.1) d0 d3 d4 d6 d9 (fun x hx => (hex x hx).elim) hR.1 hR.2.1 hR.2.2.1 hR.2.2.2 hlk ?_ hS.2.2 hc.1 hc.2
  · intro w hw
    have hg : w ∈ gt ∨ w = .castable E E ∨ ∃ x ∈ decls, w = .declares x := by
      rcases List.mem_cons.mp hw with rfl | hw
      · exact Or.inl e2
      rcases List.mem_cons.mp hw with rfl | hw
      · exact Or.inl e3
      exact e4 w hw
    rcases hg with hg | rfl | ⟨x, -, rfl⟩
    · simp only [vx_ot, (List.mem_filter.mp hg).2, Bool.or_true]
    · rfl
    · rfl
  · intro t _ h1 h2
    exact ⟨⟨ws, gc, gs, hp, hP.kept (fun j q hq => h2 q.1 (hP j q hq).lt), hD, Or.inr hgr⟩, Nat.le_trans hS.1 h1, fun q hq hnA => by rw [h2 q (Nat.lt_of_lt_of_le hq hS.1)]; exact hS.2.1 q hq hnA⟩
end ROWS3
