section
section DRW
variable {l : Launch} {dC : Nat → ClassId} {dI : Nat → Nat → Nat} {k : Nat → ClassId}
/-- a static method that reads the script -/
def Kns (l : Launch) (dC : Nat → ClassId) (dI : Nat → Nat → Nat) (k : Nat → ClassId) (b L : Nat) (xs : Nat → Int32) (y : MethodName) (c0 : Cond) (rm : Room) (av : List Value) (post : Option Value → va_W → Nat → Nat → Prop) : Prop :=
  ∀ sz : Nat, b < sz → Met l y (c0 :: gt) rm (fun a U => Pw dC dI k av [] sz a U ∧ va_X b L xs U U.heap) (Qk dC dI [] sz post) rm.cells rm.slots (va_A [] sz)
theorem kns_of {b L : Nat} {xs : Nat → Int32} {y : MethodName} {cc : ByteArray} {nL : Nat} {ret : Option FieldType} {rm : Room} {av : List Value} {post : Option Value → va_W → Nat → Nat → Prop} (hy : plainName y.cls = true) (hlen : (lg_sl av).length ≤ nL)
    (body : ∀ (p : Program) (e : Env) (s : State) (m : MethodId) (args : Array Value) (below : List Frame) (meth : Method) (c : Code) (H : Heap) (locs : List Loc), bd p s m args meth c cc nL y.cls dC dI k (va_A [] s.heap.size) [] H locs → va_X b L xs s s.heap → b < s.heap.size → meth.sig.returnType = ret → meth.name = y.name → ∀ ls : Array Slot, lv_has ls nL (lv_args 0 av) →
      W p l e rm s m args below meth c H locs 0 0 (MQ below (Qk dC dI [] s.heap.size post) args s rm.cells rm.slots (va_A [] s.heap.size)) (F0 m 0 ls [])) : Kns l dC dI k b L xs y (.code y cc nL ret) rm av post := by
  intro sz hbs
  refine Met.ofW (cc := cc) (maxL := nL) (ret := ret) hy rfl ?_
  intro p e s m args below meth c s₁ B hml hv
  obtain ⟨⟨rfl, hsz, hP, hD0, hE⟩, hX⟩ := hv
  subst hsz
  have hts := atoms_spec (ws := Cond.code y cc nL ret :: gt) B.pre
  have hl := lv_entry av (n := nL) hlen
  rw [lg_entry_eq]
  exact body p e s m _ below meth c _ _ ⟨⟨B.exec, B.bytes, hml, findClass_of_methodNamed B.named, fun w hw => hts w (List.mem_cons_of_mem _ hw), B.notSynchronized⟩, hE, fun q h => Or.inr h, hP, hD0.self, va_S.rf⟩ hX hbs B.returns (name_of_methodNamed B.named B.method).1 _ hl
variable {p : Program} {e : Env} {R : Room} {s : State} {m : MethodId} {args : Array Value} {below : List Frame} {meth : Method} {c : Code} {H : Heap} {locs : List Loc} {cells slots : Nat} {Q : State → Prop} {A : Nat → Prop} {cc : ByteArray} {nL : Nat} {own : String} {pc : Nat} {ls : Array Slot} {rest st0 : List Value} {lv : List (Nat × Value)} {wr : va_W}
theorem k_Sd {b L : Nat} {xs : Nat → Int32} {y : MethodName} {bytes : ByteArray} {maxL : Nat} {ret : Option FieldType} {rm : Room} {As : List Value} {post : Option Value → va_W → Nat → Nat → Prop} {idx : Nat} (hX : va_X b L xs s s.heap) (hbl : b < s.heap.size) (hbA : ¬ A b) (hM : Kns l dC dI k b L xs y (.code y bytes maxL ret) rm As post) (B : bd p s m args meth c cc nL own dC dI k A wr H locs) (hm : mS y bytes maxL ret As.length) (hk : Cond.methodLink own idx y ∈ gt) (hl : lv_has ls nL lv)
    (hrm : rm.frames + 1 ≤ R.frames ∧ 8 + (maxL + 11) + rm.locals ≤ R.locals) (hcat : (rest.map fun v => v.category).sum ≤ 8) (hst : st0 = As.reverse ++ rest) (hdg : decode cc pc = .ok (.invokestatic idx, 3)) (hf : cells + rm.cells ≤ R.cells ∧ slots + rm.slots ≤ R.slots)
    (kk : ∀ (r : Option Value) (w : va_W) (gc gs : Nat) (H1 : Heap) (locs1 : List Loc), post r w gc gs → bd p s m args meth c cc nL own dC dI k A (wr ++ w) H1 locs1 → W p l e R s m args below meth c H1 locs1 (cells + gc) (slots + gs) Q (F0 m (pc + 3) ls (r.toList ++ rest))) : W p l e R s m args below meth c H locs cells slots Q (F0 m pc ls st0) := by
  obtain ⟨⟨hx, hb, hml, hown, hts, hlk⟩, hE, hA, hP, hD, hS⟩ := B
  obtain ⟨⟨hco, hini, hd⟩, hstt⟩ := hm
  subst hst
  have hHb : H[b]? = s.heap[b]? := hS.2.1 b hbl hbA
  have hsz : s.heap.size ≤ H.size := hS.1
  have hpre := k_pre (wc := []) (wr := wr) hE hP hD hS hA (av := As)
  have hbl9 : FrameBlind (fun a U => Pw dC dI k As [] H.size a U ∧ va_X b L xs U U.heap) := fun a U g mk h => ⟨Pw_blind a U g mk h.1, h.2⟩
  refine k_go (wc := []) (wr := wr) (va_runS (As := As) (rest := rest) ⟨hx, hb, hml, hown, hts⟩ (hM H.size (by omega)) (va_cwS As.length hts (gi_S hk hstt hini hco) rfl rfl rfl hd hrm) ⟨hbl9, fun U hU hW => ⟨hpre U hU hW, ?_⟩⟩ rfl rfl hl.1 rfl (lv_room hcat) hdg hf) hP hD hS hA (fun r w gc gs H1 locs1 h1 h2 h3 h4 => kk r w gc gs H1 locs1 h1 ⟨⟨hx, hb, hml, hown, hts, hlk⟩, hE, hA, h2, h3, h4⟩)
  exact (hX.kept (H1 := U.heap) (by rw [hU]; exact hHb)).moved hW.alike
theorem and31 (x : Int32) : ∃ z : Int, (0 ≤ z ∧ z ≤ 2147483647) ∧ x &&& 2147483647 = iI z := by
  refine ⟨((x &&& 2147483647).toBitVec.toNat : Int), ⟨by omega, ?_⟩, ?_⟩
  · have h : (x &&& 2147483647).toBitVec.toNat = x.toBitVec.toNat &&& 2147483647 := by rw [Int32.toBitVec_and, BitVec.toNat_and]; rfl
    rw [h]
    have := Nat.and_le_right (n := x.toBitVec.toNat) (m := 2147483647)
    omega
  · apply Int32.toBitVec_inj.1
    show _ = BitVec.ofInt 32 _
    rw [BitVec.ofInt_natCast]
    exact (BitVec.ofNat_toNat 32 _).symm ▸ (by simp)
end DRW

theorem mw_491 : (Jvm.Cond.static ({ cls := "GalleyforgeLaw", name := "drawn", desc := "([II)I" } : Jvm.MethodName)) ∈ gt := gt_at 561 (by decide +kernel) (by decide +kernel)
theorem mw_492 : (Jvm.Cond.code ({ cls := "GalleyforgeLaw", name := "drawn", desc := "([II)I" } : Jvm.MethodName) method_39_code (2 : Nat) (Option.some Jvm.ClassFile.FieldType.int)) ∈ gt := gt_at 562 (by decide +kernel) (by decide +kernel)
theorem mw_493 : (Jvm.Cond.constant "GalleyforgeLaw" (137 : Nat) (15526211 : Int32)) ∈ gt := gt_at 563 (by decide +kernel) (by decide +kernel)
theorem mw_494 : (Jvm.Cond.constant "GalleyforgeLaw" (138 : Nat) (2147483647 : Int32)) ∈ gt := gt_at 564 (by decide +kernel) (by decide +kernel)
theorem mS_L_drawn : mS yL_drawn cL_drawn 2 (some .int) 2 := ⟨⟨mw_492, mw_0, by decide, by decide, by decide +kernel⟩, mw_491⟩
theorem dL_drawn_0 : decode cL_drawn 0 = .ok (.iload_n 1, 1) := by decide +kernel
theorem dL_drawn_1 : decode cL_drawn 1 = .ok (.aload_n 0, 1) := by decide +kernel
theorem dL_drawn_2 : decode cL_drawn 2 = .ok (.arraylength, 1) := by decide +kernel
theorem dL_drawn_3 : decode cL_drawn 3 = .ok (.if_icmp .ge 9, 3) := by decide +kernel
theorem dL_drawn_6 : decode cL_drawn 6 = .ok (.aload_n 0, 1) := by decide +kernel
theorem dL_drawn_7 : decode cL_drawn 7 = .ok (.iload_n 1, 1) := by decide +kernel
theorem dL_drawn_8 : decode cL_drawn 8 = .ok (.iaload, 1) := by decide +kernel
theorem dL_drawn_9 : decode cL_drawn 9 = .ok (.goto 13, 3) := by decide +kernel
theorem dL_drawn_12 : decode cL_drawn 12 = .ok (.ldc 137, 2) := by decide +kernel
theorem dL_drawn_14 : decode cL_drawn 14 = .ok (.iload_n 1, 1) := by decide +kernel
theorem dL_drawn_15 : decode cL_drawn 15 = .ok (.iconst 3, 1) := by decide +kernel
theorem dL_drawn_16 : decode cL_drawn 16 = .ok (.iadd, 1) := by decide +kernel
theorem dL_drawn_17 : decode cL_drawn 17 = .ok (.imul, 1) := by decide +kernel
theorem dL_drawn_18 : decode cL_drawn 18 = .ok (.sipush 14207, 3) := by decide +kernel
theorem dL_drawn_21 : decode cL_drawn 21 = .ok (.iadd, 1) := by decide +kernel
theorem dL_drawn_22 : decode cL_drawn 22 = .ok (.ldc 138, 2) := by decide +kernel
theorem dL_drawn_24 : decode cL_drawn 24 = .ok (.iand, 1) := by decide +kernel
theorem dL_drawn_25 : decode cL_drawn 25 = .ok (.ireturn, 1) := by decide +kernel
theorem ofNat_iI (n : Nat) : Int32.ofNat n = iI (n : Int) := by
  apply Int32.toBitVec_inj.1
  show BitVec.ofNat 32 n = BitVec.ofInt 32 (n : Int)
  exact (BitVec.ofInt_natCast 32 n).symm
theorem and31' (x : Int32) : ∃ z : Int, (0 ≤ z ∧ z ≤ 2147483647) ∧ x &&& iI 2147483647 = iI z := and31 x
set_option maxHeartbeats 4000000 in
set_option maxRecDepth 100000 in
theorem k_drawn (l : Launch) (dC : Nat → ClassId) (dI : Nat → Nat → Nat) (k : Nat → ClassId) (b L : Nat) (xs : Nat → Int32) (kk : Int) (hk : 0 ≤ kk ∧ kk ≤ 60) (hL : L ≤ 260) : Kns l dC dI k b L xs yL_drawn (.code yL_drawn cL_drawn 2 (some .int)) ({ frames := 0, cells := 0, slots := 0, locals := 0 } : Room) [.ref b, .int (iI kk)] (fun r w gc gs => ∃ z : Int, (0 ≤ z ∧ z ≤ 2147483647) ∧ r = some (.int (iI z)) ∧ w = [] ∧ gc = 0 ∧ gs = 0) := by
  refine kns_of (by decide) (Nat.le_of_ble_eq_true rfl) ?_
  intro p e s m args below meth c H locs B hX hbs hr hnm ls hl
  have hx := B.1.1
  have hb := B.1.2.1
  have hl : lv_has ls 2 [(0, .ref b), (1, .int (iI kk))] := hl
  have hbA : ¬ va_A [] s.heap.size b := by
    rintro (⟨i, e9, h⟩ | h)
    · simp at h
    · omega
  refine lv_iload_n hx hb dL_drawn_0 rfl (lv_at hl 1 rfl) ?_
  refine lv_aload_n hx hb dL_drawn_1 rfl (lv_at hl 0 rfl) ?_
  refine va_slen hx hb hX hbs hbA B.2.2.2.2.2 dL_drawn_2 ?_
  refine lv_seti (y := iI (L : Int)) (ofNat_iI L) ?_
  refine lv_icmp_ge (tgt := 12) hx hb dL_drawn_3 (by decide) (fun c_1 => ?_) (fun c_1 => ?_)
  · refine lv_ldc (v := 15526211) hx hb B.1.2.2.2.1 (B.1.2.2.2.2.1 _ mw_493) dL_drawn_12 ?_
    refine lv_iload_n hx hb dL_drawn_14 rfl (lv_at hl 1 rfl) ?_
    refine lv_iconst (v := iI 3) hx hb dL_drawn_15 (by decide) ?_
    refine lv_iadd hx hb dL_drawn_16 ?_
    refine lv_imul hx hb dL_drawn_17 ?_
    refine lv_sipush (v := iI 14207) hx hb dL_drawn_18 (by decide) ?_
    refine lv_iadd hx hb dL_drawn_21 ?_
    refine lv_ldc (v := 2147483647) hx hb B.1.2.2.2.1 (B.1.2.2.2.2.1 _ mw_494) dL_drawn_22 ?_
    refine lv_iand hx hb dL_drawn_24 ?_
    refine lv_topi (fun z9 ez => ?_)
    obtain ⟨z, hz, e2⟩ := and31 (15526211 * (iI kk + iI 3) + iI 14207)
    rw [show z9 = iI z from ez.trans e2]
    exact k_iret B hr ⟨z, hz, rfl, rfl, rfl, rfl⟩ ⟨Nat.le_refl 0, Nat.le_refl 0⟩ ⟨Nat.le_refl 0, Nat.le_refl 0⟩ dL_drawn_25
  · have zc_1 : kk < (L : Int) := jnle (a := (L : Int)) (b := kk) (by omega) (by omega) c_1
    refine lv_aload_n hx hb dL_drawn_6 rfl (lv_at hl 0 rfl) ?_
    refine lv_iload_n hx hb dL_drawn_7 rfl (lv_at hl 1 rfl) ?_
    refine va_sld hx hb hX hbs hbA B.2.2.2.2.2 (iI_in (by omega)) dL_drawn_8 ?_
    refine lv_goto (tgt := 22) hx hb dL_drawn_9 (by decide) ?_
    refine lv_ldc (v := 2147483647) hx hb B.1.2.2.2.1 (B.1.2.2.2.2.1 _ mw_494) dL_drawn_22 ?_
    refine lv_iand hx hb dL_drawn_24 ?_
    refine lv_topi (fun z9 ez => ?_)
    obtain ⟨z, hz, e2⟩ := and31 (xs (iI kk).toNatClampNeg)
    rw [show z9 = iI z from ez.trans e2]
    exact k_iret B hr ⟨z, hz, rfl, rfl, rfl, rfl⟩ ⟨Nat.le_refl 0, Nat.le_refl 0⟩ ⟨Nat.le_refl 0, Nat.le_refl 0⟩ dL_drawn_25

end
