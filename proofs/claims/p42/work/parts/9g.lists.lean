section
section GETC
variable {p : Program} {l : Launch} {e : Env} {R : Room} {s : State} {m : MethodId} {args : Array Value} {below : List Frame} {meth : Method} {c : Code} {H : Heap} {locs : List Loc} {cells slots : Nat} {Q : State → Prop}
variable {dC : Nat → ClassId} {dI : Nat → Nat → Nat} {k : Nat → ClassId} {A : Nat → Prop} {cc : ByteArray} {nL : Nat} {own : String} {ws : va_W} {pc : Nat} {ls : Array Slot} {rest st0 : List Value} {lv : List (Nat × Value)}
theorem x_getC {a n index mi : Nat} {f : Nat → Option Nat} (B : bd p s m args meth c cc nL own dC dI k A ws H locs) (hls : lv_has ls nL lv) (hlink : Cond.methodLink own index ⟨"java/lang/Object", "getClass", "()Ljava/lang/Class;"⟩ ∈ gt) (hsel : Cond.selects "[Ljava/lang/Object;" ⟨"java/lang/Object", "getClass", "()Ljava/lang/Class;"⟩ ⟨"java/lang/Object", "getClass", "()Ljava/lang/Class;"⟩ ∈ gt)
    (hinst : Cond.instanceMethod ⟨"java/lang/Object", "getClass", "()Ljava/lang/Class;"⟩ ∈ gt) (hnat : Cond.native ⟨"java/lang/Object", "getClass", "()Ljava/lang/Class;"⟩ ∈ gt) (hM : va_Mi "[Ljava/lang/Object;" mi s) (q0 : Nat) (ha : ws[q0]? = some (a, .inl (k 4, n, .inr (.inr (.inr (.inr f)))))) (hfr : 1 ≤ R.frames) (hlo : (rest.map fun v => v.category).sum + 14 ≤ R.locals) (hdg : decode cc pc = .ok (.invokevirtual index, 3))
    (kk : W p l e R s m args below meth c H locs cells slots Q (F0 m (pc + 3) ls (.ref mi :: rest))) : W p l e R s m args below meth c H locs cells slots Q (F0 m pc ls (.ref a :: rest)) := by
  obtain ⟨⟨hx, hb, hml, hown, hts, hlk⟩, hE, hA, hP, hD, hS⟩ := B
  exact va_getC hx hb (by rw [hml]; exact hls.1.symm) hown (hts _ hlink) (va_Dc.use hE.2.2.2.2.2.2.2.2) (hts _ hsel) (hts _ hinst) (hts _ hnat) hM ⟨_, hP q0 _ ha, rfl, va_nmO (C := "java/lang/Object") (hE.1.2 4 (k 4, .object "java/lang/Object") rfl).2 (by decide)⟩ hfr hlo hdg kk
/-- a method that returns, where the class object of arrays of objects is mi -/
def Knm (l : Launch) (dC : Nat → ClassId) (dI : Nat → Nat → Nat) (k : Nat → ClassId) (mi : Nat) (y : MethodName) (c0 : Cond) (rm : Room) (av : List Value) (ws : va_W) (post : Option Value → va_W → Nat → Nat → Prop) : Prop :=
  ∀ sz : Nat, Met l y (c0 :: gt) rm (fun a U => Pw dC dI k av ws sz a U ∧ va_Mi "[Ljava/lang/Object;" mi U) (Qk dC dI ws sz post) rm.cells rm.slots (va_A ws sz)
theorem knm_of {mi : Nat} {y : MethodName} {cc : ByteArray} {nL : Nat} {ret : Option FieldType} {rm : Room} {av : List Value} {ws : va_W} {post : Option Value → va_W → Nat → Nat → Prop} (hy : plainName y.cls = true) (hlen : (lg_sl av).length ≤ nL)
    (body : ∀ (p : Program) (e : Env) (s : State) (m : MethodId) (args : Array Value) (below : List Frame) (meth : Method) (c : Code) (H : Heap) (locs : List Loc), bd p s m args meth c cc nL y.cls dC dI k (va_A ws s.heap.size) ws H locs → va_Mi "[Ljava/lang/Object;" mi s → meth.sig.returnType = ret → meth.name = y.name → ∀ ls : Array Slot, lv_has ls nL (lv_args 0 av) →
      W p l e rm s m args below meth c H locs 0 0 (MQ below (Qk dC dI ws s.heap.size post) args s rm.cells rm.slots (va_A ws s.heap.size)) (F0 m 0 ls [])) : Knm l dC dI k mi y (.code y cc nL ret) rm av ws post := by
  intro sz
  refine Met.ofW (cc := cc) (maxL := nL) (ret := ret) hy rfl ?_
  intro p e s m args below meth c s₁ B hml hv
  obtain ⟨⟨rfl, hsz, hP, hD0, hE⟩, hMi⟩ := hv
  subst hsz
  have hts := atoms_spec (ws := Cond.code y cc nL ret :: gt) B.pre
  have hl := lv_entry av (n := nL) hlen
  rw [lg_entry_eq]
  exact body p e s m _ below meth c _ _ ⟨⟨B.exec, B.bytes, hml, findClass_of_methodNamed B.named, fun w hw => hts w (List.mem_cons_of_mem _ hw), B.notSynchronized⟩, hE, fun q h => Or.inr h, hP, hD0.self, va_S.rf⟩ hMi B.returns (name_of_methodNamed B.named B.method).1 _ hl
theorem k_Sm {mi : Nat} {y : MethodName} {bytes : ByteArray} {maxL : Nat} {ret : Option FieldType} {rm : Room} {As : List Value} {wc wr : va_W} {post : Option Value → va_W → Nat → Nat → Prop} {idx : Nat} (hMi : va_Mi "[Ljava/lang/Object;" mi s) (hM : Knm l dC dI k mi y (.code y bytes maxL ret) rm As wc post) (B : bd p s m args meth c cc nL own dC dI k A (wc ++ wr) H locs) (hm : mS y bytes maxL ret As.length) (hk : Cond.methodLink own idx y ∈ gt) (hl : lv_has ls nL lv)
    (hrm : rm.frames + 1 ≤ R.frames ∧ 8 + (maxL + 11) + rm.locals ≤ R.locals) (hcat : (rest.map fun v => v.category).sum ≤ 8) (hst : st0 = As.reverse ++ rest) (hdg : decode cc pc = .ok (.invokestatic idx, 3)) (hf : cells + rm.cells ≤ R.cells ∧ slots + rm.slots ≤ R.slots)
    (kk : ∀ (r : Option Value) (w : va_W) (gc gs : Nat) (H1 : Heap) (locs1 : List Loc), post r w gc gs → bd p s m args meth c cc nL own dC dI k A (wr ++ w) H1 locs1 → W p l e R s m args below meth c H1 locs1 (cells + gc) (slots + gs) Q (F0 m (pc + 3) ls (r.toList ++ rest))) : W p l e R s m args below meth c H locs cells slots Q (F0 m pc ls st0) := by
  obtain ⟨⟨hx, hb, hml, hown, hts, hlk⟩, hE, hA, hP, hD, hS⟩ := B
  obtain ⟨⟨hco, hini, hd⟩, hstt⟩ := hm
  subst hst
  have hpre := k_pre hE hP hD hS hA (av := As)
  have hbl : FrameBlind (fun a U => Pw dC dI k As wc H.size a U ∧ va_Mi "[Ljava/lang/Object;" mi U) := fun a U g mk h => ⟨Pw_blind a U g mk h.1, h.2⟩
  refine k_go (va_runS (As := As) (rest := rest) ⟨hx, hb, hml, hown, hts⟩ (hM H.size) (va_cwS As.length hts (gi_S hk hstt hini hco) rfl rfl rfl hd hrm) ⟨hbl, fun U hU hW => ⟨hpre U hU hW, hMi.moved hW.alike⟩⟩ rfl rfl hl.1 rfl (lv_room hcat) hdg hf) hP hD hS hA (fun r w gc gs H1 locs1 h1 h2 h3 h4 => kk r w gc gs H1 locs1 h1 ⟨⟨hx, hb, hml, hown, hts, hlk⟩, hE, hA, h2, h3, h4⟩)
end GETC
theorem bShr_1 {a : Int} : bShr a 1 = a / 2 := rfl

theorem mw_699 : (Jvm.Cond.methodLink "jdk/internal/util/ArraysSupport" (194 : Nat) ({ cls := "java/lang/Math", name := "max", desc := "(II)I" } : Jvm.MethodName)) ∈ gt := gt_at 769 (by decide +kernel) (by decide +kernel)
theorem mw_702 : (Jvm.Cond.constant "jdk/internal/util/ArraysSupport" (200 : Nat) (2147483639 : Int32)) ∈ gt := gt_at 772 (by decide +kernel) (by decide +kernel)
theorem dJ8_newLength_cabcc_0 : decode cJ8_newLength_cabcc 0 = .ok (.iload_n 0, 1) := by decide +kernel
theorem dJ8_newLength_cabcc_1 : decode cJ8_newLength_cabcc 1 = .ok (.iload_n 1, 1) := by decide +kernel
theorem dJ8_newLength_cabcc_2 : decode cJ8_newLength_cabcc 2 = .ok (.iload_n 2, 1) := by decide +kernel
theorem dJ8_newLength_cabcc_3 : decode cJ8_newLength_cabcc 3 = .ok (.invokestatic 194, 3) := by decide +kernel
theorem dJ8_newLength_cabcc_6 : decode cJ8_newLength_cabcc 6 = .ok (.iadd, 1) := by decide +kernel
theorem dJ8_newLength_cabcc_7 : decode cJ8_newLength_cabcc 7 = .ok (.istore_n 3, 1) := by decide +kernel
theorem dJ8_newLength_cabcc_8 : decode cJ8_newLength_cabcc 8 = .ok (.iconst 0, 1) := by decide +kernel
theorem dJ8_newLength_cabcc_9 : decode cJ8_newLength_cabcc 9 = .ok (.iload_n 3, 1) := by decide +kernel
theorem dJ8_newLength_cabcc_10 : decode cJ8_newLength_cabcc 10 = .ok (.if_icmp .ge 11, 3) := by decide +kernel
theorem dJ8_newLength_cabcc_13 : decode cJ8_newLength_cabcc 13 = .ok (.iload_n 3, 1) := by decide +kernel
theorem dJ8_newLength_cabcc_14 : decode cJ8_newLength_cabcc 14 = .ok (.ldc 200, 2) := by decide +kernel
theorem dJ8_newLength_cabcc_16 : decode cJ8_newLength_cabcc 16 = .ok (.if_icmp .gt 5, 3) := by decide +kernel
theorem dJ8_newLength_cabcc_19 : decode cJ8_newLength_cabcc 19 = .ok (.iload_n 3, 1) := by decide +kernel
theorem dJ8_newLength_cabcc_20 : decode cJ8_newLength_cabcc 20 = .ok (.ireturn, 1) := by decide +kernel
set_option maxHeartbeats 4000000 in
set_option maxRecDepth 100000 in
theorem k_newLength (l : Launch) (dC : Nat → ClassId) (dI : Nat → Nat → Nat) (k : Nat → ClassId) (a_ : Int) (b_ : Int) (c_ : Int) (h1 : 0 ≤ a_ ∧ a_ ≤ 100 ∧ 1 ≤ b_ ∧ b_ ≤ 100 ∧ 0 ≤ c_ ∧ c_ ≤ 100) : Kn l dC dI k yJ8_newLength_cabcc (.code yJ8_newLength_cabcc cJ8_newLength_cabcc 4 (some .int)) ({ frames := 1, cells := 0, slots := 0, locals := 14 } : Room) [.int (iI a_), .int (iI b_), .int (iI c_)] [] (fun r w gc gs => (r = some (.int (iI (a_ + max b_ c_))) ∧ w = [] ∧ gc = 0 ∧ gs = 0)) := by
  refine kn_of (by decide) (Nat.le_of_ble_eq_true rfl) ?_
  intro p e s m args below meth c H locs B hr hnm ls hl
  have hx := B.1.1
  have hb := B.1.2.1
  have hl : lv_has ls 4 [(0, .int (iI a_)), (1, .int (iI b_)), (2, .int (iI c_))] := hl
  refine lv_iload_n hx hb dJ8_newLength_cabcc_0 rfl (lv_at hl 0 rfl) ?_
  refine lv_iload_n hx hb dJ8_newLength_cabcc_1 rfl (lv_at hl 1 rfl) ?_
  refine lv_iload_n hx hb dJ8_newLength_cabcc_2 rfl (lv_at hl 2 rfl) ?_
  refine y_max (a := b_) (b := c_) B hl mw_699 mw_700 mw_26 mw_701 (Nat.le_of_ble_eq_true rfl) (Nat.le_of_ble_eq_true rfl) (Nat.le_of_ble_eq_true rfl) (Nat.le_of_ble_eq_true rfl) (by omega) (by omega) dJ8_newLength_cabcc_3 ?_
  refine y_add hx hb dJ8_newLength_cabcc_6 ?_
  refine lv_istore_n (lv' := [(3, .int (iI (a_ + (max b_ c_)))), (0, .int (iI a_)), (1, .int (iI b_)), (2, .int (iI c_))]) hx hb dJ8_newLength_cabcc_7 rfl hl (by decide) rfl (fun ls hl => ?_)
  refine lv_iconst (v := iI 0) hx hb dJ8_newLength_cabcc_8 (by decide) ?_
  refine lv_iload_n hx hb dJ8_newLength_cabcc_9 rfl (lv_at hl 0 rfl) ?_
  refine lv_icmp_ge (tgt := 21) hx hb dJ8_newLength_cabcc_10 (by decide) (fun c_1 => ?_) (fun c_1 => ?_)
  · have zc_1 : (a_ + (max b_ c_)) ≤ 0 := jle (a := (a_ + (max b_ c_))) (b := 0) (by omega) (by omega) c_1
    exfalso; omega
  · have zc_1 : 0 < (a_ + (max b_ c_)) := jnle (a := (a_ + (max b_ c_))) (b := 0) (by omega) (by omega) c_1
    refine lv_iload_n hx hb dJ8_newLength_cabcc_13 rfl (lv_at hl 0 rfl) ?_
    refine lv_ldc (v := 2147483639) hx hb B.1.2.2.2.1 (B.1.2.2.2.2.1 _ mw_702) dJ8_newLength_cabcc_14 ?_
    refine lv_seti (y := iI 2147483639) (by decide) ?_
    refine lv_icmp_gt (tgt := 21) hx hb dJ8_newLength_cabcc_16 (by decide) (fun c_2 => ?_) (fun c_2 => ?_)
    · have zc_2 : 2147483639 < (a_ + (max b_ c_)) := jlt (a := 2147483639) (b := (a_ + (max b_ c_))) (by omega) (by omega) c_2
      exfalso; omega
    · have zc_2 : (a_ + (max b_ c_)) ≤ 2147483639 := jnlt (a := 2147483639) (b := (a_ + (max b_ c_))) (by omega) (by omega) c_2
      refine lv_iload_n hx hb dJ8_newLength_cabcc_19 rfl (lv_at hl 0 rfl) ?_
      have e_3 : (a_ + max b_ c_) = (a_ + (max b_ c_)) := (by first | rfl | omega)
      skip
      exact k_iret B hr (⟨(by rw [e_3]), rfl, rfl, rfl⟩) ⟨Nat.le_of_ble_eq_true rfl, Nat.le_of_ble_eq_true rfl⟩ ⟨Nat.le_of_ble_eq_true rfl, Nat.le_of_ble_eq_true rfl⟩ dJ8_newLength_cabcc_20

theorem mw_734 : (Jvm.Cond.classLink "java/util/Arrays" (110 : Nat) "[Ljava/lang/Object;") ∈ gt := gt_at 804 (by decide +kernel) (by decide +kernel)
theorem mw_736 : (Jvm.Cond.classLink "java/util/Arrays" (2 : Nat) "java/lang/Object") ∈ gt := gt_at 806 (by decide +kernel) (by decide +kernel)
theorem dJ7_copyOf_6403c_0 : decode cJ7_copyOf_6403c 0 = .ok (.aload_n 2, 1) := by decide +kernel
theorem dJ7_copyOf_6403c_1 : decode cJ7_copyOf_6403c 1 = .ok (.ldc 110, 2) := by decide +kernel
theorem dJ7_copyOf_6403c_3 : decode cJ7_copyOf_6403c 3 = .ok (.if_acmp .ne 10, 3) := by decide +kernel
theorem dJ7_copyOf_6403c_6 : decode cJ7_copyOf_6403c 6 = .ok (.iload_n 1, 1) := by decide +kernel
theorem dJ7_copyOf_6403c_7 : decode cJ7_copyOf_6403c 7 = .ok (.anewarray 2, 3) := by decide +kernel
theorem dJ7_copyOf_6403c_10 : decode cJ7_copyOf_6403c 10 = .ok (.goto 14, 3) := by decide +kernel
theorem dJ7_copyOf_6403c_24 : decode cJ7_copyOf_6403c 24 = .ok (.astore_n 3, 1) := by decide +kernel
theorem dJ7_copyOf_6403c_25 : decode cJ7_copyOf_6403c 25 = .ok (.aload_n 0, 1) := by decide +kernel
theorem dJ7_copyOf_6403c_26 : decode cJ7_copyOf_6403c 26 = .ok (.iconst 0, 1) := by decide +kernel
theorem dJ7_copyOf_6403c_27 : decode cJ7_copyOf_6403c 27 = .ok (.aload_n 3, 1) := by decide +kernel
theorem dJ7_copyOf_6403c_28 : decode cJ7_copyOf_6403c 28 = .ok (.iconst 0, 1) := by decide +kernel
theorem dJ7_copyOf_6403c_29 : decode cJ7_copyOf_6403c 29 = .ok (.aload_n 0, 1) := by decide +kernel
theorem dJ7_copyOf_6403c_30 : decode cJ7_copyOf_6403c 30 = .ok (.arraylength, 1) := by decide +kernel
theorem dJ7_copyOf_6403c_31 : decode cJ7_copyOf_6403c 31 = .ok (.iload_n 1, 1) := by decide +kernel
theorem dJ7_copyOf_6403c_32 : decode cJ7_copyOf_6403c 32 = .ok (.invokestatic 304, 3) := by decide +kernel
theorem dJ7_copyOf_6403c_35 : decode cJ7_copyOf_6403c 35 = .ok (.invokestatic 150, 3) := by decide +kernel
theorem dJ7_copyOf_6403c_38 : decode cJ7_copyOf_6403c 38 = .ok (.aload_n 3, 1) := by decide +kernel
theorem dJ7_copyOf_6403c_39 : decode cJ7_copyOf_6403c 39 = .ok (.areturn, 1) := by decide +kernel
set_option maxHeartbeats 4000000 in
set_option maxRecDepth 100000 in
theorem k_copyOM (l : Launch) (dC : Nat → ClassId) (dI : Nat → Nat → Nat) (k : Nat → ClassId) (ed : Nat) (cap : Nat) (mm : Nat) (mi : Nat) (ci : Nat) (rc : vw_C) (g : Int → Option Nat) (tl : va_W) (hc : classes[ci]? = some rc) (hca : (rc.1, "java/lang/Object") ∈ nCS) (hel : ∀ i : Int, 0 ≤ i → i < cap → ∀ y : Nat, g i = some y → ∃ fs : List Value, ((y, .inr (ci, fs)) : Nat × va_E) ∈ tl) (hmm : 0 < mm ∧ mm ≤ 100 ∧ cap ≤ 100) : Knm l dC dI k mi yJ7_copyOf_6403c (.code yJ7_copyOf_6403c cJ7_copyOf_6403c 4 (some (.array (.object "java/lang/Object")))) ({ frames := 1, cells := 1, slots := mm, locals := 40 } : Room) [.ref ed, .int (iI (mm : Int)), .ref mi] ([(ed, .inl (k 4, cap, .inr (.inr (.inr (.inr (fun i9 : Nat => g i9))))))] ++ tl) (fun r w gc gs => (∃ (cq : Nat), r = some (.ref cq) ∧ w = ([(ed, .inl (k 4, cap, .inr (.inr (.inr (.inr (fun i9 : Nat => g i9)))))), (cq, .inl (k 4, mm, .inr (.inr (.inr (.inr (fun i9 : Nat => (cpz g (fun _ : Int => (none : Option Nat)) 0 0 (min (cap : Int) (mm : Int))) i9))))))] ++ tl) ∧ gc = 1 ∧ gs = (0 + mm))) := by
  refine knm_of (by decide) (Nat.le_of_ble_eq_true rfl) ?_
  intro p e s m args below meth c H locs B hMi hr hnm ls hl
  have hx := B.1.1
  have hb := B.1.2.1
  have hl : lv_has ls 4 [(0, .ref ed), (1, .int (iI (mm : Int))), (2, .ref mi)] := hl
  refine lv_aload_n hx hb dJ7_copyOf_6403c_0 rfl (lv_at hl 2 rfl) ?_
  refine va_ldcM (mi := mi) hx hb B.1.2.2.2.1 (B.1.2.2.2.2.1 _ mw_734) hMi dJ7_copyOf_6403c_1 ?_
  refine lv_acmp_ne (tgt := 13) (rx := some mi) (ry := some mi) hx hb dJ7_copyOf_6403c_3 (by decide) (fun c9 => absurd rfl c9) (fun _ => ?_)
  refine lv_iload_n hx hb dJ7_copyOf_6403c_6 rfl (lv_at hl 1 rfl) ?_
  refine x_anew (N' := mm) B mw_736 B.2.1.2.1.2.2.2.2 4 rfl (iI_nn (by omega)) ((iI_clz (by omega)).trans (by omega)) (by omega) (by first | omega | (dsimp only; omega)) (by first | omega | (dsimp only; omega)) dJ7_copyOf_6403c_7 (fun q_1 H B => ?_)
  have B := bd_swap (a := [(ed, .inl (k 4, cap, .inr (.inr (.inr (.inr (fun i9 : Nat => g i9))))))]) (b := tl) (d := [(q_1, .inl (k 4, mm, .inr (.inr (.inr (.inr (fun i9 : Nat => (fun _ : Int => (none : Option Nat)) i9))))))]) B
  have B := bd_to (ws' := ([(ed, .inl (k 4, cap, .inr (.inr (.inr (.inr (fun i9 : Nat => g i9)))))), (q_1, .inl (k 4, mm, .inr (.inr (.inr (.inr (fun i9 : Nat => (fun _ : Int => (none : Option Nat)) i9))))))] ++ tl)) rfl B
  refine lv_goto (tgt := 24) hx hb dJ7_copyOf_6403c_10 (by decide) ?_
  refine lv_astore_n (lv' := [(3, .ref q_1), (0, .ref ed), (1, .int (iI (mm : Int))), (2, .ref mi)]) hx hb dJ7_copyOf_6403c_24 rfl hl (by decide) rfl (fun ls hl => ?_)
  refine lv_aload_n hx hb dJ7_copyOf_6403c_25 rfl (lv_at hl 1 rfl) ?_
  refine lv_iconst (v := iI 0) hx hb dJ7_copyOf_6403c_26 (by decide) ?_
  refine lv_aload_n hx hb dJ7_copyOf_6403c_27 rfl (lv_at hl 0 rfl) ?_
  refine lv_iconst (v := iI 0) hx hb dJ7_copyOf_6403c_28 (by decide) ?_
  refine lv_aload_n hx hb dJ7_copyOf_6403c_29 rfl (lv_at hl 1 rfl) ?_
  refine x_alen' B 0 4 rfl rfl dJ7_copyOf_6403c_30 ?_
  refine lv_iload_n hx hb dJ7_copyOf_6403c_31 rfl (lv_at hl 2 rfl) ?_
  refine y_min (a := (cap : Int)) (b := (mm : Int)) B hl mw_654 mw_655 mw_26 mw_656 (Nat.le_of_ble_eq_true rfl) (Nat.le_of_ble_eq_true rfl) (by first | omega | (dsimp only; omega)) (by first | omega | (dsimp only; omega)) (by omega) (by omega) dJ7_copyOf_6403c_32 ?_
  refine x_copyO (f := g) (g := (fun _ : Int => (none : Option Nat))) (ci := ci) (r := rc) (sp := 0) (dp := 0) (z := (min (cap : Int) (mm : Int))) B hl mw_657 mw_659 mw_658 mw_27 0 1 rfl rfl (by omega) (by omega) (by omega) (by omega) (by omega) hc hca (fun i9 h9 h8 y9 h7 => by obtain ⟨fs9, hf9⟩ := hel _ (by omega) (by omega) y9 h7; obtain ⟨q8, hq8⟩ := pk_at (hs := [(ed, .inl (k 4, cap, .inr (.inr (.inr (.inr (fun i9 : Nat => g i9)))))), (q_1, .inl (k 4, mm, .inr (.inr (.inr (.inr (fun i9 : Nat => (fun _ : Int => (none : Option Nat)) i9))))))]) hf9; exact ⟨q8, fs9, hq8⟩) (Nat.le_of_ble_eq_true rfl) (Nat.le_of_ble_eq_true rfl) dJ7_copyOf_6403c_35 (fun H locs B => ?_)
  have B := bd_to (ws' := ([(ed, .inl (k 4, cap, .inr (.inr (.inr (.inr (fun i9 : Nat => g i9)))))), (q_1, .inl (k 4, mm, .inr (.inr (.inr (.inr (fun i9 : Nat => (cpz g (fun _ : Int => (none : Option Nat)) 0 0 (min (cap : Int) (mm : Int))) i9))))))] ++ tl)) rfl B
  refine lv_aload_n hx hb dJ7_copyOf_6403c_38 rfl (lv_at hl 0 rfl) ?_
  exact k_aretA B hr (⟨q_1, rfl, rfl, rfl, rfl⟩) ⟨(by first | omega | (dsimp only; omega)), (by first | omega | (dsimp only; omega))⟩ ⟨(by first | omega | (dsimp only; omega)), (by first | omega | (dsimp only; omega))⟩ dJ7_copyOf_6403c_39

theorem mw_709 : (Jvm.Cond.methodLink "java/util/Arrays" (86 : Nat) ({ cls := "java/lang/Object", name := "getClass", desc := "()Ljava/lang/Class;" } : Jvm.MethodName)) ∈ gt := gt_at 779 (by decide +kernel) (by decide +kernel)
theorem mw_710 : (Jvm.Cond.instanceMethod ({ cls := "java/lang/Object", name := "getClass", desc := "()Ljava/lang/Class;" } : Jvm.MethodName)) ∈ gt := gt_at 780 (by decide +kernel) (by decide +kernel)
theorem mw_730 : (Jvm.Cond.native ({ cls := "java/lang/Object", name := "getClass", desc := "()Ljava/lang/Class;" } : Jvm.MethodName)) ∈ gt := gt_at 800 (by decide +kernel) (by decide +kernel)
theorem mw_731 : (Jvm.Cond.methodLink "java/util/Arrays" (300 : Nat) ({ cls := "java/util/Arrays", name := "copyOf", desc := "([Ljava/lang/Object;ILjava/lang/Class;)[Ljava/lang/Object;" } : Jvm.MethodName)) ∈ gt := gt_at 801 (by decide +kernel) (by decide +kernel)
theorem mw_732 : (Jvm.Cond.static ({ cls := "java/util/Arrays", name := "copyOf", desc := "([Ljava/lang/Object;ILjava/lang/Class;)[Ljava/lang/Object;" } : Jvm.MethodName)) ∈ gt := gt_at 802 (by decide +kernel) (by decide +kernel)
theorem mw_733 : (Jvm.Cond.code ({ cls := "java/util/Arrays", name := "copyOf", desc := "([Ljava/lang/Object;ILjava/lang/Class;)[Ljava/lang/Object;" } : Jvm.MethodName) prog_41_method_120_code (4 : Nat) (Option.some (Jvm.ClassFile.FieldType.array (Jvm.ClassFile.FieldType.object "java/lang/Object")))) ∈ gt := gt_at 803 (by decide +kernel) (by decide +kernel)
theorem mw_1913 : (Jvm.Cond.selects "[Ljava/lang/Object;" ({ cls := "java/lang/Object", name := "getClass", desc := "()Ljava/lang/Class;" } : Jvm.MethodName) ({ cls := "java/lang/Object", name := "getClass", desc := "()Ljava/lang/Class;" } : Jvm.MethodName)) ∈ gt := gt_at 1983 (by decide +kernel) (by decide +kernel)
theorem mS_J7_copyOf_6403c : mS yJ7_copyOf_6403c cJ7_copyOf_6403c 4 (some (.array (.object "java/lang/Object"))) 3 := ⟨⟨mw_733, mw_12, by decide, by decide, by decide +kernel⟩, mw_732⟩
theorem dJ7_copyOf_1904c_0 : decode cJ7_copyOf_1904c 0 = .ok (.aload_n 0, 1) := by decide +kernel
theorem dJ7_copyOf_1904c_1 : decode cJ7_copyOf_1904c 1 = .ok (.iload_n 1, 1) := by decide +kernel
theorem dJ7_copyOf_1904c_2 : decode cJ7_copyOf_1904c 2 = .ok (.aload_n 0, 1) := by decide +kernel
theorem dJ7_copyOf_1904c_3 : decode cJ7_copyOf_1904c 3 = .ok (.invokevirtual 86, 3) := by decide +kernel
theorem dJ7_copyOf_1904c_6 : decode cJ7_copyOf_1904c 6 = .ok (.invokestatic 300, 3) := by decide +kernel
theorem dJ7_copyOf_1904c_9 : decode cJ7_copyOf_1904c 9 = .ok (.areturn, 1) := by decide +kernel
set_option maxHeartbeats 4000000 in
set_option maxRecDepth 100000 in
theorem k_copyO1 (l : Launch) (dC : Nat → ClassId) (dI : Nat → Nat → Nat) (k : Nat → ClassId) (ed : Nat) (cap : Nat) (mm : Nat) (ci : Nat) (rc : vw_C) (g : Int → Option Nat) (tl : va_W) (hc : classes[ci]? = some rc) (hca : (rc.1, "java/lang/Object") ∈ nCS) (hel : ∀ i : Int, 0 ≤ i → i < cap → ∀ y : Nat, g i = some y → ∃ fs : List Value, ((y, .inr (ci, fs)) : Nat × va_E) ∈ tl) (hmm : 0 < mm ∧ mm ≤ 100 ∧ cap ≤ 100) : Kn l dC dI k yJ7_copyOf_1904c (.code yJ7_copyOf_1904c cJ7_copyOf_1904c 2 (some (.array (.object "java/lang/Object")))) ({ frames := 2, cells := 1, slots := mm, locals := 63 } : Room) [.ref ed, .int (iI (mm : Int))] ([(ed, .inl (k 4, cap, .inr (.inr (.inr (.inr (fun i9 : Nat => g i9))))))] ++ tl) (fun r w gc gs => (∃ (cq : Nat), r = some (.ref cq) ∧ w = ([(ed, .inl (k 4, cap, .inr (.inr (.inr (.inr (fun i9 : Nat => g i9)))))), (cq, .inl (k 4, mm, .inr (.inr (.inr (.inr (fun i9 : Nat => (cpz g (fun _ : Int => (none : Option Nat)) 0 0 (min (cap : Int) (mm : Int))) i9))))))] ++ tl) ∧ gc = 1 ∧ gs = (0 + mm))) := by
  refine kn_of (by decide) (Nat.le_of_ble_eq_true rfl) ?_
  intro p e s m args below meth c H locs B hr hnm ls hl
  have hx := B.1.1
  have hb := B.1.2.1
  have hl : lv_has ls 2 [(0, .ref ed), (1, .int (iI (mm : Int)))] := hl
  refine lv_aload_n hx hb dJ7_copyOf_1904c_0 rfl (lv_at hl 0 rfl) ?_
  refine lv_iload_n hx hb dJ7_copyOf_1904c_1 rfl (lv_at hl 1 rfl) ?_
  refine lv_aload_n hx hb dJ7_copyOf_1904c_2 rfl (lv_at hl 0 rfl) ?_
  obtain ⟨mi_1, hMi⟩ := B.2.1.2.2.2.2.2.2.2.1
  refine x_getC B hl mw_709 mw_1913 mw_710 mw_730 hMi 0 rfl (Nat.le_of_ble_eq_true rfl) (Nat.le_of_ble_eq_true rfl) dJ7_copyOf_1904c_3 ?_
  have B := bd_swap (a := [(ed, .inl (k 4, cap, .inr (.inr (.inr (.inr (fun i9 : Nat => g i9))))))]) (b := []) (d := tl) (bd_to rfl B)
  refine k_Sm hMi (rest := []) (wc := ([(ed, .inl (k 4, cap, .inr (.inr (.inr (.inr (fun i9 : Nat => g i9))))))] ++ tl)) (wr := []) (k_copyOM l dC dI k ed cap mm mi_1 ci rc g tl hc hca hel hmm) B mS_J7_copyOf_6403c mw_731 hl ⟨Nat.le_of_ble_eq_true rfl, Nat.le_of_ble_eq_true rfl⟩ (Nat.le_of_ble_eq_true rfl) rfl dJ7_copyOf_1904c_6 ⟨by dsimp only; omega, by dsimp only; omega⟩ (fun r w gc gs H locs hp B => ?_)
  obtain ⟨cq_2, rfl, hw9, rfl, rfl⟩ := hp
  rw [hw9] at B; clear hw9
  have B := bd_to (ws' := ([(ed, .inl (k 4, cap, .inr (.inr (.inr (.inr (fun i9 : Nat => g i9)))))), (cq_2, .inl (k 4, mm, .inr (.inr (.inr (.inr (fun i9 : Nat => (cpz g (fun _ : Int => (none : Option Nat)) 0 0 (min (cap : Int) (mm : Int))) i9))))))] ++ tl)) rfl B
  exact k_aretA B hr (⟨cq_2, rfl, rfl, rfl, rfl⟩) ⟨(by first | omega | (dsimp only; omega)), (by first | omega | (dsimp only; omega))⟩ ⟨(by first | omega | (dsimp only; omega)), (by first | omega | (dsimp only; omega))⟩ dJ7_copyOf_1904c_9

theorem mw_25 : (Jvm.Cond.initialized "jdk/internal/util/ArraysSupport") ∈ gt := gt_at 95 (by decide +kernel) (by decide +kernel)
theorem mw_696 : (Jvm.Cond.methodLink "java/util/ArrayList" (73 : Nat) ({ cls := "jdk/internal/util/ArraysSupport", name := "newLength", desc := "(III)I" } : Jvm.MethodName)) ∈ gt := gt_at 766 (by decide +kernel) (by decide +kernel)
theorem mw_697 : (Jvm.Cond.static ({ cls := "jdk/internal/util/ArraysSupport", name := "newLength", desc := "(III)I" } : Jvm.MethodName)) ∈ gt := gt_at 767 (by decide +kernel) (by decide +kernel)
theorem mw_698 : (Jvm.Cond.code ({ cls := "jdk/internal/util/ArraysSupport", name := "newLength", desc := "(III)I" } : Jvm.MethodName) prog_47_method_27_code (4 : Nat) (Option.some Jvm.ClassFile.FieldType.int)) ∈ gt := gt_at 768 (by decide +kernel) (by decide +kernel)
theorem mw_706 : (Jvm.Cond.methodLink "java/util/ArrayList" (66 : Nat) ({ cls := "java/util/Arrays", name := "copyOf", desc := "([Ljava/lang/Object;I)[Ljava/lang/Object;" } : Jvm.MethodName)) ∈ gt := gt_at 776 (by decide +kernel) (by decide +kernel)
theorem mw_707 : (Jvm.Cond.static ({ cls := "java/util/Arrays", name := "copyOf", desc := "([Ljava/lang/Object;I)[Ljava/lang/Object;" } : Jvm.MethodName)) ∈ gt := gt_at 777 (by decide +kernel) (by decide +kernel)
theorem mw_708 : (Jvm.Cond.code ({ cls := "java/util/Arrays", name := "copyOf", desc := "([Ljava/lang/Object;I)[Ljava/lang/Object;" } : Jvm.MethodName) prog_41_method_119_code (2 : Nat) (Option.some (Jvm.ClassFile.FieldType.array (Jvm.ClassFile.FieldType.object "java/lang/Object")))) ∈ gt := gt_at 778 (by decide +kernel) (by decide +kernel)
theorem mS_J7_copyOf_1904c : mS yJ7_copyOf_1904c cJ7_copyOf_1904c 2 (some (.array (.object "java/lang/Object"))) 2 := ⟨⟨mw_708, mw_12, by decide, by decide, by decide +kernel⟩, mw_707⟩
theorem mS_J8_newLength_cabcc : mS yJ8_newLength_cabcc cJ8_newLength_cabcc 4 (some .int) 3 := ⟨⟨mw_698, mw_25, by decide, by decide, by decide +kernel⟩, mw_697⟩
theorem dJx4a65c_grow_92f84_0 : decode cJx4a65c_grow_92f84 0 = .ok (.aload_n 0, 1) := by decide +kernel
theorem dJx4a65c_grow_92f84_1 : decode cJx4a65c_grow_92f84 1 = .ok (.getfield 9, 3) := by decide +kernel
theorem dJx4a65c_grow_92f84_4 : decode cJx4a65c_grow_92f84 4 = .ok (.arraylength, 1) := by decide +kernel
theorem dJx4a65c_grow_92f84_5 : decode cJx4a65c_grow_92f84 5 = .ok (.istore_n 2, 1) := by decide +kernel
theorem dJx4a65c_grow_92f84_6 : decode cJx4a65c_grow_92f84 6 = .ok (.iload_n 2, 1) := by decide +kernel
theorem dJx4a65c_grow_92f84_7 : decode cJx4a65c_grow_92f84 7 = .ok (.ifCond .gt 13, 3) := by decide +kernel
theorem dJx4a65c_grow_92f84_20 : decode cJx4a65c_grow_92f84 20 = .ok (.iload_n 2, 1) := by decide +kernel
theorem dJx4a65c_grow_92f84_21 : decode cJx4a65c_grow_92f84 21 = .ok (.iload_n 1, 1) := by decide +kernel
theorem dJx4a65c_grow_92f84_22 : decode cJx4a65c_grow_92f84 22 = .ok (.iload_n 2, 1) := by decide +kernel
theorem dJx4a65c_grow_92f84_23 : decode cJx4a65c_grow_92f84 23 = .ok (.isub, 1) := by decide +kernel
theorem dJx4a65c_grow_92f84_24 : decode cJx4a65c_grow_92f84 24 = .ok (.iload_n 2, 1) := by decide +kernel
theorem dJx4a65c_grow_92f84_25 : decode cJx4a65c_grow_92f84 25 = .ok (.iconst 1, 1) := by decide +kernel
theorem dJx4a65c_grow_92f84_26 : decode cJx4a65c_grow_92f84 26 = .ok (.ishr, 1) := by decide +kernel
theorem dJx4a65c_grow_92f84_27 : decode cJx4a65c_grow_92f84 27 = .ok (.invokestatic 73, 3) := by decide +kernel
theorem dJx4a65c_grow_92f84_30 : decode cJx4a65c_grow_92f84 30 = .ok (.istore_n 3, 1) := by decide +kernel
theorem dJx4a65c_grow_92f84_31 : decode cJx4a65c_grow_92f84 31 = .ok (.aload_n 0, 1) := by decide +kernel
theorem dJx4a65c_grow_92f84_32 : decode cJx4a65c_grow_92f84 32 = .ok (.aload_n 0, 1) := by decide +kernel
theorem dJx4a65c_grow_92f84_33 : decode cJx4a65c_grow_92f84 33 = .ok (.getfield 9, 3) := by decide +kernel
theorem dJx4a65c_grow_92f84_36 : decode cJx4a65c_grow_92f84 36 = .ok (.iload_n 3, 1) := by decide +kernel
theorem dJx4a65c_grow_92f84_37 : decode cJx4a65c_grow_92f84 37 = .ok (.invokestatic 66, 3) := by decide +kernel
theorem dJx4a65c_grow_92f84_40 : decode cJx4a65c_grow_92f84 40 = .ok (.dup_x1, 1) := by decide +kernel
theorem dJx4a65c_grow_92f84_41 : decode cJx4a65c_grow_92f84 41 = .ok (.putfield 9, 3) := by decide +kernel
theorem dJx4a65c_grow_92f84_44 : decode cJx4a65c_grow_92f84 44 = .ok (.areturn, 1) := by decide +kernel
set_option maxHeartbeats 4000000 in
set_option maxRecDepth 100000 in
theorem k_growI (l : Launch) (dC : Nat → ClassId) (dI : Nat → Nat → Nat) (k : Nat → ClassId) (al : Nat) (ed : Nat) (cap : Nat) (mc : Int) (n : Int) (ci : Nat) (rc : vw_C) (g : Int → Option Nat) (tl : va_W) (hc : classes[ci]? = some rc) (hca : (rc.1, "java/lang/Object") ∈ nCS) (hel : ∀ i : Int, 0 ≤ i → i < cap → ∀ y : Nat, g i = some y → ∃ fs : List Value, ((y, .inr (ci, fs)) : Nat × va_E) ∈ tl) (h1 : 0 < cap ∧ cap ≤ 40) : Kn l dC dI k yJx4a65c_grow_92f84 (.code yJx4a65c_grow_92f84 cJx4a65c_grow_92f84 4 (some (.array (.object "java/lang/Object")))) ({ frames := 3, cells := 1, slots := (cap + max 1 (cap / 2)), locals := 84 } : Room) [.ref al, .int (iI ((cap : Int) + 1))] ([(al, .inr (12, [.int (iI mc), .ref ed, .int (iI n)])), (ed, .inl (k 4, cap, .inr (.inr (.inr (.inr (fun i9 : Nat => g i9))))))] ++ tl) (fun r w gc gs => (∃ (cq : Nat), r = some (.ref cq) ∧ w = ([(al, .inr (12, [.int (iI mc), .ref cq, .int (iI n)])), (cq, .inl (k 4, (cap + max 1 (cap / 2)), .inr (.inr (.inr (.inr (fun i9 : Nat => (cpz g (fun _ : Int => (none : Option Nat)) 0 0 (min (cap : Int) ((cap + max 1 (cap / 2)) : Int))) i9))))))] ++ tl) ∧ gc = 1 ∧ gs = (cap + max 1 (cap / 2)))) := by
  refine kn_of (by decide) (Nat.le_of_ble_eq_true rfl) ?_
  intro p e s m args below meth c H locs B hr hnm ls hl
  have hx := B.1.1
  have hb := B.1.2.1
  have hl : lv_has ls 4 [(0, .ref al), (1, .int (iI ((cap : Int) + 1)))] := hl
  refine lv_aload_n hx hb dJx4a65c_grow_92f84_0 rfl (lv_at hl 0 rfl) ?_
  refine x_get (ci := 12) (C := RJx4a65c) (T := TJx4a65c) (N := 3) (v := .ref ed) B 0 rfl rfl in_Jx4a65c 1 (by decide) mw_63 (fun _ h9 => h9) rfl dJx4a65c_grow_92f84_1 ?_
  refine x_alen' B 1 4 rfl rfl dJx4a65c_grow_92f84_4 ?_
  refine lv_istore_n (lv' := [(2, .int (iI (cap : Int))), (0, .ref al), (1, .int (iI ((cap : Int) + 1)))]) hx hb dJx4a65c_grow_92f84_5 rfl hl (by decide) rfl (fun ls hl => ?_)
  refine lv_iload_n hx hb dJx4a65c_grow_92f84_6 rfl (lv_at hl 0 rfl) ?_
  refine lv_if_gt (tgt := 20) hx hb dJx4a65c_grow_92f84_7 (by decide) (fun c_1 => ?_) (fun c_1 => ?_)
  · have zc_1 : 0 < (cap : Int) := jlt (a := 0) (b := (cap : Int)) (by omega) (by omega) c_1
    refine lv_iload_n hx hb dJx4a65c_grow_92f84_20 rfl (lv_at hl 0 rfl) ?_
    refine lv_iload_n hx hb dJx4a65c_grow_92f84_21 rfl (lv_at hl 2 rfl) ?_
    refine lv_iload_n hx hb dJx4a65c_grow_92f84_22 rfl (lv_at hl 0 rfl) ?_
    refine y_sub hx hb dJx4a65c_grow_92f84_23 ?_
    refine lv_iload_n hx hb dJx4a65c_grow_92f84_24 rfl (lv_at hl 0 rfl) ?_
    refine lv_iconst (v := iI 1) hx hb dJx4a65c_grow_92f84_25 (by decide) ?_
    refine y_shr hx hb (a := (cap : Int)) (b := 1) (by omega) (by omega) dJx4a65c_grow_92f84_26 ?_
    have z_2 : 0 ≤ (bShr (cap : Int) 1) ∧ (bShr (cap : Int) 1) ≤ (cap : Int) := bShr_le (by omega)
    have B := bd_to (ws' := [] ++ ([(al, .inr (12, [.int (iI mc), .ref ed, .int (iI n)])), (ed, .inl (k 4, cap, .inr (.inr (.inr (.inr (fun i9 : Nat => g i9))))))] ++ tl)) rfl B
    refine k_S (rest := []) (wc := []) (wr := ([(al, .inr (12, [.int (iI mc), .ref ed, .int (iI n)])), (ed, .inl (k 4, cap, .inr (.inr (.inr (.inr (fun i9 : Nat => g i9))))))] ++ tl)) (k_newLength l dC dI k (cap : Int) (((cap : Int) + 1) - (cap : Int)) (bShr (cap : Int) 1) (by omega)) B mS_J8_newLength_cabcc mw_696 hl ⟨Nat.le_of_ble_eq_true rfl, Nat.le_of_ble_eq_true rfl⟩ (Nat.le_of_ble_eq_true rfl) rfl dJx4a65c_grow_92f84_27 ⟨by dsimp only; omega, by dsimp only; omega⟩ (fun r w gc gs H locs hp B => ?_)
    obtain ⟨rfl, hw9, rfl, rfl⟩ := hp
    rw [hw9] at B; clear hw9
    have B := bd_swap (a := [(al, .inr (12, [.int (iI mc), .ref ed, .int (iI n)])), (ed, .inl (k 4, cap, .inr (.inr (.inr (.inr (fun i9 : Nat => g i9))))))]) (b := tl) (d := []) B
    have B := bd_to (ws' := ([(al, .inr (12, [.int (iI mc), .ref ed, .int (iI n)])), (ed, .inl (k 4, cap, .inr (.inr (.inr (.inr (fun i9 : Nat => g i9))))))] ++ tl)) rfl B
    refine lv_istore_n (lv' := [(3, .int (iI ((cap : Int) + max (((cap : Int) + 1) - (cap : Int)) (bShr (cap : Int) 1)))), (2, .int (iI (cap : Int))), (0, .ref al), (1, .int (iI ((cap : Int) + 1)))]) hx hb dJx4a65c_grow_92f84_30 rfl hl (by decide) rfl (fun ls hl => ?_)
    refine lv_aload_n hx hb dJx4a65c_grow_92f84_31 rfl (lv_at hl 2 rfl) ?_
    refine lv_aload_n hx hb dJx4a65c_grow_92f84_32 rfl (lv_at hl 2 rfl) ?_
    refine x_get (ci := 12) (C := RJx4a65c) (T := TJx4a65c) (N := 3) (v := .ref ed) B 0 rfl rfl in_Jx4a65c 1 (by decide) mw_63 (fun _ h9 => h9) rfl dJx4a65c_grow_92f84_33 ?_
    refine lv_iload_n hx hb dJx4a65c_grow_92f84_36 rfl (lv_at hl 0 rfl) ?_
    refine lv_seti (y := iI (((cap + max 1 (cap / 2)) : Nat) : Int)) (congrArg iI (show ((cap : Int) + max (((cap : Int) + 1) - (cap : Int)) (bShr (cap : Int) 1)) = (((cap + max 1 (cap / 2)) : Nat) : Int) by rw [bShr_1]; omega)) ?_
    have B := bd_pick (hs := [(al, .inr (12, [.int (iI mc), .ref ed, .int (iI n)])), (ed, .inl (k 4, cap, .inr (.inr (.inr (.inr (fun i9 : Nat => g i9))))))]) (ws' := [(ed, .inl (k 4, cap, .inr (.inr (.inr (.inr (fun i9 : Nat => g i9)))))), (al, .inr (12, [.int (iI mc), .ref ed, .int (iI n)]))]) (tl := tl) [1, 0] (by decide) rfl B
    have B := bd_swap (a := [(ed, .inl (k 4, cap, .inr (.inr (.inr (.inr (fun i9 : Nat => g i9))))))]) (b := [(al, .inr (12, [.int (iI mc), .ref ed, .int (iI n)]))]) (d := tl) (bd_to rfl B)
    refine k_S (rest := [.ref al]) (wc := ([(ed, .inl (k 4, cap, .inr (.inr (.inr (.inr (fun i9 : Nat => g i9))))))] ++ tl)) (wr := [(al, .inr (12, [.int (iI mc), .ref ed, .int (iI n)]))]) (k_copyO1 l dC dI k ed cap (cap + max 1 (cap / 2)) ci rc g tl hc hca hel (by omega)) B mS_J7_copyOf_1904c mw_706 hl ⟨Nat.le_of_ble_eq_true rfl, Nat.le_of_ble_eq_true rfl⟩ (Nat.le_of_ble_eq_true rfl) rfl dJx4a65c_grow_92f84_37 ⟨by dsimp only; omega, by dsimp only; omega⟩ (fun r w gc gs H locs hp B => ?_)
    obtain ⟨cq_3, rfl, hw9, rfl, rfl⟩ := hp
    rw [hw9] at B; clear hw9
    have B := bd_to (ws' := ([(al, .inr (12, [.int (iI mc), .ref ed, .int (iI n)])), (ed, .inl (k 4, cap, .inr (.inr (.inr (.inr (fun i9 : Nat => g i9)))))), (cq_3, .inl (k 4, (cap + max 1 (cap / 2)), .inr (.inr (.inr (.inr (fun i9 : Nat => (cpz g (fun _ : Int => (none : Option Nat)) 0 0 (min (cap : Int) ((cap + max 1 (cap / 2)) : Int))) i9))))))] ++ tl)) rfl B
    refine lv_dup_x1 hx hb dJx4a65c_grow_92f84_40 rfl rfl ?_
    refine x_put (ci := 12) (C := RJx4a65c) (T := TJx4a65c) (N := 3) (ty := .array (.object "java/lang/Object")) (v := .ref cq_3) B tyJx4a65c_ok nmJx4a65c 0 rfl rfl in_Jx4a65c 1 (by decide) mw_63 (fun _ h9 => h9) rfl (by decide +kernel) rfl rfl (Nat.le_of_ble_eq_true rfl) dJx4a65c_grow_92f84_41 (fun H locs B => ?_)
    have B := bd_to (ws' := ([(al, .inr (12, [.int (iI mc), .ref cq_3, .int (iI n)])), (ed, .inl (k 4, cap, .inr (.inr (.inr (.inr (fun i9 : Nat => g i9)))))), (cq_3, .inl (k 4, (cap + max 1 (cap / 2)), .inr (.inr (.inr (.inr (fun i9 : Nat => (cpz g (fun _ : Int => (none : Option Nat)) 0 0 (min (cap : Int) ((cap + max 1 (cap / 2)) : Int))) i9))))))] ++ tl)) rfl B
    have B := bd_pick (hs := [(al, .inr (12, [.int (iI mc), .ref cq_3, .int (iI n)])), (ed, .inl (k 4, cap, .inr (.inr (.inr (.inr (fun i9 : Nat => g i9)))))), (cq_3, .inl (k 4, (cap + max 1 (cap / 2)), .inr (.inr (.inr (.inr (fun i9 : Nat => (cpz g (fun _ : Int => (none : Option Nat)) 0 0 (min (cap : Int) ((cap + max 1 (cap / 2)) : Int))) i9))))))]) (ws' := [(al, .inr (12, [.int (iI mc), .ref cq_3, .int (iI n)])), (cq_3, .inl (k 4, (cap + max 1 (cap / 2)), .inr (.inr (.inr (.inr (fun i9 : Nat => (cpz g (fun _ : Int => (none : Option Nat)) 0 0 (min (cap : Int) ((cap + max 1 (cap / 2)) : Int))) i9))))))]) (tl := tl) [0, 2] (by decide) rfl B
    exact k_aretA B hr (⟨cq_3, rfl, rfl, rfl, rfl⟩) ⟨(by first | omega | (dsimp only; omega)), (by first | omega | (dsimp only; omega))⟩ ⟨(by first | omega | (dsimp only; omega)), (by first | omega | (dsimp only; omega))⟩ dJx4a65c_grow_92f84_44
  · have zc_1 : (cap : Int) ≤ 0 := jnlt (a := 0) (b := (cap : Int)) (by omega) (by omega) c_1
    exfalso; omega

theorem mw_61 : (Jvm.Cond.fieldLink "java/util/ArrayList" (39 : Nat) "java/util/ArrayList" "DEFAULTCAPACITY_EMPTY_ELEMENTDATA" "[Ljava/lang/Object;") ∈ gt := gt_at 131 (by decide +kernel) (by decide +kernel)
theorem mw_737 : (Jvm.Cond.methodLink "java/util/ArrayList" (79 : Nat) ({ cls := "java/lang/Math", name := "max", desc := "(II)I" } : Jvm.MethodName)) ∈ gt := gt_at 807 (by decide +kernel) (by decide +kernel)
theorem mw_738 : (Jvm.Cond.classLink "java/util/ArrayList" (7 : Nat) "java/lang/Object") ∈ gt := gt_at 808 (by decide +kernel) (by decide +kernel)
theorem dJx4a65c_grow_92f84_10 : decode cJx4a65c_grow_92f84 10 = .ok (.aload_n 0, 1) := by decide +kernel
theorem dJx4a65c_grow_92f84_11 : decode cJx4a65c_grow_92f84 11 = .ok (.getfield 9, 3) := by decide +kernel
theorem dJx4a65c_grow_92f84_14 : decode cJx4a65c_grow_92f84 14 = .ok (.getstatic 39, 3) := by decide +kernel
theorem dJx4a65c_grow_92f84_17 : decode cJx4a65c_grow_92f84 17 = .ok (.if_acmp .eq 28, 3) := by decide +kernel
theorem dJx4a65c_grow_92f84_45 : decode cJx4a65c_grow_92f84 45 = .ok (.aload_n 0, 1) := by decide +kernel
theorem dJx4a65c_grow_92f84_46 : decode cJx4a65c_grow_92f84 46 = .ok (.bipush 10, 2) := by decide +kernel
theorem dJx4a65c_grow_92f84_48 : decode cJx4a65c_grow_92f84 48 = .ok (.iload_n 1, 1) := by decide +kernel
theorem dJx4a65c_grow_92f84_49 : decode cJx4a65c_grow_92f84 49 = .ok (.invokestatic 79, 3) := by decide +kernel
theorem dJx4a65c_grow_92f84_52 : decode cJx4a65c_grow_92f84 52 = .ok (.anewarray 7, 3) := by decide +kernel
theorem dJx4a65c_grow_92f84_55 : decode cJx4a65c_grow_92f84 55 = .ok (.dup_x1, 1) := by decide +kernel
theorem dJx4a65c_grow_92f84_56 : decode cJx4a65c_grow_92f84 56 = .ok (.putfield 9, 3) := by decide +kernel
theorem dJx4a65c_grow_92f84_59 : decode cJx4a65c_grow_92f84 59 = .ok (.areturn, 1) := by decide +kernel
set_option maxHeartbeats 4000000 in
set_option maxRecDepth 100000 in
theorem k_growI0 (l : Launch) (dC : Nat → ClassId) (dI : Nat → Nat → Nat) (k : Nat → ClassId) (al : Nat) (mc : Int) : Kn l dC dI k yJx4a65c_grow_92f84 (.code yJx4a65c_grow_92f84 cJx4a65c_grow_92f84 4 (some (.array (.object "java/lang/Object")))) ({ frames := 1, cells := 1, slots := 10, locals := 14 } : Room) [.ref al, .int (iI 1)] [(al, .inr (12, [.int (iI mc), .ref (dI 99 1), .int (iI 0)]))] (fun r w gc gs => (∃ (cq : Nat), r = some (.ref cq) ∧ w = [(al, .inr (12, [.int (iI mc), .ref cq, .int (iI 0)])), (cq, .inl (k 4, 10, .inr (.inr (.inr (.inr (fun i9 : Nat => (fun _ : Int => (none : Option Nat)) i9))))))] ∧ gc = 1 ∧ gs = 10)) := by
  refine kn_of (by decide) (Nat.le_of_ble_eq_true rfl) ?_
  intro p e s m args below meth c H locs B hr hnm ls hl
  have hx := B.1.1
  have hb := B.1.2.1
  have hl : lv_has ls 4 [(0, .ref al), (1, .int (iI 1))] := hl
  refine lv_aload_n hx hb dJx4a65c_grow_92f84_0 rfl (lv_at hl 0 rfl) ?_
  refine x_get (ci := 12) (C := RJx4a65c) (T := TJx4a65c) (N := 3) (v := .ref (dI 99 1)) B 0 rfl rfl in_Jx4a65c 1 (by decide) mw_63 (fun _ h9 => h9) rfl dJx4a65c_grow_92f84_1 ?_
  refine x_dalen B dJx4a65c_grow_92f84_4 ?_
  refine lv_istore_n (lv' := [(2, .int (iI 0)), (0, .ref al), (1, .int (iI 1))]) hx hb dJx4a65c_grow_92f84_5 rfl hl (by decide) rfl (fun ls hl => ?_)
  refine lv_iload_n hx hb dJx4a65c_grow_92f84_6 rfl (lv_at hl 0 rfl) ?_
  refine lv_if_gt (tgt := 20) hx hb dJx4a65c_grow_92f84_7 (by decide) (fun c9 => absurd c9 (by decide)) (fun _ => ?_)
  refine lv_aload_n hx hb dJx4a65c_grow_92f84_10 rfl (lv_at hl 1 rfl) ?_
  refine x_get (ci := 12) (C := RJx4a65c) (T := TJx4a65c) (N := 3) (v := .ref (dI 99 1)) B 0 rfl rfl in_Jx4a65c 1 (by decide) mw_63 (fun _ h9 => h9) rfl dJx4a65c_grow_92f84_11 ?_
  refine va_gets hx hb B.2.1.2.2.2.2.2.1.1 B.2.2.2.2.2 B.1.2.2.2.1 (B.1.2.2.2.2.1 _ mw_61) (fun _ h9 => h9) dJx4a65c_grow_92f84_14 ?_
  refine lv_acmp_eq (tgt := 45) (rx := some (dI 99 1)) (ry := some (dI 99 1)) hx hb dJx4a65c_grow_92f84_17 (by decide) (fun _ => ?_) (fun c9 => absurd rfl c9)
  refine lv_aload_n hx hb dJx4a65c_grow_92f84_45 rfl (lv_at hl 1 rfl) ?_
  refine lv_bipush (v := iI 10) hx hb dJx4a65c_grow_92f84_46 (by decide) ?_
  refine lv_iload_n hx hb dJx4a65c_grow_92f84_48 rfl (lv_at hl 2 rfl) ?_
  refine y_max (a := 10) (b := 1) B hl mw_737 mw_700 mw_26 mw_701 (Nat.le_of_ble_eq_true rfl) (Nat.le_of_ble_eq_true rfl) (Nat.le_of_ble_eq_true rfl) (Nat.le_of_ble_eq_true rfl) (by omega) (by omega) dJx4a65c_grow_92f84_49 ?_
  refine lv_seti (y := iI 10) (by decide) ?_
  refine x_anew (N' := 10) B mw_738 B.2.1.2.1.2.2.2.2 4 rfl (by decide) (by decide) (Nat.le_of_ble_eq_true rfl) (Nat.le_of_ble_eq_true rfl) (Nat.le_of_ble_eq_true rfl) dJx4a65c_grow_92f84_52 (fun q_1 H B => ?_)
  have B := bd_to (ws' := [(al, .inr (12, [.int (iI mc), .ref (dI 99 1), .int (iI 0)])), (q_1, .inl (k 4, 10, .inr (.inr (.inr (.inr (fun i9 : Nat => (fun _ : Int => (none : Option Nat)) i9))))))]) rfl B
  refine lv_dup_x1 hx hb dJx4a65c_grow_92f84_55 rfl rfl ?_
  refine x_put (ci := 12) (C := RJx4a65c) (T := TJx4a65c) (N := 3) (ty := .array (.object "java/lang/Object")) (v := .ref q_1) B tyJx4a65c_ok nmJx4a65c 0 rfl rfl in_Jx4a65c 1 (by decide) mw_63 (fun _ h9 => h9) rfl (by decide +kernel) rfl rfl (Nat.le_of_ble_eq_true rfl) dJx4a65c_grow_92f84_56 (fun H locs B => ?_)
  have B := bd_to (ws' := [(al, .inr (12, [.int (iI mc), .ref q_1, .int (iI 0)])), (q_1, .inl (k 4, 10, .inr (.inr (.inr (.inr (fun i9 : Nat => (fun _ : Int => (none : Option Nat)) i9))))))]) rfl B
  exact k_aretA B hr (⟨q_1, rfl, rfl, rfl, rfl⟩) ⟨Nat.le_of_ble_eq_true rfl, Nat.le_of_ble_eq_true rfl⟩ ⟨Nat.le_of_ble_eq_true rfl, Nat.le_of_ble_eq_true rfl⟩ dJx4a65c_grow_92f84_59

theorem mw_692 : (Jvm.Cond.methodLink "java/util/ArrayList" (69 : Nat) ({ cls := "java/util/ArrayList", name := "grow", desc := "(I)[Ljava/lang/Object;" } : Jvm.MethodName)) ∈ gt := gt_at 762 (by decide +kernel) (by decide +kernel)
theorem mw_694 : (Jvm.Cond.instanceMethod ({ cls := "java/util/ArrayList", name := "grow", desc := "(I)[Ljava/lang/Object;" } : Jvm.MethodName)) ∈ gt := gt_at 764 (by decide +kernel) (by decide +kernel)
theorem mw_695 : (Jvm.Cond.code ({ cls := "java/util/ArrayList", name := "grow", desc := "(I)[Ljava/lang/Object;" } : Jvm.MethodName) prog_40_method_6_code (4 : Nat) (Option.some (Jvm.ClassFile.FieldType.array (Jvm.ClassFile.FieldType.object "java/lang/Object")))) ∈ gt := gt_at 765 (by decide +kernel) (by decide +kernel)
theorem ms_4 : Cond.selects "java/util/ArrayList" (⟨"java/util/ArrayList", "grow", "(I)[Ljava/lang/Object;"⟩ : MethodName) (⟨"java/util/ArrayList", "grow", "(I)[Ljava/lang/Object;"⟩ : MethodName) ∈ gt := gt_at 4 (by decide +kernel) (by decide +kernel)
theorem mV_Jx4a65c_grow_92f84 : mV yJx4a65c_grow_92f84 cJx4a65c_grow_92f84 4 (some (.array (.object "java/lang/Object"))) 1 := ⟨⟨mw_695, mw_5, by decide, by decide, by decide +kernel⟩, mw_694, ms_4⟩
theorem dJx4a65c_grow_d5877_0 : decode cJx4a65c_grow_d5877 0 = .ok (.aload_n 0, 1) := by decide +kernel
theorem dJx4a65c_grow_d5877_1 : decode cJx4a65c_grow_d5877 1 = .ok (.aload_n 0, 1) := by decide +kernel
theorem dJx4a65c_grow_d5877_2 : decode cJx4a65c_grow_d5877 2 = .ok (.getfield 48, 3) := by decide +kernel
theorem dJx4a65c_grow_d5877_5 : decode cJx4a65c_grow_d5877 5 = .ok (.iconst 1, 1) := by decide +kernel
theorem dJx4a65c_grow_d5877_6 : decode cJx4a65c_grow_d5877 6 = .ok (.iadd, 1) := by decide +kernel
theorem dJx4a65c_grow_d5877_7 : decode cJx4a65c_grow_d5877 7 = .ok (.invokevirtual 69, 3) := by decide +kernel
theorem dJx4a65c_grow_d5877_10 : decode cJx4a65c_grow_d5877 10 = .ok (.areturn, 1) := by decide +kernel
set_option maxHeartbeats 4000000 in
set_option maxRecDepth 100000 in
theorem k_grow (l : Launch) (dC : Nat → ClassId) (dI : Nat → Nat → Nat) (k : Nat → ClassId) (al : Nat) (ed : Nat) (cap : Nat) (mc : Int) (ci : Nat) (rc : vw_C) (g : Int → Option Nat) (tl : va_W) (hc : classes[ci]? = some rc) (hca : (rc.1, "java/lang/Object") ∈ nCS) (hel : ∀ i : Int, 0 ≤ i → i < cap → ∀ y : Nat, g i = some y → ∃ fs : List Value, ((y, .inr (ci, fs)) : Nat × va_E) ∈ tl) (h1 : 0 < cap ∧ cap ≤ 40) : Kn l dC dI k yJx4a65c_grow_d5877 (.code yJx4a65c_grow_d5877 cJx4a65c_grow_d5877 1 (some (.array (.object "java/lang/Object")))) ({ frames := 4, cells := 1, slots := (cap + max 1 (cap / 2)), locals := 107 } : Room) [.ref al] ([(al, .inr (12, [.int (iI mc), .ref ed, .int (iI (cap : Int))])), (ed, .inl (k 4, cap, .inr (.inr (.inr (.inr (fun i9 : Nat => g i9))))))] ++ tl) (fun r w gc gs => (∃ (cq : Nat), r = some (.ref cq) ∧ w = ([(al, .inr (12, [.int (iI mc), .ref cq, .int (iI (cap : Int))])), (cq, .inl (k 4, (cap + max 1 (cap / 2)), .inr (.inr (.inr (.inr (fun i9 : Nat => (cpz g (fun _ : Int => (none : Option Nat)) 0 0 (min (cap : Int) ((cap + max 1 (cap / 2)) : Int))) i9))))))] ++ tl) ∧ gc = 1 ∧ gs = (cap + max 1 (cap / 2)))) := by
  refine kn_of (by decide) (Nat.le_of_ble_eq_true rfl) ?_
  intro p e s m args below meth c H locs B hr hnm ls hl
  have hx := B.1.1
  have hb := B.1.2.1
  have hl : lv_has ls 1 [(0, .ref al)] := hl
  refine lv_aload_n hx hb dJx4a65c_grow_d5877_0 rfl (lv_at hl 0 rfl) ?_
  refine lv_aload_n hx hb dJx4a65c_grow_d5877_1 rfl (lv_at hl 0 rfl) ?_
  refine x_get (ci := 12) (C := RJx4a65c) (T := TJx4a65c) (N := 3) (v := .int (iI (cap : Int))) B 0 rfl rfl in_Jx4a65c 2 (by decide) mw_64 (fun _ h9 => h9) rfl dJx4a65c_grow_d5877_2 ?_
  refine lv_iconst (v := iI 1) hx hb dJx4a65c_grow_d5877_5 (by decide) ?_
  refine y_add hx hb dJx4a65c_grow_d5877_6 ?_
  have B := bd_swap (a := [(al, .inr (12, [.int (iI mc), .ref ed, .int (iI (cap : Int))])), (ed, .inl (k 4, cap, .inr (.inr (.inr (.inr (fun i9 : Nat => g i9))))))]) (b := []) (d := tl) (bd_to rfl B)
  refine k_V (rest := []) (wc := ([(al, .inr (12, [.int (iI mc), .ref ed, .int (iI (cap : Int))])), (ed, .inl (k 4, cap, .inr (.inr (.inr (.inr (fun i9 : Nat => g i9))))))] ++ tl)) (wr := []) (k_growI l dC dI k al ed cap mc (cap : Int) ci rc g tl hc hca hel h1) B mV_Jx4a65c_grow_92f84 mw_692 hl (q0 := 0) rfl rfl rfl ⟨Nat.le_of_ble_eq_true rfl, Nat.le_of_ble_eq_true rfl⟩ (Nat.le_of_ble_eq_true rfl) rfl dJx4a65c_grow_d5877_7 ⟨by dsimp only; omega, by dsimp only; omega⟩ (fun r w gc gs H locs hp B => ?_)
  obtain ⟨cq_1, rfl, hw9, rfl, rfl⟩ := hp
  rw [hw9] at B; clear hw9
  have B := bd_to (ws' := ([(al, .inr (12, [.int (iI mc), .ref cq_1, .int (iI (cap : Int))])), (cq_1, .inl (k 4, (cap + max 1 (cap / 2)), .inr (.inr (.inr (.inr (fun i9 : Nat => (cpz g (fun _ : Int => (none : Option Nat)) 0 0 (min (cap : Int) ((cap + max 1 (cap / 2)) : Int))) i9))))))] ++ tl)) rfl B
  exact k_aretA B hr (⟨cq_1, rfl, rfl, rfl, rfl⟩) ⟨(by first | omega | (dsimp only; omega)), (by first | omega | (dsimp only; omega))⟩ ⟨(by first | omega | (dsimp only; omega)), (by first | omega | (dsimp only; omega))⟩ dJx4a65c_grow_d5877_10

set_option maxHeartbeats 4000000 in
set_option maxRecDepth 100000 in
theorem k_grow0 (l : Launch) (dC : Nat → ClassId) (dI : Nat → Nat → Nat) (k : Nat → ClassId) (al : Nat) (mc : Int) : Kn l dC dI k yJx4a65c_grow_d5877 (.code yJx4a65c_grow_d5877 cJx4a65c_grow_d5877 1 (some (.array (.object "java/lang/Object")))) ({ frames := 2, cells := 1, slots := 10, locals := 37 } : Room) [.ref al] [(al, .inr (12, [.int (iI mc), .ref (dI 99 1), .int (iI 0)]))] (fun r w gc gs => (∃ (cq : Nat), r = some (.ref cq) ∧ w = [(al, .inr (12, [.int (iI mc), .ref cq, .int (iI 0)])), (cq, .inl (k 4, 10, .inr (.inr (.inr (.inr (fun i9 : Nat => (fun _ : Int => (none : Option Nat)) i9))))))] ∧ gc = 1 ∧ gs = 10)) := by
  refine kn_of (by decide) (Nat.le_of_ble_eq_true rfl) ?_
  intro p e s m args below meth c H locs B hr hnm ls hl
  have hx := B.1.1
  have hb := B.1.2.1
  have hl : lv_has ls 1 [(0, .ref al)] := hl
  refine lv_aload_n hx hb dJx4a65c_grow_d5877_0 rfl (lv_at hl 0 rfl) ?_
  refine lv_aload_n hx hb dJx4a65c_grow_d5877_1 rfl (lv_at hl 0 rfl) ?_
  refine x_get (ci := 12) (C := RJx4a65c) (T := TJx4a65c) (N := 3) (v := .int (iI 0)) B 0 rfl rfl in_Jx4a65c 2 (by decide) mw_64 (fun _ h9 => h9) rfl dJx4a65c_grow_d5877_2 ?_
  refine lv_iconst (v := iI 1) hx hb dJx4a65c_grow_d5877_5 (by decide) ?_
  refine lv_iadd hx hb dJx4a65c_grow_d5877_6 ?_
  refine lv_seti (y := iI 1) (by decide) ?_
  have B := bd_to (ws' := [(al, .inr (12, [.int (iI mc), .ref (dI 99 1), .int (iI 0)]))] ++ []) rfl B
  refine k_V (rest := []) (wc := [(al, .inr (12, [.int (iI mc), .ref (dI 99 1), .int (iI 0)]))]) (wr := []) (k_growI0 l dC dI k al mc) B mV_Jx4a65c_grow_92f84 mw_692 hl (q0 := 0) rfl rfl rfl ⟨Nat.le_of_ble_eq_true rfl, Nat.le_of_ble_eq_true rfl⟩ (Nat.le_of_ble_eq_true rfl) rfl dJx4a65c_grow_d5877_7 ⟨Nat.le_of_ble_eq_true rfl, Nat.le_of_ble_eq_true rfl⟩ (fun r w gc gs H locs hp B => ?_)
  obtain ⟨cq_1, rfl, hw9, rfl, rfl⟩ := hp
  rw [hw9] at B; clear hw9
  have B := bd_to (ws' := [(al, .inr (12, [.int (iI mc), .ref cq_1, .int (iI 0)])), (cq_1, .inl (k 4, 10, .inr (.inr (.inr (.inr (fun i9 : Nat => (fun _ : Int => (none : Option Nat)) i9))))))]) rfl B
  exact k_aretA B hr (⟨cq_1, rfl, rfl, rfl, rfl⟩) ⟨Nat.le_of_ble_eq_true rfl, Nat.le_of_ble_eq_true rfl⟩ ⟨Nat.le_of_ble_eq_true rfl, Nat.le_of_ble_eq_true rfl⟩ dJx4a65c_grow_d5877_10

theorem dJx4a65c_rangeCheckForAdd_d00df_0 : decode cJx4a65c_rangeCheckForAdd_d00df 0 = .ok (.iload_n 1, 1) := by decide +kernel
theorem dJx4a65c_rangeCheckForAdd_d00df_1 : decode cJx4a65c_rangeCheckForAdd_d00df 1 = .ok (.aload_n 0, 1) := by decide +kernel
theorem dJx4a65c_rangeCheckForAdd_d00df_2 : decode cJx4a65c_rangeCheckForAdd_d00df 2 = .ok (.getfield 48, 3) := by decide +kernel
theorem dJx4a65c_rangeCheckForAdd_d00df_5 : decode cJx4a65c_rangeCheckForAdd_d00df 5 = .ok (.if_icmp .gt 7, 3) := by decide +kernel
theorem dJx4a65c_rangeCheckForAdd_d00df_8 : decode cJx4a65c_rangeCheckForAdd_d00df 8 = .ok (.iload_n 1, 1) := by decide +kernel
theorem dJx4a65c_rangeCheckForAdd_d00df_9 : decode cJx4a65c_rangeCheckForAdd_d00df 9 = .ok (.ifCond .ge 16, 3) := by decide +kernel
theorem dJx4a65c_rangeCheckForAdd_d00df_25 : decode cJx4a65c_rangeCheckForAdd_d00df 25 = .ok (.return_, 1) := by decide +kernel
set_option maxHeartbeats 4000000 in
set_option maxRecDepth 100000 in
theorem k_rangeAdd (l : Launch) (dC : Nat → ClassId) (dI : Nat → Nat → Nat) (k : Nat → ClassId) (al : Nat) (ed : Nat) (mc : Int) (n : Int) (i : Int) (h1 : 0 ≤ i ∧ i ≤ n ∧ n < 1000) : Kn l dC dI k yJx4a65c_rangeCheckForAdd_d00df (.code yJx4a65c_rangeCheckForAdd_d00df cJx4a65c_rangeCheckForAdd_d00df 2 none) ({ frames := 0, cells := 0, slots := 0, locals := 0 } : Room) [.ref al, .int (iI i)] [(al, .inr (12, [.int (iI mc), .ref ed, .int (iI n)]))] (fun r w gc gs => (r = none ∧ w = [(al, .inr (12, [.int (iI mc), .ref ed, .int (iI n)]))] ∧ gc = 0 ∧ gs = 0)) := by
  refine kn_of (by decide) (Nat.le_of_ble_eq_true rfl) ?_
  intro p e s m args below meth c H locs B hr hnm ls hl
  have hx := B.1.1
  have hb := B.1.2.1
  have hl : lv_has ls 2 [(0, .ref al), (1, .int (iI i))] := hl
  refine lv_iload_n hx hb dJx4a65c_rangeCheckForAdd_d00df_0 rfl (lv_at hl 1 rfl) ?_
  refine lv_aload_n hx hb dJx4a65c_rangeCheckForAdd_d00df_1 rfl (lv_at hl 0 rfl) ?_
  refine x_get (ci := 12) (C := RJx4a65c) (T := TJx4a65c) (N := 3) (v := .int (iI n)) B 0 rfl rfl in_Jx4a65c 2 (by decide) mw_64 (fun _ h9 => h9) rfl dJx4a65c_rangeCheckForAdd_d00df_2 ?_
  refine lv_icmp_gt (tgt := 12) hx hb dJx4a65c_rangeCheckForAdd_d00df_5 (by decide) (fun c_1 => ?_) (fun c_1 => ?_)
  · have zc_1 : n < i := jlt (a := n) (b := i) (by omega) (by omega) c_1
    exfalso; omega
  · have zc_1 : i ≤ n := jnlt (a := n) (b := i) (by omega) (by omega) c_1
    refine lv_iload_n hx hb dJx4a65c_rangeCheckForAdd_d00df_8 rfl (lv_at hl 1 rfl) ?_
    refine lv_if_ge (tgt := 25) hx hb dJx4a65c_rangeCheckForAdd_d00df_9 (by decide) (fun c_2 => ?_) (fun c_2 => ?_)
    · have zc_2 : 0 ≤ i := jle (a := 0) (b := i) (by omega) (by omega) c_2
      exact k_vret B hr (⟨rfl, rfl, rfl, rfl⟩) ⟨Nat.le_of_ble_eq_true rfl, Nat.le_of_ble_eq_true rfl⟩ ⟨Nat.le_of_ble_eq_true rfl, Nat.le_of_ble_eq_true rfl⟩ dJx4a65c_rangeCheckForAdd_d00df_25
    · have zc_2 : i < 0 := jnle (a := 0) (b := i) (by omega) (by omega) c_2
      exfalso; omega

theorem mw_66 : (Jvm.Cond.fieldLink "java/util/ArrayList" (63 : Nat) "java/util/ArrayList" "modCount" "I") ∈ gt := gt_at 136 (by decide +kernel) (by decide +kernel)
theorem mw_850 : (Jvm.Cond.methodLink "java/util/ArrayList" (135 : Nat) ({ cls := "java/util/ArrayList", name := "rangeCheckForAdd", desc := "(I)V" } : Jvm.MethodName)) ∈ gt := gt_at 920 (by decide +kernel) (by decide +kernel)
theorem mw_852 : (Jvm.Cond.instanceMethod ({ cls := "java/util/ArrayList", name := "rangeCheckForAdd", desc := "(I)V" } : Jvm.MethodName)) ∈ gt := gt_at 922 (by decide +kernel) (by decide +kernel)
theorem mw_853 : (Jvm.Cond.code ({ cls := "java/util/ArrayList", name := "rangeCheckForAdd", desc := "(I)V" } : Jvm.MethodName) prog_40_method_45_code (2 : Nat) (Option.none : Option Jvm.ClassFile.FieldType)) ∈ gt := gt_at 923 (by decide +kernel) (by decide +kernel)
theorem mw_1089 : (Jvm.Cond.methodLink "java/util/ArrayList" (112 : Nat) ({ cls := "java/lang/System", name := "arraycopy", desc := "(Ljava/lang/Object;ILjava/lang/Object;II)V" } : Jvm.MethodName)) ∈ gt := gt_at 1159 (by decide +kernel) (by decide +kernel)
theorem ms_10 : Cond.selects "java/util/ArrayList" (⟨"java/util/ArrayList", "rangeCheckForAdd", "(I)V"⟩ : MethodName) (⟨"java/util/ArrayList", "rangeCheckForAdd", "(I)V"⟩ : MethodName) ∈ gt := gt_at 10 (by decide +kernel) (by decide +kernel)
theorem mV_Jx4a65c_rangeCheckForAdd_d00df : mV yJx4a65c_rangeCheckForAdd_d00df cJx4a65c_rangeCheckForAdd_d00df 2 none 1 := ⟨⟨mw_853, mw_5, by decide, by decide, by decide +kernel⟩, mw_852, ms_10⟩
theorem dJx4a65c_add_7a177_0 : decode cJx4a65c_add_7a177 0 = .ok (.aload_n 0, 1) := by decide +kernel
theorem dJx4a65c_add_7a177_1 : decode cJx4a65c_add_7a177 1 = .ok (.iload_n 1, 1) := by decide +kernel
theorem dJx4a65c_add_7a177_2 : decode cJx4a65c_add_7a177 2 = .ok (.invokevirtual 135, 3) := by decide +kernel
theorem dJx4a65c_add_7a177_5 : decode cJx4a65c_add_7a177 5 = .ok (.aload_n 0, 1) := by decide +kernel
theorem dJx4a65c_add_7a177_6 : decode cJx4a65c_add_7a177 6 = .ok (.dup, 1) := by decide +kernel
theorem dJx4a65c_add_7a177_7 : decode cJx4a65c_add_7a177 7 = .ok (.getfield 63, 3) := by decide +kernel
theorem dJx4a65c_add_7a177_10 : decode cJx4a65c_add_7a177 10 = .ok (.iconst 1, 1) := by decide +kernel
theorem dJx4a65c_add_7a177_11 : decode cJx4a65c_add_7a177 11 = .ok (.iadd, 1) := by decide +kernel
theorem dJx4a65c_add_7a177_12 : decode cJx4a65c_add_7a177 12 = .ok (.putfield 63, 3) := by decide +kernel
theorem dJx4a65c_add_7a177_15 : decode cJx4a65c_add_7a177 15 = .ok (.aload_n 0, 1) := by decide +kernel
theorem dJx4a65c_add_7a177_16 : decode cJx4a65c_add_7a177 16 = .ok (.getfield 48, 3) := by decide +kernel
theorem dJx4a65c_add_7a177_19 : decode cJx4a65c_add_7a177 19 = .ok (.dup, 1) := by decide +kernel
theorem dJx4a65c_add_7a177_20 : decode cJx4a65c_add_7a177 20 = .ok (.istore_n 3, 1) := by decide +kernel
theorem dJx4a65c_add_7a177_21 : decode cJx4a65c_add_7a177 21 = .ok (.aload_n 0, 1) := by decide +kernel
theorem dJx4a65c_add_7a177_22 : decode cJx4a65c_add_7a177 22 = .ok (.getfield 9, 3) := by decide +kernel
theorem dJx4a65c_add_7a177_25 : decode cJx4a65c_add_7a177 25 = .ok (.dup, 1) := by decide +kernel
theorem dJx4a65c_add_7a177_26 : decode cJx4a65c_add_7a177 26 = .ok (.astore 4, 2) := by decide +kernel
theorem dJx4a65c_add_7a177_28 : decode cJx4a65c_add_7a177 28 = .ok (.arraylength, 1) := by decide +kernel
theorem dJx4a65c_add_7a177_29 : decode cJx4a65c_add_7a177 29 = .ok (.if_icmp .ne 9, 3) := by decide +kernel
theorem dJx4a65c_add_7a177_38 : decode cJx4a65c_add_7a177 38 = .ok (.aload 4, 2) := by decide +kernel
theorem dJx4a65c_add_7a177_40 : decode cJx4a65c_add_7a177 40 = .ok (.iload_n 1, 1) := by decide +kernel
theorem dJx4a65c_add_7a177_41 : decode cJx4a65c_add_7a177 41 = .ok (.aload 4, 2) := by decide +kernel
theorem dJx4a65c_add_7a177_43 : decode cJx4a65c_add_7a177 43 = .ok (.iload_n 1, 1) := by decide +kernel
theorem dJx4a65c_add_7a177_44 : decode cJx4a65c_add_7a177 44 = .ok (.iconst 1, 1) := by decide +kernel
theorem dJx4a65c_add_7a177_45 : decode cJx4a65c_add_7a177 45 = .ok (.iadd, 1) := by decide +kernel
theorem dJx4a65c_add_7a177_46 : decode cJx4a65c_add_7a177 46 = .ok (.iload_n 3, 1) := by decide +kernel
theorem dJx4a65c_add_7a177_47 : decode cJx4a65c_add_7a177 47 = .ok (.iload_n 1, 1) := by decide +kernel
theorem dJx4a65c_add_7a177_48 : decode cJx4a65c_add_7a177 48 = .ok (.isub, 1) := by decide +kernel
theorem dJx4a65c_add_7a177_49 : decode cJx4a65c_add_7a177 49 = .ok (.invokestatic 112, 3) := by decide +kernel
theorem dJx4a65c_add_7a177_52 : decode cJx4a65c_add_7a177 52 = .ok (.aload 4, 2) := by decide +kernel
theorem dJx4a65c_add_7a177_54 : decode cJx4a65c_add_7a177 54 = .ok (.iload_n 1, 1) := by decide +kernel
theorem dJx4a65c_add_7a177_55 : decode cJx4a65c_add_7a177 55 = .ok (.aload_n 2, 1) := by decide +kernel
theorem dJx4a65c_add_7a177_56 : decode cJx4a65c_add_7a177 56 = .ok (.aastore, 1) := by decide +kernel
theorem dJx4a65c_add_7a177_57 : decode cJx4a65c_add_7a177 57 = .ok (.aload_n 0, 1) := by decide +kernel
theorem dJx4a65c_add_7a177_58 : decode cJx4a65c_add_7a177 58 = .ok (.iload_n 3, 1) := by decide +kernel
theorem dJx4a65c_add_7a177_59 : decode cJx4a65c_add_7a177 59 = .ok (.iconst 1, 1) := by decide +kernel
theorem dJx4a65c_add_7a177_60 : decode cJx4a65c_add_7a177 60 = .ok (.iadd, 1) := by decide +kernel
theorem dJx4a65c_add_7a177_61 : decode cJx4a65c_add_7a177 61 = .ok (.putfield 48, 3) := by decide +kernel
theorem dJx4a65c_add_7a177_64 : decode cJx4a65c_add_7a177 64 = .ok (.return_, 1) := by decide +kernel
set_option maxHeartbeats 4000000 in
set_option maxRecDepth 100000 in
theorem k_addAt (l : Launch) (dC : Nat → ClassId) (dI : Nat → Nat → Nat) (k : Nat → ClassId) (al : Nat) (ed : Nat) (cap : Nat) (mc : Int) (n : Int) (ci : Nat) (rc : vw_C) (g : Int → Option Nat) (tl : va_W) (v9 : Nat) (vs : List Value) (i : Int) (hc : classes[ci]? = some rc) (hca : (rc.1, "java/lang/Object") ∈ nCS) (hel : ∀ i : Int, 0 ≤ i → i < cap → ∀ y : Nat, g i = some y → ∃ fs : List Value, ((y, .inr (ci, fs)) : Nat × va_E) ∈ tl) (hv9 : ((v9, .inr (ci, vs)) : Nat × va_E) ∈ tl) (h1 : 0 ≤ i ∧ i ≤ n ∧ n < cap ∧ cap ≤ 40) : Kn l dC dI k yJx4a65c_add_7a177 (.code yJx4a65c_add_7a177 cJx4a65c_add_7a177 5 none) ({ frames := 12, cells := 1, slots := 40, locals := 400 } : Room) [.ref al, .int (iI i), .ref v9] ([(al, .inr (12, [.int (iI mc), .ref ed, .int (iI n)])), (ed, .inl (k 4, cap, .inr (.inr (.inr (.inr (fun i9 : Nat => g i9))))))] ++ tl) (fun r w gc gs => (r = none ∧ w = ([(al, .inr (12, [.int (iI (mc + 1)), .ref ed, .int (iI (n + 1))])), (ed, .inl (k 4, cap, .inr (.inr (.inr (.inr (fun i9 : Nat => (uz (cpz g g i (i + 1) (n - i)) i (some v9)) i9))))))] ++ tl) ∧ gc = 1 ∧ gs = 40)) := by
  refine kn_of (by decide) (Nat.le_of_ble_eq_true rfl) ?_
  intro p e s m args below meth c H locs B hr hnm ls hl
  have hx := B.1.1
  have hb := B.1.2.1
  have hl : lv_has ls 5 [(0, .ref al), (1, .int (iI i)), (2, .ref v9)] := hl
  refine lv_aload_n hx hb dJx4a65c_add_7a177_0 rfl (lv_at hl 0 rfl) ?_
  refine lv_iload_n hx hb dJx4a65c_add_7a177_1 rfl (lv_at hl 1 rfl) ?_
  have B := bd_to (ws' := [(al, .inr (12, [.int (iI mc), .ref ed, .int (iI n)]))] ++ ([(ed, .inl (k 4, cap, .inr (.inr (.inr (.inr (fun i9 : Nat => g i9))))))] ++ tl)) rfl B
  refine k_V (rest := []) (wc := [(al, .inr (12, [.int (iI mc), .ref ed, .int (iI n)]))]) (wr := ([(ed, .inl (k 4, cap, .inr (.inr (.inr (.inr (fun i9 : Nat => g i9))))))] ++ tl)) (k_rangeAdd l dC dI k al ed mc n i (by omega)) B mV_Jx4a65c_rangeCheckForAdd_d00df mw_850 hl (q0 := 0) rfl rfl rfl ⟨Nat.le_of_ble_eq_true rfl, Nat.le_of_ble_eq_true rfl⟩ (Nat.le_of_ble_eq_true rfl) rfl dJx4a65c_add_7a177_2 ⟨by dsimp only; omega, by dsimp only; omega⟩ (fun r w gc gs H locs hp B => ?_)
  obtain ⟨rfl, hw9, rfl, rfl⟩ := hp
  rw [hw9] at B; clear hw9
  have B := bd_swap (a := [(ed, .inl (k 4, cap, .inr (.inr (.inr (.inr (fun i9 : Nat => g i9))))))]) (b := tl) (d := [(al, .inr (12, [.int (iI mc), .ref ed, .int (iI n)]))]) B
  have B := bd_to (ws' := ([(ed, .inl (k 4, cap, .inr (.inr (.inr (.inr (fun i9 : Nat => g i9)))))), (al, .inr (12, [.int (iI mc), .ref ed, .int (iI n)]))] ++ tl)) rfl B
  refine lv_aload_n hx hb dJx4a65c_add_7a177_5 rfl (lv_at hl 0 rfl) ?_
  refine lv_dup hx hb dJx4a65c_add_7a177_6 rfl ?_
  refine x_get (ci := 12) (C := RJx4a65c) (T := TJx4a65c) (N := 3) (v := .int (iI mc)) B 1 rfl rfl in_Jx4a65c 0 (by decide) mw_66 (x_same_modCount B) rfl dJx4a65c_add_7a177_7 ?_
  refine lv_iconst (v := iI 1) hx hb dJx4a65c_add_7a177_10 (by decide) ?_
  refine y_add hx hb dJx4a65c_add_7a177_11 ?_
  refine x_put (ci := 12) (C := RJx4a65c) (T := TJx4a65c) (N := 3) (ty := .int) (v := .int (iI (mc + 1))) B tyJx4a65c_ok nmJx4a65c 1 rfl rfl in_Jx4a65c 0 (by decide) mw_66 (x_same_modCount B) rfl (by decide +kernel) rfl rfl (Nat.le_of_ble_eq_true rfl) dJx4a65c_add_7a177_12 (fun H locs B => ?_)
  have B := bd_to (ws' := ([(ed, .inl (k 4, cap, .inr (.inr (.inr (.inr (fun i9 : Nat => g i9)))))), (al, .inr (12, [.int (iI (mc + 1)), .ref ed, .int (iI n)]))] ++ tl)) rfl B
  refine lv_aload_n hx hb dJx4a65c_add_7a177_15 rfl (lv_at hl 0 rfl) ?_
  refine x_get (ci := 12) (C := RJx4a65c) (T := TJx4a65c) (N := 3) (v := .int (iI n)) B 1 rfl rfl in_Jx4a65c 2 (by decide) mw_64 (fun _ h9 => h9) rfl dJx4a65c_add_7a177_16 ?_
  refine lv_dup hx hb dJx4a65c_add_7a177_19 rfl ?_
  refine lv_istore_n (lv' := [(3, .int (iI n)), (0, .ref al), (1, .int (iI i)), (2, .ref v9)]) hx hb dJx4a65c_add_7a177_20 rfl hl (by decide) rfl (fun ls hl => ?_)
  refine lv_aload_n hx hb dJx4a65c_add_7a177_21 rfl (lv_at hl 1 rfl) ?_
  refine x_get (ci := 12) (C := RJx4a65c) (T := TJx4a65c) (N := 3) (v := .ref ed) B 1 rfl rfl in_Jx4a65c 1 (by decide) mw_63 (fun _ h9 => h9) rfl dJx4a65c_add_7a177_22 ?_
  refine lv_dup hx hb dJx4a65c_add_7a177_25 rfl ?_
  refine lv_astore (lv' := [(4, .ref ed), (3, .int (iI n)), (0, .ref al), (1, .int (iI i)), (2, .ref v9)]) hx hb dJx4a65c_add_7a177_26 hl (by decide) rfl (fun ls hl => ?_)
  refine x_alen' B 0 4 rfl rfl dJx4a65c_add_7a177_28 ?_
  refine lv_icmp_ne (tgt := 38) hx hb dJx4a65c_add_7a177_29 (by decide) (fun c_1 => ?_) (fun c_1 => ?_)
  · have zc_1 : n ≠ (cap : Int) := jne (a := n) (b := (cap : Int)) (by omega) (by omega) c_1
    refine lv_aload hx hb dJx4a65c_add_7a177_38 (lv_at hl 0 rfl) ?_
    refine lv_iload_n hx hb dJx4a65c_add_7a177_40 rfl (lv_at hl 3 rfl) ?_
    refine lv_aload hx hb dJx4a65c_add_7a177_41 (lv_at hl 0 rfl) ?_
    refine lv_iload_n hx hb dJx4a65c_add_7a177_43 rfl (lv_at hl 3 rfl) ?_
    refine lv_iconst (v := iI 1) hx hb dJx4a65c_add_7a177_44 (by decide) ?_
    refine y_add hx hb dJx4a65c_add_7a177_45 ?_
    refine lv_iload_n hx hb dJx4a65c_add_7a177_46 rfl (lv_at hl 1 rfl) ?_
    refine lv_iload_n hx hb dJx4a65c_add_7a177_47 rfl (lv_at hl 3 rfl) ?_
    refine y_sub hx hb dJx4a65c_add_7a177_48 ?_
    refine x_copyO (f := g) (g := g) (ci := ci) (r := rc) (sp := i) (dp := (i + 1)) (z := (n - i)) B hl mw_1089 mw_659 mw_658 mw_27 0 0 rfl rfl (by omega) (by omega) (by omega) (by omega) (by omega) hc hca (fun i9 h9 h8 y9 h7 => by obtain ⟨fs9, hf9⟩ := hel _ (by omega) (by omega) y9 h7; obtain ⟨q8, hq8⟩ := pk_at (hs := [(ed, .inl (k 4, cap, .inr (.inr (.inr (.inr (fun i9 : Nat => g i9)))))), (al, .inr (12, [.int (iI (mc + 1)), .ref ed, .int (iI n)]))]) hf9; exact ⟨q8, fs9, hq8⟩) (Nat.le_of_ble_eq_true rfl) (Nat.le_of_ble_eq_true rfl) dJx4a65c_add_7a177_49 (fun H locs B => ?_)
    have B := bd_to (ws' := ([(ed, .inl (k 4, cap, .inr (.inr (.inr (.inr (fun i9 : Nat => (cpz g g i (i + 1) (n - i)) i9)))))), (al, .inr (12, [.int (iI (mc + 1)), .ref ed, .int (iI n)]))] ++ tl)) rfl B
    refine lv_aload hx hb dJx4a65c_add_7a177_52 (lv_at hl 0 rfl) ?_
    refine lv_iload_n hx hb dJx4a65c_add_7a177_54 rfl (lv_at hl 3 rfl) ?_
    refine lv_aload_n hx hb dJx4a65c_add_7a177_55 rfl (lv_at hl 4 rfl) ?_
    obtain ⟨k_2, hk_2⟩ := pk_at (hs := [(ed, .inl (k 4, cap, .inr (.inr (.inr (.inr (fun i9 : Nat => (cpz g g i (i + 1) (n - i)) i9)))))), (al, .inr (12, [.int (iI (mc + 1)), .ref ed, .int (iI n)]))]) hv9
    refine x_astqO (f := (cpz g g i (i + 1) (n - i))) (z := i) (ci := ci) (r := rc) B 0 k_2 rfl hk_2 hc hca (by omega) dJx4a65c_add_7a177_56 (fun H locs B => ?_)
    have B := bd_to (ws' := ([(ed, .inl (k 4, cap, .inr (.inr (.inr (.inr (fun i9 : Nat => (uz (cpz g g i (i + 1) (n - i)) i (some v9)) i9)))))), (al, .inr (12, [.int (iI (mc + 1)), .ref ed, .int (iI n)]))] ++ tl)) rfl B
    refine lv_aload_n hx hb dJx4a65c_add_7a177_57 rfl (lv_at hl 2 rfl) ?_
    refine lv_iload_n hx hb dJx4a65c_add_7a177_58 rfl (lv_at hl 1 rfl) ?_
    refine lv_iconst (v := iI 1) hx hb dJx4a65c_add_7a177_59 (by decide) ?_
    refine y_add hx hb dJx4a65c_add_7a177_60 ?_
    refine x_put (ci := 12) (C := RJx4a65c) (T := TJx4a65c) (N := 3) (ty := .int) (v := .int (iI (n + 1))) B tyJx4a65c_ok nmJx4a65c 1 rfl rfl in_Jx4a65c 2 (by decide) mw_64 (fun _ h9 => h9) rfl (by decide +kernel) rfl rfl (Nat.le_of_ble_eq_true rfl) dJx4a65c_add_7a177_61 (fun H locs B => ?_)
    have B := bd_to (ws' := ([(ed, .inl (k 4, cap, .inr (.inr (.inr (.inr (fun i9 : Nat => (uz (cpz g g i (i + 1) (n - i)) i (some v9)) i9)))))), (al, .inr (12, [.int (iI (mc + 1)), .ref ed, .int (iI (n + 1))]))] ++ tl)) rfl B
    have B := bd_pick (hs := [(ed, .inl (k 4, cap, .inr (.inr (.inr (.inr (fun i9 : Nat => (uz (cpz g g i (i + 1) (n - i)) i (some v9)) i9)))))), (al, .inr (12, [.int (iI (mc + 1)), .ref ed, .int (iI (n + 1))]))]) (ws' := [(al, .inr (12, [.int (iI (mc + 1)), .ref ed, .int (iI (n + 1))])), (ed, .inl (k 4, cap, .inr (.inr (.inr (.inr (fun i9 : Nat => (uz (cpz g g i (i + 1) (n - i)) i (some v9)) i9))))))]) (tl := tl) [1, 0] (by decide) rfl B
    exact k_vret B hr (⟨rfl, rfl, rfl, rfl⟩) ⟨(by first | omega | (dsimp only; omega)), (by first | omega | (dsimp only; omega))⟩ ⟨(by first | omega | (dsimp only; omega)), (by first | omega | (dsimp only; omega))⟩ dJx4a65c_add_7a177_64
  · have zc_1 : n = (cap : Int) := jeq (a := n) (b := (cap : Int)) (by omega) (by omega) c_1
    exfalso; omega

theorem mw_688 : (Jvm.Cond.methodLink "java/util/ArrayList" (129 : Nat) ({ cls := "java/util/ArrayList", name := "grow", desc := "()[Ljava/lang/Object;" } : Jvm.MethodName)) ∈ gt := gt_at 758 (by decide +kernel) (by decide +kernel)
theorem mw_690 : (Jvm.Cond.instanceMethod ({ cls := "java/util/ArrayList", name := "grow", desc := "()[Ljava/lang/Object;" } : Jvm.MethodName)) ∈ gt := gt_at 760 (by decide +kernel) (by decide +kernel)
theorem mw_691 : (Jvm.Cond.code ({ cls := "java/util/ArrayList", name := "grow", desc := "()[Ljava/lang/Object;" } : Jvm.MethodName) prog_40_method_7_code (1 : Nat) (Option.some (Jvm.ClassFile.FieldType.array (Jvm.ClassFile.FieldType.object "java/lang/Object")))) ∈ gt := gt_at 761 (by decide +kernel) (by decide +kernel)
theorem ms_3 : Cond.selects "java/util/ArrayList" (⟨"java/util/ArrayList", "grow", "()[Ljava/lang/Object;"⟩ : MethodName) (⟨"java/util/ArrayList", "grow", "()[Ljava/lang/Object;"⟩ : MethodName) ∈ gt := gt_at 3 (by decide +kernel) (by decide +kernel)
theorem mV_Jx4a65c_grow_d5877 : mV yJx4a65c_grow_d5877 cJx4a65c_grow_d5877 1 (some (.array (.object "java/lang/Object"))) 0 := ⟨⟨mw_691, mw_5, by decide, by decide, by decide +kernel⟩, mw_690, ms_3⟩
theorem dJx4a65c_add_7a177_32 : decode cJx4a65c_add_7a177 32 = .ok (.aload_n 0, 1) := by decide +kernel
theorem dJx4a65c_add_7a177_33 : decode cJx4a65c_add_7a177 33 = .ok (.invokevirtual 129, 3) := by decide +kernel
theorem dJx4a65c_add_7a177_36 : decode cJx4a65c_add_7a177 36 = .ok (.astore 4, 2) := by decide +kernel
set_option maxHeartbeats 4000000 in
set_option maxRecDepth 100000 in
theorem k_addAtG (l : Launch) (dC : Nat → ClassId) (dI : Nat → Nat → Nat) (k : Nat → ClassId) (al : Nat) (ed : Nat) (cap : Nat) (mc : Int) (ci : Nat) (rc : vw_C) (g : Int → Option Nat) (tl : va_W) (v9 : Nat) (vs : List Value) (i : Int) (hc : classes[ci]? = some rc) (hca : (rc.1, "java/lang/Object") ∈ nCS) (hel : ∀ i : Int, 0 ≤ i → i < cap → ∀ y : Nat, g i = some y → ∃ fs : List Value, ((y, .inr (ci, fs)) : Nat × va_E) ∈ tl) (hv9 : ((v9, .inr (ci, vs)) : Nat × va_E) ∈ tl) (h1 : 0 ≤ i ∧ i ≤ (cap : Int) ∧ 0 < cap ∧ cap ≤ 20) : Kn l dC dI k yJx4a65c_add_7a177 (.code yJx4a65c_add_7a177 cJx4a65c_add_7a177 5 none) ({ frames := 12, cells := 1, slots := 40, locals := 400 } : Room) [.ref al, .int (iI i), .ref v9] ([(al, .inr (12, [.int (iI mc), .ref ed, .int (iI (cap : Int))])), (ed, .inl (k 4, cap, .inr (.inr (.inr (.inr (fun i9 : Nat => g i9))))))] ++ tl) (fun r w gc gs => (∃ (cq : Nat), r = none ∧ w = ([(al, .inr (12, [.int (iI (mc + 1)), .ref cq, .int (iI ((cap : Int) + 1))])), (cq, .inl (k 4, (cap + max 1 (cap / 2)), .inr (.inr (.inr (.inr (fun i9 : Nat => (uz (cpz (cpz g (fun _ : Int => (none : Option Nat)) 0 0 (min (cap : Int) ((cap + max 1 (cap / 2)) : Int))) (cpz g (fun _ : Int => (none : Option Nat)) 0 0 (min (cap : Int) ((cap + max 1 (cap / 2)) : Int))) i (i + 1) ((cap : Int) - i)) i (some v9)) i9))))))] ++ tl) ∧ gc = 1 ∧ gs = (cap + max 1 (cap / 2)))) := by
  refine kn_of (by decide) (Nat.le_of_ble_eq_true rfl) ?_
  intro p e s m args below meth c H locs B hr hnm ls hl
  have hx := B.1.1
  have hb := B.1.2.1
  have hl : lv_has ls 5 [(0, .ref al), (1, .int (iI i)), (2, .ref v9)] := hl
  have helG : ∀ (j : Int) (y : Nat), (cpz g (fun _ : Int => (none : Option Nat)) 0 0 (min (cap : Int) ((cap + max 1 (cap / 2)) : Int))) j = some y → ∃ fs : List Value, ((y, .inr (ci, fs)) : Nat × va_E) ∈ tl := fun j y h => by simp only [cpz] at h; split at h; (exact hel _ (by omega) (by omega) y h); cases h
  refine lv_aload_n hx hb dJx4a65c_add_7a177_0 rfl (lv_at hl 0 rfl) ?_
  refine lv_iload_n hx hb dJx4a65c_add_7a177_1 rfl (lv_at hl 1 rfl) ?_
  have B := bd_to (ws' := [(al, .inr (12, [.int (iI mc), .ref ed, .int (iI (cap : Int))]))] ++ ([(ed, .inl (k 4, cap, .inr (.inr (.inr (.inr (fun i9 : Nat => g i9))))))] ++ tl)) rfl B
  refine k_V (rest := []) (wc := [(al, .inr (12, [.int (iI mc), .ref ed, .int (iI (cap : Int))]))]) (wr := ([(ed, .inl (k 4, cap, .inr (.inr (.inr (.inr (fun i9 : Nat => g i9))))))] ++ tl)) (k_rangeAdd l dC dI k al ed mc (cap : Int) i (by omega)) B mV_Jx4a65c_rangeCheckForAdd_d00df mw_850 hl (q0 := 0) rfl rfl rfl ⟨Nat.le_of_ble_eq_true rfl, Nat.le_of_ble_eq_true rfl⟩ (Nat.le_of_ble_eq_true rfl) rfl dJx4a65c_add_7a177_2 ⟨by dsimp only; omega, by dsimp only; omega⟩ (fun r w gc gs H locs hp B => ?_)
  obtain ⟨rfl, hw9, rfl, rfl⟩ := hp
  rw [hw9] at B; clear hw9
  have B := bd_swap (a := [(ed, .inl (k 4, cap, .inr (.inr (.inr (.inr (fun i9 : Nat => g i9))))))]) (b := tl) (d := [(al, .inr (12, [.int (iI mc), .ref ed, .int (iI (cap : Int))]))]) B
  have B := bd_to (ws' := ([(ed, .inl (k 4, cap, .inr (.inr (.inr (.inr (fun i9 : Nat => g i9)))))), (al, .inr (12, [.int (iI mc), .ref ed, .int (iI (cap : Int))]))] ++ tl)) rfl B
  refine lv_aload_n hx hb dJx4a65c_add_7a177_5 rfl (lv_at hl 0 rfl) ?_
  refine lv_dup hx hb dJx4a65c_add_7a177_6 rfl ?_
  refine x_get (ci := 12) (C := RJx4a65c) (T := TJx4a65c) (N := 3) (v := .int (iI mc)) B 1 rfl rfl in_Jx4a65c 0 (by decide) mw_66 (x_same_modCount B) rfl dJx4a65c_add_7a177_7 ?_
  refine lv_iconst (v := iI 1) hx hb dJx4a65c_add_7a177_10 (by decide) ?_
  refine y_add hx hb dJx4a65c_add_7a177_11 ?_
  refine x_put (ci := 12) (C := RJx4a65c) (T := TJx4a65c) (N := 3) (ty := .int) (v := .int (iI (mc + 1))) B tyJx4a65c_ok nmJx4a65c 1 rfl rfl in_Jx4a65c 0 (by decide) mw_66 (x_same_modCount B) rfl (by decide +kernel) rfl rfl (Nat.le_of_ble_eq_true rfl) dJx4a65c_add_7a177_12 (fun H locs B => ?_)
  have B := bd_to (ws' := ([(ed, .inl (k 4, cap, .inr (.inr (.inr (.inr (fun i9 : Nat => g i9)))))), (al, .inr (12, [.int (iI (mc + 1)), .ref ed, .int (iI (cap : Int))]))] ++ tl)) rfl B
  refine lv_aload_n hx hb dJx4a65c_add_7a177_15 rfl (lv_at hl 0 rfl) ?_
  refine x_get (ci := 12) (C := RJx4a65c) (T := TJx4a65c) (N := 3) (v := .int (iI (cap : Int))) B 1 rfl rfl in_Jx4a65c 2 (by decide) mw_64 (fun _ h9 => h9) rfl dJx4a65c_add_7a177_16 ?_
  refine lv_dup hx hb dJx4a65c_add_7a177_19 rfl ?_
  refine lv_istore_n (lv' := [(3, .int (iI (cap : Int))), (0, .ref al), (1, .int (iI i)), (2, .ref v9)]) hx hb dJx4a65c_add_7a177_20 rfl hl (by decide) rfl (fun ls hl => ?_)
  refine lv_aload_n hx hb dJx4a65c_add_7a177_21 rfl (lv_at hl 1 rfl) ?_
  refine x_get (ci := 12) (C := RJx4a65c) (T := TJx4a65c) (N := 3) (v := .ref ed) B 1 rfl rfl in_Jx4a65c 1 (by decide) mw_63 (fun _ h9 => h9) rfl dJx4a65c_add_7a177_22 ?_
  refine lv_dup hx hb dJx4a65c_add_7a177_25 rfl ?_
  refine lv_astore (lv' := [(4, .ref ed), (3, .int (iI (cap : Int))), (0, .ref al), (1, .int (iI i)), (2, .ref v9)]) hx hb dJx4a65c_add_7a177_26 hl (by decide) rfl (fun ls hl => ?_)
  refine x_alen' B 0 4 rfl rfl dJx4a65c_add_7a177_28 ?_
  refine lv_icmp_ne (tgt := 38) hx hb dJx4a65c_add_7a177_29 (by decide) (fun c_1 => ?_) (fun c_1 => ?_)
  · have zc_1 : (cap : Int) ≠ (cap : Int) := jne (a := (cap : Int)) (b := (cap : Int)) (by omega) (by omega) c_1
    exfalso; omega
  · have zc_1 : (cap : Int) = (cap : Int) := jeq (a := (cap : Int)) (b := (cap : Int)) (by omega) (by omega) c_1
    refine lv_aload_n hx hb dJx4a65c_add_7a177_32 rfl (lv_at hl 2 rfl) ?_
    have B := bd_pick (hs := [(ed, .inl (k 4, cap, .inr (.inr (.inr (.inr (fun i9 : Nat => g i9)))))), (al, .inr (12, [.int (iI (mc + 1)), .ref ed, .int (iI (cap : Int))]))]) (ws' := [(al, .inr (12, [.int (iI (mc + 1)), .ref ed, .int (iI (cap : Int))])), (ed, .inl (k 4, cap, .inr (.inr (.inr (.inr (fun i9 : Nat => g i9))))))]) (tl := tl) [1, 0] (by decide) rfl B
    have B := bd_swap (a := [(al, .inr (12, [.int (iI (mc + 1)), .ref ed, .int (iI (cap : Int))])), (ed, .inl (k 4, cap, .inr (.inr (.inr (.inr (fun i9 : Nat => g i9))))))]) (b := []) (d := tl) (bd_to rfl B)
    refine k_V (rest := []) (wc := ([(al, .inr (12, [.int (iI (mc + 1)), .ref ed, .int (iI (cap : Int))])), (ed, .inl (k 4, cap, .inr (.inr (.inr (.inr (fun i9 : Nat => g i9))))))] ++ tl)) (wr := []) (k_grow l dC dI k al ed cap (mc + 1) ci rc g tl hc hca hel (by omega)) B mV_Jx4a65c_grow_d5877 mw_688 hl (q0 := 0) rfl rfl rfl ⟨Nat.le_of_ble_eq_true rfl, Nat.le_of_ble_eq_true rfl⟩ (Nat.le_of_ble_eq_true rfl) rfl dJx4a65c_add_7a177_33 ⟨by dsimp only; omega, by dsimp only; omega⟩ (fun r w gc gs H locs hp B => ?_)
    obtain ⟨cq_2, rfl, hw9, rfl, rfl⟩ := hp
    rw [hw9] at B; clear hw9
    have B := bd_to (ws' := ([(al, .inr (12, [.int (iI (mc + 1)), .ref cq_2, .int (iI (cap : Int))])), (cq_2, .inl (k 4, (cap + max 1 (cap / 2)), .inr (.inr (.inr (.inr (fun i9 : Nat => (cpz g (fun _ : Int => (none : Option Nat)) 0 0 (min (cap : Int) ((cap + max 1 (cap / 2)) : Int))) i9))))))] ++ tl)) rfl B
    refine lv_astore (lv' := [(4, .ref cq_2), (3, .int (iI (cap : Int))), (0, .ref al), (1, .int (iI i)), (2, .ref v9)]) hx hb dJx4a65c_add_7a177_36 hl (by decide) rfl (fun ls hl => ?_)
    refine lv_aload hx hb dJx4a65c_add_7a177_38 (lv_at hl 0 rfl) ?_
    refine lv_iload_n hx hb dJx4a65c_add_7a177_40 rfl (lv_at hl 3 rfl) ?_
    refine lv_aload hx hb dJx4a65c_add_7a177_41 (lv_at hl 0 rfl) ?_
    refine lv_iload_n hx hb dJx4a65c_add_7a177_43 rfl (lv_at hl 3 rfl) ?_
    refine lv_iconst (v := iI 1) hx hb dJx4a65c_add_7a177_44 (by decide) ?_
    refine y_add hx hb dJx4a65c_add_7a177_45 ?_
    refine lv_iload_n hx hb dJx4a65c_add_7a177_46 rfl (lv_at hl 1 rfl) ?_
    refine lv_iload_n hx hb dJx4a65c_add_7a177_47 rfl (lv_at hl 3 rfl) ?_
    refine y_sub hx hb dJx4a65c_add_7a177_48 ?_
    refine x_copyO (f := (cpz g (fun _ : Int => (none : Option Nat)) 0 0 (min (cap : Int) ((cap + max 1 (cap / 2)) : Int)))) (g := (cpz g (fun _ : Int => (none : Option Nat)) 0 0 (min (cap : Int) ((cap + max 1 (cap / 2)) : Int)))) (ci := ci) (r := rc) (sp := i) (dp := (i + 1)) (z := ((cap : Int) - i)) B hl mw_1089 mw_659 mw_658 mw_27 1 1 rfl rfl (by omega) (by omega) (by omega) (by omega) (by omega) hc hca (fun i9 h9 h8 y9 h7 => by obtain ⟨fs9, hf9⟩ := helG _ y9 h7; obtain ⟨q8, hq8⟩ := pk_at (hs := [(al, .inr (12, [.int (iI (mc + 1)), .ref cq_2, .int (iI (cap : Int))])), (cq_2, .inl (k 4, (cap + max 1 (cap / 2)), .inr (.inr (.inr (.inr (fun i9 : Nat => (cpz g (fun _ : Int => (none : Option Nat)) 0 0 (min (cap : Int) ((cap + max 1 (cap / 2)) : Int))) i9))))))]) hf9; exact ⟨q8, fs9, hq8⟩) (Nat.le_of_ble_eq_true rfl) (Nat.le_of_ble_eq_true rfl) dJx4a65c_add_7a177_49 (fun H locs B => ?_)
    have B := bd_to (ws' := ([(al, .inr (12, [.int (iI (mc + 1)), .ref cq_2, .int (iI (cap : Int))])), (cq_2, .inl (k 4, (cap + max 1 (cap / 2)), .inr (.inr (.inr (.inr (fun i9 : Nat => (cpz (cpz g (fun _ : Int => (none : Option Nat)) 0 0 (min (cap : Int) ((cap + max 1 (cap / 2)) : Int))) (cpz g (fun _ : Int => (none : Option Nat)) 0 0 (min (cap : Int) ((cap + max 1 (cap / 2)) : Int))) i (i + 1) ((cap : Int) - i)) i9))))))] ++ tl)) rfl B
    refine lv_aload hx hb dJx4a65c_add_7a177_52 (lv_at hl 0 rfl) ?_
    refine lv_iload_n hx hb dJx4a65c_add_7a177_54 rfl (lv_at hl 3 rfl) ?_
    refine lv_aload_n hx hb dJx4a65c_add_7a177_55 rfl (lv_at hl 4 rfl) ?_
    obtain ⟨k_3, hk_3⟩ := pk_at (hs := [(al, .inr (12, [.int (iI (mc + 1)), .ref cq_2, .int (iI (cap : Int))])), (cq_2, .inl (k 4, (cap + max 1 (cap / 2)), .inr (.inr (.inr (.inr (fun i9 : Nat => (cpz (cpz g (fun _ : Int => (none : Option Nat)) 0 0 (min (cap : Int) ((cap + max 1 (cap / 2)) : Int))) (cpz g (fun _ : Int => (none : Option Nat)) 0 0 (min (cap : Int) ((cap + max 1 (cap / 2)) : Int))) i (i + 1) ((cap : Int) - i)) i9))))))]) hv9
    refine x_astqO (f := (cpz (cpz g (fun _ : Int => (none : Option Nat)) 0 0 (min (cap : Int) ((cap + max 1 (cap / 2)) : Int))) (cpz g (fun _ : Int => (none : Option Nat)) 0 0 (min (cap : Int) ((cap + max 1 (cap / 2)) : Int))) i (i + 1) ((cap : Int) - i))) (z := i) (ci := ci) (r := rc) B 1 k_3 rfl hk_3 hc hca (by omega) dJx4a65c_add_7a177_56 (fun H locs B => ?_)
    have B := bd_to (ws' := ([(al, .inr (12, [.int (iI (mc + 1)), .ref cq_2, .int (iI (cap : Int))])), (cq_2, .inl (k 4, (cap + max 1 (cap / 2)), .inr (.inr (.inr (.inr (fun i9 : Nat => (uz (cpz (cpz g (fun _ : Int => (none : Option Nat)) 0 0 (min (cap : Int) ((cap + max 1 (cap / 2)) : Int))) (cpz g (fun _ : Int => (none : Option Nat)) 0 0 (min (cap : Int) ((cap + max 1 (cap / 2)) : Int))) i (i + 1) ((cap : Int) - i)) i (some v9)) i9))))))] ++ tl)) rfl B
    refine lv_aload_n hx hb dJx4a65c_add_7a177_57 rfl (lv_at hl 2 rfl) ?_
    refine lv_iload_n hx hb dJx4a65c_add_7a177_58 rfl (lv_at hl 1 rfl) ?_
    refine lv_iconst (v := iI 1) hx hb dJx4a65c_add_7a177_59 (by decide) ?_
    refine y_add hx hb dJx4a65c_add_7a177_60 ?_
    refine x_put (ci := 12) (C := RJx4a65c) (T := TJx4a65c) (N := 3) (ty := .int) (v := .int (iI ((cap : Int) + 1))) B tyJx4a65c_ok nmJx4a65c 0 rfl rfl in_Jx4a65c 2 (by decide) mw_64 (fun _ h9 => h9) rfl (by decide +kernel) rfl rfl (Nat.le_of_ble_eq_true rfl) dJx4a65c_add_7a177_61 (fun H locs B => ?_)
    have B := bd_to (ws' := ([(al, .inr (12, [.int (iI (mc + 1)), .ref cq_2, .int (iI ((cap : Int) + 1))])), (cq_2, .inl (k 4, (cap + max 1 (cap / 2)), .inr (.inr (.inr (.inr (fun i9 : Nat => (uz (cpz (cpz g (fun _ : Int => (none : Option Nat)) 0 0 (min (cap : Int) ((cap + max 1 (cap / 2)) : Int))) (cpz g (fun _ : Int => (none : Option Nat)) 0 0 (min (cap : Int) ((cap + max 1 (cap / 2)) : Int))) i (i + 1) ((cap : Int) - i)) i (some v9)) i9))))))] ++ tl)) rfl B
    exact k_vret B hr (⟨cq_2, rfl, rfl, rfl, rfl⟩) ⟨(by first | omega | (dsimp only; omega)), (by first | omega | (dsimp only; omega))⟩ ⟨(by first | omega | (dsimp only; omega)), (by first | omega | (dsimp only; omega))⟩ dJx4a65c_add_7a177_64

set_option maxHeartbeats 4000000 in
set_option maxRecDepth 100000 in
theorem k_addAt0 (l : Launch) (dC : Nat → ClassId) (dI : Nat → Nat → Nat) (k : Nat → ClassId) (al : Nat) (mc : Int) (ci : Nat) (rc : vw_C) (tl : va_W) (v9 : Nat) (vs : List Value) (hc : classes[ci]? = some rc) (hca : (rc.1, "java/lang/Object") ∈ nCS) (hv9 : ((v9, .inr (ci, vs)) : Nat × va_E) ∈ tl) : Kn l dC dI k yJx4a65c_add_7a177 (.code yJx4a65c_add_7a177 cJx4a65c_add_7a177 5 none) ({ frames := 12, cells := 1, slots := 40, locals := 400 } : Room) [.ref al, .int (iI 0), .ref v9] ([(al, .inr (12, [.int (iI mc), .ref (dI 99 1), .int (iI 0)]))] ++ tl) (fun r w gc gs => (∃ (cq : Nat), r = none ∧ w = ([(al, .inr (12, [.int (iI (mc + 1)), .ref cq, .int (iI 1)])), (cq, .inl (k 4, 10, .inr (.inr (.inr (.inr (fun i9 : Nat => (uz (cpz (fun _ : Int => (none : Option Nat)) (fun _ : Int => (none : Option Nat)) 0 1 0) 0 (some v9)) i9))))))] ++ tl) ∧ gc = 1 ∧ gs = 10)) := by
  refine kn_of (by decide) (Nat.le_of_ble_eq_true rfl) ?_
  intro p e s m args below meth c H locs B hr hnm ls hl
  have hx := B.1.1
  have hb := B.1.2.1
  have hl : lv_has ls 5 [(0, .ref al), (1, .int (iI 0)), (2, .ref v9)] := hl
  refine lv_aload_n hx hb dJx4a65c_add_7a177_0 rfl (lv_at hl 0 rfl) ?_
  refine lv_iload_n hx hb dJx4a65c_add_7a177_1 rfl (lv_at hl 1 rfl) ?_
  have B := bd_to (ws' := [(al, .inr (12, [.int (iI mc), .ref (dI 99 1), .int (iI 0)]))] ++ ([] ++ tl)) rfl B
  refine k_V (rest := []) (wc := [(al, .inr (12, [.int (iI mc), .ref (dI 99 1), .int (iI 0)]))]) (wr := ([] ++ tl)) (k_rangeAdd l dC dI k al (dI 99 1) mc 0 0 (by omega)) B mV_Jx4a65c_rangeCheckForAdd_d00df mw_850 hl (q0 := 0) rfl rfl rfl ⟨Nat.le_of_ble_eq_true rfl, Nat.le_of_ble_eq_true rfl⟩ (Nat.le_of_ble_eq_true rfl) rfl dJx4a65c_add_7a177_2 ⟨by dsimp only; omega, by dsimp only; omega⟩ (fun r w gc gs H locs hp B => ?_)
  obtain ⟨rfl, hw9, rfl, rfl⟩ := hp
  rw [hw9] at B; clear hw9
  have B := bd_swap (a := []) (b := tl) (d := [(al, .inr (12, [.int (iI mc), .ref (dI 99 1), .int (iI 0)]))]) B
  have B := bd_to (ws' := ([(al, .inr (12, [.int (iI mc), .ref (dI 99 1), .int (iI 0)]))] ++ tl)) rfl B
  refine lv_aload_n hx hb dJx4a65c_add_7a177_5 rfl (lv_at hl 0 rfl) ?_
  refine lv_dup hx hb dJx4a65c_add_7a177_6 rfl ?_
  refine x_get (ci := 12) (C := RJx4a65c) (T := TJx4a65c) (N := 3) (v := .int (iI mc)) B 0 rfl rfl in_Jx4a65c 0 (by decide) mw_66 (x_same_modCount B) rfl dJx4a65c_add_7a177_7 ?_
  refine lv_iconst (v := iI 1) hx hb dJx4a65c_add_7a177_10 (by decide) ?_
  refine y_add hx hb dJx4a65c_add_7a177_11 ?_
  refine x_put (ci := 12) (C := RJx4a65c) (T := TJx4a65c) (N := 3) (ty := .int) (v := .int (iI (mc + 1))) B tyJx4a65c_ok nmJx4a65c 0 rfl rfl in_Jx4a65c 0 (by decide) mw_66 (x_same_modCount B) rfl (by decide +kernel) rfl rfl (Nat.le_of_ble_eq_true rfl) dJx4a65c_add_7a177_12 (fun H locs B => ?_)
  have B := bd_to (ws' := ([(al, .inr (12, [.int (iI (mc + 1)), .ref (dI 99 1), .int (iI 0)]))] ++ tl)) rfl B
  refine lv_aload_n hx hb dJx4a65c_add_7a177_15 rfl (lv_at hl 0 rfl) ?_
  refine x_get (ci := 12) (C := RJx4a65c) (T := TJx4a65c) (N := 3) (v := .int (iI 0)) B 0 rfl rfl in_Jx4a65c 2 (by decide) mw_64 (fun _ h9 => h9) rfl dJx4a65c_add_7a177_16 ?_
  refine lv_dup hx hb dJx4a65c_add_7a177_19 rfl ?_
  refine lv_istore_n (lv' := [(3, .int (iI 0)), (0, .ref al), (1, .int (iI 0)), (2, .ref v9)]) hx hb dJx4a65c_add_7a177_20 rfl hl (by decide) rfl (fun ls hl => ?_)
  refine lv_aload_n hx hb dJx4a65c_add_7a177_21 rfl (lv_at hl 1 rfl) ?_
  refine x_get (ci := 12) (C := RJx4a65c) (T := TJx4a65c) (N := 3) (v := .ref (dI 99 1)) B 0 rfl rfl in_Jx4a65c 1 (by decide) mw_63 (fun _ h9 => h9) rfl dJx4a65c_add_7a177_22 ?_
  refine lv_dup hx hb dJx4a65c_add_7a177_25 rfl ?_
  refine lv_astore (lv' := [(4, .ref (dI 99 1)), (3, .int (iI 0)), (0, .ref al), (1, .int (iI 0)), (2, .ref v9)]) hx hb dJx4a65c_add_7a177_26 hl (by decide) rfl (fun ls hl => ?_)
  refine x_dalen B dJx4a65c_add_7a177_28 ?_
  refine lv_icmp_ne (tgt := 38) hx hb dJx4a65c_add_7a177_29 (by decide) (fun c9 => absurd c9 (by decide)) (fun _ => ?_)
  refine lv_aload_n hx hb dJx4a65c_add_7a177_32 rfl (lv_at hl 2 rfl) ?_
  have B := bd_to (ws' := [(al, .inr (12, [.int (iI (mc + 1)), .ref (dI 99 1), .int (iI 0)]))] ++ ([] ++ tl)) rfl B
  refine k_V (rest := []) (wc := [(al, .inr (12, [.int (iI (mc + 1)), .ref (dI 99 1), .int (iI 0)]))]) (wr := ([] ++ tl)) (k_grow0 l dC dI k al (mc + 1)) B mV_Jx4a65c_grow_d5877 mw_688 hl (q0 := 0) rfl rfl rfl ⟨Nat.le_of_ble_eq_true rfl, Nat.le_of_ble_eq_true rfl⟩ (Nat.le_of_ble_eq_true rfl) rfl dJx4a65c_add_7a177_33 ⟨by dsimp only; omega, by dsimp only; omega⟩ (fun r w gc gs H locs hp B => ?_)
  obtain ⟨cq_1, rfl, hw9, rfl, rfl⟩ := hp
  rw [hw9] at B; clear hw9
  have B := bd_swap (a := []) (b := tl) (d := [(al, .inr (12, [.int (iI (mc + 1)), .ref cq_1, .int (iI 0)])), (cq_1, .inl (k 4, 10, .inr (.inr (.inr (.inr (fun i9 : Nat => (fun _ : Int => (none : Option Nat)) i9))))))]) B
  have B := bd_to (ws' := ([(al, .inr (12, [.int (iI (mc + 1)), .ref cq_1, .int (iI 0)])), (cq_1, .inl (k 4, 10, .inr (.inr (.inr (.inr (fun i9 : Nat => (fun _ : Int => (none : Option Nat)) i9))))))] ++ tl)) rfl B
  refine lv_astore (lv' := [(4, .ref cq_1), (3, .int (iI 0)), (0, .ref al), (1, .int (iI 0)), (2, .ref v9)]) hx hb dJx4a65c_add_7a177_36 hl (by decide) rfl (fun ls hl => ?_)
  refine lv_aload hx hb dJx4a65c_add_7a177_38 (lv_at hl 0 rfl) ?_
  refine lv_iload_n hx hb dJx4a65c_add_7a177_40 rfl (lv_at hl 3 rfl) ?_
  refine lv_aload hx hb dJx4a65c_add_7a177_41 (lv_at hl 0 rfl) ?_
  refine lv_iload_n hx hb dJx4a65c_add_7a177_43 rfl (lv_at hl 3 rfl) ?_
  refine lv_iconst (v := iI 1) hx hb dJx4a65c_add_7a177_44 (by decide) ?_
  refine lv_iadd hx hb dJx4a65c_add_7a177_45 ?_
  refine lv_seti (y := iI 1) (by decide) ?_
  refine lv_iload_n hx hb dJx4a65c_add_7a177_46 rfl (lv_at hl 1 rfl) ?_
  refine lv_iload_n hx hb dJx4a65c_add_7a177_47 rfl (lv_at hl 3 rfl) ?_
  refine lv_isub hx hb dJx4a65c_add_7a177_48 ?_
  refine lv_seti (y := iI 0) (by decide) ?_
  refine x_copyO (f := (fun _ : Int => (none : Option Nat))) (g := (fun _ : Int => (none : Option Nat))) (ci := ci) (r := rc) (sp := 0) (dp := 1) (z := 0) B hl mw_1089 mw_659 mw_658 mw_27 1 1 rfl rfl (by omega) (by omega) (by omega) (by omega) (by omega) hc hca (fun i9 h9 h8 y9 h7 => by cases h7) (Nat.le_of_ble_eq_true rfl) (Nat.le_of_ble_eq_true rfl) dJx4a65c_add_7a177_49 (fun H locs B => ?_)
  have B := bd_to (ws' := ([(al, .inr (12, [.int (iI (mc + 1)), .ref cq_1, .int (iI 0)])), (cq_1, .inl (k 4, 10, .inr (.inr (.inr (.inr (fun i9 : Nat => (cpz (fun _ : Int => (none : Option Nat)) (fun _ : Int => (none : Option Nat)) 0 1 0) i9))))))] ++ tl)) rfl B
  refine lv_aload hx hb dJx4a65c_add_7a177_52 (lv_at hl 0 rfl) ?_
  refine lv_iload_n hx hb dJx4a65c_add_7a177_54 rfl (lv_at hl 3 rfl) ?_
  refine lv_aload_n hx hb dJx4a65c_add_7a177_55 rfl (lv_at hl 4 rfl) ?_
  obtain ⟨k_2, hk_2⟩ := pk_at (hs := [(al, .inr (12, [.int (iI (mc + 1)), .ref cq_1, .int (iI 0)])), (cq_1, .inl (k 4, 10, .inr (.inr (.inr (.inr (fun i9 : Nat => (cpz (fun _ : Int => (none : Option Nat)) (fun _ : Int => (none : Option Nat)) 0 1 0) i9))))))]) hv9
  refine x_astqO (f := (cpz (fun _ : Int => (none : Option Nat)) (fun _ : Int => (none : Option Nat)) 0 1 0)) (z := 0) (ci := ci) (r := rc) B 1 k_2 rfl hk_2 hc hca (by omega) dJx4a65c_add_7a177_56 (fun H locs B => ?_)
  have B := bd_to (ws' := ([(al, .inr (12, [.int (iI (mc + 1)), .ref cq_1, .int (iI 0)])), (cq_1, .inl (k 4, 10, .inr (.inr (.inr (.inr (fun i9 : Nat => (uz (cpz (fun _ : Int => (none : Option Nat)) (fun _ : Int => (none : Option Nat)) 0 1 0) 0 (some v9)) i9))))))] ++ tl)) rfl B
  refine lv_aload_n hx hb dJx4a65c_add_7a177_57 rfl (lv_at hl 2 rfl) ?_
  refine lv_iload_n hx hb dJx4a65c_add_7a177_58 rfl (lv_at hl 1 rfl) ?_
  refine lv_iconst (v := iI 1) hx hb dJx4a65c_add_7a177_59 (by decide) ?_
  refine lv_iadd hx hb dJx4a65c_add_7a177_60 ?_
  refine lv_seti (y := iI 1) (by decide) ?_
  refine x_put (ci := 12) (C := RJx4a65c) (T := TJx4a65c) (N := 3) (ty := .int) (v := .int (iI 1)) B tyJx4a65c_ok nmJx4a65c 0 rfl rfl in_Jx4a65c 2 (by decide) mw_64 (fun _ h9 => h9) rfl (by decide +kernel) rfl rfl (Nat.le_of_ble_eq_true rfl) dJx4a65c_add_7a177_61 (fun H locs B => ?_)
  have B := bd_to (ws' := ([(al, .inr (12, [.int (iI (mc + 1)), .ref cq_1, .int (iI 1)])), (cq_1, .inl (k 4, 10, .inr (.inr (.inr (.inr (fun i9 : Nat => (uz (cpz (fun _ : Int => (none : Option Nat)) (fun _ : Int => (none : Option Nat)) 0 1 0) 0 (some v9)) i9))))))] ++ tl)) rfl B
  exact k_vret B hr (⟨cq_1, rfl, rfl, rfl, rfl⟩) ⟨(by first | omega | (dsimp only; omega)), (by first | omega | (dsimp only; omega))⟩ ⟨(by first | omega | (dsimp only; omega)), (by first | omega | (dsimp only; omega))⟩ dJx4a65c_add_7a177_64

theorem dJx4a65c_add_72be8_0 : decode cJx4a65c_add_72be8 0 = .ok (.iload_n 3, 1) := by decide +kernel
theorem dJx4a65c_add_72be8_1 : decode cJx4a65c_add_72be8 1 = .ok (.aload_n 2, 1) := by decide +kernel
theorem dJx4a65c_add_72be8_2 : decode cJx4a65c_add_72be8 2 = .ok (.arraylength, 1) := by decide +kernel
theorem dJx4a65c_add_72be8_3 : decode cJx4a65c_add_72be8 3 = .ok (.if_icmp .ne 8, 3) := by decide +kernel
theorem dJx4a65c_add_72be8_11 : decode cJx4a65c_add_72be8 11 = .ok (.aload_n 2, 1) := by decide +kernel
theorem dJx4a65c_add_72be8_12 : decode cJx4a65c_add_72be8 12 = .ok (.iload_n 3, 1) := by decide +kernel
theorem dJx4a65c_add_72be8_13 : decode cJx4a65c_add_72be8 13 = .ok (.aload_n 1, 1) := by decide +kernel
theorem dJx4a65c_add_72be8_14 : decode cJx4a65c_add_72be8 14 = .ok (.aastore, 1) := by decide +kernel
theorem dJx4a65c_add_72be8_15 : decode cJx4a65c_add_72be8 15 = .ok (.aload_n 0, 1) := by decide +kernel
theorem dJx4a65c_add_72be8_16 : decode cJx4a65c_add_72be8 16 = .ok (.iload_n 3, 1) := by decide +kernel
theorem dJx4a65c_add_72be8_17 : decode cJx4a65c_add_72be8 17 = .ok (.iconst 1, 1) := by decide +kernel
theorem dJx4a65c_add_72be8_18 : decode cJx4a65c_add_72be8 18 = .ok (.iadd, 1) := by decide +kernel
theorem dJx4a65c_add_72be8_19 : decode cJx4a65c_add_72be8 19 = .ok (.putfield 48, 3) := by decide +kernel
theorem dJx4a65c_add_72be8_22 : decode cJx4a65c_add_72be8 22 = .ok (.return_, 1) := by decide +kernel
set_option maxHeartbeats 4000000 in
set_option maxRecDepth 100000 in
theorem k_addE3 (l : Launch) (dC : Nat → ClassId) (dI : Nat → Nat → Nat) (k : Nat → ClassId) (al : Nat) (ed : Nat) (cap : Nat) (mc : Int) (n : Int) (ci : Nat) (rc : vw_C) (g : Int → Option Nat) (tl : va_W) (v9 : Nat) (vs : List Value) (hc : classes[ci]? = some rc) (hca : (rc.1, "java/lang/Object") ∈ nCS) (hv9 : ((v9, .inr (ci, vs)) : Nat × va_E) ∈ tl) (h1 : 0 ≤ n ∧ n < cap ∧ cap ≤ 40) : Kn l dC dI k yJx4a65c_add_72be8 (.code yJx4a65c_add_72be8 cJx4a65c_add_72be8 4 none) ({ frames := 0, cells := 0, slots := 0, locals := 0 } : Room) [.ref al, .ref v9, .ref ed, .int (iI n)] ([(al, .inr (12, [.int (iI mc), .ref ed, .int (iI n)])), (ed, .inl (k 4, cap, .inr (.inr (.inr (.inr (fun i9 : Nat => g i9))))))] ++ tl) (fun r w gc gs => (r = none ∧ w = ([(al, .inr (12, [.int (iI mc), .ref ed, .int (iI (n + 1))])), (ed, .inl (k 4, cap, .inr (.inr (.inr (.inr (fun i9 : Nat => (uz g n (some v9)) i9))))))] ++ tl) ∧ gc = 0 ∧ gs = 0)) := by
  refine kn_of (by decide) (Nat.le_of_ble_eq_true rfl) ?_
  intro p e s m args below meth c H locs B hr hnm ls hl
  have hx := B.1.1
  have hb := B.1.2.1
  have hl : lv_has ls 4 [(0, .ref al), (1, .ref v9), (2, .ref ed), (3, .int (iI n))] := hl
  refine lv_iload_n hx hb dJx4a65c_add_72be8_0 rfl (lv_at hl 3 rfl) ?_
  refine lv_aload_n hx hb dJx4a65c_add_72be8_1 rfl (lv_at hl 2 rfl) ?_
  refine x_alen' B 1 4 rfl rfl dJx4a65c_add_72be8_2 ?_
  refine lv_icmp_ne (tgt := 11) hx hb dJx4a65c_add_72be8_3 (by decide) (fun c_1 => ?_) (fun c_1 => ?_)
  · have zc_1 : n ≠ (cap : Int) := jne (a := n) (b := (cap : Int)) (by omega) (by omega) c_1
    refine lv_aload_n hx hb dJx4a65c_add_72be8_11 rfl (lv_at hl 2 rfl) ?_
    refine lv_iload_n hx hb dJx4a65c_add_72be8_12 rfl (lv_at hl 3 rfl) ?_
    refine lv_aload_n hx hb dJx4a65c_add_72be8_13 rfl (lv_at hl 1 rfl) ?_
    obtain ⟨k_2, hk_2⟩ := pk_at (hs := [(al, .inr (12, [.int (iI mc), .ref ed, .int (iI n)])), (ed, .inl (k 4, cap, .inr (.inr (.inr (.inr (fun i9 : Nat => g i9))))))]) hv9
    refine x_astqO (f := g) (z := n) (ci := ci) (r := rc) B 1 k_2 rfl hk_2 hc hca (by omega) dJx4a65c_add_72be8_14 (fun H locs B => ?_)
    have B := bd_to (ws' := ([(al, .inr (12, [.int (iI mc), .ref ed, .int (iI n)])), (ed, .inl (k 4, cap, .inr (.inr (.inr (.inr (fun i9 : Nat => (uz g n (some v9)) i9))))))] ++ tl)) rfl B
    refine lv_aload_n hx hb dJx4a65c_add_72be8_15 rfl (lv_at hl 0 rfl) ?_
    refine lv_iload_n hx hb dJx4a65c_add_72be8_16 rfl (lv_at hl 3 rfl) ?_
    refine lv_iconst (v := iI 1) hx hb dJx4a65c_add_72be8_17 (by decide) ?_
    refine y_add hx hb dJx4a65c_add_72be8_18 ?_
    refine x_put (ci := 12) (C := RJx4a65c) (T := TJx4a65c) (N := 3) (ty := .int) (v := .int (iI (n + 1))) B tyJx4a65c_ok nmJx4a65c 0 rfl rfl in_Jx4a65c 2 (by decide) mw_64 (fun _ h9 => h9) rfl (by decide +kernel) rfl rfl (Nat.le_of_ble_eq_true rfl) dJx4a65c_add_72be8_19 (fun H locs B => ?_)
    have B := bd_to (ws' := ([(al, .inr (12, [.int (iI mc), .ref ed, .int (iI (n + 1))])), (ed, .inl (k 4, cap, .inr (.inr (.inr (.inr (fun i9 : Nat => (uz g n (some v9)) i9))))))] ++ tl)) rfl B
    exact k_vret B hr (⟨rfl, rfl, rfl, rfl⟩) ⟨Nat.le_of_ble_eq_true rfl, Nat.le_of_ble_eq_true rfl⟩ ⟨Nat.le_of_ble_eq_true rfl, Nat.le_of_ble_eq_true rfl⟩ dJx4a65c_add_72be8_22
  · have zc_1 : n = (cap : Int) := jeq (a := n) (b := (cap : Int)) (by omega) (by omega) c_1
    exfalso; omega

theorem dJx4a65c_add_72be8_6 : decode cJx4a65c_add_72be8 6 = .ok (.aload_n 0, 1) := by decide +kernel
theorem dJx4a65c_add_72be8_7 : decode cJx4a65c_add_72be8 7 = .ok (.invokevirtual 129, 3) := by decide +kernel
theorem dJx4a65c_add_72be8_10 : decode cJx4a65c_add_72be8 10 = .ok (.astore_n 2, 1) := by decide +kernel
set_option maxHeartbeats 4000000 in
set_option maxRecDepth 100000 in
theorem k_addE3G (l : Launch) (dC : Nat → ClassId) (dI : Nat → Nat → Nat) (k : Nat → ClassId) (al : Nat) (ed : Nat) (cap : Nat) (mc : Int) (ci : Nat) (rc : vw_C) (g : Int → Option Nat) (tl : va_W) (v9 : Nat) (vs : List Value) (hc : classes[ci]? = some rc) (hca : (rc.1, "java/lang/Object") ∈ nCS) (hel : ∀ i : Int, 0 ≤ i → i < cap → ∀ y : Nat, g i = some y → ∃ fs : List Value, ((y, .inr (ci, fs)) : Nat × va_E) ∈ tl) (hv9 : ((v9, .inr (ci, vs)) : Nat × va_E) ∈ tl) (h1 : 0 < cap ∧ cap ≤ 40) : Kn l dC dI k yJx4a65c_add_72be8 (.code yJx4a65c_add_72be8 cJx4a65c_add_72be8 4 none) ({ frames := 5, cells := 1, slots := (cap + max 1 (cap / 2)), locals := 127 } : Room) [.ref al, .ref v9, .ref ed, .int (iI (cap : Int))] ([(al, .inr (12, [.int (iI mc), .ref ed, .int (iI (cap : Int))])), (ed, .inl (k 4, cap, .inr (.inr (.inr (.inr (fun i9 : Nat => g i9))))))] ++ tl) (fun r w gc gs => (∃ (cq : Nat), r = none ∧ w = ([(al, .inr (12, [.int (iI mc), .ref cq, .int (iI ((cap : Int) + 1))])), (cq, .inl (k 4, (cap + max 1 (cap / 2)), .inr (.inr (.inr (.inr (fun i9 : Nat => (uz (cpz g (fun _ : Int => (none : Option Nat)) 0 0 (min (cap : Int) ((cap + max 1 (cap / 2)) : Int))) (cap : Int) (some v9)) i9))))))] ++ tl) ∧ gc = 1 ∧ gs = (cap + max 1 (cap / 2)))) := by
  refine kn_of (by decide) (Nat.le_of_ble_eq_true rfl) ?_
  intro p e s m args below meth c H locs B hr hnm ls hl
  have hx := B.1.1
  have hb := B.1.2.1
  have hl : lv_has ls 4 [(0, .ref al), (1, .ref v9), (2, .ref ed), (3, .int (iI (cap : Int)))] := hl
  refine lv_iload_n hx hb dJx4a65c_add_72be8_0 rfl (lv_at hl 3 rfl) ?_
  refine lv_aload_n hx hb dJx4a65c_add_72be8_1 rfl (lv_at hl 2 rfl) ?_
  refine x_alen' B 1 4 rfl rfl dJx4a65c_add_72be8_2 ?_
  refine lv_icmp_ne (tgt := 11) hx hb dJx4a65c_add_72be8_3 (by decide) (fun c_1 => ?_) (fun c_1 => ?_)
  · have zc_1 : (cap : Int) ≠ (cap : Int) := jne (a := (cap : Int)) (b := (cap : Int)) (by omega) (by omega) c_1
    exfalso; omega
  · have zc_1 : (cap : Int) = (cap : Int) := jeq (a := (cap : Int)) (b := (cap : Int)) (by omega) (by omega) c_1
    refine lv_aload_n hx hb dJx4a65c_add_72be8_6 rfl (lv_at hl 0 rfl) ?_
    have B := bd_swap (a := [(al, .inr (12, [.int (iI mc), .ref ed, .int (iI (cap : Int))])), (ed, .inl (k 4, cap, .inr (.inr (.inr (.inr (fun i9 : Nat => g i9))))))]) (b := []) (d := tl) (bd_to rfl B)
    refine k_V (rest := []) (wc := ([(al, .inr (12, [.int (iI mc), .ref ed, .int (iI (cap : Int))])), (ed, .inl (k 4, cap, .inr (.inr (.inr (.inr (fun i9 : Nat => g i9))))))] ++ tl)) (wr := []) (k_grow l dC dI k al ed cap mc ci rc g tl hc hca hel h1) B mV_Jx4a65c_grow_d5877 mw_688 hl (q0 := 0) rfl rfl rfl ⟨Nat.le_of_ble_eq_true rfl, Nat.le_of_ble_eq_true rfl⟩ (Nat.le_of_ble_eq_true rfl) rfl dJx4a65c_add_72be8_7 ⟨by dsimp only; omega, by dsimp only; omega⟩ (fun r w gc gs H locs hp B => ?_)
    obtain ⟨cq_2, rfl, hw9, rfl, rfl⟩ := hp
    rw [hw9] at B; clear hw9
    have B := bd_to (ws' := ([(al, .inr (12, [.int (iI mc), .ref cq_2, .int (iI (cap : Int))])), (cq_2, .inl (k 4, (cap + max 1 (cap / 2)), .inr (.inr (.inr (.inr (fun i9 : Nat => (cpz g (fun _ : Int => (none : Option Nat)) 0 0 (min (cap : Int) ((cap + max 1 (cap / 2)) : Int))) i9))))))] ++ tl)) rfl B
    refine lv_astore_n (lv' := [(2, .ref cq_2), (0, .ref al), (1, .ref v9), (3, .int (iI (cap : Int)))]) hx hb dJx4a65c_add_72be8_10 rfl hl (by decide) rfl (fun ls hl => ?_)
    refine lv_aload_n hx hb dJx4a65c_add_72be8_11 rfl (lv_at hl 0 rfl) ?_
    refine lv_iload_n hx hb dJx4a65c_add_72be8_12 rfl (lv_at hl 3 rfl) ?_
    refine lv_aload_n hx hb dJx4a65c_add_72be8_13 rfl (lv_at hl 2 rfl) ?_
    obtain ⟨k_3, hk_3⟩ := pk_at (hs := [(al, .inr (12, [.int (iI mc), .ref cq_2, .int (iI (cap : Int))])), (cq_2, .inl (k 4, (cap + max 1 (cap / 2)), .inr (.inr (.inr (.inr (fun i9 : Nat => (cpz g (fun _ : Int => (none : Option Nat)) 0 0 (min (cap : Int) ((cap + max 1 (cap / 2)) : Int))) i9))))))]) hv9
    refine x_astqO (f := (cpz g (fun _ : Int => (none : Option Nat)) 0 0 (min (cap : Int) ((cap + max 1 (cap / 2)) : Int)))) (z := (cap : Int)) (ci := ci) (r := rc) B 1 k_3 rfl hk_3 hc hca (by omega) dJx4a65c_add_72be8_14 (fun H locs B => ?_)
    have B := bd_to (ws' := ([(al, .inr (12, [.int (iI mc), .ref cq_2, .int (iI (cap : Int))])), (cq_2, .inl (k 4, (cap + max 1 (cap / 2)), .inr (.inr (.inr (.inr (fun i9 : Nat => (uz (cpz g (fun _ : Int => (none : Option Nat)) 0 0 (min (cap : Int) ((cap + max 1 (cap / 2)) : Int))) (cap : Int) (some v9)) i9))))))] ++ tl)) rfl B
    refine lv_aload_n hx hb dJx4a65c_add_72be8_15 rfl (lv_at hl 1 rfl) ?_
    refine lv_iload_n hx hb dJx4a65c_add_72be8_16 rfl (lv_at hl 3 rfl) ?_
    refine lv_iconst (v := iI 1) hx hb dJx4a65c_add_72be8_17 (by decide) ?_
    refine y_add hx hb dJx4a65c_add_72be8_18 ?_
    refine x_put (ci := 12) (C := RJx4a65c) (T := TJx4a65c) (N := 3) (ty := .int) (v := .int (iI ((cap : Int) + 1))) B tyJx4a65c_ok nmJx4a65c 0 rfl rfl in_Jx4a65c 2 (by decide) mw_64 (fun _ h9 => h9) rfl (by decide +kernel) rfl rfl (Nat.le_of_ble_eq_true rfl) dJx4a65c_add_72be8_19 (fun H locs B => ?_)
    have B := bd_to (ws' := ([(al, .inr (12, [.int (iI mc), .ref cq_2, .int (iI ((cap : Int) + 1))])), (cq_2, .inl (k 4, (cap + max 1 (cap / 2)), .inr (.inr (.inr (.inr (fun i9 : Nat => (uz (cpz g (fun _ : Int => (none : Option Nat)) 0 0 (min (cap : Int) ((cap + max 1 (cap / 2)) : Int))) (cap : Int) (some v9)) i9))))))] ++ tl)) rfl B
    exact k_vret B hr (⟨cq_2, rfl, rfl, rfl, rfl⟩) ⟨(by first | omega | (dsimp only; omega)), (by first | omega | (dsimp only; omega))⟩ ⟨(by first | omega | (dsimp only; omega)), (by first | omega | (dsimp only; omega))⟩ dJx4a65c_add_72be8_22

set_option maxHeartbeats 4000000 in
set_option maxRecDepth 100000 in
theorem k_addE30 (l : Launch) (dC : Nat → ClassId) (dI : Nat → Nat → Nat) (k : Nat → ClassId) (al : Nat) (mc : Int) (ci : Nat) (rc : vw_C) (tl : va_W) (v9 : Nat) (vs : List Value) (hc : classes[ci]? = some rc) (hca : (rc.1, "java/lang/Object") ∈ nCS) (hv9 : ((v9, .inr (ci, vs)) : Nat × va_E) ∈ tl) : Kn l dC dI k yJx4a65c_add_72be8 (.code yJx4a65c_add_72be8 cJx4a65c_add_72be8 4 none) ({ frames := 3, cells := 1, slots := 10, locals := 57 } : Room) [.ref al, .ref v9, .ref (dI 99 1), .int (iI 0)] ([(al, .inr (12, [.int (iI mc), .ref (dI 99 1), .int (iI 0)]))] ++ tl) (fun r w gc gs => (∃ (cq : Nat), r = none ∧ w = ([(al, .inr (12, [.int (iI mc), .ref cq, .int (iI 1)])), (cq, .inl (k 4, 10, .inr (.inr (.inr (.inr (fun i9 : Nat => (uz (fun _ : Int => (none : Option Nat)) 0 (some v9)) i9))))))] ++ tl) ∧ gc = 1 ∧ gs = 10)) := by
  refine kn_of (by decide) (Nat.le_of_ble_eq_true rfl) ?_
  intro p e s m args below meth c H locs B hr hnm ls hl
  have hx := B.1.1
  have hb := B.1.2.1
  have hl : lv_has ls 4 [(0, .ref al), (1, .ref v9), (2, .ref (dI 99 1)), (3, .int (iI 0))] := hl
  refine lv_iload_n hx hb dJx4a65c_add_72be8_0 rfl (lv_at hl 3 rfl) ?_
  refine lv_aload_n hx hb dJx4a65c_add_72be8_1 rfl (lv_at hl 2 rfl) ?_
  refine x_dalen B dJx4a65c_add_72be8_2 ?_
  refine lv_icmp_ne (tgt := 11) hx hb dJx4a65c_add_72be8_3 (by decide) (fun c9 => absurd c9 (by decide)) (fun _ => ?_)
  refine lv_aload_n hx hb dJx4a65c_add_72be8_6 rfl (lv_at hl 0 rfl) ?_
  have B := bd_to (ws' := [(al, .inr (12, [.int (iI mc), .ref (dI 99 1), .int (iI 0)]))] ++ ([] ++ tl)) rfl B
  refine k_V (rest := []) (wc := [(al, .inr (12, [.int (iI mc), .ref (dI 99 1), .int (iI 0)]))]) (wr := ([] ++ tl)) (k_grow0 l dC dI k al mc) B mV_Jx4a65c_grow_d5877 mw_688 hl (q0 := 0) rfl rfl rfl ⟨Nat.le_of_ble_eq_true rfl, Nat.le_of_ble_eq_true rfl⟩ (Nat.le_of_ble_eq_true rfl) rfl dJx4a65c_add_72be8_7 ⟨Nat.le_of_ble_eq_true rfl, Nat.le_of_ble_eq_true rfl⟩ (fun r w gc gs H locs hp B => ?_)
  obtain ⟨cq_1, rfl, hw9, rfl, rfl⟩ := hp
  rw [hw9] at B; clear hw9
  have B := bd_swap (a := []) (b := tl) (d := [(al, .inr (12, [.int (iI mc), .ref cq_1, .int (iI 0)])), (cq_1, .inl (k 4, 10, .inr (.inr (.inr (.inr (fun i9 : Nat => (fun _ : Int => (none : Option Nat)) i9))))))]) B
  have B := bd_to (ws' := ([(al, .inr (12, [.int (iI mc), .ref cq_1, .int (iI 0)])), (cq_1, .inl (k 4, 10, .inr (.inr (.inr (.inr (fun i9 : Nat => (fun _ : Int => (none : Option Nat)) i9))))))] ++ tl)) rfl B
  refine lv_astore_n (lv' := [(2, .ref cq_1), (0, .ref al), (1, .ref v9), (3, .int (iI 0))]) hx hb dJx4a65c_add_72be8_10 rfl hl (by decide) rfl (fun ls hl => ?_)
  refine lv_aload_n hx hb dJx4a65c_add_72be8_11 rfl (lv_at hl 0 rfl) ?_
  refine lv_iload_n hx hb dJx4a65c_add_72be8_12 rfl (lv_at hl 3 rfl) ?_
  refine lv_aload_n hx hb dJx4a65c_add_72be8_13 rfl (lv_at hl 2 rfl) ?_
  obtain ⟨k_2, hk_2⟩ := pk_at (hs := [(al, .inr (12, [.int (iI mc), .ref cq_1, .int (iI 0)])), (cq_1, .inl (k 4, 10, .inr (.inr (.inr (.inr (fun i9 : Nat => (fun _ : Int => (none : Option Nat)) i9))))))]) hv9
  refine x_astqO (f := (fun _ : Int => (none : Option Nat))) (z := 0) (ci := ci) (r := rc) B 1 k_2 rfl hk_2 hc hca (by omega) dJx4a65c_add_72be8_14 (fun H locs B => ?_)
  have B := bd_to (ws' := ([(al, .inr (12, [.int (iI mc), .ref cq_1, .int (iI 0)])), (cq_1, .inl (k 4, 10, .inr (.inr (.inr (.inr (fun i9 : Nat => (uz (fun _ : Int => (none : Option Nat)) 0 (some v9)) i9))))))] ++ tl)) rfl B
  refine lv_aload_n hx hb dJx4a65c_add_72be8_15 rfl (lv_at hl 1 rfl) ?_
  refine lv_iload_n hx hb dJx4a65c_add_72be8_16 rfl (lv_at hl 3 rfl) ?_
  refine lv_iconst (v := iI 1) hx hb dJx4a65c_add_72be8_17 (by decide) ?_
  refine lv_iadd hx hb dJx4a65c_add_72be8_18 ?_
  refine lv_seti (y := iI 1) (by decide) ?_
  refine x_put (ci := 12) (C := RJx4a65c) (T := TJx4a65c) (N := 3) (ty := .int) (v := .int (iI 1)) B tyJx4a65c_ok nmJx4a65c 0 rfl rfl in_Jx4a65c 2 (by decide) mw_64 (fun _ h9 => h9) rfl (by decide +kernel) rfl rfl (Nat.le_of_ble_eq_true rfl) dJx4a65c_add_72be8_19 (fun H locs B => ?_)
  have B := bd_to (ws' := ([(al, .inr (12, [.int (iI mc), .ref cq_1, .int (iI 1)])), (cq_1, .inl (k 4, 10, .inr (.inr (.inr (.inr (fun i9 : Nat => (uz (fun _ : Int => (none : Option Nat)) 0 (some v9)) i9))))))] ++ tl)) rfl B
  exact k_vret B hr (⟨cq_1, rfl, rfl, rfl, rfl⟩) ⟨Nat.le_of_ble_eq_true rfl, Nat.le_of_ble_eq_true rfl⟩ ⟨Nat.le_of_ble_eq_true rfl, Nat.le_of_ble_eq_true rfl⟩ dJx4a65c_add_72be8_22

theorem mw_684 : (Jvm.Cond.methodLink "java/util/ArrayList" (131 : Nat) ({ cls := "java/util/ArrayList", name := "add", desc := "(Ljava/lang/Object;[Ljava/lang/Object;I)V" } : Jvm.MethodName)) ∈ gt := gt_at 754 (by decide +kernel) (by decide +kernel)
theorem mw_686 : (Jvm.Cond.instanceMethod ({ cls := "java/util/ArrayList", name := "add", desc := "(Ljava/lang/Object;[Ljava/lang/Object;I)V" } : Jvm.MethodName)) ∈ gt := gt_at 756 (by decide +kernel) (by decide +kernel)
theorem mw_687 : (Jvm.Cond.code ({ cls := "java/util/ArrayList", name := "add", desc := "(Ljava/lang/Object;[Ljava/lang/Object;I)V" } : Jvm.MethodName) prog_40_method_24_code (4 : Nat) (Option.none : Option Jvm.ClassFile.FieldType)) ∈ gt := gt_at 757 (by decide +kernel) (by decide +kernel)
theorem ms_2 : Cond.selects "java/util/ArrayList" (⟨"java/util/ArrayList", "add", "(Ljava/lang/Object;[Ljava/lang/Object;I)V"⟩ : MethodName) (⟨"java/util/ArrayList", "add", "(Ljava/lang/Object;[Ljava/lang/Object;I)V"⟩ : MethodName) ∈ gt := gt_at 2 (by decide +kernel) (by decide +kernel)
theorem mV_Jx4a65c_add_72be8 : mV yJx4a65c_add_72be8 cJx4a65c_add_72be8 4 none 3 := ⟨⟨mw_687, mw_5, by decide, by decide, by decide +kernel⟩, mw_686, ms_2⟩
theorem dJx4a65c_add_9ea2d_0 : decode cJx4a65c_add_9ea2d 0 = .ok (.aload_n 0, 1) := by decide +kernel
theorem dJx4a65c_add_9ea2d_1 : decode cJx4a65c_add_9ea2d 1 = .ok (.dup, 1) := by decide +kernel
theorem dJx4a65c_add_9ea2d_2 : decode cJx4a65c_add_9ea2d 2 = .ok (.getfield 63, 3) := by decide +kernel
theorem dJx4a65c_add_9ea2d_5 : decode cJx4a65c_add_9ea2d 5 = .ok (.iconst 1, 1) := by decide +kernel
theorem dJx4a65c_add_9ea2d_6 : decode cJx4a65c_add_9ea2d 6 = .ok (.iadd, 1) := by decide +kernel
theorem dJx4a65c_add_9ea2d_7 : decode cJx4a65c_add_9ea2d 7 = .ok (.putfield 63, 3) := by decide +kernel
theorem dJx4a65c_add_9ea2d_10 : decode cJx4a65c_add_9ea2d 10 = .ok (.aload_n 0, 1) := by decide +kernel
theorem dJx4a65c_add_9ea2d_11 : decode cJx4a65c_add_9ea2d 11 = .ok (.aload_n 1, 1) := by decide +kernel
theorem dJx4a65c_add_9ea2d_12 : decode cJx4a65c_add_9ea2d 12 = .ok (.aload_n 0, 1) := by decide +kernel
theorem dJx4a65c_add_9ea2d_13 : decode cJx4a65c_add_9ea2d 13 = .ok (.getfield 9, 3) := by decide +kernel
theorem dJx4a65c_add_9ea2d_16 : decode cJx4a65c_add_9ea2d 16 = .ok (.aload_n 0, 1) := by decide +kernel
theorem dJx4a65c_add_9ea2d_17 : decode cJx4a65c_add_9ea2d 17 = .ok (.getfield 48, 3) := by decide +kernel
theorem dJx4a65c_add_9ea2d_20 : decode cJx4a65c_add_9ea2d 20 = .ok (.invokevirtual 131, 3) := by decide +kernel
theorem dJx4a65c_add_9ea2d_23 : decode cJx4a65c_add_9ea2d 23 = .ok (.iconst 1, 1) := by decide +kernel
theorem dJx4a65c_add_9ea2d_24 : decode cJx4a65c_add_9ea2d 24 = .ok (.ireturn, 1) := by decide +kernel
set_option maxHeartbeats 4000000 in
set_option maxRecDepth 100000 in
theorem k_addE (l : Launch) (dC : Nat → ClassId) (dI : Nat → Nat → Nat) (k : Nat → ClassId) (al : Nat) (ed : Nat) (cap : Nat) (mc : Int) (n : Int) (ci : Nat) (rc : vw_C) (g : Int → Option Nat) (tl : va_W) (v9 : Nat) (vs : List Value) (hc : classes[ci]? = some rc) (hca : (rc.1, "java/lang/Object") ∈ nCS) (hv9 : ((v9, .inr (ci, vs)) : Nat × va_E) ∈ tl) (h1 : 0 ≤ n ∧ n < cap ∧ cap ≤ 40) : Kn l dC dI k yJx4a65c_add_9ea2d (.code yJx4a65c_add_9ea2d cJx4a65c_add_9ea2d 2 (some .boolean)) ({ frames := 12, cells := 1, slots := 40, locals := 400 } : Room) [.ref al, .ref v9] ([(al, .inr (12, [.int (iI mc), .ref ed, .int (iI n)])), (ed, .inl (k 4, cap, .inr (.inr (.inr (.inr (fun i9 : Nat => g i9))))))] ++ tl) (fun r w gc gs => (r = some (.int (iI 1)) ∧ w = ([(al, .inr (12, [.int (iI (mc + 1)), .ref ed, .int (iI (n + 1))])), (ed, .inl (k 4, cap, .inr (.inr (.inr (.inr (fun i9 : Nat => (uz g n (some v9)) i9))))))] ++ tl) ∧ gc = 1 ∧ gs = 40)) := by
  refine kn_of (by decide) (Nat.le_of_ble_eq_true rfl) ?_
  intro p e s m args below meth c H locs B hr hnm ls hl
  have hx := B.1.1
  have hb := B.1.2.1
  have hl : lv_has ls 2 [(0, .ref al), (1, .ref v9)] := hl
  refine lv_aload_n hx hb dJx4a65c_add_9ea2d_0 rfl (lv_at hl 0 rfl) ?_
  refine lv_dup hx hb dJx4a65c_add_9ea2d_1 rfl ?_
  refine x_get (ci := 12) (C := RJx4a65c) (T := TJx4a65c) (N := 3) (v := .int (iI mc)) B 0 rfl rfl in_Jx4a65c 0 (by decide) mw_66 (x_same_modCount B) rfl dJx4a65c_add_9ea2d_2 ?_
  refine lv_iconst (v := iI 1) hx hb dJx4a65c_add_9ea2d_5 (by decide) ?_
  refine y_add hx hb dJx4a65c_add_9ea2d_6 ?_
  refine x_put (ci := 12) (C := RJx4a65c) (T := TJx4a65c) (N := 3) (ty := .int) (v := .int (iI (mc + 1))) B tyJx4a65c_ok nmJx4a65c 0 rfl rfl in_Jx4a65c 0 (by decide) mw_66 (x_same_modCount B) rfl (by decide +kernel) rfl rfl (Nat.le_of_ble_eq_true rfl) dJx4a65c_add_9ea2d_7 (fun H locs B => ?_)
  have B := bd_to (ws' := ([(al, .inr (12, [.int (iI (mc + 1)), .ref ed, .int (iI n)])), (ed, .inl (k 4, cap, .inr (.inr (.inr (.inr (fun i9 : Nat => g i9))))))] ++ tl)) rfl B
  refine lv_aload_n hx hb dJx4a65c_add_9ea2d_10 rfl (lv_at hl 0 rfl) ?_
  refine lv_aload_n hx hb dJx4a65c_add_9ea2d_11 rfl (lv_at hl 1 rfl) ?_
  refine lv_aload_n hx hb dJx4a65c_add_9ea2d_12 rfl (lv_at hl 0 rfl) ?_
  refine x_get (ci := 12) (C := RJx4a65c) (T := TJx4a65c) (N := 3) (v := .ref ed) B 0 rfl rfl in_Jx4a65c 1 (by decide) mw_63 (fun _ h9 => h9) rfl dJx4a65c_add_9ea2d_13 ?_
  refine lv_aload_n hx hb dJx4a65c_add_9ea2d_16 rfl (lv_at hl 0 rfl) ?_
  refine x_get (ci := 12) (C := RJx4a65c) (T := TJx4a65c) (N := 3) (v := .int (iI n)) B 0 rfl rfl in_Jx4a65c 2 (by decide) mw_64 (fun _ h9 => h9) rfl dJx4a65c_add_9ea2d_17 ?_
  have B := bd_swap (a := [(al, .inr (12, [.int (iI (mc + 1)), .ref ed, .int (iI n)])), (ed, .inl (k 4, cap, .inr (.inr (.inr (.inr (fun i9 : Nat => g i9))))))]) (b := []) (d := tl) (bd_to rfl B)
  refine k_V (rest := []) (wc := ([(al, .inr (12, [.int (iI (mc + 1)), .ref ed, .int (iI n)])), (ed, .inl (k 4, cap, .inr (.inr (.inr (.inr (fun i9 : Nat => g i9))))))] ++ tl)) (wr := []) (k_addE3 l dC dI k al ed cap (mc + 1) n ci rc g tl v9 vs hc hca hv9 h1) B mV_Jx4a65c_add_72be8 mw_684 hl (q0 := 0) rfl rfl rfl ⟨Nat.le_of_ble_eq_true rfl, Nat.le_of_ble_eq_true rfl⟩ (Nat.le_of_ble_eq_true rfl) rfl dJx4a65c_add_9ea2d_20 ⟨by dsimp only; omega, by dsimp only; omega⟩ (fun r w gc gs H locs hp B => ?_)
  obtain ⟨rfl, hw9, rfl, rfl⟩ := hp
  rw [hw9] at B; clear hw9
  have B := bd_to (ws' := ([(al, .inr (12, [.int (iI (mc + 1)), .ref ed, .int (iI (n + 1))])), (ed, .inl (k 4, cap, .inr (.inr (.inr (.inr (fun i9 : Nat => (uz g n (some v9)) i9))))))] ++ tl)) rfl B
  refine lv_iconst (v := iI 1) hx hb dJx4a65c_add_9ea2d_23 (by decide) ?_
  exact k_zret B hr (by omega) (⟨rfl, rfl, rfl, rfl⟩) ⟨(by first | omega | (dsimp only; omega)), (by first | omega | (dsimp only; omega))⟩ ⟨(by first | omega | (dsimp only; omega)), (by first | omega | (dsimp only; omega))⟩ dJx4a65c_add_9ea2d_24

set_option maxHeartbeats 4000000 in
set_option maxRecDepth 100000 in
theorem k_addEG (l : Launch) (dC : Nat → ClassId) (dI : Nat → Nat → Nat) (k : Nat → ClassId) (al : Nat) (ed : Nat) (cap : Nat) (mc : Int) (ci : Nat) (rc : vw_C) (g : Int → Option Nat) (tl : va_W) (v9 : Nat) (vs : List Value) (hc : classes[ci]? = some rc) (hca : (rc.1, "java/lang/Object") ∈ nCS) (hel : ∀ i : Int, 0 ≤ i → i < cap → ∀ y : Nat, g i = some y → ∃ fs : List Value, ((y, .inr (ci, fs)) : Nat × va_E) ∈ tl) (hv9 : ((v9, .inr (ci, vs)) : Nat × va_E) ∈ tl) (h1 : 0 < cap ∧ cap ≤ 20) : Kn l dC dI k yJx4a65c_add_9ea2d (.code yJx4a65c_add_9ea2d cJx4a65c_add_9ea2d 2 (some .boolean)) ({ frames := 12, cells := 1, slots := 40, locals := 400 } : Room) [.ref al, .ref v9] ([(al, .inr (12, [.int (iI mc), .ref ed, .int (iI (cap : Int))])), (ed, .inl (k 4, cap, .inr (.inr (.inr (.inr (fun i9 : Nat => g i9))))))] ++ tl) (fun r w gc gs => (∃ (cq : Nat), r = some (.int (iI 1)) ∧ w = ([(al, .inr (12, [.int (iI (mc + 1)), .ref cq, .int (iI ((cap : Int) + 1))])), (cq, .inl (k 4, (cap + max 1 (cap / 2)), .inr (.inr (.inr (.inr (fun i9 : Nat => (uz (cpz g (fun _ : Int => (none : Option Nat)) 0 0 (min (cap : Int) ((cap + max 1 (cap / 2)) : Int))) (cap : Int) (some v9)) i9))))))] ++ tl) ∧ gc = 1 ∧ gs = (cap + max 1 (cap / 2)))) := by
  refine kn_of (by decide) (Nat.le_of_ble_eq_true rfl) ?_
  intro p e s m args below meth c H locs B hr hnm ls hl
  have hx := B.1.1
  have hb := B.1.2.1
  have hl : lv_has ls 2 [(0, .ref al), (1, .ref v9)] := hl
  refine lv_aload_n hx hb dJx4a65c_add_9ea2d_0 rfl (lv_at hl 0 rfl) ?_
  refine lv_dup hx hb dJx4a65c_add_9ea2d_1 rfl ?_
  refine x_get (ci := 12) (C := RJx4a65c) (T := TJx4a65c) (N := 3) (v := .int (iI mc)) B 0 rfl rfl in_Jx4a65c 0 (by decide) mw_66 (x_same_modCount B) rfl dJx4a65c_add_9ea2d_2 ?_
  refine lv_iconst (v := iI 1) hx hb dJx4a65c_add_9ea2d_5 (by decide) ?_
  refine y_add hx hb dJx4a65c_add_9ea2d_6 ?_
  refine x_put (ci := 12) (C := RJx4a65c) (T := TJx4a65c) (N := 3) (ty := .int) (v := .int (iI (mc + 1))) B tyJx4a65c_ok nmJx4a65c 0 rfl rfl in_Jx4a65c 0 (by decide) mw_66 (x_same_modCount B) rfl (by decide +kernel) rfl rfl (Nat.le_of_ble_eq_true rfl) dJx4a65c_add_9ea2d_7 (fun H locs B => ?_)
  have B := bd_to (ws' := ([(al, .inr (12, [.int (iI (mc + 1)), .ref ed, .int (iI (cap : Int))])), (ed, .inl (k 4, cap, .inr (.inr (.inr (.inr (fun i9 : Nat => g i9))))))] ++ tl)) rfl B
  refine lv_aload_n hx hb dJx4a65c_add_9ea2d_10 rfl (lv_at hl 0 rfl) ?_
  refine lv_aload_n hx hb dJx4a65c_add_9ea2d_11 rfl (lv_at hl 1 rfl) ?_
  refine lv_aload_n hx hb dJx4a65c_add_9ea2d_12 rfl (lv_at hl 0 rfl) ?_
  refine x_get (ci := 12) (C := RJx4a65c) (T := TJx4a65c) (N := 3) (v := .ref ed) B 0 rfl rfl in_Jx4a65c 1 (by decide) mw_63 (fun _ h9 => h9) rfl dJx4a65c_add_9ea2d_13 ?_
  refine lv_aload_n hx hb dJx4a65c_add_9ea2d_16 rfl (lv_at hl 0 rfl) ?_
  refine x_get (ci := 12) (C := RJx4a65c) (T := TJx4a65c) (N := 3) (v := .int (iI (cap : Int))) B 0 rfl rfl in_Jx4a65c 2 (by decide) mw_64 (fun _ h9 => h9) rfl dJx4a65c_add_9ea2d_17 ?_
  have B := bd_swap (a := [(al, .inr (12, [.int (iI (mc + 1)), .ref ed, .int (iI (cap : Int))])), (ed, .inl (k 4, cap, .inr (.inr (.inr (.inr (fun i9 : Nat => g i9))))))]) (b := []) (d := tl) (bd_to rfl B)
  refine k_V (rest := []) (wc := ([(al, .inr (12, [.int (iI (mc + 1)), .ref ed, .int (iI (cap : Int))])), (ed, .inl (k 4, cap, .inr (.inr (.inr (.inr (fun i9 : Nat => g i9))))))] ++ tl)) (wr := []) (k_addE3G l dC dI k al ed cap (mc + 1) ci rc g tl v9 vs hc hca hel hv9 (by omega)) B mV_Jx4a65c_add_72be8 mw_684 hl (q0 := 0) rfl rfl rfl ⟨Nat.le_of_ble_eq_true rfl, Nat.le_of_ble_eq_true rfl⟩ (Nat.le_of_ble_eq_true rfl) rfl dJx4a65c_add_9ea2d_20 ⟨by dsimp only; omega, by dsimp only; omega⟩ (fun r w gc gs H locs hp B => ?_)
  obtain ⟨cq_1, rfl, hw9, rfl, rfl⟩ := hp
  rw [hw9] at B; clear hw9
  have B := bd_to (ws' := ([(al, .inr (12, [.int (iI (mc + 1)), .ref cq_1, .int (iI ((cap : Int) + 1))])), (cq_1, .inl (k 4, (cap + max 1 (cap / 2)), .inr (.inr (.inr (.inr (fun i9 : Nat => (uz (cpz g (fun _ : Int => (none : Option Nat)) 0 0 (min (cap : Int) ((cap + max 1 (cap / 2)) : Int))) (cap : Int) (some v9)) i9))))))] ++ tl)) rfl B
  refine lv_iconst (v := iI 1) hx hb dJx4a65c_add_9ea2d_23 (by decide) ?_
  exact k_zret B hr (by omega) (⟨cq_1, rfl, rfl, rfl, rfl⟩) ⟨(by first | omega | (dsimp only; omega)), (by first | omega | (dsimp only; omega))⟩ ⟨(by first | omega | (dsimp only; omega)), (by first | omega | (dsimp only; omega))⟩ dJx4a65c_add_9ea2d_24

set_option maxHeartbeats 4000000 in
set_option maxRecDepth 100000 in
theorem k_addE0 (l : Launch) (dC : Nat → ClassId) (dI : Nat → Nat → Nat) (k : Nat → ClassId) (al : Nat) (mc : Int) (ci : Nat) (rc : vw_C) (tl : va_W) (v9 : Nat) (vs : List Value) (hc : classes[ci]? = some rc) (hca : (rc.1, "java/lang/Object") ∈ nCS) (hv9 : ((v9, .inr (ci, vs)) : Nat × va_E) ∈ tl) : Kn l dC dI k yJx4a65c_add_9ea2d (.code yJx4a65c_add_9ea2d cJx4a65c_add_9ea2d 2 (some .boolean)) ({ frames := 12, cells := 1, slots := 40, locals := 400 } : Room) [.ref al, .ref v9] ([(al, .inr (12, [.int (iI mc), .ref (dI 99 1), .int (iI 0)]))] ++ tl) (fun r w gc gs => (∃ (cq : Nat), r = some (.int (iI 1)) ∧ w = ([(al, .inr (12, [.int (iI (mc + 1)), .ref cq, .int (iI 1)])), (cq, .inl (k 4, 10, .inr (.inr (.inr (.inr (fun i9 : Nat => (uz (fun _ : Int => (none : Option Nat)) 0 (some v9)) i9))))))] ++ tl) ∧ gc = 1 ∧ gs = 10)) := by
  refine kn_of (by decide) (Nat.le_of_ble_eq_true rfl) ?_
  intro p e s m args below meth c H locs B hr hnm ls hl
  have hx := B.1.1
  have hb := B.1.2.1
  have hl : lv_has ls 2 [(0, .ref al), (1, .ref v9)] := hl
  refine lv_aload_n hx hb dJx4a65c_add_9ea2d_0 rfl (lv_at hl 0 rfl) ?_
  refine lv_dup hx hb dJx4a65c_add_9ea2d_1 rfl ?_
  refine x_get (ci := 12) (C := RJx4a65c) (T := TJx4a65c) (N := 3) (v := .int (iI mc)) B 0 rfl rfl in_Jx4a65c 0 (by decide) mw_66 (x_same_modCount B) rfl dJx4a65c_add_9ea2d_2 ?_
  refine lv_iconst (v := iI 1) hx hb dJx4a65c_add_9ea2d_5 (by decide) ?_
  refine y_add hx hb dJx4a65c_add_9ea2d_6 ?_
  refine x_put (ci := 12) (C := RJx4a65c) (T := TJx4a65c) (N := 3) (ty := .int) (v := .int (iI (mc + 1))) B tyJx4a65c_ok nmJx4a65c 0 rfl rfl in_Jx4a65c 0 (by decide) mw_66 (x_same_modCount B) rfl (by decide +kernel) rfl rfl (Nat.le_of_ble_eq_true rfl) dJx4a65c_add_9ea2d_7 (fun H locs B => ?_)
  have B := bd_to (ws' := ([(al, .inr (12, [.int (iI (mc + 1)), .ref (dI 99 1), .int (iI 0)]))] ++ tl)) rfl B
  refine lv_aload_n hx hb dJx4a65c_add_9ea2d_10 rfl (lv_at hl 0 rfl) ?_
  refine lv_aload_n hx hb dJx4a65c_add_9ea2d_11 rfl (lv_at hl 1 rfl) ?_
  refine lv_aload_n hx hb dJx4a65c_add_9ea2d_12 rfl (lv_at hl 0 rfl) ?_
  refine x_get (ci := 12) (C := RJx4a65c) (T := TJx4a65c) (N := 3) (v := .ref (dI 99 1)) B 0 rfl rfl in_Jx4a65c 1 (by decide) mw_63 (fun _ h9 => h9) rfl dJx4a65c_add_9ea2d_13 ?_
  refine lv_aload_n hx hb dJx4a65c_add_9ea2d_16 rfl (lv_at hl 0 rfl) ?_
  refine x_get (ci := 12) (C := RJx4a65c) (T := TJx4a65c) (N := 3) (v := .int (iI 0)) B 0 rfl rfl in_Jx4a65c 2 (by decide) mw_64 (fun _ h9 => h9) rfl dJx4a65c_add_9ea2d_17 ?_
  have B := bd_swap (a := [(al, .inr (12, [.int (iI (mc + 1)), .ref (dI 99 1), .int (iI 0)]))]) (b := []) (d := tl) (bd_to rfl B)
  refine k_V (rest := []) (wc := ([(al, .inr (12, [.int (iI (mc + 1)), .ref (dI 99 1), .int (iI 0)]))] ++ tl)) (wr := []) (k_addE30 l dC dI k al (mc + 1) ci rc tl v9 vs hc hca hv9) B mV_Jx4a65c_add_72be8 mw_684 hl (q0 := 0) rfl rfl rfl ⟨Nat.le_of_ble_eq_true rfl, Nat.le_of_ble_eq_true rfl⟩ (Nat.le_of_ble_eq_true rfl) rfl dJx4a65c_add_9ea2d_20 ⟨by dsimp only; omega, by dsimp only; omega⟩ (fun r w gc gs H locs hp B => ?_)
  obtain ⟨cq_1, rfl, hw9, rfl, rfl⟩ := hp
  rw [hw9] at B; clear hw9
  have B := bd_to (ws' := ([(al, .inr (12, [.int (iI (mc + 1)), .ref cq_1, .int (iI 1)])), (cq_1, .inl (k 4, 10, .inr (.inr (.inr (.inr (fun i9 : Nat => (uz (fun _ : Int => (none : Option Nat)) 0 (some v9)) i9))))))] ++ tl)) rfl B
  refine lv_iconst (v := iI 1) hx hb dJx4a65c_add_9ea2d_23 (by decide) ?_
  exact k_zret B hr (by omega) (⟨cq_1, rfl, rfl, rfl, rfl⟩) ⟨(by first | omega | (dsimp only; omega)), (by first | omega | (dsimp only; omega))⟩ ⟨(by first | omega | (dsimp only; omega)), (by first | omega | (dsimp only; omega))⟩ dJx4a65c_add_9ea2d_24

theorem dJx4a65c_fastRemove_b59b0_0 : decode cJx4a65c_fastRemove_b59b0 0 = .ok (.aload_n 0, 1) := by decide +kernel
theorem dJx4a65c_fastRemove_b59b0_1 : decode cJx4a65c_fastRemove_b59b0 1 = .ok (.dup, 1) := by decide +kernel
theorem dJx4a65c_fastRemove_b59b0_2 : decode cJx4a65c_fastRemove_b59b0 2 = .ok (.getfield 63, 3) := by decide +kernel
theorem dJx4a65c_fastRemove_b59b0_5 : decode cJx4a65c_fastRemove_b59b0 5 = .ok (.iconst 1, 1) := by decide +kernel
theorem dJx4a65c_fastRemove_b59b0_6 : decode cJx4a65c_fastRemove_b59b0 6 = .ok (.iadd, 1) := by decide +kernel
theorem dJx4a65c_fastRemove_b59b0_7 : decode cJx4a65c_fastRemove_b59b0 7 = .ok (.putfield 63, 3) := by decide +kernel
theorem dJx4a65c_fastRemove_b59b0_10 : decode cJx4a65c_fastRemove_b59b0 10 = .ok (.aload_n 0, 1) := by decide +kernel
theorem dJx4a65c_fastRemove_b59b0_11 : decode cJx4a65c_fastRemove_b59b0 11 = .ok (.getfield 48, 3) := by decide +kernel
theorem dJx4a65c_fastRemove_b59b0_14 : decode cJx4a65c_fastRemove_b59b0 14 = .ok (.iconst 1, 1) := by decide +kernel
theorem dJx4a65c_fastRemove_b59b0_15 : decode cJx4a65c_fastRemove_b59b0 15 = .ok (.isub, 1) := by decide +kernel
theorem dJx4a65c_fastRemove_b59b0_16 : decode cJx4a65c_fastRemove_b59b0 16 = .ok (.dup, 1) := by decide +kernel
theorem dJx4a65c_fastRemove_b59b0_17 : decode cJx4a65c_fastRemove_b59b0 17 = .ok (.istore_n 3, 1) := by decide +kernel
theorem dJx4a65c_fastRemove_b59b0_18 : decode cJx4a65c_fastRemove_b59b0 18 = .ok (.iload_n 2, 1) := by decide +kernel
theorem dJx4a65c_fastRemove_b59b0_19 : decode cJx4a65c_fastRemove_b59b0 19 = .ok (.if_icmp .le 15, 3) := by decide +kernel
theorem dJx4a65c_fastRemove_b59b0_22 : decode cJx4a65c_fastRemove_b59b0 22 = .ok (.aload_n 1, 1) := by decide +kernel
theorem dJx4a65c_fastRemove_b59b0_23 : decode cJx4a65c_fastRemove_b59b0 23 = .ok (.iload_n 2, 1) := by decide +kernel
theorem dJx4a65c_fastRemove_b59b0_24 : decode cJx4a65c_fastRemove_b59b0 24 = .ok (.iconst 1, 1) := by decide +kernel
theorem dJx4a65c_fastRemove_b59b0_25 : decode cJx4a65c_fastRemove_b59b0 25 = .ok (.iadd, 1) := by decide +kernel
theorem dJx4a65c_fastRemove_b59b0_26 : decode cJx4a65c_fastRemove_b59b0 26 = .ok (.aload_n 1, 1) := by decide +kernel
theorem dJx4a65c_fastRemove_b59b0_27 : decode cJx4a65c_fastRemove_b59b0 27 = .ok (.iload_n 2, 1) := by decide +kernel
theorem dJx4a65c_fastRemove_b59b0_28 : decode cJx4a65c_fastRemove_b59b0 28 = .ok (.iload_n 3, 1) := by decide +kernel
theorem dJx4a65c_fastRemove_b59b0_29 : decode cJx4a65c_fastRemove_b59b0 29 = .ok (.iload_n 2, 1) := by decide +kernel
theorem dJx4a65c_fastRemove_b59b0_30 : decode cJx4a65c_fastRemove_b59b0 30 = .ok (.isub, 1) := by decide +kernel
theorem dJx4a65c_fastRemove_b59b0_31 : decode cJx4a65c_fastRemove_b59b0 31 = .ok (.invokestatic 112, 3) := by decide +kernel
theorem dJx4a65c_fastRemove_b59b0_34 : decode cJx4a65c_fastRemove_b59b0 34 = .ok (.aload_n 1, 1) := by decide +kernel
theorem dJx4a65c_fastRemove_b59b0_35 : decode cJx4a65c_fastRemove_b59b0 35 = .ok (.aload_n 0, 1) := by decide +kernel
theorem dJx4a65c_fastRemove_b59b0_36 : decode cJx4a65c_fastRemove_b59b0 36 = .ok (.iload_n 3, 1) := by decide +kernel
theorem dJx4a65c_fastRemove_b59b0_37 : decode cJx4a65c_fastRemove_b59b0 37 = .ok (.dup_x1, 1) := by decide +kernel
theorem dJx4a65c_fastRemove_b59b0_38 : decode cJx4a65c_fastRemove_b59b0 38 = .ok (.putfield 48, 3) := by decide +kernel
theorem dJx4a65c_fastRemove_b59b0_41 : decode cJx4a65c_fastRemove_b59b0 41 = .ok (.aconst_null, 1) := by decide +kernel
theorem dJx4a65c_fastRemove_b59b0_42 : decode cJx4a65c_fastRemove_b59b0 42 = .ok (.aastore, 1) := by decide +kernel
theorem dJx4a65c_fastRemove_b59b0_43 : decode cJx4a65c_fastRemove_b59b0 43 = .ok (.return_, 1) := by decide +kernel
set_option maxHeartbeats 4000000 in
set_option maxRecDepth 100000 in
theorem k_fastRemove (l : Launch) (dC : Nat → ClassId) (dI : Nat → Nat → Nat) (k : Nat → ClassId) (al : Nat) (ed : Nat) (cap : Nat) (mc : Int) (n : Int) (ci : Nat) (rc : vw_C) (g : Int → Option Nat) (tl : va_W) (i : Int) (hc : classes[ci]? = some rc) (hca : (rc.1, "java/lang/Object") ∈ nCS) (hel : ∀ i : Int, 0 ≤ i → i < cap → ∀ y : Nat, g i = some y → ∃ fs : List Value, ((y, .inr (ci, fs)) : Nat × va_E) ∈ tl) (h1 : 0 ≤ i ∧ i < n ∧ n ≤ cap ∧ cap ≤ 40) : Kn l dC dI k yJx4a65c_fastRemove_b59b0 (.code yJx4a65c_fastRemove_b59b0 cJx4a65c_fastRemove_b59b0 4 none) ({ frames := 1, cells := 0, slots := 0, locals := 40 } : Room) [.ref al, .ref ed, .int (iI i)] ([(al, .inr (12, [.int (iI mc), .ref ed, .int (iI n)])), (ed, .inl (k 4, cap, .inr (.inr (.inr (.inr (fun i9 : Nat => g i9))))))] ++ tl) (fun r w gc gs => (r = none ∧ w = ([(al, .inr (12, [.int (iI (mc + 1)), .ref ed, .int (iI (n - 1))])), (ed, .inl (k 4, cap, .inr (.inr (.inr (.inr (fun i9 : Nat => (uz (cpz g g (i + 1) i ((n - 1) - i)) (n - 1) none) i9))))))] ++ tl) ∧ gc = 0 ∧ gs = 0)) := by
  refine kn_of (by decide) (Nat.le_of_ble_eq_true rfl) ?_
  intro p e s m args below meth c H locs B hr hnm ls hl
  have hx := B.1.1
  have hb := B.1.2.1
  have hl : lv_has ls 4 [(0, .ref al), (1, .ref ed), (2, .int (iI i))] := hl
  refine lv_aload_n hx hb dJx4a65c_fastRemove_b59b0_0 rfl (lv_at hl 0 rfl) ?_
  refine lv_dup hx hb dJx4a65c_fastRemove_b59b0_1 rfl ?_
  refine x_get (ci := 12) (C := RJx4a65c) (T := TJx4a65c) (N := 3) (v := .int (iI mc)) B 0 rfl rfl in_Jx4a65c 0 (by decide) mw_66 (x_same_modCount B) rfl dJx4a65c_fastRemove_b59b0_2 ?_
  refine lv_iconst (v := iI 1) hx hb dJx4a65c_fastRemove_b59b0_5 (by decide) ?_
  refine y_add hx hb dJx4a65c_fastRemove_b59b0_6 ?_
  refine x_put (ci := 12) (C := RJx4a65c) (T := TJx4a65c) (N := 3) (ty := .int) (v := .int (iI (mc + 1))) B tyJx4a65c_ok nmJx4a65c 0 rfl rfl in_Jx4a65c 0 (by decide) mw_66 (x_same_modCount B) rfl (by decide +kernel) rfl rfl (Nat.le_of_ble_eq_true rfl) dJx4a65c_fastRemove_b59b0_7 (fun H locs B => ?_)
  have B := bd_to (ws' := ([(al, .inr (12, [.int (iI (mc + 1)), .ref ed, .int (iI n)])), (ed, .inl (k 4, cap, .inr (.inr (.inr (.inr (fun i9 : Nat => g i9))))))] ++ tl)) rfl B
  refine lv_aload_n hx hb dJx4a65c_fastRemove_b59b0_10 rfl (lv_at hl 0 rfl) ?_
  refine x_get (ci := 12) (C := RJx4a65c) (T := TJx4a65c) (N := 3) (v := .int (iI n)) B 0 rfl rfl in_Jx4a65c 2 (by decide) mw_64 (fun _ h9 => h9) rfl dJx4a65c_fastRemove_b59b0_11 ?_
  refine lv_iconst (v := iI 1) hx hb dJx4a65c_fastRemove_b59b0_14 (by decide) ?_
  refine y_sub hx hb dJx4a65c_fastRemove_b59b0_15 ?_
  refine lv_dup hx hb dJx4a65c_fastRemove_b59b0_16 rfl ?_
  refine lv_istore_n (lv' := [(3, .int (iI (n - 1))), (0, .ref al), (1, .ref ed), (2, .int (iI i))]) hx hb dJx4a65c_fastRemove_b59b0_17 rfl hl (by decide) rfl (fun ls hl => ?_)
  refine lv_iload_n hx hb dJx4a65c_fastRemove_b59b0_18 rfl (lv_at hl 3 rfl) ?_
  refine lv_icmp_le (tgt := 34) hx hb dJx4a65c_fastRemove_b59b0_19 (by decide) (fun c_1 => ?_) (fun c_1 => ?_)
  · have zc_1 : (n - 1) ≤ i := jle (a := (n - 1)) (b := i) (by omega) (by omega) c_1
    refine lv_aload_n hx hb dJx4a65c_fastRemove_b59b0_34 rfl (lv_at hl 2 rfl) ?_
    refine lv_aload_n hx hb dJx4a65c_fastRemove_b59b0_35 rfl (lv_at hl 1 rfl) ?_
    refine lv_iload_n hx hb dJx4a65c_fastRemove_b59b0_36 rfl (lv_at hl 0 rfl) ?_
    refine lv_dup_x1 hx hb dJx4a65c_fastRemove_b59b0_37 rfl rfl ?_
    refine x_put (ci := 12) (C := RJx4a65c) (T := TJx4a65c) (N := 3) (ty := .int) (v := .int (iI (n - 1))) B tyJx4a65c_ok nmJx4a65c 0 rfl rfl in_Jx4a65c 2 (by decide) mw_64 (fun _ h9 => h9) rfl (by decide +kernel) rfl rfl (Nat.le_of_ble_eq_true rfl) dJx4a65c_fastRemove_b59b0_38 (fun H locs B => ?_)
    have B := bd_to (ws' := ([(al, .inr (12, [.int (iI (mc + 1)), .ref ed, .int (iI (n - 1))])), (ed, .inl (k 4, cap, .inr (.inr (.inr (.inr (fun i9 : Nat => g i9))))))] ++ tl)) rfl B
    refine lv_null hx hb dJx4a65c_fastRemove_b59b0_41 ?_
    refine x_astN (f := g) (z := (n - 1)) B 1 rfl (by omega) dJx4a65c_fastRemove_b59b0_42 (fun H locs B => ?_)
    have B := bd_to (ws' := ([(al, .inr (12, [.int (iI (mc + 1)), .ref ed, .int (iI (n - 1))])), (ed, .inl (k 4, cap, .inr (.inr (.inr (.inr (fun i9 : Nat => (uz g (n - 1) none) i9))))))] ++ tl)) rfl B
    have e_2 : (uz (cpz g g (i + 1) i ((n - 1) - i)) (n - 1) none) = (uz g (n - 1) none) := (by congr 1; funext x9; exact (if_neg (by omega)))
    have B := bd_to (ws' := ([(al, .inr (12, [.int (iI (mc + 1)), .ref ed, .int (iI (n - 1))])), (ed, .inl (k 4, cap, .inr (.inr (.inr (.inr (fun i9 : Nat => (uz (cpz g g (i + 1) i ((n - 1) - i)) (n - 1) none) i9))))))] ++ tl)) (by first | rfl | (rw [e_2])) B
    exact k_vret B hr (⟨rfl, rfl, rfl, rfl⟩) ⟨Nat.le_of_ble_eq_true rfl, Nat.le_of_ble_eq_true rfl⟩ ⟨Nat.le_of_ble_eq_true rfl, Nat.le_of_ble_eq_true rfl⟩ dJx4a65c_fastRemove_b59b0_43
  · have zc_1 : i < (n - 1) := jnle (a := (n - 1)) (b := i) (by omega) (by omega) c_1
    refine lv_aload_n hx hb dJx4a65c_fastRemove_b59b0_22 rfl (lv_at hl 2 rfl) ?_
    refine lv_iload_n hx hb dJx4a65c_fastRemove_b59b0_23 rfl (lv_at hl 3 rfl) ?_
    refine lv_iconst (v := iI 1) hx hb dJx4a65c_fastRemove_b59b0_24 (by decide) ?_
    refine y_add hx hb dJx4a65c_fastRemove_b59b0_25 ?_
    refine lv_aload_n hx hb dJx4a65c_fastRemove_b59b0_26 rfl (lv_at hl 2 rfl) ?_
    refine lv_iload_n hx hb dJx4a65c_fastRemove_b59b0_27 rfl (lv_at hl 3 rfl) ?_
    refine lv_iload_n hx hb dJx4a65c_fastRemove_b59b0_28 rfl (lv_at hl 0 rfl) ?_
    refine lv_iload_n hx hb dJx4a65c_fastRemove_b59b0_29 rfl (lv_at hl 3 rfl) ?_
    refine y_sub hx hb dJx4a65c_fastRemove_b59b0_30 ?_
    refine x_copyO (f := g) (g := g) (ci := ci) (r := rc) (sp := (i + 1)) (dp := i) (z := ((n - 1) - i)) B hl mw_1089 mw_659 mw_658 mw_27 1 1 rfl rfl (by omega) (by omega) (by omega) (by omega) (by omega) hc hca (fun i9 h9 h8 y9 h7 => by obtain ⟨fs9, hf9⟩ := hel _ (by omega) (by omega) y9 h7; obtain ⟨q8, hq8⟩ := pk_at (hs := [(al, .inr (12, [.int (iI (mc + 1)), .ref ed, .int (iI n)])), (ed, .inl (k 4, cap, .inr (.inr (.inr (.inr (fun i9 : Nat => g i9))))))]) hf9; exact ⟨q8, fs9, hq8⟩) (Nat.le_of_ble_eq_true rfl) (Nat.le_of_ble_eq_true rfl) dJx4a65c_fastRemove_b59b0_31 (fun H locs B => ?_)
    have B := bd_to (ws' := ([(al, .inr (12, [.int (iI (mc + 1)), .ref ed, .int (iI n)])), (ed, .inl (k 4, cap, .inr (.inr (.inr (.inr (fun i9 : Nat => (cpz g g (i + 1) i ((n - 1) - i)) i9))))))] ++ tl)) rfl B
    refine lv_aload_n hx hb dJx4a65c_fastRemove_b59b0_34 rfl (lv_at hl 2 rfl) ?_
    refine lv_aload_n hx hb dJx4a65c_fastRemove_b59b0_35 rfl (lv_at hl 1 rfl) ?_
    refine lv_iload_n hx hb dJx4a65c_fastRemove_b59b0_36 rfl (lv_at hl 0 rfl) ?_
    refine lv_dup_x1 hx hb dJx4a65c_fastRemove_b59b0_37 rfl rfl ?_
    refine x_put (ci := 12) (C := RJx4a65c) (T := TJx4a65c) (N := 3) (ty := .int) (v := .int (iI (n - 1))) B tyJx4a65c_ok nmJx4a65c 0 rfl rfl in_Jx4a65c 2 (by decide) mw_64 (fun _ h9 => h9) rfl (by decide +kernel) rfl rfl (Nat.le_of_ble_eq_true rfl) dJx4a65c_fastRemove_b59b0_38 (fun H locs B => ?_)
    have B := bd_to (ws' := ([(al, .inr (12, [.int (iI (mc + 1)), .ref ed, .int (iI (n - 1))])), (ed, .inl (k 4, cap, .inr (.inr (.inr (.inr (fun i9 : Nat => (cpz g g (i + 1) i ((n - 1) - i)) i9))))))] ++ tl)) rfl B
    refine lv_null hx hb dJx4a65c_fastRemove_b59b0_41 ?_
    refine x_astN (f := (cpz g g (i + 1) i ((n - 1) - i))) (z := (n - 1)) B 1 rfl (by omega) dJx4a65c_fastRemove_b59b0_42 (fun H locs B => ?_)
    have B := bd_to (ws' := ([(al, .inr (12, [.int (iI (mc + 1)), .ref ed, .int (iI (n - 1))])), (ed, .inl (k 4, cap, .inr (.inr (.inr (.inr (fun i9 : Nat => (uz (cpz g g (i + 1) i ((n - 1) - i)) (n - 1) none) i9))))))] ++ tl)) rfl B
    exact k_vret B hr (⟨rfl, rfl, rfl, rfl⟩) ⟨Nat.le_of_ble_eq_true rfl, Nat.le_of_ble_eq_true rfl⟩ ⟨Nat.le_of_ble_eq_true rfl, Nat.le_of_ble_eq_true rfl⟩ dJx4a65c_fastRemove_b59b0_43

theorem mw_1116 : (Jvm.Cond.methodLink "java/util/ArrayList" (144 : Nat) ({ cls := "java/util/ArrayList", name := "fastRemove", desc := "([Ljava/lang/Object;I)V" } : Jvm.MethodName)) ∈ gt := gt_at 1186 (by decide +kernel) (by decide +kernel)
theorem mw_1118 : (Jvm.Cond.instanceMethod ({ cls := "java/util/ArrayList", name := "fastRemove", desc := "([Ljava/lang/Object;I)V" } : Jvm.MethodName)) ∈ gt := gt_at 1188 (by decide +kernel) (by decide +kernel)
theorem mw_1119 : (Jvm.Cond.code ({ cls := "java/util/ArrayList", name := "fastRemove", desc := "([Ljava/lang/Object;I)V" } : Jvm.MethodName) prog_40_method_39_code (4 : Nat) (Option.none : Option Jvm.ClassFile.FieldType)) ∈ gt := gt_at 1189 (by decide +kernel) (by decide +kernel)
theorem ms_12 : Cond.selects "java/util/ArrayList" (⟨"java/util/ArrayList", "fastRemove", "([Ljava/lang/Object;I)V"⟩ : MethodName) (⟨"java/util/ArrayList", "fastRemove", "([Ljava/lang/Object;I)V"⟩ : MethodName) ∈ gt := gt_at 12 (by decide +kernel) (by decide +kernel)
theorem mV_Jx4a65c_fastRemove_b59b0 : mV yJx4a65c_fastRemove_b59b0 cJx4a65c_fastRemove_b59b0 4 none 2 := ⟨⟨mw_1119, mw_5, by decide, by decide, by decide +kernel⟩, mw_1118, ms_12⟩
theorem dJx4a65c_remove_915e3_0 : decode cJx4a65c_remove_915e3 0 = .ok (.iload_n 1, 1) := by decide +kernel
theorem dJx4a65c_remove_915e3_1 : decode cJx4a65c_remove_915e3 1 = .ok (.aload_n 0, 1) := by decide +kernel
theorem dJx4a65c_remove_915e3_2 : decode cJx4a65c_remove_915e3 2 = .ok (.getfield 48, 3) := by decide +kernel
theorem dJx4a65c_remove_915e3_5 : decode cJx4a65c_remove_915e3 5 = .ok (.invokestatic 118, 3) := by decide +kernel
theorem dJx4a65c_remove_915e3_8 : decode cJx4a65c_remove_915e3 8 = .ok (.pop, 1) := by decide +kernel
theorem dJx4a65c_remove_915e3_9 : decode cJx4a65c_remove_915e3 9 = .ok (.aload_n 0, 1) := by decide +kernel
theorem dJx4a65c_remove_915e3_10 : decode cJx4a65c_remove_915e3 10 = .ok (.getfield 9, 3) := by decide +kernel
theorem dJx4a65c_remove_915e3_13 : decode cJx4a65c_remove_915e3 13 = .ok (.astore_n 2, 1) := by decide +kernel
theorem dJx4a65c_remove_915e3_14 : decode cJx4a65c_remove_915e3 14 = .ok (.aload_n 2, 1) := by decide +kernel
theorem dJx4a65c_remove_915e3_15 : decode cJx4a65c_remove_915e3 15 = .ok (.iload_n 1, 1) := by decide +kernel
theorem dJx4a65c_remove_915e3_16 : decode cJx4a65c_remove_915e3 16 = .ok (.aaload, 1) := by decide +kernel
theorem dJx4a65c_remove_915e3_17 : decode cJx4a65c_remove_915e3 17 = .ok (.astore_n 3, 1) := by decide +kernel
theorem dJx4a65c_remove_915e3_18 : decode cJx4a65c_remove_915e3 18 = .ok (.aload_n 0, 1) := by decide +kernel
theorem dJx4a65c_remove_915e3_19 : decode cJx4a65c_remove_915e3 19 = .ok (.aload_n 2, 1) := by decide +kernel
theorem dJx4a65c_remove_915e3_20 : decode cJx4a65c_remove_915e3 20 = .ok (.iload_n 1, 1) := by decide +kernel
theorem dJx4a65c_remove_915e3_21 : decode cJx4a65c_remove_915e3 21 = .ok (.invokevirtual 144, 3) := by decide +kernel
theorem dJx4a65c_remove_915e3_24 : decode cJx4a65c_remove_915e3 24 = .ok (.aload_n 3, 1) := by decide +kernel
theorem dJx4a65c_remove_915e3_25 : decode cJx4a65c_remove_915e3 25 = .ok (.areturn, 1) := by decide +kernel
set_option maxHeartbeats 4000000 in
set_option maxRecDepth 100000 in
theorem k_remove (l : Launch) (dC : Nat → ClassId) (dI : Nat → Nat → Nat) (k : Nat → ClassId) (al : Nat) (ed : Nat) (cap : Nat) (mc : Int) (n : Int) (ci : Nat) (rc : vw_C) (g : Int → Option Nat) (tl : va_W) (v9 : Nat) (i : Int) (hc : classes[ci]? = some rc) (hca : (rc.1, "java/lang/Object") ∈ nCS) (hel : ∀ i : Int, 0 ≤ i → i < cap → ∀ y : Nat, g i = some y → ∃ fs : List Value, ((y, .inr (ci, fs)) : Nat × va_E) ∈ tl) (hgi : g i = some v9) (h1 : 0 ≤ i ∧ i < n ∧ n ≤ cap ∧ cap ≤ 40) : Kn l dC dI k yJx4a65c_remove_915e3 (.code yJx4a65c_remove_915e3 cJx4a65c_remove_915e3 4 (some (.object "java/lang/Object"))) ({ frames := 12, cells := 1, slots := 40, locals := 400 } : Room) [.ref al, .int (iI i)] ([(al, .inr (12, [.int (iI mc), .ref ed, .int (iI n)])), (ed, .inl (k 4, cap, .inr (.inr (.inr (.inr (fun i9 : Nat => g i9))))))] ++ tl) (fun r w gc gs => (r = some (.ref v9) ∧ w = ([(al, .inr (12, [.int (iI (mc + 1)), .ref ed, .int (iI (n - 1))])), (ed, .inl (k 4, cap, .inr (.inr (.inr (.inr (fun i9 : Nat => (uz (cpz g g (i + 1) i ((n - 1) - i)) (n - 1) none) i9))))))] ++ tl) ∧ gc = 1 ∧ gs = 40)) := by
  refine kn_of (by decide) (Nat.le_of_ble_eq_true rfl) ?_
  intro p e s m args below meth c H locs B hr hnm ls hl
  have hx := B.1.1
  have hb := B.1.2.1
  have hl : lv_has ls 4 [(0, .ref al), (1, .int (iI i))] := hl
  refine lv_iload_n hx hb dJx4a65c_remove_915e3_0 rfl (lv_at hl 1 rfl) ?_
  refine lv_aload_n hx hb dJx4a65c_remove_915e3_1 rfl (lv_at hl 0 rfl) ?_
  refine x_get (ci := 12) (C := RJx4a65c) (T := TJx4a65c) (N := 3) (v := .int (iI n)) B 0 rfl rfl in_Jx4a65c 2 (by decide) mw_64 (fun _ h9 => h9) rfl dJx4a65c_remove_915e3_2 ?_
  have B := bd_to (ws' := [] ++ ([(al, .inr (12, [.int (iI mc), .ref ed, .int (iI n)])), (ed, .inl (k 4, cap, .inr (.inr (.inr (.inr (fun i9 : Nat => g i9))))))] ++ tl)) rfl B
  refine k_S (rest := []) (wc := []) (wr := ([(al, .inr (12, [.int (iI mc), .ref ed, .int (iI n)])), (ed, .inl (k 4, cap, .inr (.inr (.inr (.inr (fun i9 : Nat => g i9))))))] ++ tl)) (k_ckI l dC dI k i n (by omega)) B mS_J15_checkIndex_7cf53 mw_744 hl ⟨Nat.le_of_ble_eq_true rfl, Nat.le_of_ble_eq_true rfl⟩ (Nat.le_of_ble_eq_true rfl) rfl dJx4a65c_remove_915e3_5 ⟨by dsimp only; omega, by dsimp only; omega⟩ (fun r w gc gs H locs hp B => ?_)
  obtain ⟨rfl, hw9, rfl, rfl⟩ := hp
  rw [hw9] at B; clear hw9
  have B := bd_swap (a := [(al, .inr (12, [.int (iI mc), .ref ed, .int (iI n)])), (ed, .inl (k 4, cap, .inr (.inr (.inr (.inr (fun i9 : Nat => g i9))))))]) (b := tl) (d := []) B
  have B := bd_to (ws' := ([(al, .inr (12, [.int (iI mc), .ref ed, .int (iI n)])), (ed, .inl (k 4, cap, .inr (.inr (.inr (.inr (fun i9 : Nat => g i9))))))] ++ tl)) rfl B
  refine lv_pop hx hb dJx4a65c_remove_915e3_8 rfl ?_
  refine lv_aload_n hx hb dJx4a65c_remove_915e3_9 rfl (lv_at hl 0 rfl) ?_
  refine x_get (ci := 12) (C := RJx4a65c) (T := TJx4a65c) (N := 3) (v := .ref ed) B 0 rfl rfl in_Jx4a65c 1 (by decide) mw_63 (fun _ h9 => h9) rfl dJx4a65c_remove_915e3_10 ?_
  refine lv_astore_n (lv' := [(2, .ref ed), (0, .ref al), (1, .int (iI i))]) hx hb dJx4a65c_remove_915e3_13 rfl hl (by decide) rfl (fun ls hl => ?_)
  refine lv_aload_n hx hb dJx4a65c_remove_915e3_14 rfl (lv_at hl 0 rfl) ?_
  refine lv_iload_n hx hb dJx4a65c_remove_915e3_15 rfl (lv_at hl 2 rfl) ?_
  refine x_aldO (v := (some v9)) B 1 rfl (iI_in (by omega)) dJx4a65c_remove_915e3_16 ((aldz (by omega)).trans hgi) ?_
  refine lv_astore_n (lv' := [(3, .ref v9), (2, .ref ed), (0, .ref al), (1, .int (iI i))]) hx hb dJx4a65c_remove_915e3_17 rfl hl (by decide) rfl (fun ls hl => ?_)
  refine lv_aload_n hx hb dJx4a65c_remove_915e3_18 rfl (lv_at hl 2 rfl) ?_
  refine lv_aload_n hx hb dJx4a65c_remove_915e3_19 rfl (lv_at hl 1 rfl) ?_
  refine lv_iload_n hx hb dJx4a65c_remove_915e3_20 rfl (lv_at hl 3 rfl) ?_
  have B := bd_swap (a := [(al, .inr (12, [.int (iI mc), .ref ed, .int (iI n)])), (ed, .inl (k 4, cap, .inr (.inr (.inr (.inr (fun i9 : Nat => g i9))))))]) (b := []) (d := tl) (bd_to rfl B)
  refine k_V (rest := []) (wc := ([(al, .inr (12, [.int (iI mc), .ref ed, .int (iI n)])), (ed, .inl (k 4, cap, .inr (.inr (.inr (.inr (fun i9 : Nat => g i9))))))] ++ tl)) (wr := []) (k_fastRemove l dC dI k al ed cap mc n ci rc g tl i hc hca hel h1) B mV_Jx4a65c_fastRemove_b59b0 mw_1116 hl (q0 := 0) rfl rfl rfl ⟨Nat.le_of_ble_eq_true rfl, Nat.le_of_ble_eq_true rfl⟩ (Nat.le_of_ble_eq_true rfl) rfl dJx4a65c_remove_915e3_21 ⟨by dsimp only; omega, by dsimp only; omega⟩ (fun r w gc gs H locs hp B => ?_)
  obtain ⟨rfl, hw9, rfl, rfl⟩ := hp
  rw [hw9] at B; clear hw9
  have B := bd_to (ws' := ([(al, .inr (12, [.int (iI (mc + 1)), .ref ed, .int (iI (n - 1))])), (ed, .inl (k 4, cap, .inr (.inr (.inr (.inr (fun i9 : Nat => (uz (cpz g g (i + 1) i ((n - 1) - i)) (n - 1) none) i9))))))] ++ tl)) rfl B
  refine lv_aload_n hx hb dJx4a65c_remove_915e3_24 rfl (lv_at hl 0 rfl) ?_
  exact k_aret B hr (⟨rfl, rfl, rfl, rfl⟩) ⟨(by first | omega | (dsimp only; omega)), (by first | omega | (dsimp only; omega))⟩ ⟨(by first | omega | (dsimp only; omega)), (by first | omega | (dsimp only; omega))⟩ dJx4a65c_remove_915e3_25

end
