section
section CASTI
variable {p : Program} {l : Launch} {e : Env} {R : Room} {s : State} {m : MethodId} {args : Array Value} {below : List Frame} {meth : Method} {c : Code} {H : Heap} {locs : List Loc} {cells slots : Nat} {Q : State → Prop}
variable {dC : Nat → ClassId} {dI : Nat → Nat → Nat} {k : Nat → ClassId} {A : Nat → Prop} {cc : ByteArray} {nL : Nat} {own : String} {ws : va_W} {pc : Nat} {ls : Array Slot} {rest : List Value}
theorem x_castI {a n q0 index : Nat} {f : Int → Int} (B : bd p s m args meth c cc nL own dC dI k A ws H locs) (ha : ws[q0]? = some (a, .inl (k 0, n, .inl (fun i : Nat => iI (f i))))) (hlink : Cond.classLink own index "[I" ∈ gt) (hdg : decode cc pc = .ok (.checkcast index, 3))
    (kk : W p l e R s m args below meth c H locs cells slots Q (F0 m (pc + 3) ls (.ref a :: rest))) : W p l e R s m args below meth c H locs cells slots Q (F0 m pc ls (.ref a :: rest)) := by
  obtain ⟨⟨hx, hb, hml, hown, hts, hlk⟩, hE, hA, hP, hD, hS⟩ := B
  have hra : va_RA s (k 0) .int := (hE.1.2 0 _ rfl).2
  have e9 : ("[" ++ FieldType.int.toString) = "[I" := by decide
  have h3 : s.vm.findClass "[I" = some (k 0) := by rw [← e9]; exact hra
  have h4 : s.vm.assignable (k 0) (k 0) = true := by
    show Vm.assignableAux _ (255 + 1) _ _ = true
    rw [Vm.assignableAux]
    simp only [beq_self_eq_true, Bool.true_or]
  intro T hT X
  obtain ⟨vm', X', st⟩ := X.checkcastYes hx hown (hts _ hlink) (by rw [hT]; exact hP q0 _ ha) rfl h3 h4 (g := F0 m pc ls (.ref a :: rest)) rfl rfl (by rw [hb]; exact hdg)
  obtain ⟨t, a1, b1⟩ := kk (T.setVm vm') hT X'
  exact ⟨t, st t a1, b1⟩
end CASTI

theorem mw_647 : (Jvm.Cond.methodLink "java/util/Arrays" (316 : Nat) ({ cls := "[I", name := "clone", desc := "()Ljava/lang/Object;" } : Jvm.MethodName)) ∈ gt := gt_at 717 (by decide +kernel) (by decide +kernel)
theorem mw_648 : (Jvm.Cond.sameMethod "[I" "java/lang/Object" "clone" "()Ljava/lang/Object;") ∈ gt := gt_at 718 (by decide +kernel) (by decide +kernel)
theorem mw_649 : (Jvm.Cond.native ({ cls := "java/lang/Object", name := "clone", desc := "()Ljava/lang/Object;" } : Jvm.MethodName)) ∈ gt := gt_at 719 (by decide +kernel) (by decide +kernel)
theorem mw_650 : (Jvm.Cond.instanceMethod ({ cls := "java/lang/Object", name := "clone", desc := "()Ljava/lang/Object;" } : Jvm.MethodName)) ∈ gt := gt_at 720 (by decide +kernel) (by decide +kernel)
theorem mw_651 : (Jvm.Cond.selects "[I" ({ cls := "[I", name := "clone", desc := "()Ljava/lang/Object;" } : Jvm.MethodName) ({ cls := "java/lang/Object", name := "clone", desc := "()Ljava/lang/Object;" } : Jvm.MethodName)) ∈ gt := gt_at 721 (by decide +kernel) (by decide +kernel)
theorem mw_653 : (Jvm.Cond.classLink "java/util/Arrays" (317 : Nat) "[I") ∈ gt := gt_at 723 (by decide +kernel) (by decide +kernel)
theorem dJ7_copyOf_59c91_6 : decode cJ7_copyOf_59c91 6 = .ok (.aload_n 0, 1) := by decide +kernel
theorem dJ7_copyOf_59c91_7 : decode cJ7_copyOf_59c91 7 = .ok (.invokevirtual 316, 3) := by decide +kernel
theorem dJ7_copyOf_59c91_10 : decode cJ7_copyOf_59c91 10 = .ok (.checkcast 317, 3) := by decide +kernel
theorem dJ7_copyOf_59c91_13 : decode cJ7_copyOf_59c91 13 = .ok (.areturn, 1) := by decide +kernel
set_option maxHeartbeats 4000000 in
set_option maxRecDepth 100000 in
theorem k_copyIs (l : Launch) (dC : Nat → ClassId) (dI : Nat → Nat → Nat) (k : Nat → ClassId) (ca : Nat) (nn : Nat) (fc : Int → Int) (h1 : 0 < nn ∧ nn < 1000000) : Kn l dC dI k yJ7_copyOf_59c91 (.code yJ7_copyOf_59c91 cJ7_copyOf_59c91 3 (some (.array .int))) ({ frames := 1, cells := 1, slots := nn, locals := 14 } : Room) [.ref ca, .int (iI (nn : Int))] [(ca, .inl (k 0, nn, .inl (fun i9 : Nat => iI (fc i9))))] (fun r w gc gs => (∃ (cq : Nat), r = some (.ref cq) ∧ w = [(ca, .inl (k 0, nn, .inl (fun i9 : Nat => iI (fc i9)))), (cq, .inl (k 0, nn, .inl (fun i9 : Nat => iI (fc i9))))] ∧ gc = 1 ∧ gs = (0 + nn))) := by
  refine kn_of (by decide) (Nat.le_of_ble_eq_true rfl) ?_
  intro p e s m args below meth c H locs B hr hnm ls hl
  have hx := B.1.1
  have hb := B.1.2.1
  have hl : lv_has ls 3 [(0, .ref ca), (1, .int (iI (nn : Int)))] := hl
  refine lv_iload_n hx hb dJ7_copyOf_59c91_0 rfl (lv_at hl 1 rfl) ?_
  refine lv_aload_n hx hb dJ7_copyOf_59c91_1 rfl (lv_at hl 0 rfl) ?_
  refine x_alen' B 0 0 rfl rfl dJ7_copyOf_59c91_2 ?_
  refine lv_icmp_ne (tgt := 14) hx hb dJ7_copyOf_59c91_3 (by decide) (fun c_1 => ?_) (fun c_1 => ?_)
  · have zc_1 : (nn : Int) ≠ (nn : Int) := jne (a := (nn : Int)) (b := (nn : Int)) (by omega) (by omega) c_1
    exfalso; omega
  · have zc_1 : (nn : Int) = (nn : Int) := jeq (a := (nn : Int)) (b := (nn : Int)) (by omega) (by omega) c_1
    refine lv_aload_n hx hb dJ7_copyOf_59c91_6 rfl (lv_at hl 0 rfl) ?_
    refine x_clone (f := fc) B hl mw_647 mw_648 mw_649 mw_650 mw_651 0 rfl (Nat.le_of_ble_eq_true rfl) (Nat.le_of_ble_eq_true rfl) (by first | omega | (dsimp only; omega)) (by first | omega | (dsimp only; omega)) dJ7_copyOf_59c91_7 (fun q_2 H B => ?_)
    have B := bd_to (ws' := [(ca, .inl (k 0, nn, .inl (fun i9 : Nat => iI (fc i9)))), (q_2, .inl (k 0, nn, .inl (fun i9 : Nat => iI (fc i9))))]) rfl B
    refine x_castI (f := fc) (q0 := 1) B rfl mw_653 dJ7_copyOf_59c91_10 ?_
    exact k_aretA B hr (⟨q_2, rfl, rfl, rfl, rfl⟩) ⟨(by first | omega | (dsimp only; omega)), (by first | omega | (dsimp only; omega))⟩ ⟨(by first | omega | (dsimp only; omega)), (by first | omega | (dsimp only; omega))⟩ dJ7_copyOf_59c91_13

theorem mw_41 : (Jvm.Cond.instanceMethod ({ cls := "java/lang/Object", name := "<init>", desc := "()V" } : Jvm.MethodName)) ∈ gt := gt_at 111 (by decide +kernel) (by decide +kernel)
theorem mw_819 : (Jvm.Cond.methodLink "Galleyforge$Word" (3 : Nat) ({ cls := "java/lang/Object", name := "<init>", desc := "()V" } : Jvm.MethodName)) ∈ gt := gt_at 889 (by decide +kernel) (by decide +kernel)
theorem mw_820 : (Jvm.Cond.fieldLink "Galleyforge$Word" (9 : Nat) "Galleyforge$Word" "letters" "[I") ∈ gt := gt_at 890 (by decide +kernel) (by decide +kernel)
theorem mw_824 : (Jvm.Cond.fieldLink "Galleyforge$Word" (15 : Nat) "Galleyforge$Word" "label" "I") ∈ gt := gt_at 894 (by decide +kernel) (by decide +kernel)
theorem dX10_init_0 : decode cX10_init 0 = .ok (.aload_n 0, 1) := by decide +kernel
theorem dX10_init_1 : decode cX10_init 1 = .ok (.invokespecial 3, 3) := by decide +kernel
theorem dX10_init_4 : decode cX10_init 4 = .ok (.aload_n 0, 1) := by decide +kernel
theorem dX10_init_5 : decode cX10_init 5 = .ok (.aload_n 1, 1) := by decide +kernel
theorem dX10_init_6 : decode cX10_init 6 = .ok (.putfield 9, 3) := by decide +kernel
theorem dX10_init_9 : decode cX10_init 9 = .ok (.aload_n 0, 1) := by decide +kernel
theorem dX10_init_10 : decode cX10_init 10 = .ok (.iload_n 2, 1) := by decide +kernel
theorem dX10_init_11 : decode cX10_init 11 = .ok (.putfield 15, 3) := by decide +kernel
theorem dX10_init_14 : decode cX10_init 14 = .ok (.aload_n 0, 1) := by decide +kernel
theorem dX10_init_15 : decode cX10_init 15 = .ok (.aload_n 3, 1) := by decide +kernel
theorem dX10_init_16 : decode cX10_init 16 = .ok (.putfield 19, 3) := by decide +kernel
theorem dX10_init_19 : decode cX10_init 19 = .ok (.return_, 1) := by decide +kernel
set_option maxHeartbeats 4000000 in
set_option maxRecDepth 100000 in
theorem k_wordInit (l : Launch) (dC : Nat → ClassId) (dI : Nat → Nat → Nat) (k : Nat → ClassId) (wo : Nat) (le_ : Nat) (ma : Nat) (lb : Int) : Kn l dC dI k yX10_init (.code yX10_init cX10_init 4 none) ({ frames := 1, cells := 0, slots := 0, locals := 12 } : Room) [.ref wo, .ref le_, .int (iI lb), .ref ma] [(wo, .inr (10, [.null, .int (iI 0), .null, .int (iI 0)]))] (fun r w gc gs => (r = none ∧ w = [(wo, .inr (10, [.ref le_, .int (iI lb), .ref ma, .int (iI 0)]))] ∧ gc = 0 ∧ gs = 0)) := by
  refine kn_of (by decide) (Nat.le_of_ble_eq_true rfl) ?_
  intro p e s m args below meth c H locs B hr hnm ls hl
  have hx := B.1.1
  have hb := B.1.2.1
  have hl : lv_has ls 4 [(0, .ref wo), (1, .ref le_), (2, .int (iI lb)), (3, .ref ma)] := hl
  refine lv_aload_n hx hb dX10_init_0 rfl (lv_at hl 0 rfl) ?_
  refine x_obj B mw_819 mw_41 mw_obj hl dX10_init_1 (Nat.le_of_ble_eq_true rfl) (Nat.le_of_ble_eq_true rfl) ?_
  refine lv_aload_n hx hb dX10_init_4 rfl (lv_at hl 0 rfl) ?_
  refine lv_aload_n hx hb dX10_init_5 rfl (lv_at hl 1 rfl) ?_
  refine x_putF (ci := 10) (C := RX10) (T := TX10) (N := 4) (ty := .array .int) (v := .ref le_) B tyX10_ok nmX10 0 rfl rfl in_X10 0 (by decide) mw_820 (fun _ h9 => h9) rfl hnm rfl (by decide +kernel) rfl rfl (Nat.le_of_ble_eq_true rfl) dX10_init_6 (fun H locs B => ?_)
  have B := bd_to (ws' := [(wo, .inr (10, [.ref le_, .int (iI 0), .null, .int (iI 0)]))]) rfl B
  refine lv_aload_n hx hb dX10_init_9 rfl (lv_at hl 0 rfl) ?_
  refine lv_iload_n hx hb dX10_init_10 rfl (lv_at hl 2 rfl) ?_
  refine x_putF (ci := 10) (C := RX10) (T := TX10) (N := 4) (ty := .int) (v := .int (iI lb)) B tyX10_ok nmX10 0 rfl rfl in_X10 1 (by decide) mw_824 (fun _ h9 => h9) rfl hnm rfl (by decide +kernel) rfl rfl (Nat.le_of_ble_eq_true rfl) dX10_init_11 (fun H locs B => ?_)
  have B := bd_to (ws' := [(wo, .inr (10, [.ref le_, .int (iI lb), .null, .int (iI 0)]))]) rfl B
  refine lv_aload_n hx hb dX10_init_14 rfl (lv_at hl 0 rfl) ?_
  refine lv_aload_n hx hb dX10_init_15 rfl (lv_at hl 3 rfl) ?_
  refine x_putF (ci := 10) (C := RX10) (T := TX10) (N := 4) (ty := .array .int) (v := .ref ma) B tyX10_ok nmX10 0 rfl rfl in_X10 2 (by decide) mw_826 (fun _ h9 => h9) rfl hnm rfl (by decide +kernel) rfl rfl (Nat.le_of_ble_eq_true rfl) dX10_init_16 (fun H locs B => ?_)
  have B := bd_to (ws' := [(wo, .inr (10, [.ref le_, .int (iI lb), .ref ma, .int (iI 0)]))]) rfl B
  exact k_vret B hr (⟨rfl, rfl, rfl, rfl⟩) ⟨Nat.le_of_ble_eq_true rfl, Nat.le_of_ble_eq_true rfl⟩ ⟨Nat.le_of_ble_eq_true rfl, Nat.le_of_ble_eq_true rfl⟩ dX10_init_19

end
