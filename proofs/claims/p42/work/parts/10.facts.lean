section
theorem mw_16 : (Jvm.Cond.initialized "java/lang/IndexOutOfBoundsException") ∈ gt := gt_at 86 (by decide +kernel) (by decide +kernel)
theorem mw_17 : (Jvm.Cond.initialized "java/lang/IllegalArgumentException") ∈ gt := gt_at 87 (by decide +kernel) (by decide +kernel)
theorem mw_18 : (Jvm.Cond.initialized "java/lang/IllegalStateException") ∈ gt := gt_at 88 (by decide +kernel) (by decide +kernel)
theorem mw_42 : (Jvm.Cond.code ({ cls := "java/lang/Object", name := "<init>", desc := "()V" } : Jvm.MethodName) object_method_1_code (1 : Nat) (Option.none : Option Jvm.ClassFile.FieldType)) ∈ gt := gt_at 112 (by decide +kernel) (by decide +kernel)
theorem mw_67 : (Jvm.Cond.sameField "java/util/ArrayList" "java/util/AbstractList" "modCount" "I") ∈ gt := gt_at 137 (by decide +kernel) (by decide +kernel)
theorem mw_509 : (Jvm.Cond.classLink "Galleyforge" (47 : Nat) "java/lang/IndexOutOfBoundsException") ∈ gt := gt_at 579 (by decide +kernel) (by decide +kernel)
theorem mw_577 : (Jvm.Cond.classLink "Galleyforge" (58 : Nat) "java/lang/IllegalStateException") ∈ gt := gt_at 647 (by decide +kernel) (by decide +kernel)
theorem mw_611 : (Jvm.Cond.classLink "Galleyforge" (72 : Nat) "java/lang/IllegalArgumentException") ∈ gt := gt_at 681 (by decide +kernel) (by decide +kernel)
theorem mw_obj : Cond.code objectInit ⟨#[0xb1]⟩ 1 none ∈ gt := mw_42
theorem xE_ioobe : exE "java/lang/IndexOutOfBoundsException" 47 51 := ⟨by decide +kernel, mw_509, mw_16, fun w hw => (by decide +kernel : ∀ w ∈ vx_atS RX11 51 "java/lang/IndexOutOfBoundsException" ["java/lang/RuntimeException", "java/lang/Exception"], goodWord w = true ∨ w = .castable "java/lang/IndexOutOfBoundsException" "java/lang/IndexOutOfBoundsException" ∨ ∃ x ∈ decls, w = .declares x) w hw |>.elim (fun g => Or.inl (gt_in ((by decide +kernel : ∀ w ∈ vx_atS RX11 51 "java/lang/IndexOutOfBoundsException" ["java/lang/RuntimeException", "java/lang/Exception"], w ∈ lw_tbl) w hw) g)) (fun h => Or.inr h), by decide +kernel⟩
theorem xE_ise : exE "java/lang/IllegalStateException" 58 62 := ⟨by decide +kernel, mw_577, mw_18, fun w hw => (by decide +kernel : ∀ w ∈ vx_atS RX11 62 "java/lang/IllegalStateException" ["java/lang/RuntimeException", "java/lang/Exception"], goodWord w = true ∨ w = .castable "java/lang/IllegalStateException" "java/lang/IllegalStateException" ∨ ∃ x ∈ decls, w = .declares x) w hw |>.elim (fun g => Or.inl (gt_in ((by decide +kernel : ∀ w ∈ vx_atS RX11 62 "java/lang/IllegalStateException" ["java/lang/RuntimeException", "java/lang/Exception"], w ∈ lw_tbl) w hw) g)) (fun h => Or.inr h), by decide +kernel⟩
theorem xE_iae : exE "java/lang/IllegalArgumentException" 72 76 := ⟨by decide +kernel, mw_611, mw_17, fun w hw => (by decide +kernel : ∀ w ∈ vx_atS RX11 76 "java/lang/IllegalArgumentException" ["java/lang/RuntimeException", "java/lang/Exception"], goodWord w = true ∨ w = .castable "java/lang/IllegalArgumentException" "java/lang/IllegalArgumentException" ∨ ∃ x ∈ decls, w = .declares x) w hw |>.elim (fun g => Or.inl (gt_in ((by decide +kernel : ∀ w ∈ vx_atS RX11 76 "java/lang/IllegalArgumentException" ["java/lang/RuntimeException", "java/lang/Exception"], w ∈ lw_tbl) w hw) g)) (fun h => Or.inr h), by decide +kernel⟩

theorem x_same_modCount {p : Program} {s : State} {m : MethodId} {args : Array Value} {meth : Method} {c : Code} {cc : ByteArray} {nL : Nat} {own : String} {dC : Nat → ClassId} {dI : Nat → Nat → Nat} {k : Nat → ClassId} {A : Nat → Prop} {ws : va_W} {H : Heap} {locs : List Loc} (B : bd p s m args meth c cc nL own dC dI k A ws H locs) : ∀ x, s.fieldFound? (TJx4a65c 0).1 (TJx4a65c 0).2.1 (TJx4a65c 0).2.2.1 = some x → s.fieldFound? "java/util/ArrayList" (TJx4a65c 0).2.1 (TJx4a65c 0).2.2.1 = some x := fun x h => u_same (B.1.2.2.2.2.1 _ mw_67) x h
theorem pk_at {hs tl : va_W} {c : Nat × va_E} (h : c ∈ tl) : ∃ k : Nat, (hs ++ tl)[k]? = some c := List.mem_iff_getElem?.mp (List.mem_append_right _ h)
theorem aldz {f : Int → Option Nat} {z : Int} (h : 0 ≤ z ∧ z < 2147483648) : f (((iI z).toNatClampNeg : Nat) : Int) = f z := by
  rw [iI_clz h, show ((z.toNat : Nat) : Int) = z by omega]
theorem nar_b {z : Int} (h : z = 0 ∨ z = 1) : narrow .boolean (.int (iI z)) = .int (iI z) := by rcases h with rfl | rfl <;> decide
theorem fit_b {z : Int} (h : z = 0 ∨ z = 1) : fits .boolean (.int (iI z)) = true := by rcases h with rfl | rfl <;> decide
theorem LWz_in (i : Int) : 2 ≤ LWz i ∧ LWz i ≤ 6 := by
  unfold LWz
  (repeat' split) <;> omega
theorem div_in {a b : Int} (ha : 0 ≤ a) (hb : 0 < b) : 0 ≤ a / b ∧ a / b ≤ a := ⟨Int.ediv_nonneg ha (Int.le_of_lt hb), Int.ediv_le_self _ ha⟩

end
