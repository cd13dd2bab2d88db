/-! the words that every method takes: the good ones of the tables -/
section BASE1
theorem gi_gt {Ts : List Cond} (hG : ∀ w ∈ gt, w ∈ Ts) : GoodIn Ts gt := fun w h => ⟨hG w h, good_of_word (List.mem_filter.mp h).2⟩
theorem gi_c {c : Cond} (h : c ∈ gt) : GoodIn gt (c :: gt) := fun w hw => (List.mem_cons.mp hw).elim (fun e => by rw [e]; exact gi_gt (fun _ h => h) c h) (fun h => gi_gt (fun _ h => h) w h)
theorem gi_V {c1 c2 c3 c4 c5 : Cond} (h1 : c1 ∈ gt) (h2 : c2 ∈ gt) (h3 : c3 ∈ gt) (h4 : c4 ∈ gt) (h5 : c5 ∈ gt) : GoodIn gt ([c1, c2, c3, c4] ++ (c5 :: gt)) := fun w hw => by
  rcases List.mem_append.mp hw with h | h
  · rcases List.mem_cons.mp h with rfl | h
    · exact gi_gt (fun _ h => h) _ h1
    rcases List.mem_cons.mp h with rfl | h
    · exact gi_gt (fun _ h => h) _ h2
    rcases List.mem_cons.mp h with rfl | h
    · exact gi_gt (fun _ h => h) _ h3
    rcases List.mem_cons.mp h with rfl | h
    · exact gi_gt (fun _ h => h) _ h4
    cases h
  · exact gi_c h5 w h
theorem gi_S {c1 c2 c3 c5 : Cond} (h1 : c1 ∈ gt) (h2 : c2 ∈ gt) (h3 : c3 ∈ gt) (h5 : c5 ∈ gt) : GoodIn gt ([c1, c2, c3] ++ (c5 :: gt)) := fun w hw => by
  rcases List.mem_append.mp hw with h | h
  · rcases List.mem_cons.mp h with rfl | h
    · exact gi_gt (fun _ h => h) _ h1
    rcases List.mem_cons.mp h with rfl | h
    · exact gi_gt (fun _ h => h) _ h2
    rcases List.mem_cons.mp h with rfl | h
    · exact gi_gt (fun _ h => h) _ h3
    cases h
  · exact gi_c h5 w h
abbrev classes : List vw_C := [(RX0, TX0, 4), (RX1, TX1, 17), (RX2, TX2, 13), (RX3, TX3, 15), (RX4, TX4, 12), (RX5, TX5, 3), (RX6, TX6, 18), (RX7, TX7, 8), (RX8, TX8, 7), (RX9, TX9, 8), (RX10, TX10, 4), (RX11, TX11, 5), (RJx4a65c, TJx4a65c, 3)]
abbrev ty5 (k : Nat → ClassId) : List (ClassId × FieldType) := [(k 0, .int), (k 1, .boolean), (k 2, .long), (k 3, .object "Galleyforge$Layout"), (k 4, .object "java/lang/Object")]
/-- the texts of the class's exceptions; links of nest mates; what can be cast -/
def strs : List (Nat × String) := [(49, "no such letter"), (60, "six letters are spelled"), (63, "no such thing to draft"), (74, "not a value for this"), (77, "gap or level out of range"), (79, "no text for a pattern"), (91, "eight patterns are there"), (405, "no such block"), (398, "no such place in the block"), (403, "no room for a word"), (121, "nothing is spelled"), (390, "no such label"), (396, "no such word"), (156, "no such place"), (158, "no such kind"), (160, "sixteen blocks are there"), (171, "no such style"), (179, "not a value for this style"), (184, "no such cell"), (186, "width out of range"), (192, "no table"), (203, "kind or height out of range"), (208, "five figures are there"), (216, "width or height out of range"), (392, "no such term"), (227, "key out of range"), (388, "no such variant"), (266, "no such column"), (274, "no such row"), (413, "no such line"), (394, "no such page"), (339, "nothing that a page has"), (364, "no such figure"), (375, "no such heading"), (381, "not so many terms"), (386, "no such range")]
def nML : List (String × Nat × MethodName × String) := [("Galleyforge", 11, ⟨"Galleyforge$Text", "<init>", "()V"⟩, "Galleyforge"), ("Galleyforge", 18, ⟨"Galleyforge$Lines", "<init>", "()V"⟩, "Galleyforge"), ("Galleyforge", 21, ⟨"Galleyforge$States", "<init>", "()V"⟩, "Galleyforge"), ("Galleyforge$Layout", 56, ⟨"Galleyforge$Rows", "<init>", "()V"⟩, "Galleyforge"), ("Galleyforge$Block", 28, ⟨"Galleyforge$Table", "<init>", "()V"⟩, "Galleyforge")]
def nCS : List (String × String) := [("[I", "java/lang/Cloneable"), ("Galleyforge$Block", "java/lang/Object"), ("Galleyforge$Word", "java/lang/Object"), ("Galleyforge$Pattern", "java/lang/Object")]
/-- a class's objects are of that class; the three exceptions of the class -/
def ca (E : String) (U : State) : Prop := ∃ c : ClassId, U.vm.findClass E = some c ∧ U.vm.assignable c c = true
theorem ca.moved {E : String} {u U : State} (hvm : u.vm.Alike U.vm) (h : ca E u) : ca E U := by
  obtain ⟨c, h1, h2⟩ := h
  exact ⟨c, by rw [hvm.findClass]; exact h1, by rw [hvm.assignable]; exact h2⟩
theorem ca.of {E : String} {args : Array Value} {s : State} (h : (Cond.castable E E).before args s = true) : ca E s := by
  obtain ⟨c3, c4, h3, h4, h5⟩ := Cond.castable_spec h
  cases Option.some.inj (h3.symm.trans h4)
  exact ⟨c3, h3, h5⟩
theorem ca.use {E : String} {args : Array Value} {s : State} (h : ca E s) : (Cond.castable E E).before args s = true := by
  obtain ⟨c, h1, h2⟩ := h
  simp [Cond.before, Cond.holds, Cond.value, h1, h2]
def decls : List MethodName := [⟨"java/lang/RuntimeException", "<init>", "()V"⟩, ⟨"java/lang/RuntimeException", "<init>", "(Ljava/lang/String;)V"⟩, ⟨"java/lang/Exception", "<init>", "()V"⟩, ⟨"java/lang/Exception", "<init>", "(Ljava/lang/String;)V"⟩, ⟨"java/lang/Throwable", "<init>", "()V"⟩, ⟨"java/lang/Throwable", "<init>", "(Ljava/lang/String;)V"⟩]
def nIO : String := "java/lang/IndexOutOfBoundsException"
def nIS : String := "java/lang/IllegalStateException"
def nIA : String := "java/lang/IllegalArgumentException"
def LWz (i : Int) : Int := if i = 0 then 2 else if i = 1 then 3 else if i = 2 then 4 else 6
/-- a static array of length n -/
def la (ty : FieldType) (n : Int32) (q : Nat) (A : Nat → Prop) (U : State) (H : Heap) : Prop := ∃ cell : Cell, H[q]? = some cell ∧ U.isArrayOf cell ty ∧ cell.vm ≠ .unknown ∧ cell.slots.size.toInt32 = n ∧ ¬ A q
/-- the environment: what the tables say of classes and arrays, links of nest mates, texts, statics -/
def en (dC : Nat → ClassId) (dI : Nat → Nat → Nat) (k : Nat → ClassId) (A : Nat → Prop) (U : State) (H : Heap) : Prop :=
  va_K (dC, dI) classes (ty5 k) U ∧ ((∀ q ∈ nML, va_Nw (.methodLinkNest q.1 q.2.1 q.2.2.1 q.2.2.2) U) ∧ (∀ q ∈ nCS, va_Nw (.castable q.1 q.2) U) ∧ va_Nw (.fieldLinkNest RX2 104 RX11 "LETTER_WIDTHS" "[I" RX11) U ∧ va_AO RX1 U ∧ va_AO "java/lang/Object" U) ∧
  (∀ q ∈ strs, ∃ sa : Nat, vk_R RX11 q.1 q.2 sa U) ∧
  (vx_Zq Bundle.tN "UNASSIGNED_STACK" Bundle.steD A U H ∧ vx_Zq Bundle.tN "SUPPRESSED_SENTINEL" Bundle.listD A U H) ∧
  (∃ lw : Nat, va_Z RX11 "LETTER_WIDTHS" "[I" (.ref lw) A U H ∧ va_T .int lw 4 (fun j => .int (iI (LWz j))) A U H) ∧
  (va_Z RJx4a65c "DEFAULTCAPACITY_EMPTY_ELEMENTDATA" "[Ljava/lang/Object;" (.ref (dI 99 1)) A U H ∧ va_T (.object "java/lang/Object") (dI 99 1) 0 (fun _ => .null) A U H) ∧
  (((∀ E ∈ [nIO, nIS, nIA], ca E U) ∧ (∀ x ∈ decls, va_Nw (.declares x) U)) ∧ va_Nc nIS nIO U ∧ va_Nc nIA nIO U ∧ va_Nc nIS nIA U) ∧
  (∃ mi : Nat, va_Mi "[Ljava/lang/Object;" mi U) ∧ va_Dc U
section
variable {dC : Nat → ClassId} {dI : Nat → Nat → Nat} {k : Nat → ClassId} {A B : Nat → Prop} {H H1 : Heap} {u s U : State}
theorem en.kept (h : en dC dI k A U H) (hq : ∀ a : Nat, a < H.size → ¬ A a → H1[a]? = H[a]?) : en dC dI k A U H1 := by
  obtain ⟨h1, h2, h3, ⟨h4, h5⟩, ⟨lw, h6, h7⟩, ⟨h9, h10⟩, h11, h12⟩ := h
  exact ⟨h1, h2, h3, ⟨h4.kept hq, h5.kept hq⟩, ⟨lw, h6.kept hq, h7.kept hq⟩, ⟨h9.kept hq, h10.kept hq⟩, h11, h12⟩
theorem en.narrow (h : en dC dI k A U H) (hAB : ∀ q, B q → A q) : en dC dI k B U H := by
  obtain ⟨h1, h2, h3, ⟨h4, h5⟩, ⟨lw, h6, h7⟩, ⟨h9, h10⟩, h11, h12⟩ := h
  exact ⟨h1, h2, h3, ⟨h4.narrow hAB, h5.narrow hAB⟩, ⟨lw, h6.narrow hAB, h7.narrow hAB⟩, ⟨h9.narrow hAB, h10.narrow hAB⟩, h11, h12⟩
theorem en.warm (hW : s.WarmedH U.vm) (h : en dC dI k A s H) : en dC dI k A U H := by
  obtain ⟨h1, ⟨n1, n2, n3, n7, n8⟩, h3, ⟨h4, h5⟩, ⟨lw, h6, h7⟩, ⟨h9, h10⟩, ⟨h11, g1, g2, g3⟩, ⟨mi, g4⟩, g5⟩ := h
  have a := hW.alike
  exact ⟨va_K.moved a h1, ⟨fun q hq => va_Nw.warmM hW (n1 q hq), fun q hq => va_Nw.warmC hW (n2 q hq), va_Nw.warmF hW n3, va_AO.moved a n7, va_AO.moved a n8⟩, fun q hq => by obtain ⟨sa, h⟩ := h3 q hq; exact ⟨sa, vk_R.warm hW h⟩, ⟨h4.moved a, h5.moved a⟩, ⟨lw, h6.moved a, h7.moved a⟩, ⟨h9.moved a, h10.moved a⟩, ⟨⟨fun E hE => (h11.1 E hE).moved a, fun x hx => va_Nw.warmD hW (h11.2 x hx)⟩, g1.moved a, g2.moved a, g3.moved a⟩, ⟨mi, g4.moved a⟩, g5.moved a⟩
theorem en.same (hv : U.vm = u.vm) (h : en dC dI k A u H) : en dC dI k A U H := by
  obtain ⟨h1, ⟨n1, n2, n3, n7, n8⟩, h3, ⟨h4, h5⟩, ⟨lw, h6, h7⟩, ⟨h9, h10⟩, ⟨h11, g1, g2, g3⟩, ⟨mi, g4⟩, g5⟩ := h
  have a : u.vm.Alike U.vm := by rw [hv]; exact Vm.Alike.refl _
  exact ⟨va_K.moved a h1, ⟨fun q hq => va_Nw.same rfl hv.symm (n1 q hq), fun q hq => va_Nw.same rfl hv.symm (n2 q hq), va_Nw.same rfl hv.symm n3, va_AO.moved a n7, va_AO.moved a n8⟩, fun q hq => by obtain ⟨sa, h⟩ := h3 q hq; exact ⟨sa, vk_R.same hv h⟩, ⟨h4.moved a, h5.moved a⟩, ⟨lw, h6.moved a, h7.moved a⟩, ⟨h9.moved a, h10.moved a⟩, ⟨⟨fun E hE => (h11.1 E hE).moved a, fun x hx => va_Nw.same rfl hv.symm (h11.2 x hx)⟩, g1.moved a, g2.moved a, g3.moved a⟩, ⟨mi, g4.moved a⟩, g5.moved a⟩
end
end BASE1
