section
theorem LI_n {dI : Nat → Nat → Nat} {k : Nat → ClassId} {tl : va_W} {w0 e0 : Nat} {n : Int} {el : Int → Nat} (h : LI dI k tl w0 e0 n el) : 0 ≤ n ∧ n ≤ 16 := ⟨h.1, h.2.1⟩
theorem K_get (l : Launch) (dC : Nat → ClassId) (dI : Nat → Nat → Nat) (k : Nat → ClassId) {tl : va_W} {w0 e0 : Nat} {n i : Int} {el : Int → Nat} {rm : Room} (h : LI dI k tl w0 e0 n el) (hi : 0 ≤ i ∧ i < n)
    (K : ∀ (al ed cap v : Nat) (mc n i : Int) (g : Int → Option Nat) (tl : va_W) (_ : ((al, .inr (12, [.int (iI mc), .ref ed, .int (iI n)])) : Nat × va_E) ∈ tl) (_ : ((ed, .inl (k 4, cap, .inr (.inr (.inr (.inr (fun i9 : Nat => g i9)))))) : Nat × va_E) ∈ tl) (_ : 0 ≤ i ∧ i < n ∧ n ≤ cap ∧ cap ≤ 40) (_ : g i = some v), Kn l dC dI k yJx4a65c_get_915e3 (.code yJx4a65c_get_915e3 cJx4a65c_get_915e3 2 (some (.object "java/lang/Object"))) rm [.ref al, .int (iI i)] ([] ++ tl) (fun r w gc gs => ((r = some (.ref v) ∧ w = ([] ++ tl) ∧ gc = 0 ∧ gs = 0)))) :
    Kn l dC dI k yJx4a65c_get_915e3 (.code yJx4a65c_get_915e3 cJx4a65c_get_915e3 2 (some (.object "java/lang/Object"))) rm [.ref w0, .int (iI i)] ([] ++ tl) (fun r w gc gs => ((r = some (.ref (el i)) ∧ w = ([] ++ tl) ∧ gc = 0 ∧ gs = 0))) := by
  obtain ⟨h1, h2, mc, h3, ⟨h4, -⟩ | ⟨cap, g, h4, h5, h6, h7⟩⟩ := h
  · omega
  · exact K w0 e0 cap (el i) mc n i g tl h3 h4 ⟨hi.1, hi.2, h5, h6⟩ (h7 i hi.1 hi.2)
theorem K_size (l : Launch) (dC : Nat → ClassId) (dI : Nat → Nat → Nat) (k : Nat → ClassId) {tl : va_W} {w0 e0 : Nat} {n : Int} {el : Int → Nat} {rm : Room} (h : LI dI k tl w0 e0 n el)
    (K : ∀ (al ed : Nat) (mc n : Int) (tl : va_W) (_ : ((al, .inr (12, [.int (iI mc), .ref ed, .int (iI n)])) : Nat × va_E) ∈ tl), Kn l dC dI k yJx4a65c_size_8abf5 (.code yJx4a65c_size_8abf5 cJx4a65c_size_8abf5 1 (some .int)) rm [.ref al] ([] ++ tl) (fun r w gc gs => ((r = some (.int (iI n)) ∧ w = ([] ++ tl) ∧ gc = 0 ∧ gs = 0)))) :
    Kn l dC dI k yJx4a65c_size_8abf5 (.code yJx4a65c_size_8abf5 cJx4a65c_size_8abf5 1 (some .int)) rm [.ref w0] ([] ++ tl) (fun r w gc gs => ((r = some (.int (iI n)) ∧ w = ([] ++ tl) ∧ gc = 0 ∧ gs = 0))) := by
  obtain ⟨h1, h2, mc, h3, -⟩ := h
  exact K w0 e0 mc n tl h3

theorem kn_mono {l : Launch} {dC : Nat → ClassId} {dI : Nat → Nat → Nat} {k : Nat → ClassId} {y : MethodName} {c0 : Cond} {rm : Room} {av : List Value} {ws : va_W} {post post' : Option Value → va_W → Nat → Nat → Prop} (h : Kn l dC dI k y c0 rm av ws post) (hi : ∀ r w gc gs, post r w gc gs → post' r w gc gs) : Kn l dC dI k y c0 rm av ws post' := by
  intro sz
  refine MetFree.mono (h sz) (fun _ _ q => q) (fun _ _ _ _ _ q => q) (fun a st o t _ q => ?_)
  obtain ⟨⟨⟨r, w, gc, gs, h1, h2, h3⟩, h4⟩, h5⟩ := q
  exact ⟨⟨⟨r, w, gc, gs, h1, hi _ _ _ _ h2, h3⟩, h4⟩, h5⟩
theorem kn_and {l : Launch} {dC : Nat → ClassId} {dI : Nat → Nat → Nat} {k : Nat → ClassId} {y : MethodName} {c0 : Cond} {rm : Room} {av : List Value} {ws : va_W} {post : Option Value → va_W → Nat → Nat → Prop} {P : Prop} (h : Kn l dC dI k y c0 rm av ws post) (hP : P) : Kn l dC dI k y c0 rm av ws (fun r w gc gs => P ∧ post r w gc gs) := kn_mono h (fun _ _ _ _ q => ⟨hP, q⟩)

theorem k_getB (l : Launch) (dC : Nat → ClassId) (dI : Nat → Nat → Nat) (k : Nat → ClassId) (T : Nat → Int → Int → Int → Int) (A : Nat → Int → Int → Nat) (X : Nat → Int → Int → Int) (tl : va_W) (i : Int) (hT : TI dI k T A X tl) (hK : TK T) (hi : 0 ≤ i ∧ i < T 0 0 0 0) : Kn l dC dI k yJx4a65c_get_915e3 (.code yJx4a65c_get_915e3 cJx4a65c_get_915e3 2 (some (.object "java/lang/Object"))) ({ frames := 2, cells := 0, slots := 0, locals := 43 } : Room) [.ref (A 51 0 0), .int (iI i)] ([] ++ tl) (fun r w gc gs => (r = some (.ref (A 0 i 0)) ∧ w = ([] ++ tl) ∧ gc = 0 ∧ gs = 0)) := by
  exact K_get l dC dI k hT.2.1 hi (k_get l dC dI k)

theorem k_getW (l : Launch) (dC : Nat → ClassId) (dI : Nat → Nat → Nat) (k : Nat → ClassId) (T : Nat → Int → Int → Int → Int) (A : Nat → Int → Int → Nat) (X : Nat → Int → Int → Int) (tl : va_W) (i : Int) (j : Int) (hT : TI dI k T A X tl) (hK : TK T) (hi : 0 ≤ i ∧ i < T 0 0 0 0) (hj : 0 ≤ j ∧ j < T 3 i 0 0) : Kn l dC dI k yJx4a65c_get_915e3 (.code yJx4a65c_get_915e3 cJx4a65c_get_915e3 2 (some (.object "java/lang/Object"))) ({ frames := 2, cells := 0, slots := 0, locals := 43 } : Room) [.ref (A 2 i 0), .int (iI j)] ([] ++ tl) (fun r w gc gs => (r = some (.ref (A 4 i j)) ∧ w = ([] ++ tl) ∧ gc = 0 ∧ gs = 0)) := by
  exact K_get l dC dI k (hT.2.2.2.1 i hi.1 hi.2).2.2 hj (k_get l dC dI k)

theorem k_getP (l : Launch) (dC : Nat → ClassId) (dI : Nat → Nat → Nat) (k : Nat → ClassId) (T : Nat → Int → Int → Int → Int) (A : Nat → Int → Int → Nat) (X : Nat → Int → Int → Int) (tl : va_W) (i : Int) (hT : TI dI k T A X tl) (hK : TK T) (hi : 0 ≤ i ∧ i < T 18 0 0 0) : Kn l dC dI k yJx4a65c_get_915e3 (.code yJx4a65c_get_915e3 cJx4a65c_get_915e3 2 (some (.object "java/lang/Object"))) ({ frames := 2, cells := 0, slots := 0, locals := 43 } : Room) [.ref (A 52 0 0), .int (iI i)] ([] ++ tl) (fun r w gc gs => (r = some (.ref (A 15 i 0)) ∧ w = ([] ++ tl) ∧ gc = 0 ∧ gs = 0)) := by
  exact K_get l dC dI k hT.2.2.1 hi (k_get l dC dI k)

theorem k_sizeB (l : Launch) (dC : Nat → ClassId) (dI : Nat → Nat → Nat) (k : Nat → ClassId) (T : Nat → Int → Int → Int → Int) (A : Nat → Int → Int → Nat) (X : Nat → Int → Int → Int) (tl : va_W) (hT : TI dI k T A X tl) (hK : TK T) : Kn l dC dI k yJx4a65c_size_8abf5 (.code yJx4a65c_size_8abf5 cJx4a65c_size_8abf5 1 (some .int)) ({ frames := 0, cells := 0, slots := 0, locals := 0 } : Room) [.ref (A 51 0 0)] ([] ++ tl) (fun r w gc gs => ((0 ≤ T 0 0 0 0 ∧ T 0 0 0 0 ≤ 16) ∧ r = some (.int (iI (T 0 0 0 0))) ∧ w = ([] ++ tl) ∧ gc = 0 ∧ gs = 0)) := by
  exact kn_and (K_size l dC dI k hT.2.1 (k_size l dC dI k)) (TK_nb hK)

theorem k_sizeW (l : Launch) (dC : Nat → ClassId) (dI : Nat → Nat → Nat) (k : Nat → ClassId) (T : Nat → Int → Int → Int → Int) (A : Nat → Int → Int → Nat) (X : Nat → Int → Int → Int) (tl : va_W) (i : Int) (hT : TI dI k T A X tl) (hK : TK T) (hi : 0 ≤ i ∧ i < T 0 0 0 0) : Kn l dC dI k yJx4a65c_size_8abf5 (.code yJx4a65c_size_8abf5 cJx4a65c_size_8abf5 1 (some .int)) ({ frames := 0, cells := 0, slots := 0, locals := 0 } : Room) [.ref (A 2 i 0)] ([] ++ tl) (fun r w gc gs => ((0 ≤ T 3 i 0 0 ∧ T 3 i 0 0 ≤ 12) ∧ r = some (.int (iI (T 3 i 0 0))) ∧ w = ([] ++ tl) ∧ gc = 0 ∧ gs = 0)) := by
  exact kn_and (K_size l dC dI k (hT.2.2.2.1 i hi.1 hi.2).2.2 (k_size l dC dI k)) (TK_nw hK i)

theorem k_sizeP (l : Launch) (dC : Nat → ClassId) (dI : Nat → Nat → Nat) (k : Nat → ClassId) (T : Nat → Int → Int → Int → Int) (A : Nat → Int → Int → Nat) (X : Nat → Int → Int → Int) (tl : va_W) (hT : TI dI k T A X tl) (hK : TK T) : Kn l dC dI k yJx4a65c_size_8abf5 (.code yJx4a65c_size_8abf5 cJx4a65c_size_8abf5 1 (some .int)) ({ frames := 0, cells := 0, slots := 0, locals := 0 } : Room) [.ref (A 52 0 0)] ([] ++ tl) (fun r w gc gs => ((0 ≤ T 18 0 0 0 ∧ T 18 0 0 0 ≤ 8) ∧ r = some (.int (iI (T 18 0 0 0))) ∧ w = ([] ++ tl) ∧ gc = 0 ∧ gs = 0)) := by
  exact kn_and (K_size l dC dI k hT.2.2.1 (k_size l dC dI k)) (TK_np hK)

/-- a block, a word is there in a variant -/
abbrev thB (T : Nat → Int → Int → Int → Int) (i v : Int) : Prop := T 2 i 6 0 = -1 ∨ T 2 i 6 0 = v
abbrev thW (T : Nat → Int → Int → Int → Int) (i j v : Int) : Prop := T 7 i j 4 = -1 ∨ T 7 i j 4 = v

theorem mw_1173 : (Jvm.Cond.fieldLink "Galleyforge$Block" (9 : Nat) "Galleyforge$Block" "styles" "[I") ∈ gt := gt_at 1243 (by decide +kernel) (by decide +kernel)
theorem in_X0 : ∀ w ∈ u_ws RX0 TX0 4, w ∈ gt := in_of _ [1258, 1260, 1262, 1264] (by decide +kernel) (by decide +kernel)
theorem dX0_isThere_0 : decode cX0_isThere 0 = .ok (.aload_n 0, 1) := by decide +kernel
theorem dX0_isThere_1 : decode cX0_isThere 1 = .ok (.getfield 9, 3) := by decide +kernel
theorem dX0_isThere_4 : decode cX0_isThere 4 = .ok (.bipush 6, 2) := by decide +kernel
theorem dX0_isThere_6 : decode cX0_isThere 6 = .ok (.iaload, 1) := by decide +kernel
theorem dX0_isThere_7 : decode cX0_isThere 7 = .ok (.iconst (-1), 1) := by decide +kernel
theorem dX0_isThere_8 : decode cX0_isThere 8 = .ok (.if_icmp .eq 14, 3) := by decide +kernel
theorem dX0_isThere_11 : decode cX0_isThere 11 = .ok (.aload_n 0, 1) := by decide +kernel
theorem dX0_isThere_12 : decode cX0_isThere 12 = .ok (.getfield 9, 3) := by decide +kernel
theorem dX0_isThere_15 : decode cX0_isThere 15 = .ok (.bipush 6, 2) := by decide +kernel
theorem dX0_isThere_17 : decode cX0_isThere 17 = .ok (.iaload, 1) := by decide +kernel
theorem dX0_isThere_18 : decode cX0_isThere 18 = .ok (.iload_n 1, 1) := by decide +kernel
theorem dX0_isThere_19 : decode cX0_isThere 19 = .ok (.if_icmp .ne 7, 3) := by decide +kernel
theorem dX0_isThere_22 : decode cX0_isThere 22 = .ok (.iconst 1, 1) := by decide +kernel
theorem dX0_isThere_23 : decode cX0_isThere 23 = .ok (.goto 4, 3) := by decide +kernel
theorem dX0_isThere_26 : decode cX0_isThere 26 = .ok (.iconst 0, 1) := by decide +kernel
theorem dX0_isThere_27 : decode cX0_isThere 27 = .ok (.ireturn, 1) := by decide +kernel
set_option maxHeartbeats 4000000 in
set_option maxRecDepth 100000 in
theorem k_thB (l : Launch) (dC : Nat → ClassId) (dI : Nat → Nat → Nat) (k : Nat → ClassId) (T : Nat → Int → Int → Int → Int) (A : Nat → Int → Int → Nat) (X : Nat → Int → Int → Int) (tl : va_W) (i : Int) (v : Int) (hT : TI dI k T A X tl) (hK : TK T) (hi : 0 ≤ i ∧ i < T 0 0 0 0) (hv : 0 ≤ v ∧ v ≤ 1) : Kn l dC dI k yX0_isThere (.code yX0_isThere cX0_isThere 2 (some .boolean)) ({ frames := 0, cells := 0, slots := 0, locals := 0 } : Room) [.ref (A 0 i 0), .int (iI v)] ([] ++ tl) (fun r w gc gs => ((thB T i v) ∧ r = some (.int (iI 1)) ∧ w = ([] ++ tl) ∧ gc = 0 ∧ gs = 0) ∨ ((¬ thB T i v) ∧ r = some (.int (iI 0)) ∧ w = ([] ++ tl) ∧ gc = 0 ∧ gs = 0)) := by
  refine kn_of (by decide) (Nat.le_of_ble_eq_true rfl) ?_
  intro p e s m args below meth c H locs B hr hnm ls hl
  have hx := B.1.1
  have hb := B.1.2.1
  have hl : lv_has ls 2 [(0, .ref (A 0 i 0)), (1, .int (iI v))] := hl
  refine lv_aload_n hx hb dX0_isThere_0 rfl (lv_at hl 0 rfl) ?_
  obtain ⟨k_1, hk_1⟩ := pk_at (hs := []) (hT.2.2.2.1 i (by omega) (by omega)).1
  refine x_get (ci := 0) (C := RX0) (T := TX0) (N := 4) (v := .ref (A 1 i 0)) B k_1 hk_1 rfl in_X0 1 (by decide) mw_1173 (fun _ h9 => h9) rfl dX0_isThere_1 ?_
  refine lv_bipush (v := iI 6) hx hb dX0_isThere_4 (by decide) ?_
  obtain ⟨k_2, hk_2⟩ := pk_at (hs := []) (hT.2.2.2.1 i (by omega) (by omega)).2.1
  refine x_iald' (f := (fun j9 : Int => T 2 i j9 0)) (z := 6) B k_2 hk_2 (by omega) dX0_isThere_6 ?_
  have z_3 : (-1) ≤ (T 2 i 6 0) ∧ (T 2 i 6 0) ≤ 30 := (fun j => TK_sty hK i j) 6
  refine lv_iconst (v := iI (-1)) hx hb dX0_isThere_7 (by decide) ?_
  refine lv_icmp_eq (tgt := 22) hx hb dX0_isThere_8 (by decide) (fun c_4 => ?_) (fun c_4 => ?_)
  · have zc_4 : (T 2 i 6 0) = (-1) := jeq (a := (T 2 i 6 0)) (b := (-1)) (by omega) (by omega) c_4
    refine lv_iconst (v := iI 1) hx hb dX0_isThere_22 (by decide) ?_
    refine lv_goto (tgt := 27) hx hb dX0_isThere_23 (by decide) ?_
    exact k_zret B hr (by omega) (Or.inl (⟨(by omega), rfl, rfl, rfl, rfl⟩)) ⟨Nat.le_of_ble_eq_true rfl, Nat.le_of_ble_eq_true rfl⟩ ⟨Nat.le_of_ble_eq_true rfl, Nat.le_of_ble_eq_true rfl⟩ dX0_isThere_27
  · have zc_4 : (T 2 i 6 0) ≠ (-1) := jne (a := (T 2 i 6 0)) (b := (-1)) (by omega) (by omega) c_4
    refine lv_aload_n hx hb dX0_isThere_11 rfl (lv_at hl 0 rfl) ?_
    obtain ⟨k_5, hk_5⟩ := pk_at (hs := []) (hT.2.2.2.1 i (by omega) (by omega)).1
    refine x_get (ci := 0) (C := RX0) (T := TX0) (N := 4) (v := .ref (A 1 i 0)) B k_5 hk_5 rfl in_X0 1 (by decide) mw_1173 (fun _ h9 => h9) rfl dX0_isThere_12 ?_
    refine lv_bipush (v := iI 6) hx hb dX0_isThere_15 (by decide) ?_
    obtain ⟨k_6, hk_6⟩ := pk_at (hs := []) (hT.2.2.2.1 i (by omega) (by omega)).2.1
    refine x_iald' (f := (fun j9 : Int => T 2 i j9 0)) (z := 6) B k_6 hk_6 (by omega) dX0_isThere_17 ?_
    have z_7 : (-1) ≤ (T 2 i 6 0) ∧ (T 2 i 6 0) ≤ 30 := (fun j => TK_sty hK i j) 6
    refine lv_iload_n hx hb dX0_isThere_18 rfl (lv_at hl 1 rfl) ?_
    refine lv_icmp_ne (tgt := 26) hx hb dX0_isThere_19 (by decide) (fun c_8 => ?_) (fun c_8 => ?_)
    · have zc_8 : (T 2 i 6 0) ≠ v := jne (a := (T 2 i 6 0)) (b := v) (by omega) (by omega) c_8
      refine lv_iconst (v := iI 0) hx hb dX0_isThere_26 (by decide) ?_
      exact k_zret B hr (by omega) (Or.inr (⟨(by omega), rfl, rfl, rfl, rfl⟩)) ⟨Nat.le_of_ble_eq_true rfl, Nat.le_of_ble_eq_true rfl⟩ ⟨Nat.le_of_ble_eq_true rfl, Nat.le_of_ble_eq_true rfl⟩ dX0_isThere_27
    · have zc_8 : (T 2 i 6 0) = v := jeq (a := (T 2 i 6 0)) (b := v) (by omega) (by omega) c_8
      refine lv_iconst (v := iI 1) hx hb dX0_isThere_22 (by decide) ?_
      refine lv_goto (tgt := 27) hx hb dX0_isThere_23 (by decide) ?_
      exact k_zret B hr (by omega) (Or.inl (⟨(by omega), rfl, rfl, rfl, rfl⟩)) ⟨Nat.le_of_ble_eq_true rfl, Nat.le_of_ble_eq_true rfl⟩ ⟨Nat.le_of_ble_eq_true rfl, Nat.le_of_ble_eq_true rfl⟩ dX0_isThere_27

theorem mw_826 : (Jvm.Cond.fieldLink "Galleyforge$Word" (19 : Nat) "Galleyforge$Word" "marks" "[I") ∈ gt := gt_at 896 (by decide +kernel) (by decide +kernel)
theorem in_X10 : ∀ w ∈ u_ws RX10 TX10 4, w ∈ gt := in_of _ [902, 904, 906, 908] (by decide +kernel) (by decide +kernel)
theorem dX10_isThere_0 : decode cX10_isThere 0 = .ok (.aload_n 0, 1) := by decide +kernel
theorem dX10_isThere_1 : decode cX10_isThere 1 = .ok (.getfield 19, 3) := by decide +kernel
theorem dX10_isThere_4 : decode cX10_isThere 4 = .ok (.iconst 4, 1) := by decide +kernel
theorem dX10_isThere_5 : decode cX10_isThere 5 = .ok (.iaload, 1) := by decide +kernel
theorem dX10_isThere_6 : decode cX10_isThere 6 = .ok (.iconst (-1), 1) := by decide +kernel
theorem dX10_isThere_7 : decode cX10_isThere 7 = .ok (.if_icmp .eq 13, 3) := by decide +kernel
theorem dX10_isThere_10 : decode cX10_isThere 10 = .ok (.aload_n 0, 1) := by decide +kernel
theorem dX10_isThere_11 : decode cX10_isThere 11 = .ok (.getfield 19, 3) := by decide +kernel
theorem dX10_isThere_14 : decode cX10_isThere 14 = .ok (.iconst 4, 1) := by decide +kernel
theorem dX10_isThere_15 : decode cX10_isThere 15 = .ok (.iaload, 1) := by decide +kernel
theorem dX10_isThere_16 : decode cX10_isThere 16 = .ok (.iload_n 1, 1) := by decide +kernel
theorem dX10_isThere_17 : decode cX10_isThere 17 = .ok (.if_icmp .ne 7, 3) := by decide +kernel
theorem dX10_isThere_20 : decode cX10_isThere 20 = .ok (.iconst 1, 1) := by decide +kernel
theorem dX10_isThere_21 : decode cX10_isThere 21 = .ok (.goto 4, 3) := by decide +kernel
theorem dX10_isThere_24 : decode cX10_isThere 24 = .ok (.iconst 0, 1) := by decide +kernel
theorem dX10_isThere_25 : decode cX10_isThere 25 = .ok (.ireturn, 1) := by decide +kernel
set_option maxHeartbeats 4000000 in
set_option maxRecDepth 100000 in
theorem k_thW (l : Launch) (dC : Nat → ClassId) (dI : Nat → Nat → Nat) (k : Nat → ClassId) (T : Nat → Int → Int → Int → Int) (A : Nat → Int → Int → Nat) (X : Nat → Int → Int → Int) (tl : va_W) (i : Int) (j : Int) (v : Int) (hT : TI dI k T A X tl) (hK : TK T) (hi : 0 ≤ i ∧ i < T 0 0 0 0) (hj : 0 ≤ j ∧ j < T 3 i 0 0) (hv : 0 ≤ v ∧ v ≤ 1) : Kn l dC dI k yX10_isThere (.code yX10_isThere cX10_isThere 2 (some .boolean)) ({ frames := 0, cells := 0, slots := 0, locals := 0 } : Room) [.ref (A 4 i j), .int (iI v)] ([] ++ tl) (fun r w gc gs => ((thW T i j v) ∧ r = some (.int (iI 1)) ∧ w = ([] ++ tl) ∧ gc = 0 ∧ gs = 0) ∨ ((¬ thW T i j v) ∧ r = some (.int (iI 0)) ∧ w = ([] ++ tl) ∧ gc = 0 ∧ gs = 0)) := by
  refine kn_of (by decide) (Nat.le_of_ble_eq_true rfl) ?_
  intro p e s m args below meth c H locs B hr hnm ls hl
  have hx := B.1.1
  have hb := B.1.2.1
  have hl : lv_has ls 2 [(0, .ref (A 4 i j)), (1, .int (iI v))] := hl
  refine lv_aload_n hx hb dX10_isThere_0 rfl (lv_at hl 0 rfl) ?_
  obtain ⟨k_1, hk_1⟩ := pk_at (hs := []) (hT.2.2.2.2.1 i j (by omega) (by omega) (by omega) (by omega)).1
  refine x_get (ci := 10) (C := RX10) (T := TX10) (N := 4) (v := .ref (A 6 i j)) B k_1 hk_1 rfl in_X10 2 (by decide) mw_826 (fun _ h9 => h9) rfl dX10_isThere_1 ?_
  refine lv_iconst (v := iI 4) hx hb dX10_isThere_4 (by decide) ?_
  obtain ⟨k_2, hk_2⟩ := pk_at (hs := []) (hT.2.2.2.2.1 i j (by omega) (by omega) (by omega) (by omega)).2.2
  refine x_iald' (f := (fun j9 : Int => T 7 i j j9)) (z := 4) B k_2 hk_2 (by omega) dX10_isThere_5 ?_
  have z_3 : (-1) ≤ (T 7 i j 4) ∧ (T 7 i j 4) ≤ 7 := (fun q => TK_mrk hK i j q) 4
  refine lv_iconst (v := iI (-1)) hx hb dX10_isThere_6 (by decide) ?_
  refine lv_icmp_eq (tgt := 20) hx hb dX10_isThere_7 (by decide) (fun c_4 => ?_) (fun c_4 => ?_)
  · have zc_4 : (T 7 i j 4) = (-1) := jeq (a := (T 7 i j 4)) (b := (-1)) (by omega) (by omega) c_4
    refine lv_iconst (v := iI 1) hx hb dX10_isThere_20 (by decide) ?_
    refine lv_goto (tgt := 25) hx hb dX10_isThere_21 (by decide) ?_
    exact k_zret B hr (by omega) (Or.inl (⟨(by omega), rfl, rfl, rfl, rfl⟩)) ⟨Nat.le_of_ble_eq_true rfl, Nat.le_of_ble_eq_true rfl⟩ ⟨Nat.le_of_ble_eq_true rfl, Nat.le_of_ble_eq_true rfl⟩ dX10_isThere_25
  · have zc_4 : (T 7 i j 4) ≠ (-1) := jne (a := (T 7 i j 4)) (b := (-1)) (by omega) (by omega) c_4
    refine lv_aload_n hx hb dX10_isThere_10 rfl (lv_at hl 0 rfl) ?_
    obtain ⟨k_5, hk_5⟩ := pk_at (hs := []) (hT.2.2.2.2.1 i j (by omega) (by omega) (by omega) (by omega)).1
    refine x_get (ci := 10) (C := RX10) (T := TX10) (N := 4) (v := .ref (A 6 i j)) B k_5 hk_5 rfl in_X10 2 (by decide) mw_826 (fun _ h9 => h9) rfl dX10_isThere_11 ?_
    refine lv_iconst (v := iI 4) hx hb dX10_isThere_14 (by decide) ?_
    obtain ⟨k_6, hk_6⟩ := pk_at (hs := []) (hT.2.2.2.2.1 i j (by omega) (by omega) (by omega) (by omega)).2.2
    refine x_iald' (f := (fun j9 : Int => T 7 i j j9)) (z := 4) B k_6 hk_6 (by omega) dX10_isThere_15 ?_
    have z_7 : (-1) ≤ (T 7 i j 4) ∧ (T 7 i j 4) ≤ 7 := (fun q => TK_mrk hK i j q) 4
    refine lv_iload_n hx hb dX10_isThere_16 rfl (lv_at hl 1 rfl) ?_
    refine lv_icmp_ne (tgt := 24) hx hb dX10_isThere_17 (by decide) (fun c_8 => ?_) (fun c_8 => ?_)
    · have zc_8 : (T 7 i j 4) ≠ v := jne (a := (T 7 i j 4)) (b := v) (by omega) (by omega) c_8
      refine lv_iconst (v := iI 0) hx hb dX10_isThere_24 (by decide) ?_
      exact k_zret B hr (by omega) (Or.inr (⟨(by omega), rfl, rfl, rfl, rfl⟩)) ⟨Nat.le_of_ble_eq_true rfl, Nat.le_of_ble_eq_true rfl⟩ ⟨Nat.le_of_ble_eq_true rfl, Nat.le_of_ble_eq_true rfl⟩ dX10_isThere_25
    · have zc_8 : (T 7 i j 4) = v := jeq (a := (T 7 i j 4)) (b := v) (by omega) (by omega) c_8
      refine lv_iconst (v := iI 1) hx hb dX10_isThere_20 (by decide) ?_
      refine lv_goto (tgt := 25) hx hb dX10_isThere_21 (by decide) ?_
      exact k_zret B hr (by omega) (Or.inl (⟨(by omega), rfl, rfl, rfl, rfl⟩)) ⟨Nat.le_of_ble_eq_true rfl, Nat.le_of_ble_eq_true rfl⟩ ⟨Nat.le_of_ble_eq_true rfl, Nat.le_of_ble_eq_true rfl⟩ dX10_isThere_25

theorem mw_1166 : (Jvm.Cond.fieldLink "Galleyforge$Block" (22 : Nat) "Galleyforge$Block" "kind" "I") ∈ gt := gt_at 1236 (by decide +kernel) (by decide +kernel)
theorem dX0_hasLines_0 : decode cX0_hasLines 0 = .ok (.aload_n 0, 1) := by decide +kernel
theorem dX0_hasLines_1 : decode cX0_hasLines 1 = .ok (.getfield 22, 3) := by decide +kernel
theorem dX0_hasLines_4 : decode cX0_hasLines 4 = .ok (.ifCond .eq 11, 3) := by decide +kernel
theorem dX0_hasLines_7 : decode cX0_hasLines 7 = .ok (.aload_n 0, 1) := by decide +kernel
theorem dX0_hasLines_8 : decode cX0_hasLines 8 = .ok (.getfield 22, 3) := by decide +kernel
theorem dX0_hasLines_11 : decode cX0_hasLines 11 = .ok (.iconst 2, 1) := by decide +kernel
theorem dX0_hasLines_12 : decode cX0_hasLines 12 = .ok (.if_icmp .ne 7, 3) := by decide +kernel
theorem dX0_hasLines_15 : decode cX0_hasLines 15 = .ok (.iconst 1, 1) := by decide +kernel
theorem dX0_hasLines_16 : decode cX0_hasLines 16 = .ok (.goto 4, 3) := by decide +kernel
theorem dX0_hasLines_19 : decode cX0_hasLines 19 = .ok (.iconst 0, 1) := by decide +kernel
theorem dX0_hasLines_20 : decode cX0_hasLines 20 = .ok (.ireturn, 1) := by decide +kernel
set_option maxHeartbeats 4000000 in
set_option maxRecDepth 100000 in
theorem k_hasLines (l : Launch) (dC : Nat → ClassId) (dI : Nat → Nat → Nat) (k : Nat → ClassId) (T : Nat → Int → Int → Int → Int) (A : Nat → Int → Int → Nat) (X : Nat → Int → Int → Int) (tl : va_W) (i : Int) (hT : TI dI k T A X tl) (hK : TK T) (hi : 0 ≤ i ∧ i < T 0 0 0 0) : Kn l dC dI k yX0_hasLines (.code yX0_hasLines cX0_hasLines 1 (some .boolean)) ({ frames := 0, cells := 0, slots := 0, locals := 0 } : Room) [.ref (A 0 i 0)] ([] ++ tl) (fun r w gc gs => ((T 1 i 0 0 = 0 ∨ T 1 i 0 0 = 2) ∧ r = some (.int (iI 1)) ∧ w = ([] ++ tl) ∧ gc = 0 ∧ gs = 0) ∨ ((¬ (T 1 i 0 0 = 0 ∨ T 1 i 0 0 = 2)) ∧ r = some (.int (iI 0)) ∧ w = ([] ++ tl) ∧ gc = 0 ∧ gs = 0)) := by
  refine kn_of (by decide) (Nat.le_of_ble_eq_true rfl) ?_
  intro p e s m args below meth c H locs B hr hnm ls hl
  have hx := B.1.1
  have hb := B.1.2.1
  have hl : lv_has ls 1 [(0, .ref (A 0 i 0))] := hl
  refine lv_aload_n hx hb dX0_hasLines_0 rfl (lv_at hl 0 rfl) ?_
  obtain ⟨k_1, hk_1⟩ := pk_at (hs := []) (hT.2.2.2.1 i (by omega) (by omega)).1
  refine x_get (ci := 0) (C := RX0) (T := TX0) (N := 4) (v := .int (iI (T 1 i 0 0))) B k_1 hk_1 rfl in_X0 0 (by decide) mw_1166 (fun _ h9 => h9) rfl dX0_hasLines_1 ?_
  have z_2 : 0 ≤ T 1 i 0 0 ∧ T 1 i 0 0 ≤ 6 := TK_kind hK i
  refine lv_if_eq (tgt := 15) hx hb dX0_hasLines_4 (by decide) (fun c_3 => ?_) (fun c_3 => ?_)
  · have zc_3 : (T 1 i 0 0) = 0 := jeq (a := (T 1 i 0 0)) (b := 0) (by omega) (by omega) c_3
    refine lv_iconst (v := iI 1) hx hb dX0_hasLines_15 (by decide) ?_
    refine lv_goto (tgt := 20) hx hb dX0_hasLines_16 (by decide) ?_
    exact k_zret B hr (by omega) (Or.inl (⟨(by omega), rfl, rfl, rfl, rfl⟩)) ⟨Nat.le_of_ble_eq_true rfl, Nat.le_of_ble_eq_true rfl⟩ ⟨Nat.le_of_ble_eq_true rfl, Nat.le_of_ble_eq_true rfl⟩ dX0_hasLines_20
  · have zc_3 : (T 1 i 0 0) ≠ 0 := jne (a := (T 1 i 0 0)) (b := 0) (by omega) (by omega) c_3
    refine lv_aload_n hx hb dX0_hasLines_7 rfl (lv_at hl 0 rfl) ?_
    obtain ⟨k_4, hk_4⟩ := pk_at (hs := []) (hT.2.2.2.1 i (by omega) (by omega)).1
    refine x_get (ci := 0) (C := RX0) (T := TX0) (N := 4) (v := .int (iI (T 1 i 0 0))) B k_4 hk_4 rfl in_X0 0 (by decide) mw_1166 (fun _ h9 => h9) rfl dX0_hasLines_8 ?_
    have z_5 : 0 ≤ T 1 i 0 0 ∧ T 1 i 0 0 ≤ 6 := TK_kind hK i
    refine lv_iconst (v := iI 2) hx hb dX0_hasLines_11 (by decide) ?_
    refine lv_icmp_ne (tgt := 19) hx hb dX0_hasLines_12 (by decide) (fun c_6 => ?_) (fun c_6 => ?_)
    · have zc_6 : (T 1 i 0 0) ≠ 2 := jne (a := (T 1 i 0 0)) (b := 2) (by omega) (by omega) c_6
      refine lv_iconst (v := iI 0) hx hb dX0_hasLines_19 (by decide) ?_
      exact k_zret B hr (by omega) (Or.inr (⟨(by omega), rfl, rfl, rfl, rfl⟩)) ⟨Nat.le_of_ble_eq_true rfl, Nat.le_of_ble_eq_true rfl⟩ ⟨Nat.le_of_ble_eq_true rfl, Nat.le_of_ble_eq_true rfl⟩ dX0_hasLines_20
    · have zc_6 : (T 1 i 0 0) = 2 := jeq (a := (T 1 i 0 0)) (b := 2) (by omega) (by omega) c_6
      refine lv_iconst (v := iI 1) hx hb dX0_hasLines_15 (by decide) ?_
      refine lv_goto (tgt := 20) hx hb dX0_hasLines_16 (by decide) ?_
      exact k_zret B hr (by omega) (Or.inl (⟨(by omega), rfl, rfl, rfl, rfl⟩)) ⟨Nat.le_of_ble_eq_true rfl, Nat.le_of_ble_eq_true rfl⟩ ⟨Nat.le_of_ble_eq_true rfl, Nat.le_of_ble_eq_true rfl⟩ dX0_hasLines_20

theorem mw_19 : (Jvm.Cond.initialized "Galleyforge$Block") ∈ gt := gt_at 89 (by decide +kernel) (by decide +kernel)
theorem mw_806 : (Jvm.Cond.methodLink "Galleyforge$Block" (33 : Nat) ({ cls := "Galleyforge$Block", name := "hasLines", desc := "()Z" } : Jvm.MethodName)) ∈ gt := gt_at 876 (by decide +kernel) (by decide +kernel)
theorem mw_807 : (Jvm.Cond.instanceMethod ({ cls := "Galleyforge$Block", name := "hasLines", desc := "()Z" } : Jvm.MethodName)) ∈ gt := gt_at 877 (by decide +kernel) (by decide +kernel)
theorem mw_808 : (Jvm.Cond.selects "Galleyforge$Block" ({ cls := "Galleyforge$Block", name := "hasLines", desc := "()Z" } : Jvm.MethodName) ({ cls := "Galleyforge$Block", name := "hasLines", desc := "()Z" } : Jvm.MethodName)) ∈ gt := gt_at 878 (by decide +kernel) (by decide +kernel)
theorem mw_809 : (Jvm.Cond.code ({ cls := "Galleyforge$Block", name := "hasLines", desc := "()Z" } : Jvm.MethodName) prog_2_method_3_code (1 : Nat) (Option.some Jvm.ClassFile.FieldType.boolean)) ∈ gt := gt_at 879 (by decide +kernel) (by decide +kernel)
theorem mV_X0_hasLines : mV yX0_hasLines cX0_hasLines 1 (some .boolean) 0 := ⟨⟨mw_809, mw_19, by decide, by decide, by decide +kernel⟩, mw_807, mw_808⟩
theorem dX0_hasWords_0 : decode cX0_hasWords 0 = .ok (.aload_n 0, 1) := by decide +kernel
theorem dX0_hasWords_1 : decode cX0_hasWords 1 = .ok (.invokevirtual 33, 3) := by decide +kernel
theorem dX0_hasWords_4 : decode cX0_hasWords 4 = .ok (.ifCond .ne 11, 3) := by decide +kernel
theorem dX0_hasWords_7 : decode cX0_hasWords 7 = .ok (.aload_n 0, 1) := by decide +kernel
theorem dX0_hasWords_8 : decode cX0_hasWords 8 = .ok (.getfield 22, 3) := by decide +kernel
theorem dX0_hasWords_11 : decode cX0_hasWords 11 = .ok (.iconst 1, 1) := by decide +kernel
theorem dX0_hasWords_12 : decode cX0_hasWords 12 = .ok (.if_icmp .ne 7, 3) := by decide +kernel
theorem dX0_hasWords_15 : decode cX0_hasWords 15 = .ok (.iconst 1, 1) := by decide +kernel
theorem dX0_hasWords_16 : decode cX0_hasWords 16 = .ok (.goto 4, 3) := by decide +kernel
theorem dX0_hasWords_19 : decode cX0_hasWords 19 = .ok (.iconst 0, 1) := by decide +kernel
theorem dX0_hasWords_20 : decode cX0_hasWords 20 = .ok (.ireturn, 1) := by decide +kernel
set_option maxHeartbeats 4000000 in
set_option maxRecDepth 100000 in
theorem k_hasWords (l : Launch) (dC : Nat → ClassId) (dI : Nat → Nat → Nat) (k : Nat → ClassId) (T : Nat → Int → Int → Int → Int) (A : Nat → Int → Int → Nat) (X : Nat → Int → Int → Int) (tl : va_W) (i : Int) (hT : TI dI k T A X tl) (hK : TK T) (hi : 0 ≤ i ∧ i < T 0 0 0 0) : Kn l dC dI k yX0_hasWords (.code yX0_hasWords cX0_hasWords 1 (some .boolean)) ({ frames := 1, cells := 0, slots := 0, locals := 20 } : Room) [.ref (A 0 i 0)] ([] ++ tl) (fun r w gc gs => ((T 1 i 0 0 ≤ 2) ∧ r = some (.int (iI 1)) ∧ w = ([] ++ tl) ∧ gc = 0 ∧ gs = 0) ∨ ((¬ (T 1 i 0 0 ≤ 2)) ∧ r = some (.int (iI 0)) ∧ w = ([] ++ tl) ∧ gc = 0 ∧ gs = 0)) := by
  refine kn_of (by decide) (Nat.le_of_ble_eq_true rfl) ?_
  intro p e s m args below meth c H locs B hr hnm ls hl
  have hx := B.1.1
  have hb := B.1.2.1
  have hl : lv_has ls 1 [(0, .ref (A 0 i 0))] := hl
  refine lv_aload_n hx hb dX0_hasWords_0 rfl (lv_at hl 0 rfl) ?_
  have B := bd_swap (a := []) (b := []) (d := tl) (bd_to rfl B)
  obtain ⟨k_1, hk_1⟩ := pk_at (hs := []) (hT.2.2.2.1 i (by omega) (by omega)).1
  refine k_V (rest := []) (wc := ([] ++ tl)) (wr := []) (k_hasLines l dC dI k T A X tl i hT hK hi) B mV_X0_hasLines mw_806 hl (q0 := k_1) (ci := 0) hk_1 rfl rfl ⟨Nat.le_of_ble_eq_true rfl, Nat.le_of_ble_eq_true rfl⟩ (Nat.le_of_ble_eq_true rfl) rfl dX0_hasWords_1 ⟨Nat.le_of_ble_eq_true rfl, Nat.le_of_ble_eq_true rfl⟩ (fun r w gc gs H locs hp B => ?_)
  rcases hp with ⟨z_2, rfl, hw9, rfl, rfl⟩ | ⟨z_3, rfl, hw9, rfl, rfl⟩
  · skip
    rw [hw9] at B; clear hw9
    have B := bd_to (ws' := ([] ++ tl)) rfl B
    refine lv_if_ne (tgt := 15) hx hb dX0_hasWords_4 (by decide) (fun _ => ?_) (fun c9 => absurd c9 (by decide))
    refine lv_iconst (v := iI 1) hx hb dX0_hasWords_15 (by decide) ?_
    refine lv_goto (tgt := 20) hx hb dX0_hasWords_16 (by decide) ?_
    exact k_zret B hr (by omega) (Or.inl (⟨(by omega), rfl, rfl, rfl, rfl⟩)) ⟨Nat.le_of_ble_eq_true rfl, Nat.le_of_ble_eq_true rfl⟩ ⟨Nat.le_of_ble_eq_true rfl, Nat.le_of_ble_eq_true rfl⟩ dX0_hasWords_20
  · skip
    rw [hw9] at B; clear hw9
    have B := bd_to (ws' := ([] ++ tl)) rfl B
    refine lv_if_ne (tgt := 15) hx hb dX0_hasWords_4 (by decide) (fun c9 => absurd c9 (by decide)) (fun _ => ?_)
    refine lv_aload_n hx hb dX0_hasWords_7 rfl (lv_at hl 0 rfl) ?_
    obtain ⟨k_4, hk_4⟩ := pk_at (hs := []) (hT.2.2.2.1 i (by omega) (by omega)).1
    refine x_get (ci := 0) (C := RX0) (T := TX0) (N := 4) (v := .int (iI (T 1 i 0 0))) B k_4 hk_4 rfl in_X0 0 (by decide) mw_1166 (fun _ h9 => h9) rfl dX0_hasWords_8 ?_
    have z_5 : 0 ≤ T 1 i 0 0 ∧ T 1 i 0 0 ≤ 6 := TK_kind hK i
    refine lv_iconst (v := iI 1) hx hb dX0_hasWords_11 (by decide) ?_
    refine lv_icmp_ne (tgt := 19) hx hb dX0_hasWords_12 (by decide) (fun c_6 => ?_) (fun c_6 => ?_)
    · have zc_6 : (T 1 i 0 0) ≠ 1 := jne (a := (T 1 i 0 0)) (b := 1) (by omega) (by omega) c_6
      refine lv_iconst (v := iI 0) hx hb dX0_hasWords_19 (by decide) ?_
      exact k_zret B hr (by omega) (Or.inr (⟨(by omega), rfl, rfl, rfl, rfl⟩)) ⟨Nat.le_of_ble_eq_true rfl, Nat.le_of_ble_eq_true rfl⟩ ⟨Nat.le_of_ble_eq_true rfl, Nat.le_of_ble_eq_true rfl⟩ dX0_hasWords_20
    · have zc_6 : (T 1 i 0 0) = 1 := jeq (a := (T 1 i 0 0)) (b := 1) (by omega) (by omega) c_6
      refine lv_iconst (v := iI 1) hx hb dX0_hasWords_15 (by decide) ?_
      refine lv_goto (tgt := 20) hx hb dX0_hasWords_16 (by decide) ?_
      exact k_zret B hr (by omega) (Or.inl (⟨(by omega), rfl, rfl, rfl, rfl⟩)) ⟨Nat.le_of_ble_eq_true rfl, Nat.le_of_ble_eq_true rfl⟩ ⟨Nat.le_of_ble_eq_true rfl, Nat.le_of_ble_eq_true rfl⟩ dX0_hasWords_20

theorem dX0_isNumbered_0 : decode cX0_isNumbered 0 = .ok (.aload_n 0, 1) := by decide +kernel
theorem dX0_isNumbered_1 : decode cX0_isNumbered 1 = .ok (.getfield 22, 3) := by decide +kernel
theorem dX0_isNumbered_4 : decode cX0_isNumbered 4 = .ok (.ifCond .ne 17, 3) := by decide +kernel
theorem dX0_isNumbered_7 : decode cX0_isNumbered 7 = .ok (.aload_n 0, 1) := by decide +kernel
theorem dX0_isNumbered_8 : decode cX0_isNumbered 8 = .ok (.getfield 9, 3) := by decide +kernel
theorem dX0_isNumbered_11 : decode cX0_isNumbered 11 = .ok (.iconst 1, 1) := by decide +kernel
theorem dX0_isNumbered_12 : decode cX0_isNumbered 12 = .ok (.iaload, 1) := by decide +kernel
theorem dX0_isNumbered_13 : decode cX0_isNumbered 13 = .ok (.iconst 1, 1) := by decide +kernel
theorem dX0_isNumbered_14 : decode cX0_isNumbered 14 = .ok (.if_icmp .ne 7, 3) := by decide +kernel
theorem dX0_isNumbered_17 : decode cX0_isNumbered 17 = .ok (.iconst 1, 1) := by decide +kernel
theorem dX0_isNumbered_18 : decode cX0_isNumbered 18 = .ok (.goto 4, 3) := by decide +kernel
theorem dX0_isNumbered_21 : decode cX0_isNumbered 21 = .ok (.iconst 0, 1) := by decide +kernel
theorem dX0_isNumbered_22 : decode cX0_isNumbered 22 = .ok (.ireturn, 1) := by decide +kernel
set_option maxHeartbeats 4000000 in
set_option maxRecDepth 100000 in
theorem k_isNumbered (l : Launch) (dC : Nat → ClassId) (dI : Nat → Nat → Nat) (k : Nat → ClassId) (T : Nat → Int → Int → Int → Int) (A : Nat → Int → Int → Nat) (X : Nat → Int → Int → Int) (tl : va_W) (i : Int) (hT : TI dI k T A X tl) (hK : TK T) (hi : 0 ≤ i ∧ i < T 0 0 0 0) : Kn l dC dI k yX0_isNumbered (.code yX0_isNumbered cX0_isNumbered 1 (some .boolean)) ({ frames := 0, cells := 0, slots := 0, locals := 0 } : Room) [.ref (A 0 i 0)] ([] ++ tl) (fun r w gc gs => ((T 1 i 0 0 = 0 ∧ T 2 i 1 0 = 1) ∧ r = some (.int (iI 1)) ∧ w = ([] ++ tl) ∧ gc = 0 ∧ gs = 0) ∨ ((¬ (T 1 i 0 0 = 0 ∧ T 2 i 1 0 = 1)) ∧ r = some (.int (iI 0)) ∧ w = ([] ++ tl) ∧ gc = 0 ∧ gs = 0)) := by
  refine kn_of (by decide) (Nat.le_of_ble_eq_true rfl) ?_
  intro p e s m args below meth c H locs B hr hnm ls hl
  have hx := B.1.1
  have hb := B.1.2.1
  have hl : lv_has ls 1 [(0, .ref (A 0 i 0))] := hl
  refine lv_aload_n hx hb dX0_isNumbered_0 rfl (lv_at hl 0 rfl) ?_
  obtain ⟨k_1, hk_1⟩ := pk_at (hs := []) (hT.2.2.2.1 i (by omega) (by omega)).1
  refine x_get (ci := 0) (C := RX0) (T := TX0) (N := 4) (v := .int (iI (T 1 i 0 0))) B k_1 hk_1 rfl in_X0 0 (by decide) mw_1166 (fun _ h9 => h9) rfl dX0_isNumbered_1 ?_
  have z_2 : 0 ≤ T 1 i 0 0 ∧ T 1 i 0 0 ≤ 6 := TK_kind hK i
  refine lv_if_ne (tgt := 21) hx hb dX0_isNumbered_4 (by decide) (fun c_3 => ?_) (fun c_3 => ?_)
  · have zc_3 : (T 1 i 0 0) ≠ 0 := jne (a := (T 1 i 0 0)) (b := 0) (by omega) (by omega) c_3
    refine lv_iconst (v := iI 0) hx hb dX0_isNumbered_21 (by decide) ?_
    exact k_zret B hr (by omega) (Or.inr (⟨(by omega), rfl, rfl, rfl, rfl⟩)) ⟨Nat.le_of_ble_eq_true rfl, Nat.le_of_ble_eq_true rfl⟩ ⟨Nat.le_of_ble_eq_true rfl, Nat.le_of_ble_eq_true rfl⟩ dX0_isNumbered_22
  · have zc_3 : (T 1 i 0 0) = 0 := jeq (a := (T 1 i 0 0)) (b := 0) (by omega) (by omega) c_3
    refine lv_aload_n hx hb dX0_isNumbered_7 rfl (lv_at hl 0 rfl) ?_
    obtain ⟨k_4, hk_4⟩ := pk_at (hs := []) (hT.2.2.2.1 i (by omega) (by omega)).1
    refine x_get (ci := 0) (C := RX0) (T := TX0) (N := 4) (v := .ref (A 1 i 0)) B k_4 hk_4 rfl in_X0 1 (by decide) mw_1173 (fun _ h9 => h9) rfl dX0_isNumbered_8 ?_
    refine lv_iconst (v := iI 1) hx hb dX0_isNumbered_11 (by decide) ?_
    obtain ⟨k_5, hk_5⟩ := pk_at (hs := []) (hT.2.2.2.1 i (by omega) (by omega)).2.1
    refine x_iald' (f := (fun j9 : Int => T 2 i j9 0)) (z := 1) B k_5 hk_5 (by omega) dX0_isNumbered_12 ?_
    have z_6 : (-1) ≤ (T 2 i 1 0) ∧ (T 2 i 1 0) ≤ 30 := (fun j => TK_sty hK i j) 1
    refine lv_iconst (v := iI 1) hx hb dX0_isNumbered_13 (by decide) ?_
    refine lv_icmp_ne (tgt := 21) hx hb dX0_isNumbered_14 (by decide) (fun c_7 => ?_) (fun c_7 => ?_)
    · have zc_7 : (T 2 i 1 0) ≠ 1 := jne (a := (T 2 i 1 0)) (b := 1) (by omega) (by omega) c_7
      refine lv_iconst (v := iI 0) hx hb dX0_isNumbered_21 (by decide) ?_
      exact k_zret B hr (by omega) (Or.inr (⟨(by omega), rfl, rfl, rfl, rfl⟩)) ⟨Nat.le_of_ble_eq_true rfl, Nat.le_of_ble_eq_true rfl⟩ ⟨Nat.le_of_ble_eq_true rfl, Nat.le_of_ble_eq_true rfl⟩ dX0_isNumbered_22
    · have zc_7 : (T 2 i 1 0) = 1 := jeq (a := (T 2 i 1 0)) (b := 1) (by omega) (by omega) c_7
      refine lv_iconst (v := iI 1) hx hb dX0_isNumbered_17 (by decide) ?_
      refine lv_goto (tgt := 22) hx hb dX0_isNumbered_18 (by decide) ?_
      exact k_zret B hr (by omega) (Or.inl (⟨(by omega), rfl, rfl, rfl, rfl⟩)) ⟨Nat.le_of_ble_eq_true rfl, Nat.le_of_ble_eq_true rfl⟩ ⟨Nat.le_of_ble_eq_true rfl, Nat.le_of_ble_eq_true rfl⟩ dX0_isNumbered_22

/-- the widths of a block's lines: the wide ones, the narrow ones, how many are narrow -/
def wdZ (T : Nat → Int → Int → Int → Int) (i pw : Int) : Int := if T 1 i 0 0 = 0 then max 10 (pw - 6 * T 2 i 0 0) else max 10 ((pw - 4) / 2)
def nwZ (T : Nat → Int → Int → Int → Int) (i pw : Int) : Int := if T 1 i 0 0 = 0 then max 10 (pw - 6 * T 2 i 0 0 - T 2 i 4 0) else (pw - 4) / 2
def dpZ (T : Nat → Int → Int → Int → Int) (i : Int) : Int := if T 1 i 0 0 = 0 then T 2 i 5 0 else 0

theorem mw_700 : (Jvm.Cond.static ({ cls := "java/lang/Math", name := "max", desc := "(II)I" } : Jvm.MethodName)) ∈ gt := gt_at 770 (by decide +kernel) (by decide +kernel)
theorem mw_701 : (Jvm.Cond.code ({ cls := "java/lang/Math", name := "max", desc := "(II)I" } : Jvm.MethodName) prog_27_method_65_code (2 : Nat) (Option.some Jvm.ClassFile.FieldType.int)) ∈ gt := gt_at 771 (by decide +kernel) (by decide +kernel)
theorem mw_1167 : (Jvm.Cond.fieldLink "Galleyforge$Lines" (82 : Nat) "Galleyforge$Block" "kind" "I") ∈ gt := gt_at 1237 (by decide +kernel) (by decide +kernel)
theorem mw_1174 : (Jvm.Cond.fieldLink "Galleyforge$Lines" (85 : Nat) "Galleyforge$Block" "styles" "[I") ∈ gt := gt_at 1244 (by decide +kernel) (by decide +kernel)
theorem mw_1390 : (Jvm.Cond.methodLink "Galleyforge$Lines" (88 : Nat) ({ cls := "java/lang/Math", name := "max", desc := "(II)I" } : Jvm.MethodName)) ∈ gt := gt_at 1460 (by decide +kernel) (by decide +kernel)
theorem dX2_setWidths_0 : decode cX2_setWidths 0 = .ok (.aload_n 0, 1) := by decide +kernel
theorem dX2_setWidths_1 : decode cX2_setWidths 1 = .ok (.iload_n 2, 1) := by decide +kernel
theorem dX2_setWidths_2 : decode cX2_setWidths 2 = .ok (.iconst 4, 1) := by decide +kernel
theorem dX2_setWidths_3 : decode cX2_setWidths 3 = .ok (.isub, 1) := by decide +kernel
theorem dX2_setWidths_4 : decode cX2_setWidths 4 = .ok (.iconst 2, 1) := by decide +kernel
theorem dX2_setWidths_5 : decode cX2_setWidths 5 = .ok (.idiv, 1) := by decide +kernel
theorem dX2_setWidths_6 : decode cX2_setWidths 6 = .ok (.putfield 73, 3) := by decide +kernel
theorem dX2_setWidths_9 : decode cX2_setWidths 9 = .ok (.aload_n 0, 1) := by decide +kernel
theorem dX2_setWidths_10 : decode cX2_setWidths 10 = .ok (.aload_n 0, 1) := by decide +kernel
theorem dX2_setWidths_11 : decode cX2_setWidths 11 = .ok (.getfield 73, 3) := by decide +kernel
theorem dX2_setWidths_14 : decode cX2_setWidths 14 = .ok (.putfield 76, 3) := by decide +kernel
theorem dX2_setWidths_17 : decode cX2_setWidths 17 = .ok (.aload_n 0, 1) := by decide +kernel
theorem dX2_setWidths_18 : decode cX2_setWidths 18 = .ok (.iconst 0, 1) := by decide +kernel
theorem dX2_setWidths_19 : decode cX2_setWidths 19 = .ok (.putfield 79, 3) := by decide +kernel
theorem dX2_setWidths_22 : decode cX2_setWidths 22 = .ok (.aload_n 1, 1) := by decide +kernel
theorem dX2_setWidths_23 : decode cX2_setWidths 23 = .ok (.getfield 82, 3) := by decide +kernel
theorem dX2_setWidths_26 : decode cX2_setWidths 26 = .ok (.ifCond .ne 48, 3) := by decide +kernel
theorem dX2_setWidths_29 : decode cX2_setWidths 29 = .ok (.aload_n 0, 1) := by decide +kernel
theorem dX2_setWidths_30 : decode cX2_setWidths 30 = .ok (.iload_n 2, 1) := by decide +kernel
theorem dX2_setWidths_31 : decode cX2_setWidths 31 = .ok (.bipush 6, 2) := by decide +kernel
theorem dX2_setWidths_33 : decode cX2_setWidths 33 = .ok (.aload_n 1, 1) := by decide +kernel
theorem dX2_setWidths_34 : decode cX2_setWidths 34 = .ok (.getfield 85, 3) := by decide +kernel
theorem dX2_setWidths_37 : decode cX2_setWidths 37 = .ok (.iconst 0, 1) := by decide +kernel
theorem dX2_setWidths_38 : decode cX2_setWidths 38 = .ok (.iaload, 1) := by decide +kernel
theorem dX2_setWidths_39 : decode cX2_setWidths 39 = .ok (.imul, 1) := by decide +kernel
theorem dX2_setWidths_40 : decode cX2_setWidths 40 = .ok (.isub, 1) := by decide +kernel
theorem dX2_setWidths_41 : decode cX2_setWidths 41 = .ok (.putfield 73, 3) := by decide +kernel
theorem dX2_setWidths_44 : decode cX2_setWidths 44 = .ok (.aload_n 0, 1) := by decide +kernel
theorem dX2_setWidths_45 : decode cX2_setWidths 45 = .ok (.bipush 10, 2) := by decide +kernel
theorem dX2_setWidths_47 : decode cX2_setWidths 47 = .ok (.aload_n 0, 1) := by decide +kernel
theorem dX2_setWidths_48 : decode cX2_setWidths 48 = .ok (.getfield 73, 3) := by decide +kernel
theorem dX2_setWidths_51 : decode cX2_setWidths 51 = .ok (.aload_n 1, 1) := by decide +kernel
theorem dX2_setWidths_52 : decode cX2_setWidths 52 = .ok (.getfield 85, 3) := by decide +kernel
theorem dX2_setWidths_55 : decode cX2_setWidths 55 = .ok (.iconst 4, 1) := by decide +kernel
theorem dX2_setWidths_56 : decode cX2_setWidths 56 = .ok (.iaload, 1) := by decide +kernel
theorem dX2_setWidths_57 : decode cX2_setWidths 57 = .ok (.isub, 1) := by decide +kernel
theorem dX2_setWidths_58 : decode cX2_setWidths 58 = .ok (.invokestatic 88, 3) := by decide +kernel
theorem dX2_setWidths_61 : decode cX2_setWidths 61 = .ok (.putfield 76, 3) := by decide +kernel
theorem dX2_setWidths_64 : decode cX2_setWidths 64 = .ok (.aload_n 0, 1) := by decide +kernel
theorem dX2_setWidths_65 : decode cX2_setWidths 65 = .ok (.aload_n 1, 1) := by decide +kernel
theorem dX2_setWidths_66 : decode cX2_setWidths 66 = .ok (.getfield 85, 3) := by decide +kernel
theorem dX2_setWidths_69 : decode cX2_setWidths 69 = .ok (.iconst 5, 1) := by decide +kernel
theorem dX2_setWidths_70 : decode cX2_setWidths 70 = .ok (.iaload, 1) := by decide +kernel
theorem dX2_setWidths_71 : decode cX2_setWidths 71 = .ok (.putfield 79, 3) := by decide +kernel
theorem dX2_setWidths_74 : decode cX2_setWidths 74 = .ok (.aload_n 0, 1) := by decide +kernel
theorem dX2_setWidths_75 : decode cX2_setWidths 75 = .ok (.bipush 10, 2) := by decide +kernel
theorem dX2_setWidths_77 : decode cX2_setWidths 77 = .ok (.aload_n 0, 1) := by decide +kernel
theorem dX2_setWidths_78 : decode cX2_setWidths 78 = .ok (.getfield 73, 3) := by decide +kernel
theorem dX2_setWidths_81 : decode cX2_setWidths 81 = .ok (.invokestatic 88, 3) := by decide +kernel
theorem dX2_setWidths_84 : decode cX2_setWidths 84 = .ok (.putfield 73, 3) := by decide +kernel
theorem dX2_setWidths_87 : decode cX2_setWidths 87 = .ok (.return_, 1) := by decide +kernel
set_option maxHeartbeats 4000000 in
set_option maxRecDepth 100000 in
theorem k_setWidths (l : Launch) (dC : Nat → ClassId) (dI : Nat → Nat → Nat) (k : Nat → ClassId) (ln : Nat) (wa : Nat) (ga : Nat) (wt : Nat) (wo : Nat) (bD : Nat) (bL : Nat) (bE : Nat) (n : Int) (wd : Int) (nw : Int) (dp : Int) (sd : Int) (cl : Int) (T : Nat → Int → Int → Int → Int) (A : Nat → Int → Int → Nat) (X : Nat → Int → Int → Int) (tl : va_W) (i : Int) (pw : Int) (hT : TI dI k T A X tl) (hK : TK T) (hi : 0 ≤ i ∧ i < T 0 0 0 0) (hpw : 30 ≤ pw ∧ pw ≤ 120) : Kn l dC dI k yX2_setWidths (.code yX2_setWidths cX2_setWidths 3 none) ({ frames := 1, cells := 0, slots := 0, locals := 14 } : Room) [.ref ln, .ref (A 0 i 0), .int (iI pw)] ([(ln, .inr (2, [.int (iI n), .ref wa, .ref ga, .ref wt, .ref wo, .int (iI wd), .int (iI nw), .int (iI dp), .int (iI sd), .int (iI cl), .ref bD, .ref bL, .ref bE]))] ++ tl) (fun r w gc gs => (r = none ∧ w = ([(ln, .inr (2, [.int (iI n), .ref wa, .ref ga, .ref wt, .ref wo, .int (iI (wdZ T i pw)), .int (iI (nwZ T i pw)), .int (iI (dpZ T i)), .int (iI sd), .int (iI cl), .ref bD, .ref bL, .ref bE]))] ++ tl) ∧ gc = 0 ∧ gs = 0)) := by
  refine kn_of (by decide) (Nat.le_of_ble_eq_true rfl) ?_
  intro p e s m args below meth c H locs B hr hnm ls hl
  have hx := B.1.1
  have hb := B.1.2.1
  have hl : lv_has ls 3 [(0, .ref ln), (1, .ref (A 0 i 0)), (2, .int (iI pw))] := hl
  refine lv_aload_n hx hb dX2_setWidths_0 rfl (lv_at hl 0 rfl) ?_
  refine lv_iload_n hx hb dX2_setWidths_1 rfl (lv_at hl 2 rfl) ?_
  refine lv_iconst (v := iI 4) hx hb dX2_setWidths_2 (by decide) ?_
  refine y_sub hx hb dX2_setWidths_3 ?_
  refine lv_iconst (v := iI 2) hx hb dX2_setWidths_4 (by decide) ?_
  refine y_div hx hb (a := (pw - 4)) (b := 2) (by omega) (by omega) dX2_setWidths_5 ?_
  refine x_put (ci := 2) (C := RX2) (T := TX2) (N := 13) (ty := .int) (v := .int (iI ((pw - 4) / 2))) B tyX2_ok nmX2 0 rfl rfl in_X2 5 (by decide) mw_134 (fun _ h9 => h9) rfl (by decide +kernel) rfl rfl (Nat.le_of_ble_eq_true rfl) dX2_setWidths_6 (fun H locs B => ?_)
  have B := bd_to (ws' := ([(ln, .inr (2, [.int (iI n), .ref wa, .ref ga, .ref wt, .ref wo, .int (iI ((pw - 4) / 2)), .int (iI nw), .int (iI dp), .int (iI sd), .int (iI cl), .ref bD, .ref bL, .ref bE]))] ++ tl)) rfl B
  refine lv_aload_n hx hb dX2_setWidths_9 rfl (lv_at hl 0 rfl) ?_
  refine lv_aload_n hx hb dX2_setWidths_10 rfl (lv_at hl 0 rfl) ?_
  refine x_get (ci := 2) (C := RX2) (T := TX2) (N := 13) (v := .int (iI ((pw - 4) / 2))) B 0 rfl rfl in_X2 5 (by decide) mw_134 (fun _ h9 => h9) rfl dX2_setWidths_11 ?_
  refine x_put (ci := 2) (C := RX2) (T := TX2) (N := 13) (ty := .int) (v := .int (iI ((pw - 4) / 2))) B tyX2_ok nmX2 0 rfl rfl in_X2 6 (by decide) mw_135 (fun _ h9 => h9) rfl (by decide +kernel) rfl rfl (Nat.le_of_ble_eq_true rfl) dX2_setWidths_14 (fun H locs B => ?_)
  have B := bd_to (ws' := ([(ln, .inr (2, [.int (iI n), .ref wa, .ref ga, .ref wt, .ref wo, .int (iI ((pw - 4) / 2)), .int (iI ((pw - 4) / 2)), .int (iI dp), .int (iI sd), .int (iI cl), .ref bD, .ref bL, .ref bE]))] ++ tl)) rfl B
  refine lv_aload_n hx hb dX2_setWidths_17 rfl (lv_at hl 0 rfl) ?_
  refine lv_iconst (v := iI 0) hx hb dX2_setWidths_18 (by decide) ?_
  refine x_put (ci := 2) (C := RX2) (T := TX2) (N := 13) (ty := .int) (v := .int (iI 0)) B tyX2_ok nmX2 0 rfl rfl in_X2 7 (by decide) mw_136 (fun _ h9 => h9) rfl (by decide +kernel) rfl rfl (Nat.le_of_ble_eq_true rfl) dX2_setWidths_19 (fun H locs B => ?_)
  have B := bd_to (ws' := ([(ln, .inr (2, [.int (iI n), .ref wa, .ref ga, .ref wt, .ref wo, .int (iI ((pw - 4) / 2)), .int (iI ((pw - 4) / 2)), .int (iI 0), .int (iI sd), .int (iI cl), .ref bD, .ref bL, .ref bE]))] ++ tl)) rfl B
  refine lv_aload_n hx hb dX2_setWidths_22 rfl (lv_at hl 1 rfl) ?_
  obtain ⟨k_1, hk_1⟩ := pk_at (hs := [(ln, .inr (2, [.int (iI n), .ref wa, .ref ga, .ref wt, .ref wo, .int (iI ((pw - 4) / 2)), .int (iI ((pw - 4) / 2)), .int (iI 0), .int (iI sd), .int (iI cl), .ref bD, .ref bL, .ref bE]))]) (hT.2.2.2.1 i (by omega) (by omega)).1
  refine x_get (ci := 0) (C := RX0) (T := TX0) (N := 4) (v := .int (iI (T 1 i 0 0))) B k_1 hk_1 rfl in_X0 0 (by decide) mw_1167 (fun _ h9 => h9) rfl dX2_setWidths_23 ?_
  have z_2 : 0 ≤ T 1 i 0 0 ∧ T 1 i 0 0 ≤ 6 := TK_kind hK i
  refine lv_if_ne (tgt := 74) hx hb dX2_setWidths_26 (by decide) (fun c_3 => ?_) (fun c_3 => ?_)
  · have zc_3 : (T 1 i 0 0) ≠ 0 := jne (a := (T 1 i 0 0)) (b := 0) (by omega) (by omega) c_3
    refine lv_aload_n hx hb dX2_setWidths_74 rfl (lv_at hl 0 rfl) ?_
    refine lv_bipush (v := iI 10) hx hb dX2_setWidths_75 (by decide) ?_
    refine lv_aload_n hx hb dX2_setWidths_77 rfl (lv_at hl 0 rfl) ?_
    refine x_get (ci := 2) (C := RX2) (T := TX2) (N := 13) (v := .int (iI ((pw - 4) / 2))) B 0 rfl rfl in_X2 5 (by decide) mw_134 (fun _ h9 => h9) rfl dX2_setWidths_78 ?_
    refine y_max (a := 10) (b := ((pw - 4) / 2)) B hl mw_1390 mw_700 mw_26 mw_701 (Nat.le_of_ble_eq_true rfl) (Nat.le_of_ble_eq_true rfl) (Nat.le_of_ble_eq_true rfl) (Nat.le_of_ble_eq_true rfl) (by omega) (by omega) dX2_setWidths_81 ?_
    refine x_put (ci := 2) (C := RX2) (T := TX2) (N := 13) (ty := .int) (v := .int (iI (max 10 ((pw - 4) / 2)))) B tyX2_ok nmX2 0 rfl rfl in_X2 5 (by decide) mw_134 (fun _ h9 => h9) rfl (by decide +kernel) rfl rfl (Nat.le_of_ble_eq_true rfl) dX2_setWidths_84 (fun H locs B => ?_)
    have B := bd_to (ws' := ([(ln, .inr (2, [.int (iI n), .ref wa, .ref ga, .ref wt, .ref wo, .int (iI (max 10 ((pw - 4) / 2))), .int (iI ((pw - 4) / 2)), .int (iI 0), .int (iI sd), .int (iI cl), .ref bD, .ref bL, .ref bE]))] ++ tl)) rfl B
    have e_4 : (wdZ T i pw) = (max 10 ((pw - 4) / 2)) := (by first | (simp only [wdZ, nwZ, dpZ, if_neg zc_3]; done) | (simp only [wdZ, nwZ, dpZ, if_neg zc_3]; omega) | (simp only [wdZ, nwZ, dpZ]; (repeat' split) <;> first | omega | rfl))
    have e_5 : (nwZ T i pw) = ((pw - 4) / 2) := (by first | (simp only [wdZ, nwZ, dpZ, if_neg zc_3]; done) | (simp only [wdZ, nwZ, dpZ, if_neg zc_3]; omega) | (simp only [wdZ, nwZ, dpZ]; (repeat' split) <;> first | omega | rfl))
    have e_6 : (dpZ T i) = 0 := (by first | (simp only [wdZ, nwZ, dpZ, if_neg zc_3]; done) | (simp only [wdZ, nwZ, dpZ, if_neg zc_3]; omega) | (simp only [wdZ, nwZ, dpZ]; (repeat' split) <;> first | omega | rfl))
    have B := bd_to (ws' := ([(ln, .inr (2, [.int (iI n), .ref wa, .ref ga, .ref wt, .ref wo, .int (iI (wdZ T i pw)), .int (iI (nwZ T i pw)), .int (iI (dpZ T i)), .int (iI sd), .int (iI cl), .ref bD, .ref bL, .ref bE]))] ++ tl)) (by first | rfl | (rw [e_4, e_5, e_6]) | (rw [e_6, e_5, e_4])) B
    exact k_vret B hr (⟨rfl, rfl, rfl, rfl⟩) ⟨Nat.le_of_ble_eq_true rfl, Nat.le_of_ble_eq_true rfl⟩ ⟨Nat.le_of_ble_eq_true rfl, Nat.le_of_ble_eq_true rfl⟩ dX2_setWidths_87
  · have zc_3 : (T 1 i 0 0) = 0 := jeq (a := (T 1 i 0 0)) (b := 0) (by omega) (by omega) c_3
    refine lv_aload_n hx hb dX2_setWidths_29 rfl (lv_at hl 0 rfl) ?_
    refine lv_iload_n hx hb dX2_setWidths_30 rfl (lv_at hl 2 rfl) ?_
    refine lv_bipush (v := iI 6) hx hb dX2_setWidths_31 (by decide) ?_
    refine lv_aload_n hx hb dX2_setWidths_33 rfl (lv_at hl 1 rfl) ?_
    obtain ⟨k_7, hk_7⟩ := pk_at (hs := [(ln, .inr (2, [.int (iI n), .ref wa, .ref ga, .ref wt, .ref wo, .int (iI ((pw - 4) / 2)), .int (iI ((pw - 4) / 2)), .int (iI 0), .int (iI sd), .int (iI cl), .ref bD, .ref bL, .ref bE]))]) (hT.2.2.2.1 i (by omega) (by omega)).1
    refine x_get (ci := 0) (C := RX0) (T := TX0) (N := 4) (v := .ref (A 1 i 0)) B k_7 hk_7 rfl in_X0 1 (by decide) mw_1174 (fun _ h9 => h9) rfl dX2_setWidths_34 ?_
    refine lv_iconst (v := iI 0) hx hb dX2_setWidths_37 (by decide) ?_
    obtain ⟨k_8, hk_8⟩ := pk_at (hs := [(ln, .inr (2, [.int (iI n), .ref wa, .ref ga, .ref wt, .ref wo, .int (iI ((pw - 4) / 2)), .int (iI ((pw - 4) / 2)), .int (iI 0), .int (iI sd), .int (iI cl), .ref bD, .ref bL, .ref bE]))]) (hT.2.2.2.1 i (by omega) (by omega)).2.1
    refine x_iald' (f := (fun j9 : Int => T 2 i j9 0)) (z := 0) B k_8 hk_8 (by omega) dX2_setWidths_38 ?_
    have z_9 : (-1) ≤ (T 2 i 0 0) ∧ (T 2 i 0 0) ≤ 30 := (fun j => TK_sty hK i j) 0
    have z_10 : 0 ≤ T 2 i 0 0 ∧ T 2 i 0 0 ≤ 2 := TK_ind hK i
    refine y_mul hx hb dX2_setWidths_39 ?_
    refine y_sub hx hb dX2_setWidths_40 ?_
    refine x_put (ci := 2) (C := RX2) (T := TX2) (N := 13) (ty := .int) (v := .int (iI (pw - (6 * (T 2 i 0 0))))) B tyX2_ok nmX2 0 rfl rfl in_X2 5 (by decide) mw_134 (fun _ h9 => h9) rfl (by decide +kernel) rfl rfl (Nat.le_of_ble_eq_true rfl) dX2_setWidths_41 (fun H locs B => ?_)
    have B := bd_to (ws' := ([(ln, .inr (2, [.int (iI n), .ref wa, .ref ga, .ref wt, .ref wo, .int (iI (pw - (6 * (T 2 i 0 0)))), .int (iI ((pw - 4) / 2)), .int (iI 0), .int (iI sd), .int (iI cl), .ref bD, .ref bL, .ref bE]))] ++ tl)) rfl B
    refine lv_aload_n hx hb dX2_setWidths_44 rfl (lv_at hl 0 rfl) ?_
    refine lv_bipush (v := iI 10) hx hb dX2_setWidths_45 (by decide) ?_
    refine lv_aload_n hx hb dX2_setWidths_47 rfl (lv_at hl 0 rfl) ?_
    refine x_get (ci := 2) (C := RX2) (T := TX2) (N := 13) (v := .int (iI (pw - (6 * (T 2 i 0 0))))) B 0 rfl rfl in_X2 5 (by decide) mw_134 (fun _ h9 => h9) rfl dX2_setWidths_48 ?_
    refine lv_aload_n hx hb dX2_setWidths_51 rfl (lv_at hl 1 rfl) ?_
    obtain ⟨k_11, hk_11⟩ := pk_at (hs := [(ln, .inr (2, [.int (iI n), .ref wa, .ref ga, .ref wt, .ref wo, .int (iI (pw - (6 * (T 2 i 0 0)))), .int (iI ((pw - 4) / 2)), .int (iI 0), .int (iI sd), .int (iI cl), .ref bD, .ref bL, .ref bE]))]) (hT.2.2.2.1 i (by omega) (by omega)).1
    refine x_get (ci := 0) (C := RX0) (T := TX0) (N := 4) (v := .ref (A 1 i 0)) B k_11 hk_11 rfl in_X0 1 (by decide) mw_1174 (fun _ h9 => h9) rfl dX2_setWidths_52 ?_
    refine lv_iconst (v := iI 4) hx hb dX2_setWidths_55 (by decide) ?_
    obtain ⟨k_12, hk_12⟩ := pk_at (hs := [(ln, .inr (2, [.int (iI n), .ref wa, .ref ga, .ref wt, .ref wo, .int (iI (pw - (6 * (T 2 i 0 0)))), .int (iI ((pw - 4) / 2)), .int (iI 0), .int (iI sd), .int (iI cl), .ref bD, .ref bL, .ref bE]))]) (hT.2.2.2.1 i (by omega) (by omega)).2.1
    refine x_iald' (f := (fun j9 : Int => T 2 i j9 0)) (z := 4) B k_12 hk_12 (by omega) dX2_setWidths_56 ?_
    have z_13 : (-1) ≤ (T 2 i 4 0) ∧ (T 2 i 4 0) ≤ 30 := (fun j => TK_sty hK i j) 4
    have z_14 : 0 ≤ T 2 i 4 0 ∧ T 2 i 4 0 ≤ 30 := TK_side hK i
    refine y_sub hx hb dX2_setWidths_57 ?_
    refine y_max (a := 10) (b := ((pw - (6 * (T 2 i 0 0))) - (T 2 i 4 0))) B hl mw_1390 mw_700 mw_26 mw_701 (Nat.le_of_ble_eq_true rfl) (Nat.le_of_ble_eq_true rfl) (Nat.le_of_ble_eq_true rfl) (Nat.le_of_ble_eq_true rfl) (by omega) (by omega) dX2_setWidths_58 ?_
    refine x_put (ci := 2) (C := RX2) (T := TX2) (N := 13) (ty := .int) (v := .int (iI (max 10 ((pw - (6 * (T 2 i 0 0))) - (T 2 i 4 0))))) B tyX2_ok nmX2 0 rfl rfl in_X2 6 (by decide) mw_135 (fun _ h9 => h9) rfl (by decide +kernel) rfl rfl (Nat.le_of_ble_eq_true rfl) dX2_setWidths_61 (fun H locs B => ?_)
    have B := bd_to (ws' := ([(ln, .inr (2, [.int (iI n), .ref wa, .ref ga, .ref wt, .ref wo, .int (iI (pw - (6 * (T 2 i 0 0)))), .int (iI (max 10 ((pw - (6 * (T 2 i 0 0))) - (T 2 i 4 0)))), .int (iI 0), .int (iI sd), .int (iI cl), .ref bD, .ref bL, .ref bE]))] ++ tl)) rfl B
    refine lv_aload_n hx hb dX2_setWidths_64 rfl (lv_at hl 0 rfl) ?_
    refine lv_aload_n hx hb dX2_setWidths_65 rfl (lv_at hl 1 rfl) ?_
    obtain ⟨k_15, hk_15⟩ := pk_at (hs := [(ln, .inr (2, [.int (iI n), .ref wa, .ref ga, .ref wt, .ref wo, .int (iI (pw - (6 * (T 2 i 0 0)))), .int (iI (max 10 ((pw - (6 * (T 2 i 0 0))) - (T 2 i 4 0)))), .int (iI 0), .int (iI sd), .int (iI cl), .ref bD, .ref bL, .ref bE]))]) (hT.2.2.2.1 i (by omega) (by omega)).1
    refine x_get (ci := 0) (C := RX0) (T := TX0) (N := 4) (v := .ref (A 1 i 0)) B k_15 hk_15 rfl in_X0 1 (by decide) mw_1174 (fun _ h9 => h9) rfl dX2_setWidths_66 ?_
    refine lv_iconst (v := iI 5) hx hb dX2_setWidths_69 (by decide) ?_
    obtain ⟨k_16, hk_16⟩ := pk_at (hs := [(ln, .inr (2, [.int (iI n), .ref wa, .ref ga, .ref wt, .ref wo, .int (iI (pw - (6 * (T 2 i 0 0)))), .int (iI (max 10 ((pw - (6 * (T 2 i 0 0))) - (T 2 i 4 0)))), .int (iI 0), .int (iI sd), .int (iI cl), .ref bD, .ref bL, .ref bE]))]) (hT.2.2.2.1 i (by omega) (by omega)).2.1
    refine x_iald' (f := (fun j9 : Int => T 2 i j9 0)) (z := 5) B k_16 hk_16 (by omega) dX2_setWidths_70 ?_
    have z_17 : (-1) ≤ (T 2 i 5 0) ∧ (T 2 i 5 0) ≤ 30 := (fun j => TK_sty hK i j) 5
    have z_18 : 0 ≤ T 2 i 5 0 ∧ T 2 i 5 0 ≤ 3 := TK_dep hK i
    refine x_put (ci := 2) (C := RX2) (T := TX2) (N := 13) (ty := .int) (v := .int (iI (T 2 i 5 0))) B tyX2_ok nmX2 0 rfl rfl in_X2 7 (by decide) mw_136 (fun _ h9 => h9) rfl (by decide +kernel) rfl rfl (Nat.le_of_ble_eq_true rfl) dX2_setWidths_71 (fun H locs B => ?_)
    have B := bd_to (ws' := ([(ln, .inr (2, [.int (iI n), .ref wa, .ref ga, .ref wt, .ref wo, .int (iI (pw - (6 * (T 2 i 0 0)))), .int (iI (max 10 ((pw - (6 * (T 2 i 0 0))) - (T 2 i 4 0)))), .int (iI (T 2 i 5 0)), .int (iI sd), .int (iI cl), .ref bD, .ref bL, .ref bE]))] ++ tl)) rfl B
    refine lv_aload_n hx hb dX2_setWidths_74 rfl (lv_at hl 0 rfl) ?_
    refine lv_bipush (v := iI 10) hx hb dX2_setWidths_75 (by decide) ?_
    refine lv_aload_n hx hb dX2_setWidths_77 rfl (lv_at hl 0 rfl) ?_
    refine x_get (ci := 2) (C := RX2) (T := TX2) (N := 13) (v := .int (iI (pw - (6 * (T 2 i 0 0))))) B 0 rfl rfl in_X2 5 (by decide) mw_134 (fun _ h9 => h9) rfl dX2_setWidths_78 ?_
    refine y_max (a := 10) (b := (pw - (6 * (T 2 i 0 0)))) B hl mw_1390 mw_700 mw_26 mw_701 (Nat.le_of_ble_eq_true rfl) (Nat.le_of_ble_eq_true rfl) (Nat.le_of_ble_eq_true rfl) (Nat.le_of_ble_eq_true rfl) (by omega) (by omega) dX2_setWidths_81 ?_
    refine x_put (ci := 2) (C := RX2) (T := TX2) (N := 13) (ty := .int) (v := .int (iI (max 10 (pw - (6 * (T 2 i 0 0)))))) B tyX2_ok nmX2 0 rfl rfl in_X2 5 (by decide) mw_134 (fun _ h9 => h9) rfl (by decide +kernel) rfl rfl (Nat.le_of_ble_eq_true rfl) dX2_setWidths_84 (fun H locs B => ?_)
    have B := bd_to (ws' := ([(ln, .inr (2, [.int (iI n), .ref wa, .ref ga, .ref wt, .ref wo, .int (iI (max 10 (pw - (6 * (T 2 i 0 0))))), .int (iI (max 10 ((pw - (6 * (T 2 i 0 0))) - (T 2 i 4 0)))), .int (iI (T 2 i 5 0)), .int (iI sd), .int (iI cl), .ref bD, .ref bL, .ref bE]))] ++ tl)) rfl B
    have e_19 : (wdZ T i pw) = (max 10 (pw - (6 * (T 2 i 0 0)))) := (by first | (simp only [wdZ, nwZ, dpZ, if_pos zc_3]; done) | (simp only [wdZ, nwZ, dpZ, if_pos zc_3]; omega) | (simp only [wdZ, nwZ, dpZ]; (repeat' split) <;> first | omega | rfl))
    have e_20 : (nwZ T i pw) = (max 10 ((pw - (6 * (T 2 i 0 0))) - (T 2 i 4 0))) := (by first | (simp only [wdZ, nwZ, dpZ, if_pos zc_3]; done) | (simp only [wdZ, nwZ, dpZ, if_pos zc_3]; omega) | (simp only [wdZ, nwZ, dpZ]; (repeat' split) <;> first | omega | rfl))
    have e_21 : (dpZ T i) = (T 2 i 5 0) := (by first | (simp only [wdZ, nwZ, dpZ, if_pos zc_3]; done) | (simp only [wdZ, nwZ, dpZ, if_pos zc_3]; omega) | (simp only [wdZ, nwZ, dpZ]; (repeat' split) <;> first | omega | rfl))
    have B := bd_to (ws' := ([(ln, .inr (2, [.int (iI n), .ref wa, .ref ga, .ref wt, .ref wo, .int (iI (wdZ T i pw)), .int (iI (nwZ T i pw)), .int (iI (dpZ T i)), .int (iI sd), .int (iI cl), .ref bD, .ref bL, .ref bE]))] ++ tl)) (by first | rfl | (rw [e_19, e_20, e_21]) | (rw [e_21, e_20, e_19])) B
    exact k_vret B hr (⟨rfl, rfl, rfl, rfl⟩) ⟨Nat.le_of_ble_eq_true rfl, Nat.le_of_ble_eq_true rfl⟩ ⟨Nat.le_of_ble_eq_true rfl, Nat.le_of_ble_eq_true rfl⟩ dX2_setWidths_87

theorem mw_128 : (Jvm.Cond.fieldLink "Galleyforge$Lines" (9 : Nat) "Galleyforge$Lines" "wordAt" "[I") ∈ gt := gt_at 198 (by decide +kernel) (by decide +kernel)
theorem dX2_addPlace_0 : decode cX2_addPlace 0 = .ok (.aload_n 0, 1) := by decide +kernel
theorem dX2_addPlace_1 : decode cX2_addPlace 1 = .ok (.getfield 34, 3) := by decide +kernel
theorem dX2_addPlace_4 : decode cX2_addPlace 4 = .ok (.bipush 48, 2) := by decide +kernel
theorem dX2_addPlace_6 : decode cX2_addPlace 6 = .ok (.if_icmp .ge 54, 3) := by decide +kernel
theorem dX2_addPlace_9 : decode cX2_addPlace 9 = .ok (.aload_n 0, 1) := by decide +kernel
theorem dX2_addPlace_10 : decode cX2_addPlace 10 = .ok (.dup, 1) := by decide +kernel
theorem dX2_addPlace_11 : decode cX2_addPlace 11 = .ok (.getfield 34, 3) := by decide +kernel
theorem dX2_addPlace_14 : decode cX2_addPlace 14 = .ok (.iconst 1, 1) := by decide +kernel
theorem dX2_addPlace_15 : decode cX2_addPlace 15 = .ok (.iadd, 1) := by decide +kernel
theorem dX2_addPlace_16 : decode cX2_addPlace 16 = .ok (.putfield 34, 3) := by decide +kernel
theorem dX2_addPlace_19 : decode cX2_addPlace 19 = .ok (.aload_n 0, 1) := by decide +kernel
theorem dX2_addPlace_20 : decode cX2_addPlace 20 = .ok (.getfield 9, 3) := by decide +kernel
theorem dX2_addPlace_23 : decode cX2_addPlace 23 = .ok (.aload_n 0, 1) := by decide +kernel
theorem dX2_addPlace_24 : decode cX2_addPlace 24 = .ok (.getfield 34, 3) := by decide +kernel
theorem dX2_addPlace_27 : decode cX2_addPlace 27 = .ok (.iload_n 1, 1) := by decide +kernel
theorem dX2_addPlace_28 : decode cX2_addPlace 28 = .ok (.iastore, 1) := by decide +kernel
theorem dX2_addPlace_29 : decode cX2_addPlace 29 = .ok (.aload_n 0, 1) := by decide +kernel
theorem dX2_addPlace_30 : decode cX2_addPlace 30 = .ok (.getfield 15, 3) := by decide +kernel
theorem dX2_addPlace_33 : decode cX2_addPlace 33 = .ok (.aload_n 0, 1) := by decide +kernel
theorem dX2_addPlace_34 : decode cX2_addPlace 34 = .ok (.getfield 34, 3) := by decide +kernel
theorem dX2_addPlace_37 : decode cX2_addPlace 37 = .ok (.iload_n 2, 1) := by decide +kernel
theorem dX2_addPlace_38 : decode cX2_addPlace 38 = .ok (.iastore, 1) := by decide +kernel
theorem dX2_addPlace_39 : decode cX2_addPlace 39 = .ok (.aload_n 0, 1) := by decide +kernel
theorem dX2_addPlace_40 : decode cX2_addPlace 40 = .ok (.getfield 18, 3) := by decide +kernel
theorem dX2_addPlace_43 : decode cX2_addPlace 43 = .ok (.aload_n 0, 1) := by decide +kernel
theorem dX2_addPlace_44 : decode cX2_addPlace 44 = .ok (.getfield 34, 3) := by decide +kernel
theorem dX2_addPlace_47 : decode cX2_addPlace 47 = .ok (.iload_n 3, 1) := by decide +kernel
theorem dX2_addPlace_48 : decode cX2_addPlace 48 = .ok (.iastore, 1) := by decide +kernel
theorem dX2_addPlace_49 : decode cX2_addPlace 49 = .ok (.aload_n 0, 1) := by decide +kernel
theorem dX2_addPlace_50 : decode cX2_addPlace 50 = .ok (.getfield 21, 3) := by decide +kernel
theorem dX2_addPlace_53 : decode cX2_addPlace 53 = .ok (.aload_n 0, 1) := by decide +kernel
theorem dX2_addPlace_54 : decode cX2_addPlace 54 = .ok (.getfield 34, 3) := by decide +kernel
theorem dX2_addPlace_57 : decode cX2_addPlace 57 = .ok (.iload 4, 2) := by decide +kernel
theorem dX2_addPlace_59 : decode cX2_addPlace 59 = .ok (.iastore, 1) := by decide +kernel
theorem dX2_addPlace_60 : decode cX2_addPlace 60 = .ok (.return_, 1) := by decide +kernel
set_option maxHeartbeats 4000000 in
set_option maxRecDepth 100000 in
theorem k_addPlace (l : Launch) (dC : Nat → ClassId) (dI : Nat → Nat → Nat) (k : Nat → ClassId) (ln : Nat) (wa : Nat) (ga : Nat) (wt : Nat) (wo : Nat) (bD : Nat) (bL : Nat) (bE : Nat) (n : Int) (wd : Int) (nw : Int) (dp : Int) (sd : Int) (cl : Int) (fa : Int → Int) (fg : Int → Int) (fw : Int → Int) (fo : Int → Int) (at_ : Int) (gp : Int) (up : Int) (ah : Int) (ha : Bd 0 11 fa) (hg : Bd 0 5 fg) (hw : Bd 0 2000 fw) (ho : Bd 0 12 fo) (h1 : 0 ≤ n ∧ n < 48) (h2 : 0 ≤ at_ ∧ at_ ≤ 11 ∧ 0 ≤ gp ∧ gp ≤ 5 ∧ 0 ≤ up ∧ up ≤ 2000 ∧ 0 ≤ ah ∧ ah ≤ 12) : Kn l dC dI k yX2_addPlace (.code yX2_addPlace cX2_addPlace 5 none) ({ frames := 0, cells := 0, slots := 0, locals := 0 } : Room) [.ref ln, .int (iI at_), .int (iI gp), .int (iI up), .int (iI ah)] [(ln, .inr (2, [.int (iI n), .ref wa, .ref ga, .ref wt, .ref wo, .int (iI wd), .int (iI nw), .int (iI dp), .int (iI sd), .int (iI cl), .ref bD, .ref bL, .ref bE])), (wa, .inl (k 0, 49, .inl (fun i9 : Nat => iI (fa i9)))), (ga, .inl (k 0, 49, .inl (fun i9 : Nat => iI (fg i9)))), (wt, .inl (k 0, 49, .inl (fun i9 : Nat => iI (fw i9)))), (wo, .inl (k 0, 49, .inl (fun i9 : Nat => iI (fo i9))))] (fun r w gc gs => ((n < 48) ∧ (Bd 0 11 (uz fa (n + 1) at_)) ∧ (Bd 0 5 (uz fg (n + 1) gp)) ∧ (Bd 0 2000 (uz fw (n + 1) up)) ∧ (Bd 0 12 (uz fo (n + 1) ah)) ∧ r = none ∧ w = [(ln, .inr (2, [.int (iI (n + 1)), .ref wa, .ref ga, .ref wt, .ref wo, .int (iI wd), .int (iI nw), .int (iI dp), .int (iI sd), .int (iI cl), .ref bD, .ref bL, .ref bE])), (wa, .inl (k 0, 49, .inl (fun i9 : Nat => iI ((uz fa (n + 1) at_) i9)))), (ga, .inl (k 0, 49, .inl (fun i9 : Nat => iI ((uz fg (n + 1) gp) i9)))), (wt, .inl (k 0, 49, .inl (fun i9 : Nat => iI ((uz fw (n + 1) up) i9)))), (wo, .inl (k 0, 49, .inl (fun i9 : Nat => iI ((uz fo (n + 1) ah) i9))))] ∧ gc = 0 ∧ gs = 0)) := by
  refine kn_of (by decide) (Nat.le_of_ble_eq_true rfl) ?_
  intro p e s m args below meth c H locs B hr hnm ls hl
  have hx := B.1.1
  have hb := B.1.2.1
  have hl : lv_has ls 5 [(0, .ref ln), (1, .int (iI at_)), (2, .int (iI gp)), (3, .int (iI up)), (4, .int (iI ah))] := hl
  refine lv_aload_n hx hb dX2_addPlace_0 rfl (lv_at hl 0 rfl) ?_
  refine x_get (ci := 2) (C := RX2) (T := TX2) (N := 13) (v := .int (iI n)) B 0 rfl rfl in_X2 0 (by decide) mw_126 (fun _ h9 => h9) rfl dX2_addPlace_1 ?_
  refine lv_bipush (v := iI 48) hx hb dX2_addPlace_4 (by decide) ?_
  refine lv_icmp_ge (tgt := 60) hx hb dX2_addPlace_6 (by decide) (fun c_1 => ?_) (fun c_1 => ?_)
  · have zc_1 : 48 ≤ n := jle (a := 48) (b := n) (by omega) (by omega) c_1
    exfalso; omega
  · have zc_1 : n < 48 := jnle (a := 48) (b := n) (by omega) (by omega) c_1
    refine lv_aload_n hx hb dX2_addPlace_9 rfl (lv_at hl 0 rfl) ?_
    refine lv_dup hx hb dX2_addPlace_10 rfl ?_
    refine x_get (ci := 2) (C := RX2) (T := TX2) (N := 13) (v := .int (iI n)) B 0 rfl rfl in_X2 0 (by decide) mw_126 (fun _ h9 => h9) rfl dX2_addPlace_11 ?_
    refine lv_iconst (v := iI 1) hx hb dX2_addPlace_14 (by decide) ?_
    refine y_add hx hb dX2_addPlace_15 ?_
    refine x_put (ci := 2) (C := RX2) (T := TX2) (N := 13) (ty := .int) (v := .int (iI (n + 1))) B tyX2_ok nmX2 0 rfl rfl in_X2 0 (by decide) mw_126 (fun _ h9 => h9) rfl (by decide +kernel) rfl rfl (Nat.le_of_ble_eq_true rfl) dX2_addPlace_16 (fun H locs B => ?_)
    have B := bd_to (ws' := [(ln, .inr (2, [.int (iI (n + 1)), .ref wa, .ref ga, .ref wt, .ref wo, .int (iI wd), .int (iI nw), .int (iI dp), .int (iI sd), .int (iI cl), .ref bD, .ref bL, .ref bE])), (wa, .inl (k 0, 49, .inl (fun i9 : Nat => iI (fa i9)))), (ga, .inl (k 0, 49, .inl (fun i9 : Nat => iI (fg i9)))), (wt, .inl (k 0, 49, .inl (fun i9 : Nat => iI (fw i9)))), (wo, .inl (k 0, 49, .inl (fun i9 : Nat => iI (fo i9))))]) rfl B
    refine lv_aload_n hx hb dX2_addPlace_19 rfl (lv_at hl 0 rfl) ?_
    refine x_get (ci := 2) (C := RX2) (T := TX2) (N := 13) (v := .ref wa) B 0 rfl rfl in_X2 1 (by decide) mw_128 (fun _ h9 => h9) rfl dX2_addPlace_20 ?_
    refine lv_aload_n hx hb dX2_addPlace_23 rfl (lv_at hl 0 rfl) ?_
    refine x_get (ci := 2) (C := RX2) (T := TX2) (N := 13) (v := .int (iI (n + 1))) B 0 rfl rfl in_X2 0 (by decide) mw_126 (fun _ h9 => h9) rfl dX2_addPlace_24 ?_
    refine lv_iload_n hx hb dX2_addPlace_27 rfl (lv_at hl 1 rfl) ?_
    refine x_iast' (f := fa) (z := (n + 1)) (v := at_) B 1 rfl (by omega) dX2_addPlace_28 (fun H locs B => ?_)
    have b_2 : Bd 0 11 (uz fa (n + 1) at_) := Bd_uz ha (by omega)
    have B := bd_to (ws' := [(ln, .inr (2, [.int (iI (n + 1)), .ref wa, .ref ga, .ref wt, .ref wo, .int (iI wd), .int (iI nw), .int (iI dp), .int (iI sd), .int (iI cl), .ref bD, .ref bL, .ref bE])), (wa, .inl (k 0, 49, .inl (fun i9 : Nat => iI ((uz fa (n + 1) at_) i9)))), (ga, .inl (k 0, 49, .inl (fun i9 : Nat => iI (fg i9)))), (wt, .inl (k 0, 49, .inl (fun i9 : Nat => iI (fw i9)))), (wo, .inl (k 0, 49, .inl (fun i9 : Nat => iI (fo i9))))]) rfl B
    refine lv_aload_n hx hb dX2_addPlace_29 rfl (lv_at hl 0 rfl) ?_
    refine x_get (ci := 2) (C := RX2) (T := TX2) (N := 13) (v := .ref ga) B 0 rfl rfl in_X2 2 (by decide) mw_130 (fun _ h9 => h9) rfl dX2_addPlace_30 ?_
    refine lv_aload_n hx hb dX2_addPlace_33 rfl (lv_at hl 0 rfl) ?_
    refine x_get (ci := 2) (C := RX2) (T := TX2) (N := 13) (v := .int (iI (n + 1))) B 0 rfl rfl in_X2 0 (by decide) mw_126 (fun _ h9 => h9) rfl dX2_addPlace_34 ?_
    refine lv_iload_n hx hb dX2_addPlace_37 rfl (lv_at hl 2 rfl) ?_
    refine x_iast' (f := fg) (z := (n + 1)) (v := gp) B 2 rfl (by omega) dX2_addPlace_38 (fun H locs B => ?_)
    have b_3 : Bd 0 5 (uz fg (n + 1) gp) := Bd_uz hg (by omega)
    have B := bd_to (ws' := [(ln, .inr (2, [.int (iI (n + 1)), .ref wa, .ref ga, .ref wt, .ref wo, .int (iI wd), .int (iI nw), .int (iI dp), .int (iI sd), .int (iI cl), .ref bD, .ref bL, .ref bE])), (wa, .inl (k 0, 49, .inl (fun i9 : Nat => iI ((uz fa (n + 1) at_) i9)))), (ga, .inl (k 0, 49, .inl (fun i9 : Nat => iI ((uz fg (n + 1) gp) i9)))), (wt, .inl (k 0, 49, .inl (fun i9 : Nat => iI (fw i9)))), (wo, .inl (k 0, 49, .inl (fun i9 : Nat => iI (fo i9))))]) rfl B
    refine lv_aload_n hx hb dX2_addPlace_39 rfl (lv_at hl 0 rfl) ?_
    refine x_get (ci := 2) (C := RX2) (T := TX2) (N := 13) (v := .ref wt) B 0 rfl rfl in_X2 3 (by decide) mw_132 (fun _ h9 => h9) rfl dX2_addPlace_40 ?_
    refine lv_aload_n hx hb dX2_addPlace_43 rfl (lv_at hl 0 rfl) ?_
    refine x_get (ci := 2) (C := RX2) (T := TX2) (N := 13) (v := .int (iI (n + 1))) B 0 rfl rfl in_X2 0 (by decide) mw_126 (fun _ h9 => h9) rfl dX2_addPlace_44 ?_
    refine lv_iload_n hx hb dX2_addPlace_47 rfl (lv_at hl 3 rfl) ?_
    refine x_iast' (f := fw) (z := (n + 1)) (v := up) B 3 rfl (by omega) dX2_addPlace_48 (fun H locs B => ?_)
    have b_4 : Bd 0 2000 (uz fw (n + 1) up) := Bd_uz hw (by omega)
    have B := bd_to (ws' := [(ln, .inr (2, [.int (iI (n + 1)), .ref wa, .ref ga, .ref wt, .ref wo, .int (iI wd), .int (iI nw), .int (iI dp), .int (iI sd), .int (iI cl), .ref bD, .ref bL, .ref bE])), (wa, .inl (k 0, 49, .inl (fun i9 : Nat => iI ((uz fa (n + 1) at_) i9)))), (ga, .inl (k 0, 49, .inl (fun i9 : Nat => iI ((uz fg (n + 1) gp) i9)))), (wt, .inl (k 0, 49, .inl (fun i9 : Nat => iI ((uz fw (n + 1) up) i9)))), (wo, .inl (k 0, 49, .inl (fun i9 : Nat => iI (fo i9))))]) rfl B
    refine lv_aload_n hx hb dX2_addPlace_49 rfl (lv_at hl 0 rfl) ?_
    refine x_get (ci := 2) (C := RX2) (T := TX2) (N := 13) (v := .ref wo) B 0 rfl rfl in_X2 4 (by decide) mw_133 (fun _ h9 => h9) rfl dX2_addPlace_50 ?_
    refine lv_aload_n hx hb dX2_addPlace_53 rfl (lv_at hl 0 rfl) ?_
    refine x_get (ci := 2) (C := RX2) (T := TX2) (N := 13) (v := .int (iI (n + 1))) B 0 rfl rfl in_X2 0 (by decide) mw_126 (fun _ h9 => h9) rfl dX2_addPlace_54 ?_
    refine lv_iload hx hb dX2_addPlace_57 (lv_at hl 4 rfl) ?_
    refine x_iast' (f := fo) (z := (n + 1)) (v := ah) B 4 rfl (by omega) dX2_addPlace_59 (fun H locs B => ?_)
    have b_5 : Bd 0 12 (uz fo (n + 1) ah) := Bd_uz ho (by omega)
    have B := bd_to (ws' := [(ln, .inr (2, [.int (iI (n + 1)), .ref wa, .ref ga, .ref wt, .ref wo, .int (iI wd), .int (iI nw), .int (iI dp), .int (iI sd), .int (iI cl), .ref bD, .ref bL, .ref bE])), (wa, .inl (k 0, 49, .inl (fun i9 : Nat => iI ((uz fa (n + 1) at_) i9)))), (ga, .inl (k 0, 49, .inl (fun i9 : Nat => iI ((uz fg (n + 1) gp) i9)))), (wt, .inl (k 0, 49, .inl (fun i9 : Nat => iI ((uz fw (n + 1) up) i9)))), (wo, .inl (k 0, 49, .inl (fun i9 : Nat => iI ((uz fo (n + 1) ah) i9))))]) rfl B
    exact k_vret B hr (⟨zc_1, (Bd_uz ha (by omega)), (Bd_uz hg (by omega)), (Bd_uz hw (by omega)), (Bd_uz ho (by omega)), rfl, rfl, rfl, rfl⟩) ⟨Nat.le_of_ble_eq_true rfl, Nat.le_of_ble_eq_true rfl⟩ ⟨Nat.le_of_ble_eq_true rfl, Nat.le_of_ble_eq_true rfl⟩ dX2_addPlace_60

end
