section
set_option maxHeartbeats 4000000 in
set_option maxRecDepth 100000 in
theorem en_start {b : Nat} {s : State} (hts : ∀ w ∈ lw_tbl, w.before #[Value.ref b] s = true) (hgv : (Jvm.Cond.and given_1 narrow_1).before #[Value.ref b] s = true) : ∃ (dC : Nat → ClassId) (dI : Nat → Nat → Nat) (k : Nat → ClassId), en dC dI k (fun q => s.heap.size ≤ q) s s.heap := by
  have htg : ∀ w ∈ gt, w.before #[Value.ref b] s = true := fun w h => hts w (List.mem_filter.mp h).1
  have hat : ∀ (i : Nat) (w : Cond), lw_tbl[i]? = some w → w.before #[Value.ref b] s = true := fun i w h => hts w (List.mem_of_getElem? h)
  have hg := flat_of_before _ hgv
  have hA : ∀ a : Nat, a < s.heap.size → ¬ (fun q : Nat => s.heap.size ≤ q) a := fun a h => Nat.not_le.mpr h
  obtain ⟨c0, i0, K0⟩ := u_known (C := RX0) (T := TX0) (N := 4) (n := 4) htg in_X0 (hat 1264 _ (by decide +kernel))
  obtain ⟨c1, i1, K1⟩ := u_known (C := RX1) (T := TX1) (N := 17) (n := 17) htg in_X1 (hat 348 _ (by decide +kernel))
  obtain ⟨c2, i2, K2⟩ := u_known (C := RX2) (T := TX2) (N := 13) (n := 13) htg in_X2 (hat 257 _ (by decide +kernel))
  obtain ⟨c3, i3, K3⟩ := u_known (C := RX3) (T := TX3) (N := 15) (n := 15) htg in_X3 (hat 444 _ (by decide +kernel))
  obtain ⟨c4, i4, K4⟩ := u_known (C := RX4) (T := TX4) (N := 12) (n := 12) htg in_X4 (hat 438 _ (by decide +kernel))
  obtain ⟨c5, i5, K5⟩ := u_known (C := RX6) (T := TX6) (N := 18) (n := 18) htg in_X6 (hat 354 _ (by decide +kernel))
  obtain ⟨c6, i6, K6⟩ := u_known (C := RX7) (T := TX7) (N := 8) (n := 8) htg in_X7 (hat 308 _ (by decide +kernel))
  obtain ⟨c7, i7, K7⟩ := u_known (C := RX8) (T := TX8) (N := 7) (n := 7) htg in_X8 (hat 1272 _ (by decide +kernel))
  obtain ⟨c8, i8, K8⟩ := u_known (C := RX9) (T := TX9) (N := 8) (n := 8) htg in_X9 (hat 180 _ (by decide +kernel))
  obtain ⟨c9, i9, K9⟩ := u_known (C := RX11) (T := TX11) (N := 5) (n := 5) htg in_X11 (hat 172 _ (by decide +kernel))
  obtain ⟨c10, i10, K10⟩ := u_known (C := RX12) (T := TX12) (N := 93) (n := 93) htg in_X12 (hat 1994 _ (by decide +kernel))
  obtain ⟨c11, i11, K11⟩ := u_known (C := RJx4a65c) (T := TJx4a65c) (N := 3) (n := 3) htg in_Jx4a65c (hat 186 _ (by decide +kernel))
  obtain ⟨a0, k0, p0, f0, g0, h0⟩ := Cond.arrayClass_spec (type := .int) (hat 255 (.arrayClass .int) (by decide +kernel))
  obtain ⟨a1, k1, p1, f1, g1, h1⟩ := Cond.arrayClass_spec (type := .boolean) (hat 436 (.arrayClass .boolean) (by decide +kernel))
  obtain ⟨a2, k2, p2, f2, g2, h2⟩ := Cond.arrayClass_spec (type := .long) (hat 306 (.arrayClass .long) (by decide +kernel))
  obtain ⟨p3, a3, k3, e3, y3, f3, g3, h3⟩ := Cond.arrayOver_spec (n := "Galleyforge$Layout") (hat 347 (.arrayOver (.object "Galleyforge$Layout")) (by decide +kernel))
  obtain ⟨p4, a4, k4, e4, y4, f4, g4, h4⟩ := Cond.arrayOver_spec (n := "java/lang/Object") (hat 869 (.arrayOver (.object "java/lang/Object")) (by decide +kernel))
  obtain ⟨ylw, u1lw, u2lw⟩ := Cond.eq_one (show (Cond.eq (.length (.static "Galleyforge" "LETTER_WIDTHS" "[I")) (.int 4)).holds #[Value.ref b] s none s [] = true from hg _ (by decide +kernel))
  obtain ⟨lw, llw, v1lw, v2lw, v3lw⟩ := Term.length_spec u1lw
  obtain ⟨w1lw, w2lw, -, -⟩ := State.arrayAt?_spec v2lw
  have w3lw := Cond.arrayOf_spec (show (Cond.arrayOf (.static "Galleyforge" "LETTER_WIDTHS" "[I") .int).holds #[Value.ref b] s none s [] = true from hg _ (by decide +kernel)) v1lw w1lw
  have w4lw : llw.slots.size.toInt32 = 4 := by
    have z9 : ylw = .int 4 := (Option.some.inj u2lw).symm
    rw [v3lw] at z9
    exact Value.int.inj z9
  have lalw : la .int 4 lw (fun q => s.heap.size ≤ q) s s.heap := ⟨llw, w1lw, w3lw.1, w3lw.2, w4lw, Nat.not_le.mpr (Array.getElem?_eq_some_iff.mp w1lw).1⟩
  have valw : va_Z "Galleyforge" "LETTER_WIDTHS" "[I" (.ref lw) (fun q => s.heap.size ≤ q) s s.heap := va_Zof (hat 648 _ (by decide +kernel)) (hat 136 _ (by decide +kernel)) v1lw hA
  obtain ⟨yda, u1da, u2da⟩ := Cond.eq_one (show (Cond.eq (.length (.static "java/util/ArrayList" "DEFAULTCAPACITY_EMPTY_ELEMENTDATA" "[Ljava/lang/Object;")) (.int 0)).holds #[Value.ref b] s none s [] = true from hg _ (by decide +kernel))
  obtain ⟨da, lda, v1da, v2da, v3da⟩ := Term.length_spec u1da
  obtain ⟨w1da, w2da, -, -⟩ := State.arrayAt?_spec v2da
  have w3da := Cond.arrayOf_spec (show (Cond.arrayOf (.static "java/util/ArrayList" "DEFAULTCAPACITY_EMPTY_ELEMENTDATA" "[Ljava/lang/Object;") (.object "java/lang/Object")).holds #[Value.ref b] s none s [] = true from hg _ (by decide +kernel)) v1da w1da
  have w4da : lda.slots.size.toInt32 = 0 := by
    have z9 : yda = .int 0 := (Option.some.inj u2da).symm
    rw [v3da] at z9
    exact Value.int.inj z9
  have lada : la (.object "java/lang/Object") 0 da (fun q => s.heap.size ≤ q) s s.heap := ⟨lda, w1da, w3da.1, w3da.2, w4da, Nat.not_le.mpr (Array.getElem?_eq_some_iff.mp w1da).1⟩
  have vada : va_Z "java/util/ArrayList" "DEFAULTCAPACITY_EMPTY_ELEMENTDATA" "[Ljava/lang/Object;" (.ref da) (fun q => s.heap.size ≤ q) s s.heap := va_Zof (hat 198 _ (by decide +kernel)) (hat 140 _ (by decide +kernel)) v1da hA
  refine ⟨fun c => if c = 0 then c0 else if c = 1 then c1 else if c = 2 then c2 else if c = 3 then c3 else if c = 4 then c4 else if c = 5 then c5 else if c = 6 then c6 else if c = 7 then c7 else if c = 8 then c8 else if c = 9 then c9 else if c = 10 then c10 else if c = 11 then c11 else c0, fun c => if c = 99 then (fun _ => da) else if c = 0 then i0 else if c = 1 then i1 else if c = 2 then i2 else if c = 3 then i3 else if c = 4 then i4 else if c = 5 then i5 else if c = 6 then i6 else if c = 7 then i7 else if c = 8 then i8 else if c = 9 then i9 else if c = 10 then i10 else if c = 11 then i11 else i0, fun c => if c = 0 then a0 else if c = 1 then a1 else if c = 2 then a2 else if c = 3 then a3 else a4, ⟨?_, ?_⟩, ⟨?_, ?_, ?_, ?_, ?_, ?_, ?_, ?_⟩, ?_, ⟨?_, ?_⟩, ⟨lw, valw, lalw⟩, ⟨vada, lada⟩, ⟨?_, ?_⟩, ?_, ?_, ?_⟩
  · intro c q hq
    match c, hq with
    | 0, hq => cases hq; exact K0
    | 1, hq => cases hq; exact K1
    | 2, hq => cases hq; exact K2
    | 3, hq => cases hq; exact K3
    | 4, hq => cases hq; exact K4
    | 5, hq => cases hq; exact K5
    | 6, hq => cases hq; exact K6
    | 7, hq => cases hq; exact K7
    | 8, hq => cases hq; exact K8
    | 9, hq => cases hq; exact K9
    | 10, hq => cases hq; exact K10
    | 11, hq => cases hq; exact K11
    | c + 12, hq => simp [classes] at hq
  · intro c q hq
    match c, hq with
    | 0, hq => cases hq; exact ⟨fun n z => ⟨(fun k h => by cases h), k0, g0, p0, h0⟩, f0⟩
    | 1, hq => cases hq; exact ⟨fun n z => ⟨(fun k h => by cases h), k1, g1, p1, h1⟩, f1⟩
    | 2, hq => cases hq; exact ⟨fun n z => ⟨(fun k h => by cases h), k2, g2, p2, h2⟩, f2⟩
    | 3, hq => cases hq; exact ⟨fun n z => ⟨(fun k h => by cases h), k3, f3, p3, g3⟩, k3, p3, f3, g3, e3, h3⟩
    | 4, hq => cases hq; exact ⟨fun n z => ⟨(fun k h => by cases h), k4, f4, p4, g4⟩, k4, p4, f4, g4, e4, h4⟩
    | c + 5, hq => simp [ty5] at hq
  · exact va_Nw.of rfl (hat 181 _ (by decide +kernel))
  · exact va_Nw.of rfl (hat 258 _ (by decide +kernel))
  · exact va_Nw.of rfl (hat 309 _ (by decide +kernel))
  · exact va_Nw.of rfl (hat 355 _ (by decide +kernel))
  · exact va_Nw.of rfl (hat 1273 _ (by decide +kernel))
  · exact va_Nw.of rfl (hat 2747 _ (by decide +kernel))
  · exact va_AO.of (hat 347 _ (by decide +kernel))
  · exact va_AO.of (hat 869 _ (by decide +kernel))
  · intro q hq
    have hw := hts _ ((by decide +kernel : ∀ q ∈ strs, Cond.stringRef RX11 q.1 q.2 ∈ lw_tbl) q hq)
    obtain ⟨_, _, _, sa, _, _, _, _, _, h9⟩ := Cond.stringRef_spec K9.2.1 hw
    exact ⟨sa, vk_R.of hw h9⟩
  · exact vx_Zqof (hat 676 _ (by decide +kernel)) (hat 149 _ (by decide +kernel)) (hg _ (by decide +kernel)) hA
  · exact vx_Zqof (hat 678 _ (by decide +kernel)) (hat 149 _ (by decide +kernel)) (hg _ (by decide +kernel)) hA
  · intro E hE
    exact ca.of (hts _ ((by decide +kernel : ∀ E ∈ [nIO, nIS, nIA], Cond.castable E E ∈ lw_tbl) E hE))
  · intro x hx
    exact va_Nw.of rfl (hts _ ((by decide +kernel : ∀ x ∈ decls, Cond.declares x ∈ lw_tbl) x hx))
  · exact va_Nc.of (hg _ (by decide +kernel))
  · exact va_Nc.of (hg _ (by decide +kernel))
  · exact va_Nc.of (hg _ (by decide +kernel))

end
