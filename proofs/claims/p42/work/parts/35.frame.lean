section
section FR1
variable {l : Launch} {dC : Nat → ClassId} {dI : Nat → Nat → Nat} {k : Nat → ClassId} {y : MethodName} {c0 : Cond} {rm : Room} {av : List Value} {post : Option Value → va_W → Nat → Nat → Prop} {px : String → va_W → Nat → Nat → Prop}
theorem va_D_nd {A : Nat → Prop} {ws : va_W} (h : va_D A ws) : (ws.map (fun q => q.1)).Nodup := by
  rw [List.nodup_iff_pairwise_ne, List.pairwise_iff_getElem]
  intro i j hi hj hij e
  have hi2 : i < ws.length := by simpa using hi
  have hj2 : j < ws.length := by simpa using hj
  have := h.1 i j _ _ (List.getElem?_eq_getElem hi2) (List.getElem?_eq_getElem hj2) (by simpa using e)
  omega
theorem va_D_of {A : Nat → Prop} {ws : va_W} (h : (ws.map (fun q => q.1)).Nodup) (ha : ∀ q ∈ ws, A q.1) : va_D A ws := by
  have key : ∀ (i j : Nat) (a b : Nat × va_E), ws[i]? = some a → ws[j]? = some b → a.1 = b.1 → i < j → False := by
    intro i j a b hi hj e hij
    have hi2 := (List.getElem?_eq_some_iff.mp hi).1
    have hj2 := (List.getElem?_eq_some_iff.mp hj).1
    have hp := List.pairwise_iff_getElem.mp (List.nodup_iff_pairwise_ne.mp h) i j (by simpa using hi2) (by simpa using hj2) hij
    apply hp
    have e1 := (List.getElem?_eq_some_iff.mp hi).2
    have e2 := (List.getElem?_eq_some_iff.mp hj).2
    simp only [List.getElem_map, e1, e2]
    exact e
  refine ⟨fun i j a b hi hj e => ?_, fun k q hk => ha q (List.mem_of_getElem? hk)⟩
  rcases Nat.lt_trichotomy i j with h1 | h1 | h1
  · exact (key i j a b hi hj e h1).elim
  · exact h1
  · exact (key j i b a hj hi e.symm h1).elim
theorem va_P_perm {D : va_G} {cl : List vw_C} {ws ws' : va_W} {H : Heap} (h : ws.Perm ws') (hP : va_P D cl ws H) : va_P D cl ws' H := fun i q hq => by
  obtain ⟨j, hj⟩ := List.mem_iff_getElem?.mp (h.mem_iff.mpr (List.mem_of_getElem? hq))
  exact hP j q hj
theorem va_D_perm {A : Nat → Prop} {ws ws' : va_W} (h : ws.Perm ws') (hD : va_D A ws) : va_D A ws' :=
  va_D_of ((h.map (fun q => q.1)).nodup (va_D_nd hD)) (fun q hq => by
    obtain ⟨j, hj⟩ := List.mem_iff_getElem?.mp (h.mem_iff.mpr hq)
    exact hD.2 j q hj)
theorem va_A_perm {ws ws' : va_W} {sz q : Nat} (h : ws.Perm ws') (hq : va_A ws sz q) : va_A ws' sz q := by
  rcases hq with ⟨i, e, hi⟩ | hq
  · obtain ⟨j, hj⟩ := List.mem_iff_getElem?.mp (h.mem_iff.mp (List.mem_of_getElem? hi))
    exact Or.inl ⟨j, e, hj⟩
  · exact Or.inr hq
theorem va_A_l {wc wr : va_W} {sz q : Nat} (hq : va_A wc sz q) : va_A (wc ++ wr) sz q := by
  rcases hq with ⟨i, e, hi⟩ | hq
  · exact Or.inl ⟨i, e, by rw [List.getElem?_append_left (List.getElem?_eq_some_iff.mp hi).1]; exact hi⟩
  · exact Or.inr hq
theorem Pw_perm {ws ws' : va_W} {sz : Nat} {a : Array Value} {U : State} (h : ws.Perm ws') (hp : Pw dC dI k av ws sz a U) : Pw dC dI k av ws' sz a U :=
  ⟨hp.1, hp.2.1, va_P_perm h hp.2.2.1, va_D_perm h hp.2.2.2.1, en.narrow hp.2.2.2.2 (fun q hq => va_A_perm h.symm hq)⟩
theorem Pw_l {wc wr : va_W} {sz : Nat} {a : Array Value} {U : State} (hp : Pw dC dI k av (wc ++ wr) sz a U) : Pw dC dI k av wc sz a U :=
  ⟨hp.1, hp.2.1, fun i q hq => hp.2.2.1 i q (by rw [List.getElem?_append_left (List.getElem?_eq_some_iff.mp hq).1]; exact hq), va_D_of (by
    have := va_D_nd hp.2.2.2.1
    rw [List.map_append, List.nodup_append] at this
    exact this.1) (fun _ _ => trivial), en.narrow hp.2.2.2.2 (fun q hq => va_A_l hq)⟩
theorem va_F_mono {A B : Nat → Prop} {st t : State} (h : va_F A st t) (hAB : ∀ q, A q → B q) : va_F B st t := ⟨h.1, fun q h1 h2 => h.2 q h1 (fun z => h2 (hAB q z))⟩
theorem jn_l {wc wr w : va_W} {sz : Nat} {H H1 : Heap} (hP : va_P (dC, dI) classes (wc ++ wr) H) (hD : va_D (fun _ => True) (wc ++ wr)) (hsz : H.size = sz) (hk : ∀ q : Nat, q < H.size → ¬ va_A wc sz q → H1[q]? = H[q]?) (hPw : va_P (dC, dI) classes w H1) (hDw : va_D (va_A wc sz) w) :
    va_P (dC, dI) classes (wr ++ w) H1 ∧ va_D (va_A (wc ++ wr) sz) (wr ++ w) :=
  va_join (A0 := va_A (wc ++ wr) sz) (wr := wr) (w1 := w) (H1 := H1) hP hD.self (List.range wc.length) _ (ix_l wc wr) (ix_r wc wr) (nd_r _ _) (nd_x _ _) (fun q h1 h2 => by subst hsz; exact hk q h1 h2) (fun q hq => va_A_l (sz := sz) (by subst hsz; exact hq)) hPw (by subst hsz; exact hDw)
theorem kn_frame {wc : va_W} (wr : va_W) (h : Kn l dC dI k y c0 rm av wc post) : Kn l dC dI k y c0 rm av (wc ++ wr) (fun r w gc gs => ∃ w1, post r w1 gc gs ∧ w = wr ++ w1) := by
  intro sz
  refine MetFree.mono (h sz) (fun _ _ q => Pw_l q) (fun _ _ _ _ _ q => q) (fun a st o t hp q => ?_)
  obtain ⟨⟨⟨r, w, gc, gs, h1, h2, h3, h4, h5⟩, hF⟩, L, hL, hLq⟩ := q
  obtain ⟨j1, j2⟩ := jn_l hp.2.2.1 hp.2.2.2.1 hp.2.1 (fun q g1 g2 => hF.2 q g1 g2) h3 h4
  exact ⟨⟨⟨r, wr ++ w, gc, gs, h1, ⟨w, h2, rfl⟩, j1, j2, h5⟩, va_F_mono hF (fun q hq => va_A_l hq)⟩, L, hL, fun q hq => va_A_l (hLq q hq)⟩
theorem kn_perm {ws ws' : va_W} (hw : ws'.Perm ws) (h : Kn l dC dI k y c0 rm av ws post) : Kn l dC dI k y c0 rm av ws' post := by
  intro sz
  refine MetFree.mono (h sz) (fun _ _ q => Pw_perm hw q) (fun _ _ _ _ _ q => q) (fun a st o t hp q => ?_)
  obtain ⟨⟨⟨r, w, gc, gs, h1, h2, h3, h4, h5⟩, hF⟩, L, hL, hLq⟩ := q
  exact ⟨⟨⟨r, w, gc, gs, h1, h2, h3, h4.weaken (fun _ _ _ z => va_A_perm hw.symm z), h5⟩, va_F_mono hF (fun q hq => va_A_perm hw.symm hq)⟩, L, hL, fun q hq => va_A_perm hw.symm (hLq q hq)⟩
/-- what comes back in any order -/
theorem kn_post {ws : va_W} {post' : Option Value → va_W → Nat → Nat → Prop} (h : Kn l dC dI k y c0 rm av ws post) (hi : ∀ r w gc gs, post r w gc gs → ∃ w', w.Perm w' ∧ post' r w' gc gs) : Kn l dC dI k y c0 rm av ws post' := by
  intro sz
  refine MetFree.mono (h sz) (fun _ _ q => q) (fun _ _ _ _ _ q => q) (fun a st o t hp q => ?_)
  obtain ⟨⟨⟨r, w, gc, gs, h1, h2, h3, h4, h5⟩, hF⟩, hL⟩ := q
  obtain ⟨w', hw, h6⟩ := hi _ _ _ _ h2
  exact ⟨⟨⟨r, w', gc, gs, h1, h6, va_P_perm hw h3, va_D_perm hw h4, h5⟩, hF⟩, hL⟩
theorem kx_frame {wc : va_W} (wr : va_W) (h : Kx l dC dI k y c0 rm av wc post px) : Kx l dC dI k y c0 rm av (wc ++ wr) (fun r w gc gs => ∃ w1, post r w1 gc gs ∧ w = wr ++ w1) (fun E w gc gs => ∃ w1, px E w1 gc gs ∧ w = wr ++ w1) := by
  intro sz
  refine MetFree.mono (h sz) (fun _ _ q => Pw_l q) (fun _ _ _ _ _ q => q) (fun a st o t hp q => ?_)
  rcases q with ⟨⟨⟨r, w, gc, gs, h1, h2, h3, h4, h5⟩, hF⟩, L, hL, hLq⟩ | ⟨q, ho, E, ce, L, ⟨⟨w, gc, gs, h2, h3, h4, h5⟩, hF⟩, g1, g2, g3, g4, g5, hLq⟩
  · obtain ⟨j1, j2⟩ := jn_l hp.2.2.1 hp.2.2.2.1 hp.2.1 (fun q g1 g2 => hF.2 q g1 g2) h3 h4
    exact Or.inl ⟨⟨⟨r, wr ++ w, gc, gs, h1, ⟨w, h2, rfl⟩, j1, j2, h5⟩, va_F_mono hF (fun q hq => va_A_l hq)⟩, L, hL, fun q hq => va_A_l (hLq q hq)⟩
  · obtain ⟨j1, j2⟩ := jn_l hp.2.2.1 hp.2.2.2.1 hp.2.1 (fun q g1 g2 => hF.2 q g1 g2) h3 h4
    exact Or.inr ⟨q, ho, E, ce, L, ⟨⟨wr ++ w, gc, gs, ⟨w, h2, rfl⟩, j1, j2, h5⟩, va_F_mono hF (fun q hq => va_A_l hq)⟩, g1, g2, g3, g4, g5, fun q hq => va_A_l (hLq q hq)⟩
theorem kx_perm {ws ws' : va_W} (hw : ws'.Perm ws) (h : Kx l dC dI k y c0 rm av ws post px) : Kx l dC dI k y c0 rm av ws' post px := by
  intro sz
  refine MetFree.mono (h sz) (fun _ _ q => Pw_perm hw q) (fun _ _ _ _ _ q => q) (fun a st o t hp q => ?_)
  rcases q with ⟨⟨⟨r, w, gc, gs, h1, h2, h3, h4, h5⟩, hF⟩, L, hL, hLq⟩ | ⟨q, ho, E, ce, L, ⟨⟨w, gc, gs, h2, h3, h4, h5⟩, hF⟩, g1, g2, g3, g4, g5, hLq⟩
  · exact Or.inl ⟨⟨⟨r, w, gc, gs, h1, h2, h3, h4.weaken (fun _ _ _ z => va_A_perm hw.symm z), h5⟩, va_F_mono hF (fun q hq => va_A_perm hw.symm hq)⟩, L, hL, fun q hq => va_A_perm hw.symm (hLq q hq)⟩
  · exact Or.inr ⟨q, ho, E, ce, L, ⟨⟨w, gc, gs, h2, h3, h4.weaken (fun _ _ _ z => va_A_perm hw.symm z), h5⟩, va_F_mono hF (fun q hq => va_A_perm hw.symm hq)⟩, g1, g2, g3, g4, g5, fun q hq => va_A_perm hw.symm (hLq q hq)⟩
theorem kx_post {ws : va_W} {post' : Option Value → va_W → Nat → Nat → Prop} {px' : String → va_W → Nat → Nat → Prop} (h : Kx l dC dI k y c0 rm av ws post px) (hi : ∀ r w gc gs, post r w gc gs → ∃ w', w.Perm w' ∧ post' r w' gc gs) (hx : ∀ E w gc gs, px E w gc gs → ∃ w', w.Perm w' ∧ px' E w' gc gs) : Kx l dC dI k y c0 rm av ws post' px' := by
  intro sz
  refine MetFree.mono (h sz) (fun _ _ q => q) (fun _ _ _ _ _ q => q) (fun a st o t hp q => ?_)
  rcases q with ⟨⟨⟨r, w, gc, gs, h1, h2, h3, h4, h5⟩, hF⟩, hL⟩ | ⟨q, ho, E, ce, L, ⟨⟨w, gc, gs, h2, h3, h4, h5⟩, hF⟩, hr⟩
  · obtain ⟨w', hw, h6⟩ := hi _ _ _ _ h2
    exact Or.inl ⟨⟨⟨r, w', gc, gs, h1, h6, va_P_perm hw h3, va_D_perm hw h4, h5⟩, hF⟩, hL⟩
  · obtain ⟨w', hw, h6⟩ := hx _ _ _ _ h2
    exact Or.inr ⟨q, ho, E, ce, L, ⟨⟨w', gc, gs, h6, va_P_perm hw h3, va_D_perm hw h4, h5⟩, hF⟩, hr⟩
end FR1

end
