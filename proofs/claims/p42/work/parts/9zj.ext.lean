section
section EXT1
theorem arrV_ext {c : ClassId} {n : Nat} {f g : Nat → Value} (h : ∀ i, i < n → f i = g i) : arrV c n f = arrV c n g := by
  have e : (arrV c n f).slots = (arrV c n g).slots := by
    apply Array.ext (by rw [arrV_size, arrV_size])
    intro i h1 h2
    have h3 : i < n := by rw [arrV_size] at h1; exact h1
    have a1 := arrV_read c f h3
    have a2 := arrV_read c g h3
    rw [Array.getElem?_eq_getElem h1] at a1
    rw [Array.getElem?_eq_getElem h2] at a2
    exact (Option.some.inj a1).trans ((h i h3).trans (Option.some.inj a2).symm)
  unfold arrV at e ⊢
  simp only [Cell.mk.injEq] at e ⊢
  simp_all
end EXT1

section EXT2
variable {l : Launch} {dC : Nat → ClassId} {dI : Nat → Nat → Nat} {k : Nat → ClassId} {y : MethodName} {c0 : Cond} {rm : Room} {av : List Value}
/-- an array of references, told by its first ones -/
def raE (a : Nat) (c : ClassId) (n : Nat) (f : Nat → Option Nat) : Nat × va_E := (a, .inl (c, n, .inr (.inr (.inr (.inr f)))))
theorem va_P_ext {D : va_G} {cl : List vw_C} {x z : va_W} {a n : Nat} {c : ClassId} {f g : Nat → Option Nat} {H : Heap} (h : ∀ i, i < n → f i = g i) (hP : va_P D cl (x ++ raE a c n f :: z) H) : va_P D cl (x ++ raE a c n g :: z) H := fun i q hq => by
  have use : ∀ q, q ∈ x ++ raE a c n f :: z → va_at D cl q H := fun q hq => by
    obtain ⟨j, hj⟩ := List.mem_iff_getElem?.mp hq
    exact hP j q hj
  rcases List.mem_append.mp (List.mem_of_getElem? hq) with h1 | h1
  · exact use q (List.mem_append_left _ h1)
  rcases List.mem_cons.mp h1 with h1 | h1
  · subst h1
    have h2 : H[a]? = some (arrV c n (fun j => va_rf (f j))) := use _ (List.mem_append_right _ List.mem_cons_self)
    show H[a]? = some (arrV c n (fun j => va_rf (g j)))
    rw [h2, arrV_ext (f := fun j => va_rf (f j)) (g := fun j => va_rf (g j)) (fun i hi => congrArg va_rf (h i hi))]
  · exact use q (List.mem_append_right _ (List.mem_cons_of_mem _ h1))
theorem va_D_ext {A : Nat → Prop} {x z : va_W} {a n : Nat} {c : ClassId} {f g : Nat → Option Nat} (hD : va_D A (x ++ raE a c n f :: z)) : va_D A (x ++ raE a c n g :: z) := by
  have use : ∀ q, q ∈ x ++ raE a c n f :: z → A q.1 := fun q hq => by
    obtain ⟨j, hj⟩ := List.mem_iff_getElem?.mp hq
    exact hD.2 j q hj
  have hn := va_D_nd hD
  refine va_D_of (by rw [List.map_append, List.map_cons] at hn ⊢; exact hn) (fun q hq => ?_)
  rcases List.mem_append.mp hq with h1 | h1
  · exact use q (List.mem_append_left _ h1)
  rcases List.mem_cons.mp h1 with h1 | h1
  · subst h1
    exact use (raE a c n f) (List.mem_append_right _ List.mem_cons_self)
  · exact use q (List.mem_append_right _ (List.mem_cons_of_mem _ h1))
theorem kn_ext {ws : va_W} {post post' : Option Value → va_W → Nat → Nat → Prop} (h : Kn l dC dI k y c0 rm av ws post) (hi : ∀ r w gc gs, post r w gc gs → ∃ (x z : va_W) (a n : Nat) (c : ClassId) (f g : Nat → Option Nat), w = x ++ raE a c n f :: z ∧ (∀ i, i < n → f i = g i) ∧ post' r (x ++ raE a c n g :: z) gc gs) : Kn l dC dI k y c0 rm av ws post' := by
  intro sz
  refine MetFree.mono (h sz) (fun _ _ q => q) (fun _ _ _ _ _ q => q) (fun a st o t hp q => ?_)
  obtain ⟨⟨⟨r, w, gc, gs, h1, h2, h3, h4, h5⟩, hF⟩, hL⟩ := q
  obtain ⟨x, z, a, n, c, f, g, hw, hfg, h6⟩ := hi _ _ _ _ h2
  subst hw
  exact ⟨⟨⟨r, _, gc, gs, h1, h6, va_P_ext hfg h3, va_D_ext h4, h5⟩, hF⟩, hL⟩
end EXT2

end
