section
section EXT1
theorem arrV_ext {c : ClassId} {n : Nat} {f g : Nat → Value} (h : ∀ i, i < n → f i = g i) : arrV c n f = arrV c n g := by
  have e : (arrV c n f).slots = (arrV c n g).slots := by
    apply Array.ext (by rw [arrV_size, arrV_size])
    intro i h1 h2
    have h3 : i < n := by rw [arrV_size] at h1; exact h1
    have a1 := arrV_read c f h3
    have a2 := arrV_read c g h3
    rw [Array.getElem?_eq_getElem h1] at a1
    rw [Array.getElem?_eq_getElem h2] at a2
    exact (Option.some.inj a1).trans ((h i h3).trans (Option.some.inj a2).symm)
  unfold arrV at e ⊢
  simp only [Cell.mk.injEq] at e ⊢
  simp_all
end EXT1

end
