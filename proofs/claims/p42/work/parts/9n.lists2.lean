section
/-- one more element at place i; one less -/
def insL {α : Type} (el : Int → α) (i : Int) (v : α) : Int → α := fun j => if j < i then el j else if j = i then v else el (j - 1)
def remL {α : Type} (el : Int → α) (i : Int) : Int → α := fun j => if j < i then el j else el (j + 1)
def lsG (n : Int) (el : Int → Nat) : Int → Option Nat := fun z => if z < n then some (el z) else none
section LS2
variable {l : Launch} {dC : Nat → ClassId} {dI : Nat → Nat → Nat} {k : Nat → ClassId} {y : MethodName} {c0 : Cond} {rm : Room} {av : List Value} {ws : va_W} {post post' : Option Value → va_W → Nat → Nat → Prop}
theorem kn_grow (h : Kn l dC dI k y c0 rm av ws post) (hi : ∀ r w gc gs, post r w gc gs → ∃ gc' gs', gc ≤ gc' ∧ gs ≤ gs' ∧ post' r w gc' gs') : Kn l dC dI k y c0 rm av ws post' := by
  intro sz
  refine MetFree.mono (h sz) (fun _ _ q => q) (fun _ _ _ _ _ q => q) (fun a st o t hp q => ?_)
  obtain ⟨⟨⟨r, w, gc, gs, h1, h2, h3, h4, h5, h6⟩, hF⟩, hL⟩ := q
  obtain ⟨gc', gs', g1, g2, g3⟩ := hi _ _ _ _ h2
  exact ⟨⟨⟨r, w, gc', gs', h1, g3, h3, h4, h5.mono g1 g2, h6⟩, hF⟩, hL⟩
theorem ins_eq {n i : Int} {el : Int → Nat} {v : Nat} {f : Int → Option Nat} (hi : 0 ≤ i ∧ i ≤ n) (hf : ∀ j, 0 ≤ j → j < n → f j = some (el j)) (hn : ∀ j, n ≤ j → f j = none) (j : Nat) : uz (cpz f f i (i + 1) (n - i)) i (some v) (j : Int) = lsG (n + 1) (insL el i v) (j : Int) := by
  simp only [uz, cpz, lsG, insL]
  repeat' split
  all_goals first | (exfalso; omega) | rfl | exact hn _ (by omega) | (rw [hf _ (by omega) (by omega)] <;> (first | rfl | (congr 2 <;> omega)))
theorem insE_eq {n : Int} {el : Int → Nat} {v : Nat} {f : Int → Option Nat} (hn0 : 0 ≤ n) (hf : ∀ j, 0 ≤ j → j < n → f j = some (el j)) (hn : ∀ j, n ≤ j → f j = none) (j : Nat) : uz f n (some v) (j : Int) = lsG (n + 1) (insL el n v) (j : Int) := by
  simp only [uz, lsG, insL]
  repeat' split
  all_goals first | (exfalso; omega) | rfl | exact hn _ (by omega) | (rw [hf _ (by omega) (by omega)] <;> (first | rfl | (congr 2 <;> omega)))
theorem rem_eq {n i : Int} {el : Int → Nat} {f : Int → Option Nat} (hi : 0 ≤ i ∧ i < n) (hf : ∀ j, 0 ≤ j → j < n → f j = some (el j)) (hn : ∀ j, n ≤ j → f j = none) (j : Nat) : uz (cpz f f (i + 1) i ((n - 1) - i)) (n - 1) none (j : Int) = lsG (n - 1) (remL el i) (j : Int) := by
  simp only [uz, cpz, lsG, remL]
  repeat' split
  all_goals first | (exfalso; omega) | rfl | exact hn _ (by omega) | (rw [hf _ (by omega) (by omega)] <;> (first | rfl | (congr 2 <;> omega)))
theorem lsG_y {n : Int} {el : Int → Nat} : ∀ j, 0 ≤ j → j < n → lsG n el j = some (el j) := fun j _ h => if_pos h
theorem lsG_n {n : Int} {el : Int → Nat} : ∀ j, n ≤ j → lsG n el j = none := fun j h => if_neg (by omega)
theorem lsC_y {w0 e0 : Nat} {mc n : Int} {cap : Nat} {el : Int → Nat} (h : cap ≠ 0) : lsC k w0 e0 mc n cap el = [((w0, .inr (12, [.int (iI mc), .ref e0, .int (iI n)])) : Nat × va_E), (e0, .inl (k 4, cap, .inr (.inr (.inr (.inr (fun i9 : Nat => lsG n el i9))))))] := by unfold lsC; rw [if_neg h]; rfl
theorem lsC_n {w0 e0 : Nat} {mc n : Int} {el : Int → Nat} : lsC k w0 e0 mc n 0 el = [((w0, .inr (12, [.int (iI mc), .ref e0, .int (iI n)])) : Nat × va_E)] := by unfold lsC; rw [if_pos rfl]
end LS2

set_option maxHeartbeats 4000000 in
theorem k_lsAdd (l : Launch) (dC : Nat → ClassId) (dI : Nat → Nat → Nat) (k : Nat → ClassId) (w0 : Nat) (e0 : Nat) (cap : Nat) (mc : Int) (n : Int) (el : Int → Nat) (ci : Nat) (rc : vw_C) (tz : va_W) (tr : va_W) (v9 : Nat) (vs : List Value) (i : Int) (hc : classes[ci]? = some rc) (hca : (rc.1, "java/lang/Object") ∈ nCS) (hz : tz.Perm (lsC k w0 e0 mc n cap el ++ tr)) (hlo : lsO dI e0 n cap) (hel : ∀ j : Int, 0 ≤ j → j < n → ∃ fs : List Value, ((el j, .inr (ci, fs)) : Nat × va_E) ∈ tr) (hv9 : ((v9, .inr (ci, vs)) : Nat × va_E) ∈ tr) (h1 : 0 ≤ i ∧ i ≤ n ∧ n < 16) : Kn l dC dI k yJx4a65c_add_7a177 (.code yJx4a65c_add_7a177 cJx4a65c_add_7a177 5 none) ({ frames := 12, cells := 1, slots := 40, locals := 400 } : Room) [.ref w0, .int (iI i), .ref v9] ([] ++ tz) (fun r w gc gs => (∃ (e2 : Nat) (c2 : Nat), (lsO dI e2 (n + 1) c2) ∧ r = none ∧ w = ([] ++ (lsC k w0 e2 (mc + 1) (n + 1) c2 (insL el i v9) ++ tr)) ∧ gc = 1 ∧ gs = 40)) := by
  obtain ⟨o1, o2, o3, o4, o5⟩ := hlo
  by_cases hcap : cap = 0
  · subst hcap
    have hn : n = 0 := by omega
    subst hn
    have he : e0 = dI 99 1 := o5 rfl
    subst he
    have hi0 : i = 0 := by omega
    subst hi0
    rw [lsC_n] at hz
    refine kn_grow (kn_post (kn_perm hz (k_addAt0 l dC dI k w0 mc ci rc tr v9 vs hc hca hv9)) (fun r w gc gs h => ⟨w, List.Perm.refl _, h⟩)) ?_
    rintro r w gc gs ⟨cq, hr, hw, hgc, hgs⟩
    refine ⟨1, 40, by omega, by omega, cq, 10, ⟨by omega, by omega, by omega, by omega, fun h => absurd h (by decide)⟩, hr, ?_, rfl, rfl⟩
    rw [hw, lsC_y (by decide)]
    have e9 : (fun i9 : Nat => uz (cpz (fun _ : Int => (none : Option Nat)) (fun _ : Int => (none : Option Nat)) 0 1 0) 0 (some v9) (i9 : Int)) = (fun i9 : Nat => lsG (0 + 1) (insL el 0 v9) (i9 : Int)) := funext (fun j => ins_eq (n := 0) (i := 0) (el := el) (f := (fun _ : Int => (none : Option Nat))) ⟨by omega, by omega⟩ (fun j a b => by omega) (fun j a => rfl) j)
    rw [e9]; rfl
  · rw [lsC_y hcap] at hz
    by_cases hlt : n < (cap : Int)
    · refine kn_grow (kn_perm hz (k_addAt l dC dI k w0 e0 cap mc n ci rc (lsG n el) tr v9 vs i hc hca (fun i a b y h => by obtain ⟨fs, q⟩ := hel i a (by apply Int.lt_of_not_ge; intro h9; rw [lsG_n _ h9] at h; cases h); rw [lsG_y i a (by apply Int.lt_of_not_ge; intro h9; rw [lsG_n _ h9] at h; cases h)] at h; cases h; exact ⟨fs, q⟩) hv9 ⟨h1.1, h1.2.1, hlt, o4⟩)) ?_
      rintro r w gc gs ⟨hr, hw, hgc, hgs⟩
      refine ⟨1, 40, by omega, by omega, e0, cap, ⟨by omega, by omega, by omega, by omega, fun h => absurd h hcap⟩, hr, ?_, rfl, rfl⟩
      rw [hw, lsC_y hcap]
      have e9 : (fun i9 : Nat => uz (cpz (lsG n el) (lsG n el) i (i + 1) (n - i)) i (some v9) (i9 : Int)) = (fun i9 : Nat => lsG (n + 1) (insL el i v9) (i9 : Int)) := funext (fun j => ins_eq ⟨h1.1, h1.2.1⟩ lsG_y lsG_n j)
      rw [e9]; rfl
    · have hn : n = (cap : Int) := by omega
      subst hn
      refine kn_grow (kn_perm hz (k_addAtG l dC dI k w0 e0 cap mc ci rc (lsG (cap : Int) el) tr v9 vs i hc hca (fun i a b y h => by obtain ⟨fs, q⟩ := hel i a b; rw [lsG_y i a b] at h; cases h; exact ⟨fs, q⟩) hv9 ⟨h1.1, h1.2.1, by omega, by omega⟩)) ?_
      rintro r w gc gs ⟨cq, hr, hw, hgc, hgs⟩
      refine ⟨1, 40, by omega, by omega, cq, cap + max 1 (cap / 2), ⟨by omega, by omega, by omega, by omega, fun h => by omega⟩, hr, ?_, rfl, rfl⟩
      rw [hw, lsC_y (by omega)]
      have e9 : (fun i9 : Nat => uz (cpz (cpz (lsG (cap : Int) el) (fun _ : Int => (none : Option Nat)) 0 0 (min (cap : Int) ((cap + max 1 (cap / 2)) : Int))) (cpz (lsG (cap : Int) el) (fun _ : Int => (none : Option Nat)) 0 0 (min (cap : Int) ((cap + max 1 (cap / 2)) : Int))) i (i + 1) ((cap : Int) - i)) i (some v9) (i9 : Int)) = (fun i9 : Nat => lsG ((cap : Int) + 1) (insL el i v9) (i9 : Int)) := funext (fun j => ins_eq ⟨h1.1, h1.2.1⟩ (fun j a b => by show cpz _ _ _ _ _ j = _; simp only [cpz]; rw [if_pos (by omega), show 0 + (j - 0) = j by omega]; exact lsG_y j a b) (fun j a => by show cpz _ _ _ _ _ j = _; simp only [cpz]; rw [if_neg (by omega)]) j)
      rw [e9]; rfl

set_option maxHeartbeats 4000000 in
theorem k_lsAddE (l : Launch) (dC : Nat → ClassId) (dI : Nat → Nat → Nat) (k : Nat → ClassId) (w0 : Nat) (e0 : Nat) (cap : Nat) (mc : Int) (n : Int) (el : Int → Nat) (ci : Nat) (rc : vw_C) (tz : va_W) (tr : va_W) (v9 : Nat) (vs : List Value) (hc : classes[ci]? = some rc) (hca : (rc.1, "java/lang/Object") ∈ nCS) (hz : tz.Perm (lsC k w0 e0 mc n cap el ++ tr)) (hlo : lsO dI e0 n cap) (hel : ∀ j : Int, 0 ≤ j → j < n → ∃ fs : List Value, ((el j, .inr (ci, fs)) : Nat × va_E) ∈ tr) (hv9 : ((v9, .inr (ci, vs)) : Nat × va_E) ∈ tr) (h1 : n < 16) : Kn l dC dI k yJx4a65c_add_9ea2d (.code yJx4a65c_add_9ea2d cJx4a65c_add_9ea2d 2 (some .boolean)) ({ frames := 12, cells := 1, slots := 40, locals := 400 } : Room) [.ref w0, .ref v9] ([] ++ tz) (fun r w gc gs => (∃ (e2 : Nat) (c2 : Nat), (lsO dI e2 (n + 1) c2) ∧ r = some (.int (iI 1)) ∧ w = ([] ++ (lsC k w0 e2 (mc + 1) (n + 1) c2 (insL el n v9) ++ tr)) ∧ gc = 1 ∧ gs = 40)) := by
  obtain ⟨o1, o2, o3, o4, o5⟩ := hlo
  by_cases hcap : cap = 0
  · subst hcap
    have hn : n = 0 := by omega
    subst hn
    have he : e0 = dI 99 1 := o5 rfl
    subst he
    rw [lsC_n] at hz
    refine kn_grow (kn_post (kn_perm hz (k_addE0 l dC dI k w0 mc ci rc tr v9 vs hc hca hv9)) (fun r w gc gs h => ⟨w, List.Perm.refl _, h⟩)) ?_
    rintro r w gc gs ⟨cq, hr, hw, hgc, hgs⟩
    refine ⟨1, 40, by omega, by omega, cq, 10, ⟨by omega, by omega, by omega, by omega, fun h => absurd h (by decide)⟩, hr, ?_, rfl, rfl⟩
    rw [hw, lsC_y (by decide)]
    have e9 : (fun i9 : Nat => uz (fun _ : Int => (none : Option Nat)) 0 (some v9) (i9 : Int)) = (fun i9 : Nat => lsG (0 + 1) (insL el 0 v9) (i9 : Int)) := funext (fun j => insE_eq (n := 0) (el := el) (f := (fun _ : Int => (none : Option Nat))) (by omega) (fun j a b => by omega) (fun j a => rfl) j)
    rw [e9]; rfl
  · rw [lsC_y hcap] at hz
    by_cases hlt : n < (cap : Int)
    · refine kn_grow (kn_perm hz (k_addE l dC dI k w0 e0 cap mc n ci rc (lsG n el) tr v9 vs hc hca hv9 ⟨o1, hlt, o4⟩)) ?_
      rintro r w gc gs ⟨hr, hw, hgc, hgs⟩
      refine ⟨1, 40, by omega, by omega, e0, cap, ⟨by omega, by omega, by omega, by omega, fun h => absurd h hcap⟩, hr, ?_, rfl, rfl⟩
      rw [hw, lsC_y hcap]
      have e9 : (fun i9 : Nat => uz (lsG n el) n (some v9) (i9 : Int)) = (fun i9 : Nat => lsG (n + 1) (insL el n v9) (i9 : Int)) := funext (fun j => insE_eq o1 lsG_y lsG_n j)
      rw [e9]; rfl
    · have hn : n = (cap : Int) := by omega
      subst hn
      refine kn_grow (kn_perm hz (k_addEG l dC dI k w0 e0 cap mc ci rc (lsG (cap : Int) el) tr v9 vs hc hca (fun i a b y h => by obtain ⟨fs, q⟩ := hel i a b; rw [lsG_y i a b] at h; cases h; exact ⟨fs, q⟩) hv9 ⟨by omega, by omega⟩)) ?_
      rintro r w gc gs ⟨cq, hr, hw, hgc, hgs⟩
      refine ⟨1, 40, by omega, by omega, cq, cap + max 1 (cap / 2), ⟨by omega, by omega, by omega, by omega, fun h => by omega⟩, hr, ?_, rfl, rfl⟩
      rw [hw, lsC_y (by omega)]
      have e9 : (fun i9 : Nat => uz (cpz (lsG (cap : Int) el) (fun _ : Int => (none : Option Nat)) 0 0 (min (cap : Int) ((cap + max 1 (cap / 2)) : Int))) (cap : Int) (some v9) (i9 : Int)) = (fun i9 : Nat => lsG ((cap : Int) + 1) (insL el (cap : Int) v9) (i9 : Int)) := funext (fun j => insE_eq o1 (fun j a b => by show cpz _ _ _ _ _ j = _; simp only [cpz]; rw [if_pos (by omega), show 0 + (j - 0) = j by omega]; exact lsG_y j a b) (fun j a => by show cpz _ _ _ _ _ j = _; simp only [cpz]; rw [if_neg (by omega)]) j)
      rw [e9]; rfl

set_option maxHeartbeats 4000000 in
theorem k_lsRem (l : Launch) (dC : Nat → ClassId) (dI : Nat → Nat → Nat) (k : Nat → ClassId) (w0 : Nat) (e0 : Nat) (cap : Nat) (mc : Int) (n : Int) (el : Int → Nat) (ci : Nat) (rc : vw_C) (tz : va_W) (tr : va_W) (i : Int) (hc : classes[ci]? = some rc) (hca : (rc.1, "java/lang/Object") ∈ nCS) (hz : tz.Perm (lsC k w0 e0 mc n cap el ++ tr)) (hlo : lsO dI e0 n cap) (hel : ∀ j : Int, 0 ≤ j → j < n → ∃ fs : List Value, ((el j, .inr (ci, fs)) : Nat × va_E) ∈ tr) (h1 : 0 ≤ i ∧ i < n) : Kn l dC dI k yJx4a65c_remove_915e3 (.code yJx4a65c_remove_915e3 cJx4a65c_remove_915e3 4 (some (.object "java/lang/Object"))) ({ frames := 12, cells := 1, slots := 40, locals := 400 } : Room) [.ref w0, .int (iI i)] ([] ++ tz) (fun r w gc gs => (∃ (e2 : Nat) (c2 : Nat), (lsO dI e2 (n - 1) c2) ∧ r = some (.ref (el i)) ∧ w = ([] ++ (lsC k w0 e2 (mc + 1) (n - 1) c2 (remL el i) ++ tr)) ∧ gc = 1 ∧ gs = 40)) := by
  obtain ⟨o1, o2, o3, o4, o5⟩ := hlo
  have hcap : cap ≠ 0 := by omega
  rw [lsC_y hcap] at hz
  refine kn_grow (kn_perm hz (k_remove l dC dI k w0 e0 cap mc n ci rc (lsG n el) tr (el i) i hc hca (fun i a b y h => by obtain ⟨fs, q⟩ := hel i a (by apply Int.lt_of_not_ge; intro h9; rw [lsG_n _ h9] at h; cases h); rw [lsG_y i a (by apply Int.lt_of_not_ge; intro h9; rw [lsG_n _ h9] at h; cases h)] at h; cases h; exact ⟨fs, q⟩) (lsG_y i h1.1 h1.2) ⟨h1.1, h1.2, o3, o4⟩)) ?_
  rintro r w gc gs ⟨hr, hw, hgc, hgs⟩
  refine ⟨1, 40, by omega, by omega, e0, cap, ⟨by omega, by omega, by omega, by omega, fun h => absurd h hcap⟩, hr, ?_, rfl, rfl⟩
  rw [hw, lsC_y hcap]
  have e9 : (fun i9 : Nat => uz (cpz (lsG n el) (lsG n el) (i + 1) i ((n - 1) - i)) (n - 1) none (i9 : Int)) = (fun i9 : Nat => lsG (n - 1) (remL el i) (i9 : Int)) := funext (fun j => rem_eq h1 lsG_y lsG_n j)
  rw [e9]; rfl

end
