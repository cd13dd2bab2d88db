/-! comparisons as whole numbers; the model's object; words -/
section BASE2
theorem zlt {a b : Int32} (h : a < b) : a.toInt < b.toInt := Int32.lt_iff_toInt_lt.mp h
theorem zle {a b : Int32} (h : a ≤ b) : a.toInt ≤ b.toInt := Int32.le_iff_toInt_le.mp h
theorem znlt {a b : Int32} (h : ¬ a < b) : b.toInt ≤ a.toInt := Int.not_lt.mp (fun q => h (Int32.lt_iff_toInt_lt.mpr q))
theorem znle {a b : Int32} (h : ¬ a ≤ b) : b.toInt < a.toInt := Int.not_le.mp (fun q => h (Int32.le_iff_toInt_le.mpr q))
theorem zgt {a b : Int32} (h : a < b) : a.toInt < b.toInt := zlt h
theorem zge {a b : Int32} (h : a ≤ b) : a.toInt ≤ b.toInt := zle h
theorem zngt {a b : Int32} (h : ¬ a < b) : b.toInt ≤ a.toInt := znlt h
theorem znge {a b : Int32} (h : ¬ a ≤ b) : b.toInt < a.toInt := znle h
theorem zeq {a b : Int32} (h : a = b) : a.toInt = b.toInt := by rw [h]
theorem znne {a b : Int32} (h : a = b) : a.toInt = b.toInt := by rw [h]
theorem zint {a b : Int32} (h : a.toInt = b.toInt) : a = b := Int32.toInt_inj.mp h
theorem zne {a b : Int32} (h : ¬ a = b) : a.toInt ≠ b.toInt := fun q => h (zint q)
theorem zsub {a b : Int32} {x y : Int} (hx : a.toInt = x) (hy : b.toInt = y) (h1 : -2147483648 ≤ x - y) (h2 : x - y ≤ 2147483647) : (a - b).toInt = x - y := by
  rw [Int32.toInt_sub, hx, hy]; simp only [Int.bmod]; omega
theorem zadd {a b : Int32} {x y : Int} (hx : a.toInt = x) (hy : b.toInt = y) (h1 : -2147483648 ≤ x + y) (h2 : x + y ≤ 2147483647) : (a + b).toInt = x + y := by
  rw [Int32.toInt_add, hx, hy]; simp only [Int.bmod]; omega
theorem zin {x : Int32} {n : Nat} (h1 : 0 ≤ x.toInt) (h2 : x.toInt < n) : vp_in x n := vp_in_iff.mpr ⟨h1, h2⟩
theorem zcl {x : Int32} {n : Nat} (h1 : 0 ≤ x.toInt) (h2 : x.toInt < n) : x.toNatClampNeg < n := by
  show x.toInt.toNat < n
  omega
def fvM (V : Nat → Value) : List Value := (List.range 93).map V
theorem fvM_get {V : Nat → Value} {i : Nat} {v : Value} (hi : i < 93) (h : V i = v) : (fvM V)[i]? = some v := by simp [fvM, hi, h]
theorem fvM_lt {V : Nat → Value} {i : Nat} (hi : i < 93) : i < (fvM V).length := by simp [fvM, hi]
theorem fvM_put (V : Nat → Value) (j : Nat) (v : Value) (hj : j < 93) : ∃ V' : Nat → Value, (∀ i, i ≠ j → V' i = V i) ∧ V' j = v ∧ (fvM V).set j v = fvM V' := by
  refine ⟨fun i => if i = j then v else V i, fun i hi => if_neg hi, if_pos rfl, ?_⟩
  apply List.ext_getElem?
  intro i
  by_cases h : i = j
  · subst h
    simp [fvM, hj]
  · simp only [fvM, List.getElem?_map]
    rw [List.getElem?_set_ne (Ne.symm h)]
    by_cases hi : i < 93
    · simp [hi, h]
    · simp [hi]
theorem va_Xlt {b L : Nat} {xs : Nat → Int32} {U : State} {H : Heap} (h : va_X b L xs U H) : b < H.size := by
  obtain ⟨scr, h1, -⟩ := h
  exact (Array.getElem?_eq_some_iff.mp h1).1
theorem in_of (ws : List Cond) (ps : List Nat) (hp : ws = ps.filterMap (fun i => lw_tbl[i]?)) (h : ws.all goodWord = true) : ∀ w ∈ ws, w ∈ gt := fun w hw => gt_in ((goodIn_r (big := lw_tbl) ws ps hp h) w hw).1 (List.all_eq_true.mp h w hw)
end BASE2
