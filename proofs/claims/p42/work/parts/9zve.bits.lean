section
/-- whether a set has a place -/
def tb (w : Int) (k : Nat) : Bool := w.toNat.testBit k
section TB
variable {a b w : Int} {k j : Nat}
theorem tb_sh1 (h : 0 ≤ w) : bAnd (bShr w (k : Int)) 1 = if tb w k then 1 else 0 := by
  have e := and_bit w.toNat (k : Int)
  rw [Int.toNat_of_nonneg h, Int.toNat_natCast] at e
  exact e
theorem tb_1 (h : 0 ≤ w) : bAnd (bShr w (k : Int)) 1 = 1 ↔ tb w k = true := by
  rw [tb_sh1 h]
  cases tb w k <;> simp
theorem tb_0 (h : 0 ≤ w) : bAnd (bShr w (k : Int)) 1 = 0 ↔ tb w k = false := by
  rw [tb_sh1 h]
  cases tb w k <;> simp
theorem tb_or : tb (bOr a b) k = (tb a k || tb b k) := by
  unfold tb bOr
  rw [Int.toNat_natCast, Nat.testBit_or]
theorem tb_xor : tb (bXor a b) k = (tb a k ^^ tb b k) := by
  unfold tb bXor
  rw [Int.toNat_natCast, Nat.testBit_xor]
theorem tb_and : tb (bAnd a b) k = (tb a k && tb b k) := by
  unfold tb bAnd
  rw [Int.toNat_natCast, Nat.testBit_and]
theorem tb_dif (hk : k < 32) (hb : b < 4294967296) : tb (bDif a b) k = (tb a k && !tb b k) := by
  unfold tb bDif
  have h := Nat.testBit_two_pow_sub_succ (x := b.toNat) (n := 32) (by omega) k
  rw [show (2 : Nat) ^ 32 - (b.toNat + 1) = 4294967295 - b.toNat by omega] at h
  rw [Int.toNat_natCast, Nat.testBit_and, h, decide_eq_true hk, Bool.true_and]
theorem tb_shl : tb (bShl 1 (k : Int)) j = decide (k = j) := by
  unfold tb bShl
  rw [Int.one_mul, Int.toNat_natCast, Int.toNat_natCast, Nat.testBit_two_pow]
theorem tb_hi {m : Nat} (h0 : 0 ≤ w) (h : w < ((2 ^ m : Nat) : Int)) (hk : m ≤ k) : tb w k = false := by
  unfold tb
  refine Nat.testBit_lt_two_pow ?_
  have h1 : w.toNat < 2 ^ m := by omega
  exact Nat.lt_of_lt_of_le h1 (Nat.pow_le_pow_right (by decide) hk)
theorem tb_lt {m : Nat} (h0 : 0 ≤ w) (h : ∀ k, m ≤ k → tb w k = false) : w < ((2 ^ m : Nat) : Int) := by
  have := Nat.lt_pow_two_of_testBit (n := m) w.toNat (fun i hi => h i hi)
  omega
theorem tb_ext (h0 : 0 ≤ a) (h1 : 0 ≤ b) (h : ∀ k, tb a k = tb b k) : a = b := by
  have := Nat.eq_of_testBit_eq (x := a.toNat) (y := b.toNat) h
  omega
theorem tb_z : tb 0 k = false := Nat.zero_testBit k
theorem and_shl (q : Nat) : bAnd a (bShl 1 (q : Int)) = 0 ↔ tb a q = false := by
  constructor
  · intro h
    have h2 : tb (bAnd a (bShl 1 (q : Int))) q = false := by rw [h]; exact tb_z
    rw [tb_and, tb_shl, decide_eq_true rfl, Bool.and_true] at h2
    exact h2
  · intro h
    refine tb_ext (by unfold bAnd; omega) (by decide) (fun k => ?_)
    rw [tb_and, tb_shl, tb_z]
    by_cases e : q = k
    · rw [← e, h]; rfl
    · rw [decide_eq_false e, Bool.and_false]
theorem shl_32 (q : Nat) (hq : q < 32) : 0 ≤ bShl 1 (q : Int) ∧ bShl 1 (q : Int) < 4294967296 := by
  unfold bShl
  rw [Int.one_mul, Int.toNat_natCast]
  have h : (2 : Nat) ^ q < 2 ^ 32 := Nat.pow_lt_pow_right (by decide) hq
  have e : (2 : Nat) ^ 32 = 4294967296 := by decide
  rw [e] at h
  generalize (2 : Nat) ^ q = z at *
  omega
theorem or_nn : 0 ≤ bOr a b := by unfold bOr; omega
theorem dif_nn : 0 ≤ bDif a b := by unfold bDif; omega
theorem xor_nn : 0 ≤ bXor a b := by unfold bXor; omega
end TB

end
