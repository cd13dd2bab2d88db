/-! whole numbers over the machine's ints and longs -/
section NUMS0
def iI (z : Int) : Int32 := Int32.ofInt z
def lI (z : Int) : Int64 := Int64.ofInt z
theorem iI_toInt {z : Int} (h : -2147483648 ≤ z ∧ z < 2147483648) : (iI z).toInt = z := by
  unfold iI
  rw [Int32.toInt_ofInt, show Int32.size = 4294967296 from rfl]
  simp only [Int.bmod]
  omega
theorem lI_toInt {z : Int} (h : -9223372036854775808 ≤ z ∧ z < 9223372036854775808) : (lI z).toInt = z := by
  unfold lI
  rw [Int64.toInt_ofInt, show Int64.size = 18446744073709551616 from rfl]
  simp only [Int.bmod]
  omega
theorem iI_of (x : Int32) : x = iI x.toInt := by
  unfold iI
  exact (Int32.ofInt_toInt x).symm
theorem i32r (x : Int32) : -2147483648 ≤ x.toInt ∧ x.toInt < 2147483648 := ⟨Int32.le_toInt x, Int32.toInt_lt x⟩
theorem iI_nat (n : Nat) : iI (n : Int) = nI n := by
  unfold iI nI
  exact Int32.ofInt_eq_ofNat
theorem iI_add (a b : Int) : iI a + iI b = iI (a + b) := (Int32.ofInt_add a b).symm
theorem iI_sub (a b : Int) : iI a - iI b = iI (a - b) := (Int32.ofInt_sub a b).symm
theorem iI_mul (a b : Int) : iI a * iI b = iI (a * b) := (Int32.ofInt_mul a b).symm
theorem iI_neg (a : Int) : -iI a = iI (-a) := (Int32.ofInt_neg a).symm
theorem lI_add (a b : Int) : lI a + lI b = lI (a + b) := (Int64.ofInt_add a b).symm
theorem lI_sub (a b : Int) : lI a - lI b = lI (a - b) := (Int64.ofInt_sub a b).symm
theorem lI_mul (a b : Int) : lI a * lI b = lI (a * b) := (Int64.ofInt_mul a b).symm
theorem iI_inj {a b : Int} (ha : -2147483648 ≤ a ∧ a < 2147483648) (hb : -2147483648 ≤ b ∧ b < 2147483648) (h : iI a = iI b) : a = b := by
  rw [← iI_toInt ha, ← iI_toInt hb, h]
theorem lI_inj {a b : Int} (ha : -9223372036854775808 ≤ a ∧ a < 9223372036854775808) (hb : -9223372036854775808 ≤ b ∧ b < 9223372036854775808) (h : lI a = lI b) : a = b := by
  rw [← lI_toInt ha, ← lI_toInt hb, h]
theorem jlt {a b : Int} (ha : -2147483648 ≤ a ∧ a < 2147483648) (hb : -2147483648 ≤ b ∧ b < 2147483648) (h : iI a < iI b) : a < b := by
  have := Int32.lt_iff_toInt_lt.mp h
  rwa [iI_toInt ha, iI_toInt hb] at this
theorem jle {a b : Int} (ha : -2147483648 ≤ a ∧ a < 2147483648) (hb : -2147483648 ≤ b ∧ b < 2147483648) (h : iI a ≤ iI b) : a ≤ b := by
  have := Int32.le_iff_toInt_le.mp h
  rwa [iI_toInt ha, iI_toInt hb] at this
theorem jnlt {a b : Int} (ha : -2147483648 ≤ a ∧ a < 2147483648) (hb : -2147483648 ≤ b ∧ b < 2147483648) (h : ¬ iI a < iI b) : b ≤ a := by
  have h2 : ¬ (iI a).toInt < (iI b).toInt := fun q => h (Int32.lt_iff_toInt_lt.mpr q)
  rw [iI_toInt ha, iI_toInt hb] at h2
  omega
theorem jnle {a b : Int} (ha : -2147483648 ≤ a ∧ a < 2147483648) (hb : -2147483648 ≤ b ∧ b < 2147483648) (h : ¬ iI a ≤ iI b) : b < a := by
  have h2 : ¬ (iI a).toInt ≤ (iI b).toInt := fun q => h (Int32.le_iff_toInt_le.mpr q)
  rw [iI_toInt ha, iI_toInt hb] at h2
  omega
theorem jeq {a b : Int} (ha : -2147483648 ≤ a ∧ a < 2147483648) (hb : -2147483648 ≤ b ∧ b < 2147483648) (h : iI a = iI b) : a = b := iI_inj ha hb h
theorem jne {a b : Int} (_ : -2147483648 ≤ a ∧ a < 2147483648) (_ : -2147483648 ≤ b ∧ b < 2147483648) (h : ¬ iI a = iI b) : a ≠ b := fun q => h (by rw [q])
theorem iI_lt {a b : Int} (ha : -2147483648 ≤ a ∧ a < 2147483648) (hb : -2147483648 ≤ b ∧ b < 2147483648) (h : a < b) : iI a < iI b := by
  apply Int32.lt_iff_toInt_lt.mpr
  rwa [iI_toInt ha, iI_toInt hb]
theorem iI_le {a b : Int} (ha : -2147483648 ≤ a ∧ a < 2147483648) (hb : -2147483648 ≤ b ∧ b < 2147483648) (h : a ≤ b) : iI a ≤ iI b := by
  apply Int32.le_iff_toInt_le.mpr
  rwa [iI_toInt ha, iI_toInt hb]
theorem iI_cl {z : Int} {n : Nat} (h : 0 ≤ z ∧ z < n ∧ z < 2147483648) : (iI z).toNatClampNeg = z.toNat := by
  show (iI z).toInt.toNat = z.toNat
  rw [iI_toInt (by omega)]
theorem iI_in {z : Int} {n : Nat} (h : 0 ≤ z ∧ z < n ∧ z < 2147483648) : vp_in (iI z) n := by
  refine vp_in_iff.mpr ?_
  rw [iI_toInt (by omega)]
  omega
theorem iI_ne0 {z : Int} (h : -2147483648 ≤ z ∧ z < 2147483648) (h0 : z ≠ 0) : ¬ iI z = 0 := fun q => h0 (iI_inj h (by omega) q)
theorem iI_div {a b : Int} (ha : 0 ≤ a ∧ a < 2147483648) (hb : 0 < b ∧ b < 2147483648) : iI a / iI b = iI (a / b) := by
  obtain ⟨x, rfl⟩ := Int.eq_ofNat_of_zero_le ha.1
  obtain ⟨y, rfl⟩ := Int.eq_ofNat_of_zero_le (Int.le_of_lt hb.1)
  rw [iI_nat, iI_nat, pk_div (by omega) (by omega) (by omega), ← iI_nat]
  rfl
theorem iI_rem {a b : Int} (ha : 0 ≤ a ∧ a < 2147483648) (hb : 0 < b ∧ b < 2147483648) : iI a - iI a / iI b * iI b = iI (a % b) := by
  rw [iI_div ha hb, iI_mul, iI_sub]
  congr 1
  have := Int.emod_add_mul_ediv a b
  rw [Int.mul_comm] at this
  omega
theorem nx_and' (a b : Nat) : nI a &&& nI b = nI (a &&& b) := by
  apply Int32.toBitVec_inj.1
  show BitVec.ofNat 32 a &&& BitVec.ofNat 32 b = BitVec.ofNat 32 (a &&& b)
  apply BitVec.eq_of_getLsbD_eq
  intro i hi
  simp [hi]
theorem nx_or' (a b : Nat) : nI a ||| nI b = nI (a ||| b) := by
  apply Int32.toBitVec_inj.1
  show BitVec.ofNat 32 a ||| BitVec.ofNat 32 b = BitVec.ofNat 32 (a ||| b)
  apply BitVec.eq_of_getLsbD_eq
  intro i hi
  simp [hi]
theorem nx_xor' (a b : Nat) : nI a ^^^ nI b = nI (a ^^^ b) := by
  apply Int32.toBitVec_inj.1
  show BitVec.ofNat 32 a ^^^ BitVec.ofNat 32 b = BitVec.ofNat 32 (a ^^^ b)
  apply BitVec.eq_of_getLsbD_eq
  intro i hi
  simp [hi]
theorem s_l' : ∀ n, n < 32 → ((nI n &&& 31).toBitVec.smod 32).toNat = n := by decide +kernel
/-- sets of bits as whole numbers -/
def bAnd (a b : Int) : Int := ((a.toNat &&& b.toNat : Nat) : Int)
def bOr (a b : Int) : Int := ((a.toNat ||| b.toNat : Nat) : Int)
def bXor (a b : Int) : Int := ((a.toNat ^^^ b.toNat : Nat) : Int)
def bShl (a k : Int) : Int := a * ((2 ^ k.toNat : Nat) : Int)
def bShr (a k : Int) : Int := a / ((2 ^ k.toNat : Nat) : Int)
theorem iI_and {a b : Int} (ha : 0 ≤ a ∧ a < 2147483648) (hb : 0 ≤ b ∧ b < 2147483648) : iI a &&& iI b = iI (bAnd a b) := by
  obtain ⟨x, rfl⟩ := Int.eq_ofNat_of_zero_le ha.1
  obtain ⟨y, rfl⟩ := Int.eq_ofNat_of_zero_le hb.1
  rw [iI_nat, iI_nat, nx_and']
  unfold bAnd
  rw [iI_nat]; rfl
theorem iI_or {a b : Int} (ha : 0 ≤ a ∧ a < 2147483648) (hb : 0 ≤ b ∧ b < 2147483648) : iI a ||| iI b = iI (bOr a b) := by
  obtain ⟨x, rfl⟩ := Int.eq_ofNat_of_zero_le ha.1
  obtain ⟨y, rfl⟩ := Int.eq_ofNat_of_zero_le hb.1
  rw [iI_nat, iI_nat, nx_or']
  unfold bOr
  rw [iI_nat]; rfl
theorem iI_xor {a b : Int} (ha : 0 ≤ a ∧ a < 2147483648) (hb : 0 ≤ b ∧ b < 2147483648) : iI a ^^^ iI b = iI (bXor a b) := by
  obtain ⟨x, rfl⟩ := Int.eq_ofNat_of_zero_le ha.1
  obtain ⟨y, rfl⟩ := Int.eq_ofNat_of_zero_le hb.1
  rw [iI_nat, iI_nat, nx_xor']
  unfold bXor
  rw [iI_nat]; rfl
theorem iI_shr {a k : Int} (ha : 0 ≤ a ∧ a < 2147483648) (hk : 0 ≤ k ∧ k < 32) : iI a >>> (iI k &&& 31) = iI (bShr a k) := by
  obtain ⟨x, rfl⟩ := Int.eq_ofNat_of_zero_le ha.1
  obtain ⟨y, rfl⟩ := Int.eq_ofNat_of_zero_le hk.1
  rw [iI_nat, iI_nat, pk_shrN (k := y) (by omega) _ (s_l' y (by omega)), ← iI_nat]
  rfl
theorem iI_shl {a k : Int} (ha : 0 ≤ a) (hk : 0 ≤ k ∧ k < 32) (h : bShl a k < 4294967296) : iI a <<< (iI k &&& 31) = iI (bShl a k) := by
  obtain ⟨x, rfl⟩ := Int.eq_ofNat_of_zero_le ha
  obtain ⟨y, rfl⟩ := Int.eq_ofNat_of_zero_le hk.1
  have e : bShl (x : Int) (y : Int) = ((x * 2 ^ y : Nat) : Int) := by simp [bShl]
  rw [e] at h ⊢
  rw [iI_nat, iI_nat, pk_shlN (k := y) _ (s_l' y (by omega)) (by omega), iI_nat]
theorem bShl_1 {k : Int} (hk : 0 ≤ k ∧ k < 31) : 0 < bShl 1 k ∧ bShl 1 k < 2147483648 := by
  have h1 : 0 < 2 ^ k.toNat := Nat.two_pow_pos _
  have h2 : 2 ^ k.toNat ≤ 2 ^ 30 := Nat.pow_le_pow_right (by omega) (by omega)
  simp only [bShl]
  omega
theorem iI_not {a : Int} : iI a ^^^ iI (-1) = iI (-a - 1) := by
  have h : ∀ x : Int32, x ^^^ iI (-1) = -x - 1 := by
    intro x
    apply Int32.toBitVec_inj.1
    show x.toBitVec ^^^ BitVec.allOnes 32 = -x.toBitVec - 1#32
    rw [BitVec.xor_allOnes, BitVec.neg_eq_not_add, BitVec.add_sub_cancel]
  rw [h, iI_neg]
  exact iI_sub (-a) 1
/-- the bits of a that b has not -/
def bDif (a b : Int) : Int := ((a.toNat &&& (4294967295 - b.toNat) : Nat) : Int)
theorem iI_dif {a b : Int} (ha : 0 ≤ a ∧ a < 2147483648) (hb : 0 ≤ b ∧ b < 2147483648) : iI a &&& iI (-b - 1) = iI (bDif a b) := by
  obtain ⟨x, rfl⟩ := Int.eq_ofNat_of_zero_le ha.1
  obtain ⟨y, rfl⟩ := Int.eq_ofNat_of_zero_le hb.1
  have e : iI (-(y : Int) - 1) = nI (4294967295 - y) := by
    apply Int32.toInt_inj.mp
    rw [iI_toInt (by omega)]
    unfold nI
    rw [Int32.toInt_ofNat', show Int32.size = 4294967296 from rfl]
    simp only [Int.bmod]
    omega
  rw [e, iI_nat, nx_and']
  unfold bDif
  rw [iI_nat]; rfl
theorem bAnd_le {a b : Int} (ha : 0 ≤ a) : 0 ≤ bAnd a b ∧ bAnd a b ≤ a := by
  have := Nat.and_le_left (n := a.toNat) (m := b.toNat)
  unfold bAnd
  omega
theorem bAnd_le' {a b : Int} (hb : 0 ≤ b) : 0 ≤ bAnd a b ∧ bAnd a b ≤ b := by
  have := Nat.and_le_right (n := a.toNat) (m := b.toNat)
  unfold bAnd
  omega
theorem bDif_le {a b : Int} (ha : 0 ≤ a) : 0 ≤ bDif a b ∧ bDif a b ≤ a := by
  have := Nat.and_le_left (n := a.toNat) (m := 4294967295 - b.toNat)
  unfold bDif
  omega
theorem bOr_lt {a b : Int} (n : Nat) (ha : 0 ≤ a ∧ a < ((2 ^ n : Nat) : Int)) (hb : 0 ≤ b ∧ b < ((2 ^ n : Nat) : Int)) : 0 ≤ bOr a b ∧ bOr a b < ((2 ^ n : Nat) : Int) := by
  have := Nat.or_lt_two_pow (x := a.toNat) (y := b.toNat) (n := n) (by omega) (by omega)
  unfold bOr
  omega
theorem bXor_lt {a b : Int} (n : Nat) (ha : 0 ≤ a ∧ a < ((2 ^ n : Nat) : Int)) (hb : 0 ≤ b ∧ b < ((2 ^ n : Nat) : Int)) : 0 ≤ bXor a b ∧ bXor a b < ((2 ^ n : Nat) : Int) := by
  have := Nat.xor_lt_two_pow (x := a.toNat) (y := b.toNat) (n := n) (by omega) (by omega)
  unfold bXor
  omega
theorem bAnd_1 {a : Int} (ha : 0 ≤ a) : bAnd a 1 = a % 2 := by
  unfold bAnd
  rw [show (1 : Int).toNat = 1 from rfl, Nat.and_one_is_mod]
  omega
theorem bShr_le {a k : Int} (ha : 0 ≤ a) : 0 ≤ bShr a k ∧ bShr a k ≤ a := by
  unfold bShr
  exact ⟨Int.ediv_nonneg ha (Int.natCast_nonneg _), Int.ediv_le_self _ ha⟩
/-- an array with one place changed -/
def uz {α : Type} (f : Int → α) (z : Int) (v : α) : Int → α := fun i => if i = z then v else f i
theorem uz_s {α : Type} {f : Int → α} {z : Int} {v : α} : uz f z v z = v := if_pos rfl
theorem uz_n {α : Type} {f : Int → α} {z i : Int} {v : α} (h : i ≠ z) : uz f z v i = f i := if_neg h
theorem uz_I {f : Int → Int} {z v : Int} (h : 0 ≤ z) : upd (fun i : Nat => iI (f i)) z.toNat (iI v) = fun i : Nat => iI (uz f z v i) := by
  funext i
  simp only [upd, uz]
  by_cases e : i = z.toNat
  · rw [if_pos e, if_pos (by omega)]
  · rw [if_neg e, if_neg (by omega)]
theorem uz_L {f : Int → Int} {z v : Int} (h : 0 ≤ z) : vp_updL (fun i : Nat => lI (f i)) z.toNat (lI v) = fun i : Nat => lI (uz f z v i) := by
  funext i
  simp only [vp_updL, uz]
  by_cases e : i = z.toNat
  · rw [if_pos e, if_pos (by omega)]
  · rw [if_neg e, if_neg (by omega)]
theorem uz_Q {f : Int → Option Nat} {z : Int} {v : Option Nat} (h : 0 ≤ z) : va_up (fun i : Nat => f i) z.toNat v = fun i : Nat => uz f z v i := by
  funext i
  simp only [va_up, uz]
  by_cases e : i = z.toNat
  · rw [if_pos e, if_pos (by omega)]
  · rw [if_neg e, if_neg (by omega)]
/-- between bounds, everywhere -/
def Bd (lo hi : Int) (f : Int → Int) : Prop := ∀ i : Int, lo ≤ f i ∧ f i ≤ hi
theorem Bd_uz {lo hi z v : Int} {f : Int → Int} (h : Bd lo hi f) (hv : lo ≤ v ∧ v ≤ hi) : Bd lo hi (uz f z v) := by
  intro i
  by_cases e : i = z
  · rw [show (uz f z v) i = v from if_pos e]; exact hv
  · rw [show (uz f z v) i = f i from if_neg e]; exact h i
end NUMS0
