section
section LAID
variable {T : Nat → Int → Int → Int → Int} {K : Nat → Int → Int} {v dg : Int} {M P : Nat → Int → Int}
theorem tdv_f {a b : Int} : (a < 0 → tdv a b = 0) ∧ (0 ≤ a → tdv a b = a / b) := by
  unfold tdv
  constructor
  · intro h; rw [if_pos h]
  · intro h; rw [if_neg (by omega)]
theorem on_in (hQ : OKT T K) (hv : 0 ≤ v ∧ v ≤ 1) {pg : Int} (h : 1 ≤ pg ∧ pg ≤ P00 T v 0 0) : (0 ≤ onZ T v pg 0 ∧ onZ T v pg 0 ≤ 768) ∧ (0 ≤ onZ T v pg 1 ∧ onZ T v pg 1 ≤ 100000) ∧ (onZ T v pg 0 + onZ T v pg 1 ≤ onZ T v pg 2 ∧ (0 < onZ T v pg 1 → onZ T v pg 0 + onZ T v pg 1 + 1 ≤ onZ T v pg 2) ∧ onZ T v pg 2 ≤ 1000000) ∧ 0 < onZ T v pg 0 + onZ T v pg 2 := by
  have q := (hQ.2.2.2.2 v hv.1 hv.2).1 (pg - 1) (by omega) (by have := h.2; unfold P00 at this; omega)
  have hm := MK_cnt (moC_in (v := v) (dg := dgN T v) hQ.1).1
  have e0 : onZ T v pg 0 = mkZ T (moC T v (dgN T v)) 2 (pg - 1) := rfl
  have e1 : onZ T v pg 1 = mkZ T (moC T v (dgN T v)) 3 (pg - 1) := rfl
  have e2 : onZ T v pg 2 = mkZ T (moC T v (dgN T v)) 4 (pg - 1) := rfl
  rw [e0, e1, e2]
  obtain ⟨⟨a1, a2, a3⟩, ⟨b1, b2⟩, ⟨c1, c2⟩, d⟩ := q
  refine ⟨⟨a2, by omega⟩, ⟨b1, b2⟩, ⟨?_, ?_, c2⟩, d⟩
  · split at c1 <;> omega
  · intro g
    rw [if_pos g] at c1
    exact c1
theorem hoF_in {pg : Int} : ∀ (n : Nat) (i hd : Int), -1 ≤ hd → 0 ≤ i → hd ≤ i + n → -1 ≤ hoF T M P v pg n i hd ∧ hoF T M P v pg n i hd ≤ i + n
  | 0, _, _, h1, _, h3 => ⟨h1, h3⟩
  | n + 1, i, hd, h1, h2, h3 => by
    simp only [hoF]
    split
    · split
      · exact ⟨h1, h3⟩
      · split
        · omega
        · have := hoF_in (pg := pg) n (i + 1) i (by omega) (by omega) (by omega)
          omega
    · have := hoF_in (pg := pg) n (i + 1) hd h1 (by omega) (by omega)
      omega
theorem hoZ_in (hK : TK T) {pg : Int} : -1 ≤ hoZ T M P v pg ∧ hoZ T M P v pg ≤ 16 := by
  have hn := TK_nb hK
  have := hoF_in (T := T) (M := M) (P := P) (v := v) (pg := pg) (Int.toNat (T 0 0 0 0)) 0 (-1) (by omega) (by omega) (by omega)
  unfold hoZ
  omega
/-- how many rows lie on the pages ahead -/
theorem smP_in (hP : PgI M P) (hM : 0 ≤ M 0 0) : ∀ n : Nat, (n : Int) ≤ P 0 0 → 0 ≤ smZ (P 2) 0 n ∧ smZ (P 2) 0 n ≤ M 0 0
  | 0, _ => ⟨Int.le_refl 0, hM⟩
  | n + 1, h => by
    have ih := smP_in hP hM n (by omega)
    have q := (hP.1 n (by omega) (by omega)).1
    have q2 := hP.2.2.1 n (by omega) (by omega)
    simp only [smZ]
    rw [show (0 : Int) + (n : Int) = (n : Int) by omega]
    by_cases e : 0 < P 2 n
    · have := q2 e
      rw [show Int.toNat ((n : Nat) : Int) = n from Int.toNat_natCast n] at this
      omega
    · omega
theorem smP_s {f : Int → Int} {q : Int} (h : 1 ≤ q) : smZ f 0 (Int.toNat ((q + 1) - 1)) = smZ f 0 (Int.toNat (q - 1)) + f (q - 1) := by
  rw [show Int.toNat ((q + 1) - 1) = Int.toNat (q - 1) + 1 by omega]
  simp only [smZ]
  rw [show (0 : Int) + ((Int.toNat (q - 1) : Nat) : Int) = q - 1 by omega]
/-- what is told of the row ahead -/
def bfZ (T : Nat → Int → Int → Int → Int) (v r : Int) : Int := if r = 0 then -1 else 1000 * M0 T v 2 (r - 1) + M0 T v 3 (r - 1)
theorem ro_next (hK : TK T) {r : Int} (h1 : 0 < r) (h2 : r < moC T v dg 0 0) : (moC T v dg 2 (r - 1) < moC T v dg 2 r ∧ moC T v dg 3 r = 0) ∨ (moC T v dg 2 r = moC T v dg 2 (r - 1) ∧ moC T v dg 3 r = moC T v dg 3 (r - 1) + 1) := by
  obtain ⟨x, a1, a2, a3, a4, a5, a6, -⟩ := moC_at (v := v) (dg := dg) hK (r := r) (by omega) h2
  obtain ⟨y, b1, b2, b3, b4, b5, b6, -⟩ := moC_at (v := v) (dg := dg) hK (r := r - 1) (by omega) (by omega)
  have key : ∀ n : Nat, ∀ i : Int, 0 ≤ i → i + n < T 0 0 0 0 → moC T v dg 7 i + moC T v dg 8 i ≤ moC T v dg 7 (i + n) + (if n = 0 then moC T v dg 8 i else 0) := by
    intro n
    induction n with
    | zero => intro i g1 g2; simp
    | succ n ih =>
      intro i g1 g2
      have h3 := ih i g1 (by omega)
      have hn := TK_nb hK
      obtain ⟨⟨i1, i2, i3⟩, i4⟩ := rwA_in (v := v) hK (LcO_z (v := v) (dg := dg) hK)
      have h4 := i4.2.1 (i + n) (by omega) (by omega)
      rw [if_pos (by omega)] at h4
      obtain ⟨-, p2, p3, -, p5, p6⟩ := moC_78 (v := v) (dg := dg) hK (i := i + n) (by omega) (by omega)
      obtain ⟨-, q2, q3, -, q5, q6⟩ := moC_78 (v := v) (dg := dg) hK (i := i + n + 1) (by omega) (by omega)
      rw [← p5, ← p6, ← q5] at h4
      rw [if_neg (by omega), show i + ((n + 1 : Nat) : Int) = i + n + 1 by omega]
      by_cases e : n = 0
      · subst e
        simp at h4 h3 ⊢
        omega
      · rw [if_neg e] at h3
        omega
  rcases Int.lt_trichotomy y x with h | h | h
  · have k1 := key (Int.toNat (x - y)) y b1 (by omega)
    rw [show y + ((Int.toNat (x - y) : Nat) : Int) = x by omega, if_neg (by omega)] at k1
    left
    omega
  · subst h
    right
    omega
  · have k1 := key (Int.toNat (y - x)) x a1 (by omega)
    rw [show x + ((Int.toNat (y - x) : Nat) : Int) = y by omega, if_neg (by omega)] at k1
    omega
theorem ro_first (hK : TK T) (h2 : 0 < moC T v dg 0 0) : moC T v dg 3 0 = 0 := by
  obtain ⟨x, a1, a2, a3, a4, a5, a6, -⟩ := moC_at (v := v) (dg := dg) hK (r := 0) (by omega) h2
  obtain ⟨p1, -⟩ := moC_78 (v := v) (dg := dg) hK (i := x) a1 a2
  omega
theorem tx_in (hQ : OKT T K) (hv : 0 ≤ v ∧ v ≤ 1) {pg kq : Int} (h : 1 ≤ pg ∧ pg ≤ P00 T v 0 0) (hk : 0 ≤ kq ∧ kq < onZ T v pg 0) :
    (0 ≤ txZ T v pg kq ∧ txZ T v pg kq ≤ 15047) ∧ bfZ T v (smZ (P00 T v 2) 0 (Int.toNat (pg - 1)) + (kq + 1)) = txZ T v pg kq ∧
    ((bfZ T v (smZ (P00 T v 2) 0 (Int.toNat (pg - 1)) + kq) = -1 ∧ txZ T v pg kq % 1000 = 0) ∨ ((0 ≤ bfZ T v (smZ (P00 T v 2) 0 (Int.toNat (pg - 1)) + kq) ∧ bfZ T v (smZ (P00 T v 2) 0 (Int.toNat (pg - 1)) + kq) ≤ 15047) ∧
      ((bfZ T v (smZ (P00 T v 2) 0 (Int.toNat (pg - 1)) + kq) / 1000 < txZ T v pg kq / 1000 ∧ txZ T v pg kq % 1000 = 0) ∨ txZ T v pg kq = bfZ T v (smZ (P00 T v 2) 0 (Int.toNat (pg - 1)) + kq) + 1))) := by
  have hP := hQ.2.2.2.2 v hv.1 hv.2
  have hK := hQ.1
  have hM := (moC_in (v := v) (dg := dgN T v) hK).1
  have hm := MK_cnt hM
  have h2 : pg - 1 < P00 T v 0 0 := by omega
  have e0 : onZ T v pg 0 = P00 T v 2 (pg - 1) := rfl
  rw [e0] at hk
  have q1 := (hP.1 (pg - 1) (by omega) h2).1
  have q2 := hP.2.2.1 (pg - 1) (by omega) h2 (show 0 < P00 T v 2 (pg - 1) by omega)
  have q3 : 0 ≤ smZ (P00 T v 2) 0 (Int.toNat (pg - 1)) ∧ smZ (P00 T v 2) 0 (Int.toNat (pg - 1)) ≤ moC T v (dgN T v) 0 0 := smP_in hP (by omega) (Int.toNat (pg - 1)) (show ((Int.toNat (pg - 1) : Nat) : Int) ≤ P00 T v 0 0 by omega)
  have ex : txZ T v pg kq = 1000 * moC T v (dgN T v) 2 (smZ (P00 T v 2) 0 (Int.toNat (pg - 1)) + kq) + moC T v (dgN T v) 3 (smZ (P00 T v 2) 0 (Int.toNat (pg - 1)) + kq) := by
    rw [← show P00 T v 1 (pg - 1) = smZ (P00 T v 2) 0 (Int.toNat (pg - 1)) from q2]
    rfl
  have q4 : smZ (P00 T v 2) 0 (Int.toNat (pg - 1)) + kq < moC T v (dgN T v) 0 0 := by
    have : P00 T v 1 (pg - 1) + P00 T v 2 (pg - 1) ≤ moC T v (dgN T v) 0 0 := q1.2.2
    rw [show P00 T v 1 (pg - 1) = smZ (P00 T v 2) 0 (Int.toNat (pg - 1)) from q2] at this
    omega
  have q5 : 0 ≤ smZ (P00 T v 2) 0 (Int.toNat (pg - 1)) + kq := by have := q3.1; omega
  rw [ex, show smZ (P00 T v 2) 0 (Int.toNat (pg - 1)) + (kq + 1) = smZ (P00 T v 2) 0 (Int.toNat (pg - 1)) + kq + 1 by omega]
  clear ex q1 q2 q3 hk
  generalize smZ (P00 T v 2) 0 (Int.toNat (pg - 1)) + kq = r at *
  have b2 := MK_2 hM r
  have b3 := MK_3 hM r
  refine ⟨by omega, ?_, ?_⟩
  · show (if r + 1 = 0 then (-1 : Int) else 1000 * moC T v (dgN T v) 2 (r + 1 - 1) + moC T v (dgN T v) 3 (r + 1 - 1)) = _
    rw [if_neg (by omega), show r + 1 - 1 = r by omega]
  · have eb : bfZ T v r = (if r = 0 then (-1 : Int) else 1000 * moC T v (dgN T v) 2 (r - 1) + moC T v (dgN T v) 3 (r - 1)) := rfl
    by_cases e : r = 0
    · left
      rw [eb, if_pos e]
      have h9 := ro_first (v := v) (dg := dgN T v) hK (by omega)
      rw [← e] at h9
      omega
    · right
      rw [eb, if_neg e]
      have h9 := ro_next (v := v) (dg := dgN T v) hK (r := r) (by omega) q4
      have c2 := MK_2 hM (r - 1)
      have c3 := MK_3 hM (r - 1)
      omega
end LAID

theorem dL_isLaid_0 : decode cL_isLaid 0 = .ok (.iconst (-1), 1) := by decide +kernel
theorem dL_isLaid_1 : decode cL_isLaid 1 = .ok (.istore_n 2, 1) := by decide +kernel
theorem dL_isLaid_2 : decode cL_isLaid 2 = .ok (.aload_n 0, 1) := by decide +kernel
theorem dL_isLaid_3 : decode cL_isLaid 3 = .ok (.iload_n 1, 1) := by decide +kernel
theorem dL_isLaid_4 : decode cL_isLaid 4 = .ok (.invokestatic 213, 3) := by decide +kernel
theorem dL_isLaid_7 : decode cL_isLaid 7 = .ok (.aload_n 0, 1) := by decide +kernel
theorem dL_isLaid_8 : decode cL_isLaid 8 = .ok (.iload_n 1, 1) := by decide +kernel
theorem dL_isLaid_9 : decode cL_isLaid 9 = .ok (.invokestatic 211, 3) := by decide +kernel
theorem dL_isLaid_12 : decode cL_isLaid 12 = .ok (.if_icmp .ne 24, 3) := by decide +kernel
theorem dL_isLaid_15 : decode cL_isLaid 15 = .ok (.aload_n 0, 1) := by decide +kernel
theorem dL_isLaid_16 : decode cL_isLaid 16 = .ok (.iload_n 1, 1) := by decide +kernel
theorem dL_isLaid_17 : decode cL_isLaid 17 = .ok (.invokestatic 211, 3) := by decide +kernel
theorem dL_isLaid_20 : decode cL_isLaid 20 = .ok (.ifCond .lt 16, 3) := by decide +kernel
theorem dL_isLaid_23 : decode cL_isLaid 23 = .ok (.aload_n 0, 1) := by decide +kernel
theorem dL_isLaid_24 : decode cL_isLaid 24 = .ok (.iload_n 1, 1) := by decide +kernel
theorem dL_isLaid_25 : decode cL_isLaid 25 = .ok (.invokestatic 215, 3) := by decide +kernel
theorem dL_isLaid_28 : decode cL_isLaid 28 = .ok (.iconst 1, 1) := by decide +kernel
theorem dL_isLaid_29 : decode cL_isLaid 29 = .ok (.if_icmp .lt 7, 3) := by decide +kernel
theorem dL_isLaid_32 : decode cL_isLaid 32 = .ok (.iconst 1, 1) := by decide +kernel
theorem dL_isLaid_33 : decode cL_isLaid 33 = .ok (.goto 4, 3) := by decide +kernel
theorem dL_isLaid_37 : decode cL_isLaid 37 = .ok (.istore_n 3, 1) := by decide +kernel
theorem dL_isLaid_38 : decode cL_isLaid 38 = .ok (.iconst 1, 1) := by decide +kernel
theorem dL_isLaid_39 : decode cL_isLaid 39 = .ok (.istore 4, 2) := by decide +kernel
theorem dL_isLaid_41 : decode cL_isLaid 41 = .ok (.iload 4, 2) := by decide +kernel
theorem dL_isLaid_43 : decode cL_isLaid 43 = .ok (.aload_n 0, 1) := by decide +kernel
theorem dL_isLaid_44 : decode cL_isLaid 44 = .ok (.iload_n 1, 1) := by decide +kernel
theorem dL_isLaid_45 : decode cL_isLaid 45 = .ok (.invokestatic 209, 3) := by decide +kernel
theorem dL_isLaid_48 : decode cL_isLaid 48 = .ok (.if_icmp .gt 199, 3) := by decide +kernel
theorem dL_isLaid_51 : decode cL_isLaid 51 = .ok (.iload_n 3, 1) := by decide +kernel
theorem dL_isLaid_52 : decode cL_isLaid 52 = .ok (.ifCond .eq 195, 3) := by decide +kernel
theorem dL_isLaid_55 : decode cL_isLaid 55 = .ok (.aload_n 0, 1) := by decide +kernel
theorem dL_isLaid_56 : decode cL_isLaid 56 = .ok (.iload_n 1, 1) := by decide +kernel
theorem dL_isLaid_57 : decode cL_isLaid 57 = .ok (.iload 4, 2) := by decide +kernel
theorem dL_isLaid_59 : decode cL_isLaid 59 = .ok (.iconst 0, 1) := by decide +kernel
theorem dL_isLaid_60 : decode cL_isLaid 60 = .ok (.invokestatic 220, 3) := by decide +kernel
theorem dL_isLaid_63 : decode cL_isLaid 63 = .ok (.istore 5, 2) := by decide +kernel
theorem dL_isLaid_65 : decode cL_isLaid 65 = .ok (.aload_n 0, 1) := by decide +kernel
theorem dL_isLaid_66 : decode cL_isLaid 66 = .ok (.iload_n 1, 1) := by decide +kernel
theorem dL_isLaid_67 : decode cL_isLaid 67 = .ok (.iload 4, 2) := by decide +kernel
theorem dL_isLaid_69 : decode cL_isLaid 69 = .ok (.iconst 1, 1) := by decide +kernel
theorem dL_isLaid_70 : decode cL_isLaid 70 = .ok (.invokestatic 220, 3) := by decide +kernel
theorem dL_isLaid_73 : decode cL_isLaid 73 = .ok (.istore 6, 2) := by decide +kernel
theorem dL_isLaid_75 : decode cL_isLaid 75 = .ok (.aload_n 0, 1) := by decide +kernel
theorem dL_isLaid_76 : decode cL_isLaid 76 = .ok (.iload_n 1, 1) := by decide +kernel
theorem dL_isLaid_77 : decode cL_isLaid 77 = .ok (.iload 4, 2) := by decide +kernel
theorem dL_isLaid_79 : decode cL_isLaid 79 = .ok (.iconst 2, 1) := by decide +kernel
theorem dL_isLaid_80 : decode cL_isLaid 80 = .ok (.invokestatic 220, 3) := by decide +kernel
theorem dL_isLaid_83 : decode cL_isLaid 83 = .ok (.istore 7, 2) := by decide +kernel
theorem dL_isLaid_85 : decode cL_isLaid 85 = .ok (.iload 5, 2) := by decide +kernel
theorem dL_isLaid_87 : decode cL_isLaid 87 = .ok (.ifCond .lt 52, 3) := by decide +kernel
theorem dL_isLaid_90 : decode cL_isLaid 90 = .ok (.iload 6, 2) := by decide +kernel
theorem dL_isLaid_92 : decode cL_isLaid 92 = .ok (.ifCond .lt 47, 3) := by decide +kernel
theorem dL_isLaid_95 : decode cL_isLaid 95 = .ok (.iload 7, 2) := by decide +kernel
theorem dL_isLaid_97 : decode cL_isLaid 97 = .ok (.iload 5, 2) := by decide +kernel
theorem dL_isLaid_99 : decode cL_isLaid 99 = .ok (.iload 6, 2) := by decide +kernel
theorem dL_isLaid_101 : decode cL_isLaid 101 = .ok (.iadd, 1) := by decide +kernel
theorem dL_isLaid_102 : decode cL_isLaid 102 = .ok (.iload 6, 2) := by decide +kernel
theorem dL_isLaid_104 : decode cL_isLaid 104 = .ok (.ifCond .le 7, 3) := by decide +kernel
theorem dL_isLaid_107 : decode cL_isLaid 107 = .ok (.iconst 1, 1) := by decide +kernel
theorem dL_isLaid_108 : decode cL_isLaid 108 = .ok (.goto 4, 3) := by decide +kernel
theorem dL_isLaid_111 : decode cL_isLaid 111 = .ok (.iconst 0, 1) := by decide +kernel
theorem dL_isLaid_112 : decode cL_isLaid 112 = .ok (.iadd, 1) := by decide +kernel
theorem dL_isLaid_113 : decode cL_isLaid 113 = .ok (.if_icmp .lt 26, 3) := by decide +kernel
theorem dL_isLaid_116 : decode cL_isLaid 116 = .ok (.iload 5, 2) := by decide +kernel
theorem dL_isLaid_118 : decode cL_isLaid 118 = .ok (.iload 7, 2) := by decide +kernel
theorem dL_isLaid_120 : decode cL_isLaid 120 = .ok (.iadd, 1) := by decide +kernel
theorem dL_isLaid_121 : decode cL_isLaid 121 = .ok (.ifCond .le 18, 3) := by decide +kernel
theorem dL_isLaid_124 : decode cL_isLaid 124 = .ok (.aload_n 0, 1) := by decide +kernel
theorem dL_isLaid_125 : decode cL_isLaid 125 = .ok (.iload_n 1, 1) := by decide +kernel
theorem dL_isLaid_126 : decode cL_isLaid 126 = .ok (.iload 4, 2) := by decide +kernel
theorem dL_isLaid_128 : decode cL_isLaid 128 = .ok (.invokestatic 222, 3) := by decide +kernel
theorem dL_isLaid_131 : decode cL_isLaid 131 = .ok (.iconst (-1), 1) := by decide +kernel
theorem dL_isLaid_132 : decode cL_isLaid 132 = .ok (.if_icmp .lt 7, 3) := by decide +kernel
theorem dL_isLaid_135 : decode cL_isLaid 135 = .ok (.iconst 1, 1) := by decide +kernel
theorem dL_isLaid_136 : decode cL_isLaid 136 = .ok (.goto 4, 3) := by decide +kernel
theorem dL_isLaid_140 : decode cL_isLaid 140 = .ok (.istore_n 3, 1) := by decide +kernel
theorem dL_isLaid_141 : decode cL_isLaid 141 = .ok (.iconst 0, 1) := by decide +kernel
theorem dL_isLaid_142 : decode cL_isLaid 142 = .ok (.istore 8, 2) := by decide +kernel
theorem dL_isLaid_144 : decode cL_isLaid 144 = .ok (.iload 8, 2) := by decide +kernel
theorem dL_isLaid_146 : decode cL_isLaid 146 = .ok (.iload 5, 2) := by decide +kernel
theorem dL_isLaid_148 : decode cL_isLaid 148 = .ok (.if_icmp .ge 93, 3) := by decide +kernel
theorem dL_isLaid_151 : decode cL_isLaid 151 = .ok (.iload_n 3, 1) := by decide +kernel
theorem dL_isLaid_152 : decode cL_isLaid 152 = .ok (.ifCond .eq 89, 3) := by decide +kernel
theorem dL_isLaid_155 : decode cL_isLaid 155 = .ok (.aload_n 0, 1) := by decide +kernel
theorem dL_isLaid_156 : decode cL_isLaid 156 = .ok (.iload_n 1, 1) := by decide +kernel
theorem dL_isLaid_157 : decode cL_isLaid 157 = .ok (.iload 4, 2) := by decide +kernel
theorem dL_isLaid_159 : decode cL_isLaid 159 = .ok (.iload 8, 2) := by decide +kernel
theorem dL_isLaid_161 : decode cL_isLaid 161 = .ok (.invokestatic 224, 3) := by decide +kernel
theorem dL_isLaid_164 : decode cL_isLaid 164 = .ok (.istore 9, 2) := by decide +kernel
theorem dL_isLaid_166 : decode cL_isLaid 166 = .ok (.iload 9, 2) := by decide +kernel
theorem dL_isLaid_168 : decode cL_isLaid 168 = .ok (.sipush 1000, 3) := by decide +kernel
theorem dL_isLaid_171 : decode cL_isLaid 171 = .ok (.idiv, 1) := by decide +kernel
theorem dL_isLaid_172 : decode cL_isLaid 172 = .ok (.iload_n 2, 1) := by decide +kernel
theorem dL_isLaid_173 : decode cL_isLaid 173 = .ok (.sipush 1000, 3) := by decide +kernel
theorem dL_isLaid_176 : decode cL_isLaid 176 = .ok (.idiv, 1) := by decide +kernel
theorem dL_isLaid_177 : decode cL_isLaid 177 = .ok (.if_icmp .le 12, 3) := by decide +kernel
theorem dL_isLaid_180 : decode cL_isLaid 180 = .ok (.iload 9, 2) := by decide +kernel
theorem dL_isLaid_182 : decode cL_isLaid 182 = .ok (.sipush 1000, 3) := by decide +kernel
theorem dL_isLaid_185 : decode cL_isLaid 185 = .ok (.irem, 1) := by decide +kernel
theorem dL_isLaid_186 : decode cL_isLaid 186 = .ok (.ifCond .eq 15, 3) := by decide +kernel
theorem dL_isLaid_189 : decode cL_isLaid 189 = .ok (.iload_n 2, 1) := by decide +kernel
theorem dL_isLaid_190 : decode cL_isLaid 190 = .ok (.ifCond .lt 15, 3) := by decide +kernel
theorem dL_isLaid_193 : decode cL_isLaid 193 = .ok (.iload 9, 2) := by decide +kernel
theorem dL_isLaid_195 : decode cL_isLaid 195 = .ok (.iload_n 2, 1) := by decide +kernel
theorem dL_isLaid_196 : decode cL_isLaid 196 = .ok (.iconst 1, 1) := by decide +kernel
theorem dL_isLaid_197 : decode cL_isLaid 197 = .ok (.iadd, 1) := by decide +kernel
theorem dL_isLaid_198 : decode cL_isLaid 198 = .ok (.if_icmp .ne 7, 3) := by decide +kernel
theorem dL_isLaid_201 : decode cL_isLaid 201 = .ok (.iconst 1, 1) := by decide +kernel
theorem dL_isLaid_202 : decode cL_isLaid 202 = .ok (.goto 4, 3) := by decide +kernel
theorem dL_isLaid_205 : decode cL_isLaid 205 = .ok (.iconst 0, 1) := by decide +kernel
theorem dL_isLaid_206 : decode cL_isLaid 206 = .ok (.istore 10, 2) := by decide +kernel
theorem dL_isLaid_208 : decode cL_isLaid 208 = .ok (.iload_n 2, 1) := by decide +kernel
theorem dL_isLaid_209 : decode cL_isLaid 209 = .ok (.ifCond .ge 20, 3) := by decide +kernel
theorem dL_isLaid_212 : decode cL_isLaid 212 = .ok (.iload 9, 2) := by decide +kernel
theorem dL_isLaid_214 : decode cL_isLaid 214 = .ok (.sipush 1000, 3) := by decide +kernel
theorem dL_isLaid_217 : decode cL_isLaid 217 = .ok (.irem, 1) := by decide +kernel
theorem dL_isLaid_218 : decode cL_isLaid 218 = .ok (.ifCond .ne 7, 3) := by decide +kernel
theorem dL_isLaid_221 : decode cL_isLaid 221 = .ok (.iconst 1, 1) := by decide +kernel
theorem dL_isLaid_222 : decode cL_isLaid 222 = .ok (.goto 9, 3) := by decide +kernel
theorem dL_isLaid_229 : decode cL_isLaid 229 = .ok (.iload 10, 2) := by decide +kernel
theorem dL_isLaid_231 : decode cL_isLaid 231 = .ok (.istore_n 3, 1) := by decide +kernel
theorem dL_isLaid_232 : decode cL_isLaid 232 = .ok (.iload 9, 2) := by decide +kernel
theorem dL_isLaid_234 : decode cL_isLaid 234 = .ok (.istore_n 2, 1) := by decide +kernel
theorem dL_isLaid_235 : decode cL_isLaid 235 = .ok (.iinc 8 1, 3) := by decide +kernel
theorem dL_isLaid_238 : decode cL_isLaid 238 = .ok (.goto (-94), 3) := by decide +kernel
theorem dL_isLaid_241 : decode cL_isLaid 241 = .ok (.iinc 4 1, 3) := by decide +kernel
theorem dL_isLaid_244 : decode cL_isLaid 244 = .ok (.goto (-203), 3) := by decide +kernel
theorem dL_isLaid_247 : decode cL_isLaid 247 = .ok (.iload_n 3, 1) := by decide +kernel
theorem dL_isLaid_248 : decode cL_isLaid 248 = .ok (.ireturn, 1) := by decide +kernel
set_option maxHeartbeats 4000000 in
set_option maxRecDepth 100000 in
theorem w_isLaid (l : Launch) (dC : Nat → ClassId) (dI : Nat → Nat → Nat) (k : Nat → ClassId) (hl0 : l.stackTraces = false) (T : Nat → Int → Int → Int → Int) (K : Nat → Int → Int) (qa : Nat) (cp : Nat) (tl : va_W) (v : Int) (hPS : PS dI k T K qa cp tl) (hQ : OKT T K) (hv : 0 ≤ v ∧ v ≤ 1) : Kn l dC dI k yL_isLaid (.code yL_isLaid cL_isLaid 11 (some .boolean)) ({ frames := 11, cells := ((131072 - cp) + 8000), slots := ((12 * (131072 - cp)) + 48000), locals := 254 } : Room) [.ref qa, .int (iI v)] ([] ++ tl) (fun r w gc gs => (∃ (cp2 : Nat) (tl2 : va_W), (PS dI k T K qa cp2 tl2) ∧ (cp ≤ cp2 ∧ cp2 ≤ 131072) ∧ r = some (.int (iI 1)) ∧ w = ([] ++ tl2) ∧ gc = ((cp2 - cp) + 8000) ∧ gs = ((12 * (cp2 - cp)) + 48000))) := by
  refine kn_of (by decide) (Nat.le_of_ble_eq_true rfl) ?_
  intro p e s m args below meth c H locs B hr hnm ls hl
  have hx := B.1.1
  have hb := B.1.2.1
  have hl : lv_has ls 11 [(0, .ref qa), (1, .int (iI v))] := hl
  have hcp9 := PS_cp hPS
  have hP9 := hQ.2.2.2.2 v hv.1 hv.2
  have hc0 : 0 ≤ mkZ T (moC T v (dgN T v)) 0 1 ∧ mkZ T (moC T v (dgN T v)) 0 1 ≤ 61440000 := hP9.2.2.2.2.1
  have hrn0 := rnN_in (T := T) (v := v)
  have hm0 := MK_cnt (moC_in (v := v) (dg := dgN T v) hQ.1).1
  have hpp0 : 0 ≤ mkZ T (moC T v (dgN T v)) 0 0 ∧ mkZ T (moC T v (dgN T v)) 0 0 ≤ 965 := hP9.2.2.2.1
  refine lv_iconst (v := iI (-1)) hx hb dL_isLaid_0 (by decide) ?_
  refine lv_istore_n (lv' := [(2, .int (iI (-1))), (0, .ref qa), (1, .int (iI v))]) hx hb dL_isLaid_1 rfl hl (by decide) rfl (fun ls hl => ?_)
  refine lv_aload_n hx hb dL_isLaid_2 rfl (lv_at hl 1 rfl) ?_
  refine lv_iload_n hx hb dL_isLaid_3 rfl (lv_at hl 2 rfl) ?_
  have B := bd_swap (a := []) (b := []) (d := tl) (bd_to rfl B)
  refine k_W (rest := []) (wc := ([] ++ tl)) (wr := []) (w_costAnew l dC dI k hl0 T K qa cp tl v hPS hQ (by omega)) B mW_L_costAnew mw_1735 hl ⟨Nat.le_of_ble_eq_true rfl, Nat.le_of_ble_eq_true rfl⟩ (Nat.le_of_ble_eq_true rfl) rfl dL_isLaid_4 ⟨by dsimp only; omega, by dsimp only; omega⟩ (fun r w gc gs H locs hp B => ?_)
  rcases hp with ⟨cp2_1, tl2_2, z_3, z_4, z_5, rfl, hw9, rfl, rfl⟩ | ⟨cp2_6, tl2_7, z_8, z_9, z_10, rfl, hw9, rfl, rfl⟩
  · skip
    rw [hw9] at B; clear hw9
    have B := bd_to (ws' := ([] ++ tl2_2)) rfl B
    have hPS : PS dI k T K qa cp2_1 tl2_2 := z_3
    refine W.widen (k := ((cp2_1 - cp) + 1)) (n := ((12 * (cp2_1 - cp)) + (6 * 1))) (by omega) (by omega) ?_
    refine lv_aload_n hx hb dL_isLaid_7 rfl (lv_at hl 1 rfl) ?_
    refine lv_iload_n hx hb dL_isLaid_8 rfl (lv_at hl 2 rfl) ?_
    have B := bd_swap (a := []) (b := []) (d := tl2_2) (bd_to rfl B)
    refine k_W (rest := [.int (iI ((mkZ T (moC T v (dgN T v))) 0 1))]) (wc := ([] ++ tl2_2)) (wr := []) (w_cost l dC dI k hl0 T K qa cp2_1 tl2_2 v z_3 hQ (by omega)) B mW_L_cost mw_1728 hl ⟨Nat.le_of_ble_eq_true rfl, Nat.le_of_ble_eq_true rfl⟩ (Nat.le_of_ble_eq_true rfl) rfl dL_isLaid_9 ⟨by dsimp only; omega, by dsimp only; omega⟩ (fun r w gc gs H locs hp B => ?_)
    rcases hp with ⟨cp2_11, tl2_12, z_13, z_14, z_15, rfl, hw9, rfl, rfl⟩ | ⟨cp2_16, tl2_17, z_18, z_19, z_20, rfl, hw9, rfl, rfl⟩
    · skip
      rw [hw9] at B; clear hw9
      have B := bd_to (ws' := ([] ++ tl2_12)) rfl B
      have hPS : PS dI k T K qa cp2_11 tl2_12 := z_13
      refine W.widen (k := ((cp2_11 - cp) + 2)) (n := ((12 * (cp2_11 - cp)) + (6 * 2))) (by omega) (by omega) ?_
      refine lv_icmp_ne (tgt := 36) hx hb dL_isLaid_12 (by decide) (fun c9 => absurd rfl c9) (fun _ => ?_)
      refine lv_aload_n hx hb dL_isLaid_15 rfl (lv_at hl 1 rfl) ?_
      refine lv_iload_n hx hb dL_isLaid_16 rfl (lv_at hl 2 rfl) ?_
      have B := bd_swap (a := []) (b := []) (d := tl2_12) (bd_to rfl B)
      refine k_W (rest := []) (wc := ([] ++ tl2_12)) (wr := []) (w_cost l dC dI k hl0 T K qa cp2_11 tl2_12 v z_13 hQ (by omega)) B mW_L_cost mw_1728 hl ⟨Nat.le_of_ble_eq_true rfl, Nat.le_of_ble_eq_true rfl⟩ (Nat.le_of_ble_eq_true rfl) rfl dL_isLaid_17 ⟨by dsimp only; omega, by dsimp only; omega⟩ (fun r w gc gs H locs hp B => ?_)
      rcases hp with ⟨cp2_21, tl2_22, z_23, z_24, z_25, rfl, hw9, rfl, rfl⟩ | ⟨cp2_26, tl2_27, z_28, z_29, z_30, rfl, hw9, rfl, rfl⟩
      · skip
        rw [hw9] at B; clear hw9
        have B := bd_to (ws' := ([] ++ tl2_22)) rfl B
        have hPS : PS dI k T K qa cp2_21 tl2_22 := z_23
        refine W.widen (k := ((cp2_21 - cp) + 3)) (n := ((12 * (cp2_21 - cp)) + (6 * 3))) (by omega) (by omega) ?_
        refine lv_if_lt (tgt := 36) hx hb dL_isLaid_20 (by decide) (fun c_31 => ?_) (fun c_31 => ?_)
        · have zc_31 : ((mkZ T (moC T v (dgN T v))) 0 1) < 0 := jlt (a := ((mkZ T (moC T v (dgN T v))) 0 1)) (b := 0) (by omega) (by omega) c_31
          exfalso; omega
        · have zc_31 : 0 ≤ ((mkZ T (moC T v (dgN T v))) 0 1) := jnlt (a := ((mkZ T (moC T v (dgN T v))) 0 1)) (b := 0) (by omega) (by omega) c_31
          refine lv_aload_n hx hb dL_isLaid_23 rfl (lv_at hl 1 rfl) ?_
          refine lv_iload_n hx hb dL_isLaid_24 rfl (lv_at hl 2 rfl) ?_
          have B := bd_swap (a := []) (b := []) (d := tl2_22) (bd_to rfl B)
          refine k_W (rest := []) (wc := ([] ++ tl2_22)) (wr := []) (w_rounds l dC dI k hl0 T K qa cp2_21 tl2_22 v z_23 hQ (by omega)) B mW_L_rounds mw_1742 hl ⟨Nat.le_of_ble_eq_true rfl, Nat.le_of_ble_eq_true rfl⟩ (Nat.le_of_ble_eq_true rfl) rfl dL_isLaid_25 ⟨by dsimp only; omega, by dsimp only; omega⟩ (fun r w gc gs H locs hp B => ?_)
          rcases hp with ⟨cp2_32, tl2_33, z_34, z_35, z_36, rfl, hw9, rfl, rfl⟩ | ⟨cp2_37, tl2_38, z_39, z_40, z_41, rfl, hw9, rfl, rfl⟩
          · skip
            rw [hw9] at B; clear hw9
            have B := bd_to (ws' := ([] ++ tl2_33)) rfl B
            have hPS : PS dI k T K qa cp2_32 tl2_33 := z_34
            refine W.widen (k := ((cp2_32 - cp) + 4)) (n := ((12 * (cp2_32 - cp)) + (6 * 4))) (by omega) (by omega) ?_
            refine lv_iconst (v := iI 1) hx hb dL_isLaid_28 (by decide) ?_
            refine lv_icmp_lt (tgt := 36) hx hb dL_isLaid_29 (by decide) (fun c_42 => ?_) (fun c_42 => ?_)
            · have zc_42 : (rnN T v) < 1 := jlt (a := (rnN T v)) (b := 1) (by omega) (by omega) c_42
              exfalso; omega
            · have zc_42 : 1 ≤ (rnN T v) := jnlt (a := (rnN T v)) (b := 1) (by omega) (by omega) c_42
              refine lv_iconst (v := iI 1) hx hb dL_isLaid_32 (by decide) ?_
              refine lv_goto (tgt := 37) hx hb dL_isLaid_33 (by decide) ?_
              refine lv_istore_n (lv' := [(3, .int (iI 1)), (2, .int (iI (-1))), (0, .ref qa), (1, .int (iI v))]) hx hb dL_isLaid_37 rfl hl (by decide) rfl (fun ls hl => ?_)
              refine lv_iconst (v := iI 1) hx hb dL_isLaid_38 (by decide) ?_
              refine lv_istore (lv' := [(4, .int (iI 1)), (3, .int (iI 1)), (2, .int (iI (-1))), (0, .ref qa), (1, .int (iI v))]) hx hb dL_isLaid_39 hl (by decide) rfl (fun ls hl => ?_)
              refine W.widen (k := ((cp2_32 - cp) + (10 + (6 * Int.toNat 1) + Int.toNat (smZ (P00 T v 2) 0 (Int.toNat (1 - 1)))))) (n := ((12 * (cp2_32 - cp)) + (6 * (10 + (6 * Int.toNat 1) + Int.toNat (smZ (P00 T v 2) 0 (Int.toNat (1 - 1))))))) (by omega) (by omega) ?_
              refine k_loopG (σ := Int × Int × Nat × va_W) B (fun g9 : Int × Int × Nat × va_W => (1 ≤ g9.1 ∧ g9.1 ≤ mkZ T (moC T v (dgN T v)) 0 0 + 1) ∧ (PS dI k T K qa g9.2.2.1 g9.2.2.2) ∧ (cp ≤ g9.2.2.1 ∧ g9.2.2.1 ≤ 131072) ∧ (g9.2.1 = bfZ T v (smZ (P00 T v 2) 0 (Int.toNat (g9.1 - 1))))) (fun g9 : Int × Int × Nat × va_W => ((mkZ T (moC T v (dgN T v)) 0 0 + 1) - g9.1).toNat) (fun g9 : Int × Int × Nat × va_W => [(4, .int (iI g9.1)), (3, .int (iI 1)), (2, .int (iI g9.2.1)), (0, .ref qa), (1, .int (iI v))]) (fun g9 : Int × Int × Nat × va_W => ([] ++ g9.2.2.2)) (fun g9 : Int × Int × Nat × va_W => ((g9.2.2.1 - cp) + (10 + (6 * Int.toNat g9.1) + Int.toNat (smZ (P00 T v 2) 0 (Int.toNat (g9.1 - 1)))))) (fun g9 : Int × Int × Nat × va_W => ((12 * (g9.2.2.1 - cp)) + (6 * (10 + (6 * Int.toNat g9.1) + Int.toNat (smZ (P00 T v 2) 0 (Int.toNat (g9.1 - 1))))))) ?_ (1, (-1), cp2_32, tl2_33) ⟨(show 1 ≤ 1 ∧ 1 ≤ mkZ T (moC T v (dgN T v)) 0 0 + 1 from (by omega)), (show PS dI k T K qa cp2_32 tl2_33 from hPS), (show cp ≤ cp2_32 ∧ cp2_32 ≤ 131072 from (by omega)), (show (-1) = bfZ T v (smZ (P00 T v 2) 0 (Int.toNat (1 - 1))) from rfl)⟩ ls H locs (lv_sub hl [0, 1, 2, 3, 4] rfl) (bd_to rfl B)
              clear hl B
              rintro ⟨pq, bf, cp3, tl3⟩ ⟨hk, hPS, hc3, hbf⟩ ih_43 ls H locs hl B
              have hk : 1 ≤ pq ∧ pq ≤ mkZ T (moC T v (dgN T v)) 0 0 + 1 := hk
              have hPS : PS dI k T K qa cp3 tl3 := hPS
              have hc3 : cp ≤ cp3 ∧ cp3 ≤ 131072 := hc3
              have hbf : bf = bfZ T v (smZ (P00 T v 2) 0 (Int.toNat (pq - 1))) := hbf
              show W p l e _ s m args below meth c H locs ((cp3 - cp) + (10 + (6 * Int.toNat pq) + Int.toNat (smZ (P00 T v 2) 0 (Int.toNat (pq - 1))))) ((12 * (cp3 - cp)) + (6 * (10 + (6 * Int.toNat pq) + Int.toNat (smZ (P00 T v 2) 0 (Int.toNat (pq - 1)))))) _ _
              have hl : lv_has ls 11 [(4, .int (iI pq)), (3, .int (iI 1)), (2, .int (iI bf)), (0, .ref qa), (1, .int (iI v))] := hl
              have B := bd_to (ws' := ([] ++ tl3)) rfl B
              have hsm : 0 ≤ (smZ (P00 T v 2) 0 (Int.toNat (pq - 1))) ∧ (smZ (P00 T v 2) 0 (Int.toNat (pq - 1))) ≤ moC T v (dgN T v) 0 0 := smP_in hP9 (by omega) _ (by omega)
              refine lv_iload hx hb dL_isLaid_41 (lv_at hl 0 rfl) ?_
              refine lv_aload_n hx hb dL_isLaid_43 rfl (lv_at hl 3 rfl) ?_
              refine lv_iload_n hx hb dL_isLaid_44 rfl (lv_at hl 4 rfl) ?_
              have z_44 : 0 ≤ mkZ T (moC T v (dgN T v)) 0 0 ∧ mkZ T (moC T v (dgN T v)) 0 0 ≤ 965 := hP9.2.2.2.1
              have B := bd_swap (a := []) (b := []) (d := tl3) (bd_to rfl B)
              refine k_W (rest := [.int (iI pq)]) (wc := ([] ++ tl3)) (wr := []) (w_pages l dC dI k hl0 T K qa cp3 tl3 v hPS hQ (by omega)) B mW_L_pages mw_1721 hl ⟨Nat.le_of_ble_eq_true rfl, Nat.le_of_ble_eq_true rfl⟩ (Nat.le_of_ble_eq_true rfl) rfl dL_isLaid_45 ⟨by dsimp only; omega, by dsimp only; omega⟩ (fun r w gc gs H locs hp B => ?_)
              rcases hp with ⟨cp2_45, tl2_46, z_47, z_48, z_49, rfl, hw9, rfl, rfl⟩ | ⟨cp2_50, tl2_51, z_52, z_53, z_54, rfl, hw9, rfl, rfl⟩
              · skip
                rw [hw9] at B; clear hw9
                have B := bd_to (ws' := ([] ++ tl2_46)) rfl B
                have hPS : PS dI k T K qa cp2_45 tl2_46 := z_47
                refine W.widen (k := ((cp2_45 - cp) + (10 + (6 * Int.toNat pq) + Int.toNat (smZ (P00 T v 2) 0 (Int.toNat (pq - 1))) + 1))) (n := ((12 * (cp2_45 - cp)) + (6 * (10 + (6 * Int.toNat pq) + Int.toNat (smZ (P00 T v 2) 0 (Int.toNat (pq - 1))) + 1)))) (by omega) (by omega) ?_
                refine lv_icmp_gt (tgt := 247) hx hb dL_isLaid_48 (by decide) (fun c_55 => ?_) (fun c_55 => ?_)
                · have zc_55 : ((mkZ T (moC T v (dgN T v))) 0 0) < pq := jlt (a := ((mkZ T (moC T v (dgN T v))) 0 0)) (b := pq) (by omega) (by omega) c_55
                  refine lv_iload_n hx hb dL_isLaid_247 rfl (lv_at hl 1 rfl) ?_
                  exact k_zret B hr (by omega) (⟨cp2_45, tl2_46, z_47, (by omega), rfl, rfl, rfl, rfl⟩) ⟨(by first | omega | (dsimp only; omega)), (by first | omega | (dsimp only; omega))⟩ ⟨(by first | omega | (dsimp only; omega)), (by first | omega | (dsimp only; omega))⟩ dL_isLaid_248
                · have zc_55 : pq ≤ ((mkZ T (moC T v (dgN T v))) 0 0) := jnlt (a := ((mkZ T (moC T v (dgN T v))) 0 0)) (b := pq) (by omega) (by omega) c_55
                  refine lv_iload_n hx hb dL_isLaid_51 rfl (lv_at hl 1 rfl) ?_
                  refine lv_if_eq (tgt := 247) hx hb dL_isLaid_52 (by decide) (fun c9 => absurd c9 (by decide)) (fun _ => ?_)
                  refine lv_aload_n hx hb dL_isLaid_55 rfl (lv_at hl 3 rfl) ?_
                  refine lv_iload_n hx hb dL_isLaid_56 rfl (lv_at hl 4 rfl) ?_
                  refine lv_iload hx hb dL_isLaid_57 (lv_at hl 0 rfl) ?_
                  refine lv_iconst (v := iI 0) hx hb dL_isLaid_59 (by decide) ?_
                  have hon : (0 ≤ onZ T v pq 0 ∧ onZ T v pq 0 ≤ 768) ∧ (0 ≤ onZ T v pq 1 ∧ onZ T v pq 1 ≤ 100000) ∧ (onZ T v pq 0 + onZ T v pq 1 ≤ onZ T v pq 2 ∧ (0 < onZ T v pq 1 → onZ T v pq 0 + onZ T v pq 1 + 1 ≤ onZ T v pq 2) ∧ onZ T v pq 2 ≤ 1000000) ∧ 0 < onZ T v pq 0 + onZ T v pq 2 := on_in hQ hv ⟨by omega, show pq ≤ mkZ T (moC T v (dgN T v)) 0 0 by omega⟩
                  have B := bd_swap (a := []) (b := []) (d := tl2_46) (bd_to rfl B)
                  refine k_W (rest := []) (wc := ([] ++ tl2_46)) (wr := []) (w_on l dC dI k hl0 T K qa cp2_45 tl2_46 v pq 0 z_47 hQ (by omega) (by omega) (by omega) (by omega)) B mW_L_on mw_1756 hl ⟨Nat.le_of_ble_eq_true rfl, Nat.le_of_ble_eq_true rfl⟩ (Nat.le_of_ble_eq_true rfl) rfl dL_isLaid_60 ⟨by dsimp only; omega, by dsimp only; omega⟩ (fun r w gc gs H locs hp B => ?_)
                  rcases hp with ⟨cp2_56, tl2_57, z_58, z_59, z_60, rfl, hw9, rfl, rfl⟩ | ⟨cp2_61, tl2_62, z_63, z_64, z_65, rfl, hw9, rfl, rfl⟩
                  · skip
                    rw [hw9] at B; clear hw9
                    have B := bd_to (ws' := ([] ++ tl2_57)) rfl B
                    have hPS : PS dI k T K qa cp2_56 tl2_57 := z_58
                    refine W.widen (k := ((cp2_56 - cp) + (10 + (6 * Int.toNat pq) + Int.toNat (smZ (P00 T v 2) 0 (Int.toNat (pq - 1))) + 2))) (n := ((12 * (cp2_56 - cp)) + (6 * (10 + (6 * Int.toNat pq) + Int.toNat (smZ (P00 T v 2) 0 (Int.toNat (pq - 1))) + 2)))) (by omega) (by omega) ?_
                    refine lv_istore (lv' := [(5, .int (iI (onZ T v pq 0))), (4, .int (iI pq)), (3, .int (iI 1)), (2, .int (iI bf)), (0, .ref qa), (1, .int (iI v))]) hx hb dL_isLaid_63 hl (by decide) rfl (fun ls hl => ?_)
                    refine lv_aload_n hx hb dL_isLaid_65 rfl (lv_at hl 4 rfl) ?_
                    refine lv_iload_n hx hb dL_isLaid_66 rfl (lv_at hl 5 rfl) ?_
                    refine lv_iload hx hb dL_isLaid_67 (lv_at hl 1 rfl) ?_
                    refine lv_iconst (v := iI 1) hx hb dL_isLaid_69 (by decide) ?_
                    have B := bd_swap (a := []) (b := []) (d := tl2_57) (bd_to rfl B)
                    refine k_W (rest := []) (wc := ([] ++ tl2_57)) (wr := []) (w_on l dC dI k hl0 T K qa cp2_56 tl2_57 v pq 1 z_58 hQ (by omega) (by omega) (by omega) (by omega)) B mW_L_on mw_1756 hl ⟨Nat.le_of_ble_eq_true rfl, Nat.le_of_ble_eq_true rfl⟩ (Nat.le_of_ble_eq_true rfl) rfl dL_isLaid_70 ⟨by dsimp only; omega, by dsimp only; omega⟩ (fun r w gc gs H locs hp B => ?_)
                    rcases hp with ⟨cp2_66, tl2_67, z_68, z_69, z_70, rfl, hw9, rfl, rfl⟩ | ⟨cp2_71, tl2_72, z_73, z_74, z_75, rfl, hw9, rfl, rfl⟩
                    · skip
                      rw [hw9] at B; clear hw9
                      have B := bd_to (ws' := ([] ++ tl2_67)) rfl B
                      have hPS : PS dI k T K qa cp2_66 tl2_67 := z_68
                      refine W.widen (k := ((cp2_66 - cp) + (10 + (6 * Int.toNat pq) + Int.toNat (smZ (P00 T v 2) 0 (Int.toNat (pq - 1))) + 3))) (n := ((12 * (cp2_66 - cp)) + (6 * (10 + (6 * Int.toNat pq) + Int.toNat (smZ (P00 T v 2) 0 (Int.toNat (pq - 1))) + 3)))) (by omega) (by omega) ?_
                      refine lv_istore (lv' := [(6, .int (iI (onZ T v pq 1))), (5, .int (iI (onZ T v pq 0))), (4, .int (iI pq)), (3, .int (iI 1)), (2, .int (iI bf)), (0, .ref qa), (1, .int (iI v))]) hx hb dL_isLaid_73 hl (by decide) rfl (fun ls hl => ?_)
                      refine lv_aload_n hx hb dL_isLaid_75 rfl (lv_at hl 5 rfl) ?_
                      refine lv_iload_n hx hb dL_isLaid_76 rfl (lv_at hl 6 rfl) ?_
                      refine lv_iload hx hb dL_isLaid_77 (lv_at hl 2 rfl) ?_
                      refine lv_iconst (v := iI 2) hx hb dL_isLaid_79 (by decide) ?_
                      have B := bd_swap (a := []) (b := []) (d := tl2_67) (bd_to rfl B)
                      refine k_W (rest := []) (wc := ([] ++ tl2_67)) (wr := []) (w_on l dC dI k hl0 T K qa cp2_66 tl2_67 v pq 2 z_68 hQ (by omega) (by omega) (by omega) (by omega)) B mW_L_on mw_1756 hl ⟨Nat.le_of_ble_eq_true rfl, Nat.le_of_ble_eq_true rfl⟩ (Nat.le_of_ble_eq_true rfl) rfl dL_isLaid_80 ⟨by dsimp only; omega, by dsimp only; omega⟩ (fun r w gc gs H locs hp B => ?_)
                      rcases hp with ⟨cp2_76, tl2_77, z_78, z_79, z_80, rfl, hw9, rfl, rfl⟩ | ⟨cp2_81, tl2_82, z_83, z_84, z_85, rfl, hw9, rfl, rfl⟩
                      · skip
                        rw [hw9] at B; clear hw9
                        have B := bd_to (ws' := ([] ++ tl2_77)) rfl B
                        have hPS : PS dI k T K qa cp2_76 tl2_77 := z_78
                        refine W.widen (k := ((cp2_76 - cp) + (10 + (6 * Int.toNat pq) + Int.toNat (smZ (P00 T v 2) 0 (Int.toNat (pq - 1))) + 4))) (n := ((12 * (cp2_76 - cp)) + (6 * (10 + (6 * Int.toNat pq) + Int.toNat (smZ (P00 T v 2) 0 (Int.toNat (pq - 1))) + 4)))) (by omega) (by omega) ?_
                        refine lv_istore (lv' := [(7, .int (iI (onZ T v pq 2))), (6, .int (iI (onZ T v pq 1))), (5, .int (iI (onZ T v pq 0))), (4, .int (iI pq)), (3, .int (iI 1)), (2, .int (iI bf)), (0, .ref qa), (1, .int (iI v))]) hx hb dL_isLaid_83 hl (by decide) rfl (fun ls hl => ?_)
                        refine lv_iload hx hb dL_isLaid_85 (lv_at hl 2 rfl) ?_
                        refine lv_if_lt (tgt := 139) hx hb dL_isLaid_87 (by decide) (fun c_86 => ?_) (fun c_86 => ?_)
                        · have zc_86 : (onZ T v pq 0) < 0 := jlt (a := (onZ T v pq 0)) (b := 0) (by omega) (by omega) c_86
                          exfalso; omega
                        · have zc_86 : 0 ≤ (onZ T v pq 0) := jnlt (a := (onZ T v pq 0)) (b := 0) (by omega) (by omega) c_86
                          refine lv_iload hx hb dL_isLaid_90 (lv_at hl 1 rfl) ?_
                          refine lv_if_lt (tgt := 139) hx hb dL_isLaid_92 (by decide) (fun c_87 => ?_) (fun c_87 => ?_)
                          · have zc_87 : (onZ T v pq 1) < 0 := jlt (a := (onZ T v pq 1)) (b := 0) (by omega) (by omega) c_87
                            exfalso; omega
                          · have zc_87 : 0 ≤ (onZ T v pq 1) := jnlt (a := (onZ T v pq 1)) (b := 0) (by omega) (by omega) c_87
                            refine lv_iload hx hb dL_isLaid_95 (lv_at hl 0 rfl) ?_
                            refine lv_iload hx hb dL_isLaid_97 (lv_at hl 2 rfl) ?_
                            refine lv_iload hx hb dL_isLaid_99 (lv_at hl 1 rfl) ?_
                            refine y_add hx hb dL_isLaid_101 ?_
                            refine k_join (σ := Int) B 112 (fun g9 : Int => ((g9 = 0 ∧ onZ T v pq 1 ≤ 0) ∨ (g9 = 1 ∧ 0 < onZ T v pq 1))) (fun g9 : Int => [(7, .int (iI (onZ T v pq 2))), (6, .int (iI (onZ T v pq 1))), (5, .int (iI (onZ T v pq 0))), (4, .int (iI pq)), (3, .int (iI 1)), (2, .int (iI bf)), (0, .ref qa), (1, .int (iI v))]) (fun g9 : Int => ([] ++ tl2_77)) (fun g9 : Int => [.int (iI g9), .int (iI ((onZ T v pq 0) + (onZ T v pq 1))), .int (iI (onZ T v pq 2))]) ?_ (fun J_88 => ?_)
                            · clear hl B
                              rintro w1 hw1 ls H locs hl B
                              have hl : lv_has ls 11 [(7, .int (iI (onZ T v pq 2))), (6, .int (iI (onZ T v pq 1))), (5, .int (iI (onZ T v pq 0))), (4, .int (iI pq)), (3, .int (iI 1)), (2, .int (iI bf)), (0, .ref qa), (1, .int (iI v))] := hl
                              have B := bd_to (ws' := ([] ++ tl2_77)) rfl B
                              refine y_add hx hb dL_isLaid_112 ?_
                              refine lv_icmp_lt (tgt := 139) hx hb dL_isLaid_113 (by decide) (fun c_89 => ?_) (fun c_89 => ?_)
                              · have zc_89 : (onZ T v pq 2) < (((onZ T v pq 0) + (onZ T v pq 1)) + w1) := jlt (a := (onZ T v pq 2)) (b := (((onZ T v pq 0) + (onZ T v pq 1)) + w1)) (by omega) (by omega) c_89
                                exfalso; omega
                              · have zc_89 : (((onZ T v pq 0) + (onZ T v pq 1)) + w1) ≤ (onZ T v pq 2) := jnlt (a := (onZ T v pq 2)) (b := (((onZ T v pq 0) + (onZ T v pq 1)) + w1)) (by omega) (by omega) c_89
                                refine lv_iload hx hb dL_isLaid_116 (lv_at hl 2 rfl) ?_
                                refine lv_iload hx hb dL_isLaid_118 (lv_at hl 0 rfl) ?_
                                refine y_add hx hb dL_isLaid_120 ?_
                                refine lv_if_le (tgt := 139) hx hb dL_isLaid_121 (by decide) (fun c_90 => ?_) (fun c_90 => ?_)
                                · have zc_90 : ((onZ T v pq 0) + (onZ T v pq 2)) ≤ 0 := jle (a := ((onZ T v pq 0) + (onZ T v pq 2))) (b := 0) (by omega) (by omega) c_90
                                  exfalso; omega
                                · have zc_90 : 0 < ((onZ T v pq 0) + (onZ T v pq 2)) := jnle (a := ((onZ T v pq 0) + (onZ T v pq 2))) (b := 0) (by omega) (by omega) c_90
                                  refine lv_aload_n hx hb dL_isLaid_124 rfl (lv_at hl 6 rfl) ?_
                                  refine lv_iload_n hx hb dL_isLaid_125 rfl (lv_at hl 7 rfl) ?_
                                  refine lv_iload hx hb dL_isLaid_126 (lv_at hl 3 rfl) ?_
                                  have z_91 : -1 ≤ hoZ T (moC T v (dgN T v)) (mkZ T (moC T v (dgN T v))) v pq ∧ hoZ T (moC T v (dgN T v)) (mkZ T (moC T v (dgN T v))) v pq ≤ 16 := hoZ_in hQ.1
                                  have B := bd_swap (a := []) (b := []) (d := tl2_77) (bd_to rfl B)
                                  refine k_W (rest := []) (wc := ([] ++ tl2_77)) (wr := []) (w_head l dC dI k hl0 T K qa cp2_76 tl2_77 v pq z_78 hQ (by omega) (by omega)) B mW_L_head mw_1768 hl ⟨Nat.le_of_ble_eq_true rfl, Nat.le_of_ble_eq_true rfl⟩ (Nat.le_of_ble_eq_true rfl) rfl dL_isLaid_128 ⟨by dsimp only; omega, by dsimp only; omega⟩ (fun r w gc gs H locs hp B => ?_)
                                  rcases hp with ⟨cp2_92, tl2_93, z_94, z_95, z_96, rfl, hw9, rfl, rfl⟩ | ⟨cp2_97, tl2_98, z_99, z_100, z_101, rfl, hw9, rfl, rfl⟩
                                  · skip
                                    rw [hw9] at B; clear hw9
                                    have B := bd_to (ws' := ([] ++ tl2_93)) rfl B
                                    have hPS : PS dI k T K qa cp2_92 tl2_93 := z_94
                                    refine W.widen (k := ((cp2_92 - cp) + (10 + (6 * Int.toNat pq) + Int.toNat (smZ (P00 T v 2) 0 (Int.toNat (pq - 1))) + 5))) (n := ((12 * (cp2_92 - cp)) + (6 * (10 + (6 * Int.toNat pq) + Int.toNat (smZ (P00 T v 2) 0 (Int.toNat (pq - 1))) + 5)))) (by omega) (by omega) ?_
                                    refine lv_iconst (v := iI (-1)) hx hb dL_isLaid_131 (by decide) ?_
                                    refine lv_icmp_lt (tgt := 139) hx hb dL_isLaid_132 (by decide) (fun c_102 => ?_) (fun c_102 => ?_)
                                    · have zc_102 : (hoZ T (moC T v (dgN T v)) (mkZ T (moC T v (dgN T v))) v pq) < (-1) := jlt (a := (hoZ T (moC T v (dgN T v)) (mkZ T (moC T v (dgN T v))) v pq)) (b := (-1)) (by omega) (by omega) c_102
                                      exfalso; omega
                                    · have zc_102 : (-1) ≤ (hoZ T (moC T v (dgN T v)) (mkZ T (moC T v (dgN T v))) v pq) := jnlt (a := (hoZ T (moC T v (dgN T v)) (mkZ T (moC T v (dgN T v))) v pq)) (b := (-1)) (by omega) (by omega) c_102
                                      refine lv_iconst (v := iI 1) hx hb dL_isLaid_135 (by decide) ?_
                                      refine lv_goto (tgt := 140) hx hb dL_isLaid_136 (by decide) ?_
                                      refine lv_istore_n (lv' := [(3, .int (iI 1)), (7, .int (iI (onZ T v pq 2))), (6, .int (iI (onZ T v pq 1))), (5, .int (iI (onZ T v pq 0))), (4, .int (iI pq)), (2, .int (iI bf)), (0, .ref qa), (1, .int (iI v))]) hx hb dL_isLaid_140 rfl hl (by decide) rfl (fun ls hl => ?_)
                                      refine lv_iconst (v := iI 0) hx hb dL_isLaid_141 (by decide) ?_
                                      refine lv_istore (lv' := [(8, .int (iI 0)), (3, .int (iI 1)), (7, .int (iI (onZ T v pq 2))), (6, .int (iI (onZ T v pq 1))), (5, .int (iI (onZ T v pq 0))), (4, .int (iI pq)), (2, .int (iI bf)), (0, .ref qa), (1, .int (iI v))]) hx hb dL_isLaid_142 hl (by decide) rfl (fun ls hl => ?_)
                                      refine W.widen (k := ((cp2_92 - cp) + (10 + (6 * Int.toNat pq) + Int.toNat (smZ (P00 T v 2) 0 (Int.toNat (pq - 1))) + 6 + Int.toNat 0))) (n := ((12 * (cp2_92 - cp)) + (6 * (10 + (6 * Int.toNat pq) + Int.toNat (smZ (P00 T v 2) 0 (Int.toNat (pq - 1))) + 6 + Int.toNat 0)))) (by omega) (by omega) ?_
                                      refine k_loopG (σ := Int × Int × Nat × va_W) B (fun g9 : Int × Int × Nat × va_W => (0 ≤ g9.1 ∧ g9.1 ≤ onZ T v pq 0) ∧ (PS dI k T K qa g9.2.2.1 g9.2.2.2) ∧ (cp ≤ g9.2.2.1 ∧ g9.2.2.1 ≤ 131072) ∧ (g9.2.1 = bfZ T v ((smZ (P00 T v 2) 0 (Int.toNat (pq - 1))) + g9.1))) (fun g9 : Int × Int × Nat × va_W => (onZ T v pq 0 - g9.1).toNat) (fun g9 : Int × Int × Nat × va_W => [(8, .int (iI g9.1)), (3, .int (iI 1)), (7, .int (iI (onZ T v pq 2))), (6, .int (iI (onZ T v pq 1))), (5, .int (iI (onZ T v pq 0))), (4, .int (iI pq)), (2, .int (iI g9.2.1)), (0, .ref qa), (1, .int (iI v))]) (fun g9 : Int × Int × Nat × va_W => ([] ++ g9.2.2.2)) (fun g9 : Int × Int × Nat × va_W => ((g9.2.2.1 - cp) + (10 + (6 * Int.toNat pq) + Int.toNat (smZ (P00 T v 2) 0 (Int.toNat (pq - 1))) + 6 + Int.toNat g9.1))) (fun g9 : Int × Int × Nat × va_W => ((12 * (g9.2.2.1 - cp)) + (6 * (10 + (6 * Int.toNat pq) + Int.toNat (smZ (P00 T v 2) 0 (Int.toNat (pq - 1))) + 6 + Int.toNat g9.1)))) ?_ (0, bf, cp2_92, tl2_93) ⟨(show 0 ≤ 0 ∧ 0 ≤ onZ T v pq 0 from (by omega)), (show PS dI k T K qa cp2_92 tl2_93 from hPS), (show cp ≤ cp2_92 ∧ cp2_92 ≤ 131072 from (by omega)), (show bf = bfZ T v ((smZ (P00 T v 2) 0 (Int.toNat (pq - 1))) + 0) from (by rw [hbf, Int.add_zero]))⟩ ls H locs (lv_sub hl [0, 1, 2, 3, 4, 5, 6, 7, 8] rfl) (bd_to rfl B)
                                      clear hl B
                                      rintro ⟨kq, bf2, cp4, tl4⟩ ⟨hk2, hPS, hc4, hbf2⟩ ih_103 ls H locs hl B
                                      have hk2 : 0 ≤ kq ∧ kq ≤ onZ T v pq 0 := hk2
                                      have hPS : PS dI k T K qa cp4 tl4 := hPS
                                      have hc4 : cp ≤ cp4 ∧ cp4 ≤ 131072 := hc4
                                      have hbf2 : bf2 = bfZ T v ((smZ (P00 T v 2) 0 (Int.toNat (pq - 1))) + kq) := hbf2
                                      show W p l e _ s m args below meth c H locs ((cp4 - cp) + (10 + (6 * Int.toNat pq) + Int.toNat (smZ (P00 T v 2) 0 (Int.toNat (pq - 1))) + 6 + Int.toNat kq)) ((12 * (cp4 - cp)) + (6 * (10 + (6 * Int.toNat pq) + Int.toNat (smZ (P00 T v 2) 0 (Int.toNat (pq - 1))) + 6 + Int.toNat kq))) _ _
                                      have hl : lv_has ls 11 [(8, .int (iI kq)), (3, .int (iI 1)), (7, .int (iI (onZ T v pq 2))), (6, .int (iI (onZ T v pq 1))), (5, .int (iI (onZ T v pq 0))), (4, .int (iI pq)), (2, .int (iI bf2)), (0, .ref qa), (1, .int (iI v))] := hl
                                      have B := bd_to (ws' := ([] ++ tl4)) rfl B
                                      refine lv_iload hx hb dL_isLaid_144 (lv_at hl 0 rfl) ?_
                                      refine lv_iload hx hb dL_isLaid_146 (lv_at hl 4 rfl) ?_
                                      refine lv_icmp_ge (tgt := 241) hx hb dL_isLaid_148 (by decide) (fun c_104 => ?_) (fun c_104 => ?_)
                                      · have zc_104 : (onZ T v pq 0) ≤ kq := jle (a := (onZ T v pq 0)) (b := kq) (by omega) (by omega) c_104
                                        have hss : smZ (P00 T v 2) 0 (Int.toNat ((pq + 1) - 1)) = smZ (P00 T v 2) 0 (Int.toNat (pq - 1)) + onZ T v pq 0 := smP_s hk.1
                                        refine lv_iinc (v := iI (pq + 1)) (lv' := [(4, .int (iI (pq + 1))), (8, .int (iI kq)), (3, .int (iI 1)), (7, .int (iI (onZ T v pq 2))), (6, .int (iI (onZ T v pq 1))), (5, .int (iI (onZ T v pq 0))), (2, .int (iI bf2)), (0, .ref qa), (1, .int (iI v))]) hx hb dL_isLaid_241 hl (k := 5) rfl (iI_add _ _) (by decide) rfl (fun ls hl => ?_)
                                        refine lv_goto (tgt := 41) hx hb dL_isLaid_244 (by decide) ?_
                                        refine W.widen (k := ((cp4 - cp) + (10 + (6 * Int.toNat (pq + 1)) + Int.toNat (smZ (P00 T v 2) 0 (Int.toNat ((pq + 1) - 1)))))) (n := ((12 * (cp4 - cp)) + (6 * (10 + (6 * Int.toNat (pq + 1)) + Int.toNat (smZ (P00 T v 2) 0 (Int.toNat ((pq + 1) - 1))))))) (by omega) (by omega) ?_
                                        exact ih_43 ((pq + 1), bf2, cp4, tl4) ⟨(show 1 ≤ (pq + 1) ∧ (pq + 1) ≤ mkZ T (moC T v (dgN T v)) 0 0 + 1 from (by omega)), (show PS dI k T K qa cp4 tl4 from hPS), (show cp ≤ cp4 ∧ cp4 ≤ 131072 from hc4), (show bf2 = bfZ T v (smZ (P00 T v 2) 0 (Int.toNat ((pq + 1) - 1))) from (by rw [hss, ← show kq = onZ T v pq 0 by omega]; exact hbf2))⟩ (by first | omega | (dsimp only; omega)) _ _ _ (lv_sub hl [0, 2, 6, 7, 8] rfl) (bd_to rfl B)
                                      · have zc_104 : kq < (onZ T v pq 0) := jnle (a := (onZ T v pq 0)) (b := kq) (by omega) (by omega) c_104
                                        refine lv_iload_n hx hb dL_isLaid_151 rfl (lv_at hl 1 rfl) ?_
                                        refine lv_if_eq (tgt := 241) hx hb dL_isLaid_152 (by decide) (fun c9 => absurd c9 (by decide)) (fun _ => ?_)
                                        refine lv_aload_n hx hb dL_isLaid_155 rfl (lv_at hl 7 rfl) ?_
                                        refine lv_iload_n hx hb dL_isLaid_156 rfl (lv_at hl 8 rfl) ?_
                                        refine lv_iload hx hb dL_isLaid_157 (lv_at hl 5 rfl) ?_
                                        refine lv_iload hx hb dL_isLaid_159 (lv_at hl 0 rfl) ?_
                                        obtain ⟨htx1, htx2, htx3⟩ := tx_in hQ hv (pg := pq) (kq := kq) ⟨by omega, show pq ≤ mkZ T (moC T v (dgN T v)) 0 0 by omega⟩ ⟨by omega, by omega⟩
                                        have hon2 : onZ T v pq 0 = mkZ T (moC T v (dgN T v)) 2 (pq - 1) := rfl
                                        rw [← hbf2] at htx3
                                        have htd := tdv_f (a := bf2) (b := 1000)
                                        have B := bd_swap (a := []) (b := []) (d := tl4) (bd_to rfl B)
                                        refine k_W (rest := []) (wc := ([] ++ tl4)) (wr := []) (w_textAt l dC dI k hl0 T K qa cp4 tl4 v pq kq hPS hQ (by omega) (by omega) (by omega)) B mW_L_textAt mw_1784 hl ⟨Nat.le_of_ble_eq_true rfl, Nat.le_of_ble_eq_true rfl⟩ (Nat.le_of_ble_eq_true rfl) rfl dL_isLaid_161 ⟨by dsimp only; omega, by dsimp only; omega⟩ (fun r w gc gs H locs hp B => ?_)
                                        rcases hp with ⟨cp2_105, tl2_106, z_107, z_108, z_109, rfl, hw9, rfl, rfl⟩ | ⟨cp2_110, tl2_111, z_112, z_113, z_114, rfl, hw9, rfl, rfl⟩
                                        · skip
                                          rw [hw9] at B; clear hw9
                                          have B := bd_to (ws' := ([] ++ tl2_106)) rfl B
                                          have hPS : PS dI k T K qa cp2_105 tl2_106 := z_107
                                          refine W.widen (k := ((cp2_105 - cp) + (10 + (6 * Int.toNat pq) + Int.toNat (smZ (P00 T v 2) 0 (Int.toNat (pq - 1))) + 6 + Int.toNat kq + 1))) (n := ((12 * (cp2_105 - cp)) + (6 * (10 + (6 * Int.toNat pq) + Int.toNat (smZ (P00 T v 2) 0 (Int.toNat (pq - 1))) + 6 + Int.toNat kq + 1)))) (by omega) (by omega) ?_
                                          refine lv_istore (lv' := [(9, .int (iI (txZ T v pq kq))), (8, .int (iI kq)), (3, .int (iI 1)), (7, .int (iI (onZ T v pq 2))), (6, .int (iI (onZ T v pq 1))), (5, .int (iI (onZ T v pq 0))), (4, .int (iI pq)), (2, .int (iI bf2)), (0, .ref qa), (1, .int (iI v))]) hx hb dL_isLaid_164 hl (by decide) rfl (fun ls hl => ?_)
                                          refine lv_iload hx hb dL_isLaid_166 (lv_at hl 0 rfl) ?_
                                          refine lv_sipush (v := iI 1000) hx hb dL_isLaid_168 (by decide) ?_
                                          refine y_div hx hb (a := (txZ T v pq kq)) (b := 1000) (by omega) (by omega) dL_isLaid_171 ?_
                                          refine lv_iload_n hx hb dL_isLaid_172 rfl (lv_at hl 7 rfl) ?_
                                          refine lv_sipush (v := iI 1000) hx hb dL_isLaid_173 (by decide) ?_
                                          refine y_tdv hx hb (a := bf2) (b := 1000) (by omega) (by omega) dL_isLaid_176 ?_
                                          refine lv_icmp_le (tgt := 189) hx hb dL_isLaid_177 (by decide) (fun c_115 => ?_) (fun c_115 => ?_)
                                          · have zc_115 : ((txZ T v pq kq) / 1000) ≤ (tdv bf2 1000) := jle (a := ((txZ T v pq kq) / 1000)) (b := (tdv bf2 1000)) (by omega) (by omega) c_115
                                            refine lv_iload_n hx hb dL_isLaid_189 rfl (lv_at hl 7 rfl) ?_
                                            refine lv_if_lt (tgt := 205) hx hb dL_isLaid_190 (by decide) (fun c_116 => ?_) (fun c_116 => ?_)
                                            · have zc_116 : bf2 < 0 := jlt (a := bf2) (b := 0) (by omega) (by omega) c_116
                                              refine lv_iconst (v := iI 0) hx hb dL_isLaid_205 (by decide) ?_
                                              refine lv_istore (lv' := [(10, .int (iI 0)), (9, .int (iI (txZ T v pq kq))), (8, .int (iI kq)), (3, .int (iI 1)), (7, .int (iI (onZ T v pq 2))), (6, .int (iI (onZ T v pq 1))), (5, .int (iI (onZ T v pq 0))), (4, .int (iI pq)), (2, .int (iI bf2)), (0, .ref qa), (1, .int (iI v))]) hx hb dL_isLaid_206 hl (by decide) rfl (fun ls hl => ?_)
                                              refine lv_iload_n hx hb dL_isLaid_208 rfl (lv_at hl 8 rfl) ?_
                                              refine lv_if_ge (tgt := 229) hx hb dL_isLaid_209 (by decide) (fun c_117 => ?_) (fun c_117 => ?_)
                                              · have zc_117 : 0 ≤ bf2 := jle (a := 0) (b := bf2) (by omega) (by omega) c_117
                                                exfalso; omega
                                              · have zc_117 : bf2 < 0 := jnle (a := 0) (b := bf2) (by omega) (by omega) c_117
                                                refine lv_iload hx hb dL_isLaid_212 (lv_at hl 1 rfl) ?_
                                                refine lv_sipush (v := iI 1000) hx hb dL_isLaid_214 (by decide) ?_
                                                refine y_rem hx hb (a := (txZ T v pq kq)) (b := 1000) (by omega) (by omega) dL_isLaid_217 ?_
                                                refine lv_if_ne (tgt := 225) hx hb dL_isLaid_218 (by decide) (fun c_118 => ?_) (fun c_118 => ?_)
                                                · have zc_118 : ((txZ T v pq kq) % 1000) ≠ 0 := jne (a := ((txZ T v pq kq) % 1000)) (b := 0) (by omega) (by omega) c_118
                                                  exfalso; omega
                                                · have zc_118 : ((txZ T v pq kq) % 1000) = 0 := jeq (a := ((txZ T v pq kq) % 1000)) (b := 0) (by omega) (by omega) c_118
                                                  refine lv_iconst (v := iI 1) hx hb dL_isLaid_221 (by decide) ?_
                                                  refine lv_goto (tgt := 231) hx hb dL_isLaid_222 (by decide) ?_
                                                  refine lv_istore_n (lv' := [(3, .int (iI 1)), (10, .int (iI 0)), (9, .int (iI (txZ T v pq kq))), (8, .int (iI kq)), (7, .int (iI (onZ T v pq 2))), (6, .int (iI (onZ T v pq 1))), (5, .int (iI (onZ T v pq 0))), (4, .int (iI pq)), (2, .int (iI bf2)), (0, .ref qa), (1, .int (iI v))]) hx hb dL_isLaid_231 rfl hl (by decide) rfl (fun ls hl => ?_)
                                                  refine lv_iload hx hb dL_isLaid_232 (lv_at hl 2 rfl) ?_
                                                  refine lv_istore_n (lv' := [(2, .int (iI (txZ T v pq kq))), (3, .int (iI 1)), (10, .int (iI 0)), (9, .int (iI (txZ T v pq kq))), (8, .int (iI kq)), (7, .int (iI (onZ T v pq 2))), (6, .int (iI (onZ T v pq 1))), (5, .int (iI (onZ T v pq 0))), (4, .int (iI pq)), (0, .ref qa), (1, .int (iI v))]) hx hb dL_isLaid_234 rfl hl (by decide) rfl (fun ls hl => ?_)
                                                  refine lv_iinc (v := iI (kq + 1)) (lv' := [(8, .int (iI (kq + 1))), (2, .int (iI (txZ T v pq kq))), (3, .int (iI 1)), (10, .int (iI 0)), (9, .int (iI (txZ T v pq kq))), (7, .int (iI (onZ T v pq 2))), (6, .int (iI (onZ T v pq 1))), (5, .int (iI (onZ T v pq 0))), (4, .int (iI pq)), (0, .ref qa), (1, .int (iI v))]) hx hb dL_isLaid_235 hl (k := 4) rfl (iI_add _ _) (by decide) rfl (fun ls hl => ?_)
                                                  refine lv_goto (tgt := 144) hx hb dL_isLaid_238 (by decide) ?_
                                                  refine W.widen (k := ((cp2_105 - cp) + (10 + (6 * Int.toNat pq) + Int.toNat (smZ (P00 T v 2) 0 (Int.toNat (pq - 1))) + 6 + Int.toNat (kq + 1)))) (n := ((12 * (cp2_105 - cp)) + (6 * (10 + (6 * Int.toNat pq) + Int.toNat (smZ (P00 T v 2) 0 (Int.toNat (pq - 1))) + 6 + Int.toNat (kq + 1))))) (by omega) (by omega) ?_
                                                  exact ih_103 ((kq + 1), (txZ T v pq kq), cp2_105, tl2_106) ⟨(show 0 ≤ (kq + 1) ∧ (kq + 1) ≤ onZ T v pq 0 from (by omega)), (show PS dI k T K qa cp2_105 tl2_106 from hPS), (show cp ≤ cp2_105 ∧ cp2_105 ≤ 131072 from (by omega)), (show (txZ T v pq kq) = bfZ T v ((smZ (P00 T v 2) 0 (Int.toNat (pq - 1))) + (kq + 1)) from htx2.symm)⟩ (by first | omega | (dsimp only; omega)) _ _ _ (lv_sub hl [0, 2, 5, 6, 7, 8, 1, 9, 10] rfl) (bd_to rfl B)
                                            · have zc_116 : 0 ≤ bf2 := jnlt (a := bf2) (b := 0) (by omega) (by omega) c_116
                                              refine lv_iload hx hb dL_isLaid_193 (lv_at hl 0 rfl) ?_
                                              refine lv_iload_n hx hb dL_isLaid_195 rfl (lv_at hl 7 rfl) ?_
                                              refine lv_iconst (v := iI 1) hx hb dL_isLaid_196 (by decide) ?_
                                              refine y_add hx hb dL_isLaid_197 ?_
                                              refine lv_icmp_ne (tgt := 205) hx hb dL_isLaid_198 (by decide) (fun c_119 => ?_) (fun c_119 => ?_)
                                              · have zc_119 : (txZ T v pq kq) ≠ (bf2 + 1) := jne (a := (txZ T v pq kq)) (b := (bf2 + 1)) (by omega) (by omega) c_119
                                                exfalso; omega
                                              · have zc_119 : (txZ T v pq kq) = (bf2 + 1) := jeq (a := (txZ T v pq kq)) (b := (bf2 + 1)) (by omega) (by omega) c_119
                                                refine lv_iconst (v := iI 1) hx hb dL_isLaid_201 (by decide) ?_
                                                refine lv_goto (tgt := 206) hx hb dL_isLaid_202 (by decide) ?_
                                                refine lv_istore (lv' := [(10, .int (iI 1)), (9, .int (iI (txZ T v pq kq))), (8, .int (iI kq)), (3, .int (iI 1)), (7, .int (iI (onZ T v pq 2))), (6, .int (iI (onZ T v pq 1))), (5, .int (iI (onZ T v pq 0))), (4, .int (iI pq)), (2, .int (iI bf2)), (0, .ref qa), (1, .int (iI v))]) hx hb dL_isLaid_206 hl (by decide) rfl (fun ls hl => ?_)
                                                refine lv_iload_n hx hb dL_isLaid_208 rfl (lv_at hl 8 rfl) ?_
                                                refine lv_if_ge (tgt := 229) hx hb dL_isLaid_209 (by decide) (fun c_120 => ?_) (fun c_120 => ?_)
                                                · have zc_120 : 0 ≤ bf2 := jle (a := 0) (b := bf2) (by omega) (by omega) c_120
                                                  refine lv_iload hx hb dL_isLaid_229 (lv_at hl 0 rfl) ?_
                                                  refine lv_istore_n (lv' := [(3, .int (iI 1)), (10, .int (iI 1)), (9, .int (iI (txZ T v pq kq))), (8, .int (iI kq)), (7, .int (iI (onZ T v pq 2))), (6, .int (iI (onZ T v pq 1))), (5, .int (iI (onZ T v pq 0))), (4, .int (iI pq)), (2, .int (iI bf2)), (0, .ref qa), (1, .int (iI v))]) hx hb dL_isLaid_231 rfl hl (by decide) rfl (fun ls hl => ?_)
                                                  refine lv_iload hx hb dL_isLaid_232 (lv_at hl 2 rfl) ?_
                                                  refine lv_istore_n (lv' := [(2, .int (iI (txZ T v pq kq))), (3, .int (iI 1)), (10, .int (iI 1)), (9, .int (iI (txZ T v pq kq))), (8, .int (iI kq)), (7, .int (iI (onZ T v pq 2))), (6, .int (iI (onZ T v pq 1))), (5, .int (iI (onZ T v pq 0))), (4, .int (iI pq)), (0, .ref qa), (1, .int (iI v))]) hx hb dL_isLaid_234 rfl hl (by decide) rfl (fun ls hl => ?_)
                                                  refine lv_iinc (v := iI (kq + 1)) (lv' := [(8, .int (iI (kq + 1))), (2, .int (iI (txZ T v pq kq))), (3, .int (iI 1)), (10, .int (iI 1)), (9, .int (iI (txZ T v pq kq))), (7, .int (iI (onZ T v pq 2))), (6, .int (iI (onZ T v pq 1))), (5, .int (iI (onZ T v pq 0))), (4, .int (iI pq)), (0, .ref qa), (1, .int (iI v))]) hx hb dL_isLaid_235 hl (k := 4) rfl (iI_add _ _) (by decide) rfl (fun ls hl => ?_)
                                                  refine lv_goto (tgt := 144) hx hb dL_isLaid_238 (by decide) ?_
                                                  refine W.widen (k := ((cp2_105 - cp) + (10 + (6 * Int.toNat pq) + Int.toNat (smZ (P00 T v 2) 0 (Int.toNat (pq - 1))) + 6 + Int.toNat (kq + 1)))) (n := ((12 * (cp2_105 - cp)) + (6 * (10 + (6 * Int.toNat pq) + Int.toNat (smZ (P00 T v 2) 0 (Int.toNat (pq - 1))) + 6 + Int.toNat (kq + 1))))) (by omega) (by omega) ?_
                                                  exact ih_103 ((kq + 1), (txZ T v pq kq), cp2_105, tl2_106) ⟨(show 0 ≤ (kq + 1) ∧ (kq + 1) ≤ onZ T v pq 0 from (by omega)), (show PS dI k T K qa cp2_105 tl2_106 from hPS), (show cp ≤ cp2_105 ∧ cp2_105 ≤ 131072 from (by omega)), (show (txZ T v pq kq) = bfZ T v ((smZ (P00 T v 2) 0 (Int.toNat (pq - 1))) + (kq + 1)) from htx2.symm)⟩ (by first | omega | (dsimp only; omega)) _ _ _ (lv_sub hl [0, 2, 5, 6, 7, 8, 1, 9, 10] rfl) (bd_to rfl B)
                                                · have zc_120 : bf2 < 0 := jnle (a := 0) (b := bf2) (by omega) (by omega) c_120
                                                  exfalso; omega
                                          · have zc_115 : (tdv bf2 1000) < ((txZ T v pq kq) / 1000) := jnle (a := ((txZ T v pq kq) / 1000)) (b := (tdv bf2 1000)) (by omega) (by omega) c_115
                                            refine lv_iload hx hb dL_isLaid_180 (lv_at hl 0 rfl) ?_
                                            refine lv_sipush (v := iI 1000) hx hb dL_isLaid_182 (by decide) ?_
                                            refine y_rem hx hb (a := (txZ T v pq kq)) (b := 1000) (by omega) (by omega) dL_isLaid_185 ?_
                                            refine lv_if_eq (tgt := 201) hx hb dL_isLaid_186 (by decide) (fun c_121 => ?_) (fun c_121 => ?_)
                                            · have zc_121 : ((txZ T v pq kq) % 1000) = 0 := jeq (a := ((txZ T v pq kq) % 1000)) (b := 0) (by omega) (by omega) c_121
                                              refine lv_iconst (v := iI 1) hx hb dL_isLaid_201 (by decide) ?_
                                              refine lv_goto (tgt := 206) hx hb dL_isLaid_202 (by decide) ?_
                                              refine lv_istore (lv' := [(10, .int (iI 1)), (9, .int (iI (txZ T v pq kq))), (8, .int (iI kq)), (3, .int (iI 1)), (7, .int (iI (onZ T v pq 2))), (6, .int (iI (onZ T v pq 1))), (5, .int (iI (onZ T v pq 0))), (4, .int (iI pq)), (2, .int (iI bf2)), (0, .ref qa), (1, .int (iI v))]) hx hb dL_isLaid_206 hl (by decide) rfl (fun ls hl => ?_)
                                              refine lv_iload_n hx hb dL_isLaid_208 rfl (lv_at hl 8 rfl) ?_
                                              refine lv_if_ge (tgt := 229) hx hb dL_isLaid_209 (by decide) (fun c_122 => ?_) (fun c_122 => ?_)
                                              · have zc_122 : 0 ≤ bf2 := jle (a := 0) (b := bf2) (by omega) (by omega) c_122
                                                refine lv_iload hx hb dL_isLaid_229 (lv_at hl 0 rfl) ?_
                                                refine lv_istore_n (lv' := [(3, .int (iI 1)), (10, .int (iI 1)), (9, .int (iI (txZ T v pq kq))), (8, .int (iI kq)), (7, .int (iI (onZ T v pq 2))), (6, .int (iI (onZ T v pq 1))), (5, .int (iI (onZ T v pq 0))), (4, .int (iI pq)), (2, .int (iI bf2)), (0, .ref qa), (1, .int (iI v))]) hx hb dL_isLaid_231 rfl hl (by decide) rfl (fun ls hl => ?_)
                                                refine lv_iload hx hb dL_isLaid_232 (lv_at hl 2 rfl) ?_
                                                refine lv_istore_n (lv' := [(2, .int (iI (txZ T v pq kq))), (3, .int (iI 1)), (10, .int (iI 1)), (9, .int (iI (txZ T v pq kq))), (8, .int (iI kq)), (7, .int (iI (onZ T v pq 2))), (6, .int (iI (onZ T v pq 1))), (5, .int (iI (onZ T v pq 0))), (4, .int (iI pq)), (0, .ref qa), (1, .int (iI v))]) hx hb dL_isLaid_234 rfl hl (by decide) rfl (fun ls hl => ?_)
                                                refine lv_iinc (v := iI (kq + 1)) (lv' := [(8, .int (iI (kq + 1))), (2, .int (iI (txZ T v pq kq))), (3, .int (iI 1)), (10, .int (iI 1)), (9, .int (iI (txZ T v pq kq))), (7, .int (iI (onZ T v pq 2))), (6, .int (iI (onZ T v pq 1))), (5, .int (iI (onZ T v pq 0))), (4, .int (iI pq)), (0, .ref qa), (1, .int (iI v))]) hx hb dL_isLaid_235 hl (k := 4) rfl (iI_add _ _) (by decide) rfl (fun ls hl => ?_)
                                                refine lv_goto (tgt := 144) hx hb dL_isLaid_238 (by decide) ?_
                                                refine W.widen (k := ((cp2_105 - cp) + (10 + (6 * Int.toNat pq) + Int.toNat (smZ (P00 T v 2) 0 (Int.toNat (pq - 1))) + 6 + Int.toNat (kq + 1)))) (n := ((12 * (cp2_105 - cp)) + (6 * (10 + (6 * Int.toNat pq) + Int.toNat (smZ (P00 T v 2) 0 (Int.toNat (pq - 1))) + 6 + Int.toNat (kq + 1))))) (by omega) (by omega) ?_
                                                exact ih_103 ((kq + 1), (txZ T v pq kq), cp2_105, tl2_106) ⟨(show 0 ≤ (kq + 1) ∧ (kq + 1) ≤ onZ T v pq 0 from (by omega)), (show PS dI k T K qa cp2_105 tl2_106 from hPS), (show cp ≤ cp2_105 ∧ cp2_105 ≤ 131072 from (by omega)), (show (txZ T v pq kq) = bfZ T v ((smZ (P00 T v 2) 0 (Int.toNat (pq - 1))) + (kq + 1)) from htx2.symm)⟩ (by first | omega | (dsimp only; omega)) _ _ _ (lv_sub hl [0, 2, 5, 6, 7, 8, 1, 9, 10] rfl) (bd_to rfl B)
                                              · have zc_122 : bf2 < 0 := jnle (a := 0) (b := bf2) (by omega) (by omega) c_122
                                                refine lv_iload hx hb dL_isLaid_212 (lv_at hl 1 rfl) ?_
                                                refine lv_sipush (v := iI 1000) hx hb dL_isLaid_214 (by decide) ?_
                                                refine y_rem hx hb (a := (txZ T v pq kq)) (b := 1000) (by omega) (by omega) dL_isLaid_217 ?_
                                                refine lv_if_ne (tgt := 225) hx hb dL_isLaid_218 (by decide) (fun c_123 => ?_) (fun c_123 => ?_)
                                                · have zc_123 : ((txZ T v pq kq) % 1000) ≠ 0 := jne (a := ((txZ T v pq kq) % 1000)) (b := 0) (by omega) (by omega) c_123
                                                  exfalso; omega
                                                · have zc_123 : ((txZ T v pq kq) % 1000) = 0 := jeq (a := ((txZ T v pq kq) % 1000)) (b := 0) (by omega) (by omega) c_123
                                                  refine lv_iconst (v := iI 1) hx hb dL_isLaid_221 (by decide) ?_
                                                  refine lv_goto (tgt := 231) hx hb dL_isLaid_222 (by decide) ?_
                                                  refine lv_istore_n (lv' := [(3, .int (iI 1)), (10, .int (iI 1)), (9, .int (iI (txZ T v pq kq))), (8, .int (iI kq)), (7, .int (iI (onZ T v pq 2))), (6, .int (iI (onZ T v pq 1))), (5, .int (iI (onZ T v pq 0))), (4, .int (iI pq)), (2, .int (iI bf2)), (0, .ref qa), (1, .int (iI v))]) hx hb dL_isLaid_231 rfl hl (by decide) rfl (fun ls hl => ?_)
                                                  refine lv_iload hx hb dL_isLaid_232 (lv_at hl 2 rfl) ?_
                                                  refine lv_istore_n (lv' := [(2, .int (iI (txZ T v pq kq))), (3, .int (iI 1)), (10, .int (iI 1)), (9, .int (iI (txZ T v pq kq))), (8, .int (iI kq)), (7, .int (iI (onZ T v pq 2))), (6, .int (iI (onZ T v pq 1))), (5, .int (iI (onZ T v pq 0))), (4, .int (iI pq)), (0, .ref qa), (1, .int (iI v))]) hx hb dL_isLaid_234 rfl hl (by decide) rfl (fun ls hl => ?_)
                                                  refine lv_iinc (v := iI (kq + 1)) (lv' := [(8, .int (iI (kq + 1))), (2, .int (iI (txZ T v pq kq))), (3, .int (iI 1)), (10, .int (iI 1)), (9, .int (iI (txZ T v pq kq))), (7, .int (iI (onZ T v pq 2))), (6, .int (iI (onZ T v pq 1))), (5, .int (iI (onZ T v pq 0))), (4, .int (iI pq)), (0, .ref qa), (1, .int (iI v))]) hx hb dL_isLaid_235 hl (k := 4) rfl (iI_add _ _) (by decide) rfl (fun ls hl => ?_)
                                                  refine lv_goto (tgt := 144) hx hb dL_isLaid_238 (by decide) ?_
                                                  refine W.widen (k := ((cp2_105 - cp) + (10 + (6 * Int.toNat pq) + Int.toNat (smZ (P00 T v 2) 0 (Int.toNat (pq - 1))) + 6 + Int.toNat (kq + 1)))) (n := ((12 * (cp2_105 - cp)) + (6 * (10 + (6 * Int.toNat pq) + Int.toNat (smZ (P00 T v 2) 0 (Int.toNat (pq - 1))) + 6 + Int.toNat (kq + 1))))) (by omega) (by omega) ?_
                                                  exact ih_103 ((kq + 1), (txZ T v pq kq), cp2_105, tl2_106) ⟨(show 0 ≤ (kq + 1) ∧ (kq + 1) ≤ onZ T v pq 0 from (by omega)), (show PS dI k T K qa cp2_105 tl2_106 from hPS), (show cp ≤ cp2_105 ∧ cp2_105 ≤ 131072 from (by omega)), (show (txZ T v pq kq) = bfZ T v ((smZ (P00 T v 2) 0 (Int.toNat (pq - 1))) + (kq + 1)) from htx2.symm)⟩ (by first | omega | (dsimp only; omega)) _ _ _ (lv_sub hl [0, 2, 5, 6, 7, 8, 1, 9, 10] rfl) (bd_to rfl B)
                                            · have zc_121 : ((txZ T v pq kq) % 1000) ≠ 0 := jne (a := ((txZ T v pq kq) % 1000)) (b := 0) (by omega) (by omega) c_121
                                              refine lv_iload_n hx hb dL_isLaid_189 rfl (lv_at hl 7 rfl) ?_
                                              refine lv_if_lt (tgt := 205) hx hb dL_isLaid_190 (by decide) (fun c_124 => ?_) (fun c_124 => ?_)
                                              · have zc_124 : bf2 < 0 := jlt (a := bf2) (b := 0) (by omega) (by omega) c_124
                                                refine lv_iconst (v := iI 0) hx hb dL_isLaid_205 (by decide) ?_
                                                refine lv_istore (lv' := [(10, .int (iI 0)), (9, .int (iI (txZ T v pq kq))), (8, .int (iI kq)), (3, .int (iI 1)), (7, .int (iI (onZ T v pq 2))), (6, .int (iI (onZ T v pq 1))), (5, .int (iI (onZ T v pq 0))), (4, .int (iI pq)), (2, .int (iI bf2)), (0, .ref qa), (1, .int (iI v))]) hx hb dL_isLaid_206 hl (by decide) rfl (fun ls hl => ?_)
                                                refine lv_iload_n hx hb dL_isLaid_208 rfl (lv_at hl 8 rfl) ?_
                                                refine lv_if_ge (tgt := 229) hx hb dL_isLaid_209 (by decide) (fun c_125 => ?_) (fun c_125 => ?_)
                                                · have zc_125 : 0 ≤ bf2 := jle (a := 0) (b := bf2) (by omega) (by omega) c_125
                                                  exfalso; omega
                                                · have zc_125 : bf2 < 0 := jnle (a := 0) (b := bf2) (by omega) (by omega) c_125
                                                  refine lv_iload hx hb dL_isLaid_212 (lv_at hl 1 rfl) ?_
                                                  refine lv_sipush (v := iI 1000) hx hb dL_isLaid_214 (by decide) ?_
                                                  refine y_rem hx hb (a := (txZ T v pq kq)) (b := 1000) (by omega) (by omega) dL_isLaid_217 ?_
                                                  refine lv_if_ne (tgt := 225) hx hb dL_isLaid_218 (by decide) (fun c_126 => ?_) (fun c_126 => ?_)
                                                  · have zc_126 : ((txZ T v pq kq) % 1000) ≠ 0 := jne (a := ((txZ T v pq kq) % 1000)) (b := 0) (by omega) (by omega) c_126
                                                    exfalso; omega
                                                  · have zc_126 : ((txZ T v pq kq) % 1000) = 0 := jeq (a := ((txZ T v pq kq) % 1000)) (b := 0) (by omega) (by omega) c_126
                                                    exfalso; omega
                                              · have zc_124 : 0 ≤ bf2 := jnlt (a := bf2) (b := 0) (by omega) (by omega) c_124
                                                refine lv_iload hx hb dL_isLaid_193 (lv_at hl 0 rfl) ?_
                                                refine lv_iload_n hx hb dL_isLaid_195 rfl (lv_at hl 7 rfl) ?_
                                                refine lv_iconst (v := iI 1) hx hb dL_isLaid_196 (by decide) ?_
                                                refine y_add hx hb dL_isLaid_197 ?_
                                                refine lv_icmp_ne (tgt := 205) hx hb dL_isLaid_198 (by decide) (fun c_127 => ?_) (fun c_127 => ?_)
                                                · have zc_127 : (txZ T v pq kq) ≠ (bf2 + 1) := jne (a := (txZ T v pq kq)) (b := (bf2 + 1)) (by omega) (by omega) c_127
                                                  exfalso; omega
                                                · have zc_127 : (txZ T v pq kq) = (bf2 + 1) := jeq (a := (txZ T v pq kq)) (b := (bf2 + 1)) (by omega) (by omega) c_127
                                                  refine lv_iconst (v := iI 1) hx hb dL_isLaid_201 (by decide) ?_
                                                  refine lv_goto (tgt := 206) hx hb dL_isLaid_202 (by decide) ?_
                                                  refine lv_istore (lv' := [(10, .int (iI 1)), (9, .int (iI (txZ T v pq kq))), (8, .int (iI kq)), (3, .int (iI 1)), (7, .int (iI (onZ T v pq 2))), (6, .int (iI (onZ T v pq 1))), (5, .int (iI (onZ T v pq 0))), (4, .int (iI pq)), (2, .int (iI bf2)), (0, .ref qa), (1, .int (iI v))]) hx hb dL_isLaid_206 hl (by decide) rfl (fun ls hl => ?_)
                                                  refine lv_iload_n hx hb dL_isLaid_208 rfl (lv_at hl 8 rfl) ?_
                                                  refine lv_if_ge (tgt := 229) hx hb dL_isLaid_209 (by decide) (fun c_128 => ?_) (fun c_128 => ?_)
                                                  · have zc_128 : 0 ≤ bf2 := jle (a := 0) (b := bf2) (by omega) (by omega) c_128
                                                    refine lv_iload hx hb dL_isLaid_229 (lv_at hl 0 rfl) ?_
                                                    refine lv_istore_n (lv' := [(3, .int (iI 1)), (10, .int (iI 1)), (9, .int (iI (txZ T v pq kq))), (8, .int (iI kq)), (7, .int (iI (onZ T v pq 2))), (6, .int (iI (onZ T v pq 1))), (5, .int (iI (onZ T v pq 0))), (4, .int (iI pq)), (2, .int (iI bf2)), (0, .ref qa), (1, .int (iI v))]) hx hb dL_isLaid_231 rfl hl (by decide) rfl (fun ls hl => ?_)
                                                    refine lv_iload hx hb dL_isLaid_232 (lv_at hl 2 rfl) ?_
                                                    refine lv_istore_n (lv' := [(2, .int (iI (txZ T v pq kq))), (3, .int (iI 1)), (10, .int (iI 1)), (9, .int (iI (txZ T v pq kq))), (8, .int (iI kq)), (7, .int (iI (onZ T v pq 2))), (6, .int (iI (onZ T v pq 1))), (5, .int (iI (onZ T v pq 0))), (4, .int (iI pq)), (0, .ref qa), (1, .int (iI v))]) hx hb dL_isLaid_234 rfl hl (by decide) rfl (fun ls hl => ?_)
                                                    refine lv_iinc (v := iI (kq + 1)) (lv' := [(8, .int (iI (kq + 1))), (2, .int (iI (txZ T v pq kq))), (3, .int (iI 1)), (10, .int (iI 1)), (9, .int (iI (txZ T v pq kq))), (7, .int (iI (onZ T v pq 2))), (6, .int (iI (onZ T v pq 1))), (5, .int (iI (onZ T v pq 0))), (4, .int (iI pq)), (0, .ref qa), (1, .int (iI v))]) hx hb dL_isLaid_235 hl (k := 4) rfl (iI_add _ _) (by decide) rfl (fun ls hl => ?_)
                                                    refine lv_goto (tgt := 144) hx hb dL_isLaid_238 (by decide) ?_
                                                    refine W.widen (k := ((cp2_105 - cp) + (10 + (6 * Int.toNat pq) + Int.toNat (smZ (P00 T v 2) 0 (Int.toNat (pq - 1))) + 6 + Int.toNat (kq + 1)))) (n := ((12 * (cp2_105 - cp)) + (6 * (10 + (6 * Int.toNat pq) + Int.toNat (smZ (P00 T v 2) 0 (Int.toNat (pq - 1))) + 6 + Int.toNat (kq + 1))))) (by omega) (by omega) ?_
                                                    exact ih_103 ((kq + 1), (txZ T v pq kq), cp2_105, tl2_106) ⟨(show 0 ≤ (kq + 1) ∧ (kq + 1) ≤ onZ T v pq 0 from (by omega)), (show PS dI k T K qa cp2_105 tl2_106 from hPS), (show cp ≤ cp2_105 ∧ cp2_105 ≤ 131072 from (by omega)), (show (txZ T v pq kq) = bfZ T v ((smZ (P00 T v 2) 0 (Int.toNat (pq - 1))) + (kq + 1)) from htx2.symm)⟩ (by first | omega | (dsimp only; omega)) _ _ _ (lv_sub hl [0, 2, 5, 6, 7, 8, 1, 9, 10] rfl) (bd_to rfl B)
                                                  · have zc_128 : bf2 < 0 := jnle (a := 0) (b := bf2) (by omega) (by omega) c_128
                                                    exfalso; omega
                                        · skip
                                          rw [hw9] at B; clear hw9
                                          have B := bd_to (ws' := ([] ++ tl2_111)) rfl B
                                          have hPS : PS dI k T K qa cp2_110 tl2_111 := z_112
                                          exfalso; omega
                                  · skip
                                    rw [hw9] at B; clear hw9
                                    have B := bd_to (ws' := ([] ++ tl2_98)) rfl B
                                    have hPS : PS dI k T K qa cp2_97 tl2_98 := z_99
                                    exfalso; omega
                            refine lv_iload hx hb dL_isLaid_102 (lv_at hl 1 rfl) ?_
                            refine lv_if_le (tgt := 111) hx hb dL_isLaid_104 (by decide) (fun c_129 => ?_) (fun c_129 => ?_)
                            · have zc_129 : (onZ T v pq 1) ≤ 0 := jle (a := (onZ T v pq 1)) (b := 0) (by omega) (by omega) c_129
                              refine lv_iconst (v := iI 0) hx hb dL_isLaid_111 (by decide) ?_
                              exact J_88 0 (show (0 = 0 ∧ onZ T v pq 1 ≤ 0) ∨ (0 = 1 ∧ 0 < onZ T v pq 1) from (by omega)) _ _ _ (lv_sub hl [0, 1, 2, 3, 4, 5, 6, 7] rfl) (bd_to rfl B)
                            · have zc_129 : 0 < (onZ T v pq 1) := jnle (a := (onZ T v pq 1)) (b := 0) (by omega) (by omega) c_129
                              refine lv_iconst (v := iI 1) hx hb dL_isLaid_107 (by decide) ?_
                              refine lv_goto (tgt := 112) hx hb dL_isLaid_108 (by decide) ?_
                              exact J_88 1 (show (1 = 0 ∧ onZ T v pq 1 ≤ 0) ∨ (1 = 1 ∧ 0 < onZ T v pq 1) from (by omega)) _ _ _ (lv_sub hl [0, 1, 2, 3, 4, 5, 6, 7] rfl) (bd_to rfl B)
                      · skip
                        rw [hw9] at B; clear hw9
                        have B := bd_to (ws' := ([] ++ tl2_82)) rfl B
                        have hPS : PS dI k T K qa cp2_81 tl2_82 := z_83
                        exfalso; omega
                    · skip
                      rw [hw9] at B; clear hw9
                      have B := bd_to (ws' := ([] ++ tl2_72)) rfl B
                      have hPS : PS dI k T K qa cp2_71 tl2_72 := z_73
                      exfalso; omega
                  · skip
                    rw [hw9] at B; clear hw9
                    have B := bd_to (ws' := ([] ++ tl2_62)) rfl B
                    have hPS : PS dI k T K qa cp2_61 tl2_62 := z_63
                    exfalso; omega
              · skip
                rw [hw9] at B; clear hw9
                have B := bd_to (ws' := ([] ++ tl2_51)) rfl B
                have hPS : PS dI k T K qa cp2_50 tl2_51 := z_52
                exfalso; omega
          · skip
            rw [hw9] at B; clear hw9
            have B := bd_to (ws' := ([] ++ tl2_38)) rfl B
            have hPS : PS dI k T K qa cp2_37 tl2_38 := z_39
            exfalso; omega
      · skip
        rw [hw9] at B; clear hw9
        have B := bd_to (ws' := ([] ++ tl2_27)) rfl B
        have hPS : PS dI k T K qa cp2_26 tl2_27 := z_28
        exfalso; omega
    · skip
      rw [hw9] at B; clear hw9
      have B := bd_to (ws' := ([] ++ tl2_17)) rfl B
      have hPS : PS dI k T K qa cp2_16 tl2_17 := z_18
      exfalso; omega
  · skip
    rw [hw9] at B; clear hw9
    have B := bd_to (ws' := ([] ++ tl2_7)) rfl B
    have hPS : PS dI k T K qa cp2_6 tl2_7 := z_8
    exfalso; omega

end
