section
section KJG
variable {p : Program} {l : Launch} {e : Env} {R : Room} {s : State} {m : MethodId} {args : Array Value} {below : List Frame} {meth : Method} {c : Code} {H : Heap} {locs : List Loc} {cells slots : Nat} {Q : State → Prop} {cc : ByteArray} {nL : Nat} {own : String} {dC : Nat → ClassId} {dI : Nat → Nat → Nat} {k : Nat → ClassId} {A : Nat → Prop} {ws : va_W}
theorem k_joinG {σ : Type} {g0 : JFrame} (B0 : bd p s m args meth c cc nL own dC dI k A ws H locs) (pj : Nat) (I : σ → Prop) (lvF : σ → List (Nat × Value)) (wF : σ → va_W) (cF gF : σ → Nat) (sF : σ → List Value)
    (body : ∀ g, I g → ∀ ls H locs, lv_has ls nL (lvF g) → bd p s m args meth c cc nL own dC dI k A (wF g) H locs → W p l e R s m args below meth c H locs (cF g) (gF g) Q (F0 m pj ls (sF g)))
    (rest : (∀ g, I g → ∀ ls H locs, lv_has ls nL (lvF g) → bd p s m args meth c cc nL own dC dI k A (wF g) H locs → W p l e R s m args below meth c H locs (cF g) (gF g) Q (F0 m pj ls (sF g))) → W p l e R s m args below meth c H locs cells slots Q g0) : W p l e R s m args below meth c H locs cells slots Q g0 := rest body
end KJG

/-- the law's numbers after an act -/
def kp1 (nf : Int → Int) (xx dn : Int) : Int := (if 1 < xx % 16 ∧ xx % 16 < 6 ∧ 0 < dn then dn else nf 1)
def kpP (xx dn : Int) : Int := (if xx % 16 = 11 ∧ xx / 16 % 2 = 0 ∧ 0 < dn then (1 : Int) else 0)
def kp2 (nf : Int → Int) (xx dn : Int) : Int := if kpP xx dn = 1 ∨ (5 < xx % 16 ∧ xx % 16 < 9 ∧ 0 < dn) ∨ (xx % 16 = 15 ∧ xx / 16 % 4 = 0) then 0 else kp1 nf xx dn
def kp3 (xx dn : Int) : Int := (if xx % 16 = 13 ∧ xx / 16 % 3 = 0 ∧ 0 ≤ dn then (1 : Int) else 0)
theorem kpP_in {xx dn : Int} : kpP xx dn = 0 ∨ kpP xx dn = 1 := by unfold kpP; split <;> omega

theorem dL_keep_0 : decode cL_keep 0 = .ok (.iload_n 2, 1) := by decide +kernel
theorem dL_keep_1 : decode cL_keep 1 = .ok (.bipush 16, 2) := by decide +kernel
theorem dL_keep_3 : decode cL_keep 3 = .ok (.irem, 1) := by decide +kernel
theorem dL_keep_4 : decode cL_keep 4 = .ok (.istore 4, 2) := by decide +kernel
theorem dL_keep_6 : decode cL_keep 6 = .ok (.aload_n 1, 1) := by decide +kernel
theorem dL_keep_7 : decode cL_keep 7 = .ok (.iconst 0, 1) := by decide +kernel
theorem dL_keep_8 : decode cL_keep 8 = .ok (.aload_n 0, 1) := by decide +kernel
theorem dL_keep_9 : decode cL_keep 9 = .ok (.invokevirtual 245, 3) := by decide +kernel
theorem dL_keep_12 : decode cL_keep 12 = .ok (.iastore, 1) := by decide +kernel
theorem dL_keep_13 : decode cL_keep 13 = .ok (.aload_n 1, 1) := by decide +kernel
theorem dL_keep_14 : decode cL_keep 14 = .ok (.iconst 1, 1) := by decide +kernel
theorem dL_keep_15 : decode cL_keep 15 = .ok (.iload 4, 2) := by decide +kernel
theorem dL_keep_17 : decode cL_keep 17 = .ok (.iconst 1, 1) := by decide +kernel
theorem dL_keep_18 : decode cL_keep 18 = .ok (.if_icmp .le 18, 3) := by decide +kernel
theorem dL_keep_21 : decode cL_keep 21 = .ok (.iload 4, 2) := by decide +kernel
theorem dL_keep_23 : decode cL_keep 23 = .ok (.bipush 6, 2) := by decide +kernel
theorem dL_keep_25 : decode cL_keep 25 = .ok (.if_icmp .ge 11, 3) := by decide +kernel
theorem dL_keep_28 : decode cL_keep 28 = .ok (.iload_n 3, 1) := by decide +kernel
theorem dL_keep_29 : decode cL_keep 29 = .ok (.ifCond .le 7, 3) := by decide +kernel
theorem dL_keep_32 : decode cL_keep 32 = .ok (.iload_n 3, 1) := by decide +kernel
theorem dL_keep_33 : decode cL_keep 33 = .ok (.goto 6, 3) := by decide +kernel
theorem dL_keep_36 : decode cL_keep 36 = .ok (.aload_n 1, 1) := by decide +kernel
theorem dL_keep_37 : decode cL_keep 37 = .ok (.iconst 1, 1) := by decide +kernel
theorem dL_keep_38 : decode cL_keep 38 = .ok (.iaload, 1) := by decide +kernel
theorem dL_keep_39 : decode cL_keep 39 = .ok (.iastore, 1) := by decide +kernel
theorem dL_keep_40 : decode cL_keep 40 = .ok (.iload 4, 2) := by decide +kernel
theorem dL_keep_42 : decode cL_keep 42 = .ok (.bipush 11, 2) := by decide +kernel
theorem dL_keep_44 : decode cL_keep 44 = .ok (.if_icmp .ne 20, 3) := by decide +kernel
theorem dL_keep_47 : decode cL_keep 47 = .ok (.iload_n 2, 1) := by decide +kernel
theorem dL_keep_48 : decode cL_keep 48 = .ok (.bipush 16, 2) := by decide +kernel
theorem dL_keep_50 : decode cL_keep 50 = .ok (.idiv, 1) := by decide +kernel
theorem dL_keep_51 : decode cL_keep 51 = .ok (.iconst 2, 1) := by decide +kernel
theorem dL_keep_52 : decode cL_keep 52 = .ok (.irem, 1) := by decide +kernel
theorem dL_keep_53 : decode cL_keep 53 = .ok (.ifCond .ne 11, 3) := by decide +kernel
theorem dL_keep_56 : decode cL_keep 56 = .ok (.iload_n 3, 1) := by decide +kernel
theorem dL_keep_57 : decode cL_keep 57 = .ok (.ifCond .le 7, 3) := by decide +kernel
theorem dL_keep_60 : decode cL_keep 60 = .ok (.iconst 1, 1) := by decide +kernel
theorem dL_keep_61 : decode cL_keep 61 = .ok (.goto 4, 3) := by decide +kernel
theorem dL_keep_64 : decode cL_keep 64 = .ok (.iconst 0, 1) := by decide +kernel
theorem dL_keep_65 : decode cL_keep 65 = .ok (.istore 5, 2) := by decide +kernel
theorem dL_keep_67 : decode cL_keep 67 = .ok (.aload_n 1, 1) := by decide +kernel
theorem dL_keep_68 : decode cL_keep 68 = .ok (.iconst 1, 1) := by decide +kernel
theorem dL_keep_69 : decode cL_keep 69 = .ok (.iload 5, 2) := by decide +kernel
theorem dL_keep_71 : decode cL_keep 71 = .ok (.ifCond .ne 36, 3) := by decide +kernel
theorem dL_keep_74 : decode cL_keep 74 = .ok (.iload 4, 2) := by decide +kernel
theorem dL_keep_76 : decode cL_keep 76 = .ok (.iconst 5, 1) := by decide +kernel
theorem dL_keep_77 : decode cL_keep 77 = .ok (.if_icmp .le 14, 3) := by decide +kernel
theorem dL_keep_80 : decode cL_keep 80 = .ok (.iload 4, 2) := by decide +kernel
theorem dL_keep_82 : decode cL_keep 82 = .ok (.bipush 9, 2) := by decide +kernel
theorem dL_keep_84 : decode cL_keep 84 = .ok (.if_icmp .ge 7, 3) := by decide +kernel
theorem dL_keep_87 : decode cL_keep 87 = .ok (.iload_n 3, 1) := by decide +kernel
theorem dL_keep_88 : decode cL_keep 88 = .ok (.ifCond .gt 19, 3) := by decide +kernel
theorem dL_keep_91 : decode cL_keep 91 = .ok (.iload 4, 2) := by decide +kernel
theorem dL_keep_93 : decode cL_keep 93 = .ok (.bipush 15, 2) := by decide +kernel
theorem dL_keep_95 : decode cL_keep 95 = .ok (.if_icmp .ne 16, 3) := by decide +kernel
theorem dL_keep_98 : decode cL_keep 98 = .ok (.iload_n 2, 1) := by decide +kernel
theorem dL_keep_99 : decode cL_keep 99 = .ok (.bipush 16, 2) := by decide +kernel
theorem dL_keep_101 : decode cL_keep 101 = .ok (.idiv, 1) := by decide +kernel
theorem dL_keep_102 : decode cL_keep 102 = .ok (.iconst 4, 1) := by decide +kernel
theorem dL_keep_103 : decode cL_keep 103 = .ok (.irem, 1) := by decide +kernel
theorem dL_keep_104 : decode cL_keep 104 = .ok (.ifCond .ne 7, 3) := by decide +kernel
theorem dL_keep_107 : decode cL_keep 107 = .ok (.iconst 0, 1) := by decide +kernel
theorem dL_keep_108 : decode cL_keep 108 = .ok (.goto 6, 3) := by decide +kernel
theorem dL_keep_111 : decode cL_keep 111 = .ok (.aload_n 1, 1) := by decide +kernel
theorem dL_keep_112 : decode cL_keep 112 = .ok (.iconst 1, 1) := by decide +kernel
theorem dL_keep_113 : decode cL_keep 113 = .ok (.iaload, 1) := by decide +kernel
theorem dL_keep_114 : decode cL_keep 114 = .ok (.iastore, 1) := by decide +kernel
theorem dL_keep_115 : decode cL_keep 115 = .ok (.aload_n 1, 1) := by decide +kernel
theorem dL_keep_116 : decode cL_keep 116 = .ok (.iconst 2, 1) := by decide +kernel
theorem dL_keep_117 : decode cL_keep 117 = .ok (.dup2, 1) := by decide +kernel
theorem dL_keep_118 : decode cL_keep 118 = .ok (.iaload, 1) := by decide +kernel
theorem dL_keep_119 : decode cL_keep 119 = .ok (.iload 4, 2) := by decide +kernel
theorem dL_keep_121 : decode cL_keep 121 = .ok (.bipush 13, 2) := by decide +kernel
theorem dL_keep_123 : decode cL_keep 123 = .ok (.if_icmp .ne 20, 3) := by decide +kernel
theorem dL_keep_126 : decode cL_keep 126 = .ok (.iload_n 2, 1) := by decide +kernel
theorem dL_keep_127 : decode cL_keep 127 = .ok (.bipush 16, 2) := by decide +kernel
theorem dL_keep_129 : decode cL_keep 129 = .ok (.idiv, 1) := by decide +kernel
theorem dL_keep_130 : decode cL_keep 130 = .ok (.iconst 3, 1) := by decide +kernel
theorem dL_keep_131 : decode cL_keep 131 = .ok (.irem, 1) := by decide +kernel
theorem dL_keep_132 : decode cL_keep 132 = .ok (.ifCond .ne 11, 3) := by decide +kernel
theorem dL_keep_135 : decode cL_keep 135 = .ok (.iload_n 3, 1) := by decide +kernel
theorem dL_keep_136 : decode cL_keep 136 = .ok (.ifCond .lt 7, 3) := by decide +kernel
theorem dL_keep_139 : decode cL_keep 139 = .ok (.iconst 1, 1) := by decide +kernel
theorem dL_keep_140 : decode cL_keep 140 = .ok (.goto 4, 3) := by decide +kernel
theorem dL_keep_143 : decode cL_keep 143 = .ok (.iconst 0, 1) := by decide +kernel
theorem dL_keep_144 : decode cL_keep 144 = .ok (.iadd, 1) := by decide +kernel
theorem dL_keep_145 : decode cL_keep 145 = .ok (.iastore, 1) := by decide +kernel
theorem dL_keep_146 : decode cL_keep 146 = .ok (.aload_n 1, 1) := by decide +kernel
theorem dL_keep_147 : decode cL_keep 147 = .ok (.iconst 3, 1) := by decide +kernel
theorem dL_keep_148 : decode cL_keep 148 = .ok (.dup2, 1) := by decide +kernel
theorem dL_keep_149 : decode cL_keep 149 = .ok (.iaload, 1) := by decide +kernel
theorem dL_keep_150 : decode cL_keep 150 = .ok (.iload 5, 2) := by decide +kernel
theorem dL_keep_152 : decode cL_keep 152 = .ok (.ifCond .eq 7, 3) := by decide +kernel
theorem dL_keep_155 : decode cL_keep 155 = .ok (.iconst 1, 1) := by decide +kernel
theorem dL_keep_156 : decode cL_keep 156 = .ok (.goto 4, 3) := by decide +kernel
theorem dL_keep_159 : decode cL_keep 159 = .ok (.iconst 0, 1) := by decide +kernel
theorem dL_keep_160 : decode cL_keep 160 = .ok (.iadd, 1) := by decide +kernel
theorem dL_keep_161 : decode cL_keep 161 = .ok (.iastore, 1) := by decide +kernel
theorem dL_keep_162 : decode cL_keep 162 = .ok (.return_, 1) := by decide +kernel
set_option maxHeartbeats 4000000 in
set_option maxRecDepth 100000 in
theorem w_keep (l : Launch) (dC : Nat → ClassId) (dI : Nat → Nat → Nat) (k : Nat → ClassId) (T : Nat → Int → Int → Int → Int) (K : Nat → Int → Int) (qa : Nat) (cp : Nat) (tl : va_W) (na : Nat) (nf : Int → Int) (xx : Int) (dn : Int) (hPS : PS dI k T K qa cp tl) (hQ : OKT T K) (hx9 : 0 ≤ xx ∧ xx ≤ 2147483647) (hd9 : -2147483648 ≤ dn ∧ dn < 2147483648) (hn9 : (0 ≤ nf 1 ∧ nf 1 ≤ 6) ∧ (0 ≤ nf 2 ∧ nf 2 ≤ 5) ∧ (0 ≤ nf 3 ∧ nf 3 ≤ 8)) : Kn l dC dI k yL_keep (.code yL_keep cL_keep 6 none) ({ frames := 2, cells := (131072 - cp + 1), slots := (12 * (131072 - cp) + 6), locals := 40 } : Room) [.ref qa, .ref na, .int (iI xx), .int (iI dn)] ([(na, .inl (k 0, 4, .inl (fun i9 : Nat => iI (nf i9))))] ++ tl) (fun r w gc gs => (∃ (nf2 : Int → Int) (cp2 : Nat) (tl2 : va_W), (PS dI k T K qa cp2 tl2) ∧ (cp ≤ cp2 ∧ cp2 ≤ 131072) ∧ (nf2 0 = T 0 0 0 0) ∧ (nf2 1 = kp2 nf xx dn) ∧ (nf2 2 = nf 2 + kp3 xx dn) ∧ (nf2 3 = nf 3 + kpP xx dn) ∧ r = none ∧ w = ([(na, .inl (k 0, 4, .inl (fun i9 : Nat => iI (nf2 i9))))] ++ tl2) ∧ gc = (cp2 - cp) ∧ gs = (12 * (cp2 - cp)))) := by
  refine kn_of (by decide) (Nat.le_of_ble_eq_true rfl) ?_
  intro p e s m args below meth c H locs B hr hnm ls hl
  have hx := B.1.1
  have hb := B.1.2.1
  have hl : lv_has ls 6 [(0, .ref qa), (1, .ref na), (2, .int (iI xx)), (3, .int (iI dn))] := hl
  have hcp9 := PS_cp hPS
  have hkp := kpP_in (xx := xx) (dn := dn)
  refine lv_iload_n hx hb dL_keep_0 rfl (lv_at hl 2 rfl) ?_
  refine lv_bipush (v := iI 16) hx hb dL_keep_1 (by decide) ?_
  refine y_rem hx hb (a := xx) (b := 16) (by omega) (by omega) dL_keep_3 ?_
  refine lv_istore (lv' := [(4, .int (iI (xx % 16))), (0, .ref qa), (1, .ref na), (2, .int (iI xx)), (3, .int (iI dn))]) hx hb dL_keep_4 hl (by decide) rfl (fun ls hl => ?_)
  refine lv_aload_n hx hb dL_keep_6 rfl (lv_at hl 2 rfl) ?_
  refine lv_iconst (v := iI 0) hx hb dL_keep_7 (by decide) ?_
  refine lv_aload_n hx hb dL_keep_8 rfl (lv_at hl 1 rfl) ?_
  have B := bd_swap (a := []) (b := [(na, .inl (k 0, 4, .inl (fun i9 : Nat => iI (nf i9))))]) (d := tl) (bd_to rfl B)
  obtain ⟨k_1, hk_1⟩ := pk_at (hs := []) (PS_go hPS).choose_spec
  refine k_V (rest := [.int (iI 0), .ref na]) (wc := ([] ++ tl)) (wr := [(na, .inl (k 0, 4, .inl (fun i9 : Nat => iI (nf i9))))]) (a_blocks l dC dI k T K qa cp tl hPS hQ) B mV_X11_blocks mw_1870 hl (q0 := k_1) (ci := 11) hk_1 rfl rfl ⟨Nat.le_of_ble_eq_true rfl, Nat.le_of_ble_eq_true rfl⟩ (Nat.le_of_ble_eq_true rfl) rfl dL_keep_9 ⟨by dsimp only; omega, by dsimp only; omega⟩ (fun r w gc gs H locs hp B => ?_)
  obtain ⟨cp2_2, tl2_3, z_4, z_5, rfl, hw9, rfl, rfl⟩ := hp
  rw [hw9] at B; clear hw9
  have B := bd_to (ws' := ([(na, .inl (k 0, 4, .inl (fun i9 : Nat => iI (nf i9))))] ++ tl2_3)) rfl B
  have hPS : PS dI k T K qa cp2_2 tl2_3 := z_4
  refine x_iast' (f := nf) (z := 0) (v := (T 0 0 0 0)) B 0 rfl (by omega) dL_keep_12 (fun H locs B => ?_)
  have B := bd_to (ws' := ([(na, .inl (k 0, 4, .inl (fun i9 : Nat => iI ((uz nf 0 (T 0 0 0 0)) i9))))] ++ tl2_3)) rfl B
  refine lv_aload_n hx hb dL_keep_13 rfl (lv_at hl 2 rfl) ?_
  refine lv_iconst (v := iI 1) hx hb dL_keep_14 (by decide) ?_
  refine k_join (σ := Int) B 39 (fun g9 : Int => (g9 = kp1 nf xx dn)) (fun g9 : Int => [(4, .int (iI (xx % 16))), (0, .ref qa), (1, .ref na), (2, .int (iI xx)), (3, .int (iI dn))]) (fun g9 : Int => ([(na, .inl (k 0, 4, .inl (fun i9 : Nat => iI ((uz nf 0 (T 0 0 0 0)) i9))))] ++ tl2_3)) (fun g9 : Int => [.int (iI g9), .int (iI 1), .ref na]) ?_ (fun J_6 => ?_)
  · clear hl B
    rintro w1 hw1 ls H locs hl B
    have hl : lv_has ls 6 [(4, .int (iI (xx % 16))), (0, .ref qa), (1, .ref na), (2, .int (iI xx)), (3, .int (iI dn))] := hl
    have B := bd_to (ws' := ([(na, .inl (k 0, 4, .inl (fun i9 : Nat => iI ((uz nf 0 (T 0 0 0 0)) i9))))] ++ tl2_3)) rfl B
    refine x_iast' (f := (uz nf 0 (T 0 0 0 0))) (z := 1) (v := w1) B 0 rfl (by omega) dL_keep_39 (fun H locs B => ?_)
    have B := bd_to (ws' := ([(na, .inl (k 0, 4, .inl (fun i9 : Nat => iI ((uz (uz nf 0 (T 0 0 0 0)) 1 w1) i9))))] ++ tl2_3)) rfl B
    refine k_join (σ := Int) B 65 (fun g9 : Int => (g9 = kpP xx dn)) (fun g9 : Int => [(4, .int (iI (xx % 16))), (0, .ref qa), (1, .ref na), (2, .int (iI xx)), (3, .int (iI dn))]) (fun g9 : Int => ([(na, .inl (k 0, 4, .inl (fun i9 : Nat => iI ((uz (uz nf 0 (T 0 0 0 0)) 1 w1) i9))))] ++ tl2_3)) (fun g9 : Int => [.int (iI g9)]) ?_ (fun J_7 => ?_)
    · clear hl B
      rintro w2 hw2 ls H locs hl B
      have hl : lv_has ls 6 [(4, .int (iI (xx % 16))), (0, .ref qa), (1, .ref na), (2, .int (iI xx)), (3, .int (iI dn))] := hl
      have B := bd_to (ws' := ([(na, .inl (k 0, 4, .inl (fun i9 : Nat => iI ((uz (uz nf 0 (T 0 0 0 0)) 1 w1) i9))))] ++ tl2_3)) rfl B
      refine lv_istore (lv' := [(5, .int (iI w2)), (4, .int (iI (xx % 16))), (0, .ref qa), (1, .ref na), (2, .int (iI xx)), (3, .int (iI dn))]) hx hb dL_keep_65 hl (by decide) rfl (fun ls hl => ?_)
      refine lv_aload_n hx hb dL_keep_67 rfl (lv_at hl 3 rfl) ?_
      refine lv_iconst (v := iI 1) hx hb dL_keep_68 (by decide) ?_
      refine k_join (σ := Int) B 114 (fun g9 : Int => (g9 = kp2 nf xx dn)) (fun g9 : Int => [(5, .int (iI w2)), (4, .int (iI (xx % 16))), (0, .ref qa), (1, .ref na), (2, .int (iI xx)), (3, .int (iI dn))]) (fun g9 : Int => ([(na, .inl (k 0, 4, .inl (fun i9 : Nat => iI ((uz (uz nf 0 (T 0 0 0 0)) 1 w1) i9))))] ++ tl2_3)) (fun g9 : Int => [.int (iI g9), .int (iI 1), .ref na]) ?_ (fun J_8 => ?_)
      · clear hl B
        rintro w3 hw3 ls H locs hl B
        have hl : lv_has ls 6 [(5, .int (iI w2)), (4, .int (iI (xx % 16))), (0, .ref qa), (1, .ref na), (2, .int (iI xx)), (3, .int (iI dn))] := hl
        have B := bd_to (ws' := ([(na, .inl (k 0, 4, .inl (fun i9 : Nat => iI ((uz (uz nf 0 (T 0 0 0 0)) 1 w1) i9))))] ++ tl2_3)) rfl B
        refine x_iast' (f := (uz (uz nf 0 (T 0 0 0 0)) 1 w1)) (z := 1) (v := w3) B 0 rfl (by omega) dL_keep_114 (fun H locs B => ?_)
        have B := bd_to (ws' := ([(na, .inl (k 0, 4, .inl (fun i9 : Nat => iI ((uz (uz (uz nf 0 (T 0 0 0 0)) 1 w1) 1 w3) i9))))] ++ tl2_3)) rfl B
        refine lv_aload_n hx hb dL_keep_115 rfl (lv_at hl 3 rfl) ?_
        refine lv_iconst (v := iI 2) hx hb dL_keep_116 (by decide) ?_
        refine lv_dup2_11 hx hb dL_keep_117 rfl rfl ?_
        refine x_iald' (f := (uz (uz (uz nf 0 (T 0 0 0 0)) 1 w1) 1 w3)) (z := 2) B 0 rfl (by omega) dL_keep_118 ?_
        refine lv_seti (y := iI (nf 2)) (congrArg iI (show (uz (uz (uz nf 0 (T 0 0 0 0)) 1 w1) 1 w3) 2 = nf 2 from ((uz_n (by decide)).trans ((uz_n (by decide)).trans (uz_n (by decide)))))) ?_
        refine k_join (σ := Int) B 144 (fun g9 : Int => (g9 = kp3 xx dn)) (fun g9 : Int => [(5, .int (iI w2)), (4, .int (iI (xx % 16))), (0, .ref qa), (1, .ref na), (2, .int (iI xx)), (3, .int (iI dn))]) (fun g9 : Int => ([(na, .inl (k 0, 4, .inl (fun i9 : Nat => iI ((uz (uz (uz nf 0 (T 0 0 0 0)) 1 w1) 1 w3) i9))))] ++ tl2_3)) (fun g9 : Int => [.int (iI g9), .int (iI (nf 2)), .int (iI 2), .ref na]) ?_ (fun J_9 => ?_)
        · clear hl B
          rintro w4 hw4 ls H locs hl B
          have hl : lv_has ls 6 [(5, .int (iI w2)), (4, .int (iI (xx % 16))), (0, .ref qa), (1, .ref na), (2, .int (iI xx)), (3, .int (iI dn))] := hl
          have B := bd_to (ws' := ([(na, .inl (k 0, 4, .inl (fun i9 : Nat => iI ((uz (uz (uz nf 0 (T 0 0 0 0)) 1 w1) 1 w3) i9))))] ++ tl2_3)) rfl B
          refine y_add hx hb dL_keep_144 ?_
          refine x_iast' (f := (uz (uz (uz nf 0 (T 0 0 0 0)) 1 w1) 1 w3)) (z := 2) (v := ((nf 2) + w4)) B 0 rfl (by omega) dL_keep_145 (fun H locs B => ?_)
          have B := bd_to (ws' := ([(na, .inl (k 0, 4, .inl (fun i9 : Nat => iI ((uz (uz (uz (uz nf 0 (T 0 0 0 0)) 1 w1) 1 w3) 2 ((nf 2) + w4)) i9))))] ++ tl2_3)) rfl B
          refine lv_aload_n hx hb dL_keep_146 rfl (lv_at hl 3 rfl) ?_
          refine lv_iconst (v := iI 3) hx hb dL_keep_147 (by decide) ?_
          refine lv_dup2_11 hx hb dL_keep_148 rfl rfl ?_
          refine x_iald' (f := (uz (uz (uz (uz nf 0 (T 0 0 0 0)) 1 w1) 1 w3) 2 ((nf 2) + w4))) (z := 3) B 0 rfl (by omega) dL_keep_149 ?_
          refine lv_seti (y := iI (nf 3)) (congrArg iI (show (uz (uz (uz (uz nf 0 (T 0 0 0 0)) 1 w1) 1 w3) 2 ((nf 2) + w4)) 3 = nf 3 from ((uz_n (by decide)).trans ((uz_n (by decide)).trans ((uz_n (by decide)).trans (uz_n (by decide))))))) ?_
          refine k_join (σ := Int) B 160 (fun g9 : Int => (g9 = kpP xx dn)) (fun g9 : Int => [(5, .int (iI w2)), (4, .int (iI (xx % 16))), (0, .ref qa), (1, .ref na), (2, .int (iI xx)), (3, .int (iI dn))]) (fun g9 : Int => ([(na, .inl (k 0, 4, .inl (fun i9 : Nat => iI ((uz (uz (uz (uz nf 0 (T 0 0 0 0)) 1 w1) 1 w3) 2 ((nf 2) + w4)) i9))))] ++ tl2_3)) (fun g9 : Int => [.int (iI g9), .int (iI (nf 3)), .int (iI 3), .ref na]) ?_ (fun J_10 => ?_)
          · clear hl B
            rintro w5 hw5 ls H locs hl B
            have hl : lv_has ls 6 [(5, .int (iI w2)), (4, .int (iI (xx % 16))), (0, .ref qa), (1, .ref na), (2, .int (iI xx)), (3, .int (iI dn))] := hl
            have B := bd_to (ws' := ([(na, .inl (k 0, 4, .inl (fun i9 : Nat => iI ((uz (uz (uz (uz nf 0 (T 0 0 0 0)) 1 w1) 1 w3) 2 ((nf 2) + w4)) i9))))] ++ tl2_3)) rfl B
            refine y_add hx hb dL_keep_160 ?_
            refine x_iast' (f := (uz (uz (uz (uz nf 0 (T 0 0 0 0)) 1 w1) 1 w3) 2 ((nf 2) + w4))) (z := 3) (v := ((nf 3) + w5)) B 0 rfl (by omega) dL_keep_161 (fun H locs B => ?_)
            have B := bd_to (ws' := ([(na, .inl (k 0, 4, .inl (fun i9 : Nat => iI ((uz (uz (uz (uz (uz nf 0 (T 0 0 0 0)) 1 w1) 1 w3) 2 ((nf 2) + w4)) 3 ((nf 3) + w5)) i9))))] ++ tl2_3)) rfl B
            exact k_vret B hr (⟨(uz (uz (uz (uz (uz nf 0 (T 0 0 0 0)) 1 w1) 1 w3) 2 ((nf 2) + w4)) 3 ((nf 3) + w5)), cp2_2, tl2_3, z_4, z_5, (show (uz (uz (uz (uz (uz nf 0 (T 0 0 0 0)) 1 w1) 1 w3) 2 ((nf 2) + w4)) 3 ((nf 3) + w5)) 0 = T 0 0 0 0 from by simp only [uz]; first | (simp; done) | (simp; omega) | omega), (show (uz (uz (uz (uz (uz nf 0 (T 0 0 0 0)) 1 w1) 1 w3) 2 ((nf 2) + w4)) 3 ((nf 3) + w5)) 1 = kp2 nf xx dn from by simp only [uz]; first | (simp; done) | (simp; omega) | omega), (show (uz (uz (uz (uz (uz nf 0 (T 0 0 0 0)) 1 w1) 1 w3) 2 ((nf 2) + w4)) 3 ((nf 3) + w5)) 2 = nf 2 + kp3 xx dn from by simp only [uz]; first | (simp; done) | (simp; omega) | omega), (show (uz (uz (uz (uz (uz nf 0 (T 0 0 0 0)) 1 w1) 1 w3) 2 ((nf 2) + w4)) 3 ((nf 3) + w5)) 3 = nf 3 + kpP xx dn from by simp only [uz]; first | (simp; done) | (simp; omega) | omega), rfl, rfl, rfl, rfl⟩) ⟨(by first | omega | (dsimp only; omega)), (by first | omega | (dsimp only; omega))⟩ ⟨(by first | omega | (dsimp only; omega)), (by first | omega | (dsimp only; omega))⟩ dL_keep_162
          refine lv_iload hx hb dL_keep_150 (lv_at hl 0 rfl) ?_
          refine lv_if_eq (tgt := 159) hx hb dL_keep_152 (by decide) (fun c_11 => ?_) (fun c_11 => ?_)
          · have zc_11 : w2 = 0 := jeq (a := w2) (b := 0) (by omega) (by omega) c_11
            refine lv_iconst (v := iI 0) hx hb dL_keep_159 (by decide) ?_
            exact J_10 0 (show 0 = kpP xx dn from (by first | omega | (unfold kpP; first | (rw [if_pos (by omega)]; done) | (rw [if_neg (by omega)]; done) | (rw [if_neg (by omega)]; assumption)))) _ _ _ (lv_sub hl [0, 1, 2, 3, 4, 5] rfl) (bd_to rfl B)
          · have zc_11 : w2 ≠ 0 := jne (a := w2) (b := 0) (by omega) (by omega) c_11
            refine lv_iconst (v := iI 1) hx hb dL_keep_155 (by decide) ?_
            refine lv_goto (tgt := 160) hx hb dL_keep_156 (by decide) ?_
            exact J_10 1 (show 1 = kpP xx dn from (by first | omega | (unfold kpP; first | (rw [if_pos (by omega)]; done) | (rw [if_neg (by omega)]; done) | (rw [if_neg (by omega)]; assumption)))) _ _ _ (lv_sub hl [0, 1, 2, 3, 4, 5] rfl) (bd_to rfl B)
        refine lv_iload hx hb dL_keep_119 (lv_at hl 1 rfl) ?_
        refine lv_bipush (v := iI 13) hx hb dL_keep_121 (by decide) ?_
        refine lv_icmp_ne (tgt := 143) hx hb dL_keep_123 (by decide) (fun c_12 => ?_) (fun c_12 => ?_)
        · have zc_12 : (xx % 16) ≠ 13 := jne (a := (xx % 16)) (b := 13) (by omega) (by omega) c_12
          refine lv_iconst (v := iI 0) hx hb dL_keep_143 (by decide) ?_
          exact J_9 0 (show 0 = kp3 xx dn from (by first | omega | (unfold kp3; first | (rw [if_pos (by omega)]; done) | (rw [if_neg (by omega)]; done) | (rw [if_neg (by omega)]; assumption)))) _ _ _ (lv_sub hl [0, 1, 2, 3, 4, 5] rfl) (bd_to rfl B)
        · have zc_12 : (xx % 16) = 13 := jeq (a := (xx % 16)) (b := 13) (by omega) (by omega) c_12
          refine lv_iload_n hx hb dL_keep_126 rfl (lv_at hl 4 rfl) ?_
          refine lv_bipush (v := iI 16) hx hb dL_keep_127 (by decide) ?_
          refine y_div hx hb (a := xx) (b := 16) (by omega) (by omega) dL_keep_129 ?_
          refine lv_iconst (v := iI 3) hx hb dL_keep_130 (by decide) ?_
          refine y_rem hx hb (a := (xx / 16)) (b := 3) (by omega) (by omega) dL_keep_131 ?_
          refine lv_if_ne (tgt := 143) hx hb dL_keep_132 (by decide) (fun c_13 => ?_) (fun c_13 => ?_)
          · have zc_13 : ((xx / 16) % 3) ≠ 0 := jne (a := ((xx / 16) % 3)) (b := 0) (by omega) (by omega) c_13
            refine lv_iconst (v := iI 0) hx hb dL_keep_143 (by decide) ?_
            exact J_9 0 (show 0 = kp3 xx dn from (by first | omega | (unfold kp3; first | (rw [if_pos (by omega)]; done) | (rw [if_neg (by omega)]; done) | (rw [if_neg (by omega)]; assumption)))) _ _ _ (lv_sub hl [0, 1, 2, 3, 4, 5] rfl) (bd_to rfl B)
          · have zc_13 : ((xx / 16) % 3) = 0 := jeq (a := ((xx / 16) % 3)) (b := 0) (by omega) (by omega) c_13
            refine lv_iload_n hx hb dL_keep_135 rfl (lv_at hl 5 rfl) ?_
            refine lv_if_lt (tgt := 143) hx hb dL_keep_136 (by decide) (fun c_14 => ?_) (fun c_14 => ?_)
            · have zc_14 : dn < 0 := jlt (a := dn) (b := 0) (by omega) (by omega) c_14
              refine lv_iconst (v := iI 0) hx hb dL_keep_143 (by decide) ?_
              exact J_9 0 (show 0 = kp3 xx dn from (by first | omega | (unfold kp3; first | (rw [if_pos (by omega)]; done) | (rw [if_neg (by omega)]; done) | (rw [if_neg (by omega)]; assumption)))) _ _ _ (lv_sub hl [0, 1, 2, 3, 4, 5] rfl) (bd_to rfl B)
            · have zc_14 : 0 ≤ dn := jnlt (a := dn) (b := 0) (by omega) (by omega) c_14
              refine lv_iconst (v := iI 1) hx hb dL_keep_139 (by decide) ?_
              refine lv_goto (tgt := 144) hx hb dL_keep_140 (by decide) ?_
              exact J_9 1 (show 1 = kp3 xx dn from (by first | omega | (unfold kp3; first | (rw [if_pos (by omega)]; done) | (rw [if_neg (by omega)]; done) | (rw [if_neg (by omega)]; assumption)))) _ _ _ (lv_sub hl [0, 1, 2, 3, 4, 5] rfl) (bd_to rfl B)
      refine lv_iload hx hb dL_keep_69 (lv_at hl 0 rfl) ?_
      refine lv_if_ne (tgt := 107) hx hb dL_keep_71 (by decide) (fun c_15 => ?_) (fun c_15 => ?_)
      · have zc_15 : w2 ≠ 0 := jne (a := w2) (b := 0) (by omega) (by omega) c_15
        refine lv_iconst (v := iI 0) hx hb dL_keep_107 (by decide) ?_
        refine lv_goto (tgt := 114) hx hb dL_keep_108 (by decide) ?_
        exact J_8 0 (show 0 = kp2 nf xx dn from (by first | omega | (unfold kp2; first | (rw [if_pos (by omega)]; done) | (rw [if_neg (by omega)]; done) | (rw [if_neg (by omega)]; assumption)))) _ _ _ (lv_sub hl [0, 1, 2, 3, 4, 5] rfl) (bd_to rfl B)
      · have zc_15 : w2 = 0 := jeq (a := w2) (b := 0) (by omega) (by omega) c_15
        refine lv_iload hx hb dL_keep_74 (lv_at hl 1 rfl) ?_
        refine lv_iconst (v := iI 5) hx hb dL_keep_76 (by decide) ?_
        refine lv_icmp_le (tgt := 91) hx hb dL_keep_77 (by decide) (fun c_16 => ?_) (fun c_16 => ?_)
        · have zc_16 : (xx % 16) ≤ 5 := jle (a := (xx % 16)) (b := 5) (by omega) (by omega) c_16
          refine lv_iload hx hb dL_keep_91 (lv_at hl 1 rfl) ?_
          refine lv_bipush (v := iI 15) hx hb dL_keep_93 (by decide) ?_
          refine lv_icmp_ne (tgt := 111) hx hb dL_keep_95 (by decide) (fun c_17 => ?_) (fun c_17 => ?_)
          · have zc_17 : (xx % 16) ≠ 15 := jne (a := (xx % 16)) (b := 15) (by omega) (by omega) c_17
            refine lv_aload_n hx hb dL_keep_111 rfl (lv_at hl 3 rfl) ?_
            refine lv_iconst (v := iI 1) hx hb dL_keep_112 (by decide) ?_
            refine x_iald' (f := (uz (uz nf 0 (T 0 0 0 0)) 1 w1)) (z := 1) B 0 rfl (by omega) dL_keep_113 ?_
            refine lv_seti (y := iI (w1)) (congrArg iI (show (uz (uz nf 0 (T 0 0 0 0)) 1 w1) 1 = w1 from uz_s)) ?_
            exact J_8 w1 (show w1 = kp2 nf xx dn from (by first | omega | (unfold kp2; first | (rw [if_pos (by omega)]; done) | (rw [if_neg (by omega)]; done) | (rw [if_neg (by omega)]; assumption)))) _ _ _ (lv_sub hl [0, 1, 2, 3, 4, 5] rfl) (bd_to rfl B)
          · have zc_17 : (xx % 16) = 15 := jeq (a := (xx % 16)) (b := 15) (by omega) (by omega) c_17
            refine lv_iload_n hx hb dL_keep_98 rfl (lv_at hl 4 rfl) ?_
            refine lv_bipush (v := iI 16) hx hb dL_keep_99 (by decide) ?_
            refine y_div hx hb (a := xx) (b := 16) (by omega) (by omega) dL_keep_101 ?_
            refine lv_iconst (v := iI 4) hx hb dL_keep_102 (by decide) ?_
            refine y_rem hx hb (a := (xx / 16)) (b := 4) (by omega) (by omega) dL_keep_103 ?_
            refine lv_if_ne (tgt := 111) hx hb dL_keep_104 (by decide) (fun c_18 => ?_) (fun c_18 => ?_)
            · have zc_18 : ((xx / 16) % 4) ≠ 0 := jne (a := ((xx / 16) % 4)) (b := 0) (by omega) (by omega) c_18
              refine lv_aload_n hx hb dL_keep_111 rfl (lv_at hl 3 rfl) ?_
              refine lv_iconst (v := iI 1) hx hb dL_keep_112 (by decide) ?_
              refine x_iald' (f := (uz (uz nf 0 (T 0 0 0 0)) 1 w1)) (z := 1) B 0 rfl (by omega) dL_keep_113 ?_
              refine lv_seti (y := iI (w1)) (congrArg iI (show (uz (uz nf 0 (T 0 0 0 0)) 1 w1) 1 = w1 from uz_s)) ?_
              exact J_8 w1 (show w1 = kp2 nf xx dn from (by first | omega | (unfold kp2; first | (rw [if_pos (by omega)]; done) | (rw [if_neg (by omega)]; done) | (rw [if_neg (by omega)]; assumption)))) _ _ _ (lv_sub hl [0, 1, 2, 3, 4, 5] rfl) (bd_to rfl B)
            · have zc_18 : ((xx / 16) % 4) = 0 := jeq (a := ((xx / 16) % 4)) (b := 0) (by omega) (by omega) c_18
              refine lv_iconst (v := iI 0) hx hb dL_keep_107 (by decide) ?_
              refine lv_goto (tgt := 114) hx hb dL_keep_108 (by decide) ?_
              exact J_8 0 (show 0 = kp2 nf xx dn from (by first | omega | (unfold kp2; first | (rw [if_pos (by omega)]; done) | (rw [if_neg (by omega)]; done) | (rw [if_neg (by omega)]; assumption)))) _ _ _ (lv_sub hl [0, 1, 2, 3, 4, 5] rfl) (bd_to rfl B)
        · have zc_16 : 5 < (xx % 16) := jnle (a := (xx % 16)) (b := 5) (by omega) (by omega) c_16
          refine lv_iload hx hb dL_keep_80 (lv_at hl 1 rfl) ?_
          refine lv_bipush (v := iI 9) hx hb dL_keep_82 (by decide) ?_
          refine lv_icmp_ge (tgt := 91) hx hb dL_keep_84 (by decide) (fun c_19 => ?_) (fun c_19 => ?_)
          · have zc_19 : 9 ≤ (xx % 16) := jle (a := 9) (b := (xx % 16)) (by omega) (by omega) c_19
            refine lv_iload hx hb dL_keep_91 (lv_at hl 1 rfl) ?_
            refine lv_bipush (v := iI 15) hx hb dL_keep_93 (by decide) ?_
            refine lv_icmp_ne (tgt := 111) hx hb dL_keep_95 (by decide) (fun c_20 => ?_) (fun c_20 => ?_)
            · have zc_20 : (xx % 16) ≠ 15 := jne (a := (xx % 16)) (b := 15) (by omega) (by omega) c_20
              refine lv_aload_n hx hb dL_keep_111 rfl (lv_at hl 3 rfl) ?_
              refine lv_iconst (v := iI 1) hx hb dL_keep_112 (by decide) ?_
              refine x_iald' (f := (uz (uz nf 0 (T 0 0 0 0)) 1 w1)) (z := 1) B 0 rfl (by omega) dL_keep_113 ?_
              refine lv_seti (y := iI (w1)) (congrArg iI (show (uz (uz nf 0 (T 0 0 0 0)) 1 w1) 1 = w1 from uz_s)) ?_
              exact J_8 w1 (show w1 = kp2 nf xx dn from (by first | omega | (unfold kp2; first | (rw [if_pos (by omega)]; done) | (rw [if_neg (by omega)]; done) | (rw [if_neg (by omega)]; assumption)))) _ _ _ (lv_sub hl [0, 1, 2, 3, 4, 5] rfl) (bd_to rfl B)
            · have zc_20 : (xx % 16) = 15 := jeq (a := (xx % 16)) (b := 15) (by omega) (by omega) c_20
              refine lv_iload_n hx hb dL_keep_98 rfl (lv_at hl 4 rfl) ?_
              refine lv_bipush (v := iI 16) hx hb dL_keep_99 (by decide) ?_
              refine y_div hx hb (a := xx) (b := 16) (by omega) (by omega) dL_keep_101 ?_
              refine lv_iconst (v := iI 4) hx hb dL_keep_102 (by decide) ?_
              refine y_rem hx hb (a := (xx / 16)) (b := 4) (by omega) (by omega) dL_keep_103 ?_
              refine lv_if_ne (tgt := 111) hx hb dL_keep_104 (by decide) (fun c_21 => ?_) (fun c_21 => ?_)
              · have zc_21 : ((xx / 16) % 4) ≠ 0 := jne (a := ((xx / 16) % 4)) (b := 0) (by omega) (by omega) c_21
                refine lv_aload_n hx hb dL_keep_111 rfl (lv_at hl 3 rfl) ?_
                refine lv_iconst (v := iI 1) hx hb dL_keep_112 (by decide) ?_
                refine x_iald' (f := (uz (uz nf 0 (T 0 0 0 0)) 1 w1)) (z := 1) B 0 rfl (by omega) dL_keep_113 ?_
                refine lv_seti (y := iI (w1)) (congrArg iI (show (uz (uz nf 0 (T 0 0 0 0)) 1 w1) 1 = w1 from uz_s)) ?_
                exact J_8 w1 (show w1 = kp2 nf xx dn from (by first | omega | (unfold kp2; first | (rw [if_pos (by omega)]; done) | (rw [if_neg (by omega)]; done) | (rw [if_neg (by omega)]; assumption)))) _ _ _ (lv_sub hl [0, 1, 2, 3, 4, 5] rfl) (bd_to rfl B)
              · have zc_21 : ((xx / 16) % 4) = 0 := jeq (a := ((xx / 16) % 4)) (b := 0) (by omega) (by omega) c_21
                refine lv_iconst (v := iI 0) hx hb dL_keep_107 (by decide) ?_
                refine lv_goto (tgt := 114) hx hb dL_keep_108 (by decide) ?_
                exact J_8 0 (show 0 = kp2 nf xx dn from (by first | omega | (unfold kp2; first | (rw [if_pos (by omega)]; done) | (rw [if_neg (by omega)]; done) | (rw [if_neg (by omega)]; assumption)))) _ _ _ (lv_sub hl [0, 1, 2, 3, 4, 5] rfl) (bd_to rfl B)
          · have zc_19 : (xx % 16) < 9 := jnle (a := 9) (b := (xx % 16)) (by omega) (by omega) c_19
            refine lv_iload_n hx hb dL_keep_87 rfl (lv_at hl 5 rfl) ?_
            refine lv_if_gt (tgt := 107) hx hb dL_keep_88 (by decide) (fun c_22 => ?_) (fun c_22 => ?_)
            · have zc_22 : 0 < dn := jlt (a := 0) (b := dn) (by omega) (by omega) c_22
              refine lv_iconst (v := iI 0) hx hb dL_keep_107 (by decide) ?_
              refine lv_goto (tgt := 114) hx hb dL_keep_108 (by decide) ?_
              exact J_8 0 (show 0 = kp2 nf xx dn from (by first | omega | (unfold kp2; first | (rw [if_pos (by omega)]; done) | (rw [if_neg (by omega)]; done) | (rw [if_neg (by omega)]; assumption)))) _ _ _ (lv_sub hl [0, 1, 2, 3, 4, 5] rfl) (bd_to rfl B)
            · have zc_22 : dn ≤ 0 := jnlt (a := 0) (b := dn) (by omega) (by omega) c_22
              refine lv_iload hx hb dL_keep_91 (lv_at hl 1 rfl) ?_
              refine lv_bipush (v := iI 15) hx hb dL_keep_93 (by decide) ?_
              refine lv_icmp_ne (tgt := 111) hx hb dL_keep_95 (by decide) (fun c_23 => ?_) (fun c_23 => ?_)
              · have zc_23 : (xx % 16) ≠ 15 := jne (a := (xx % 16)) (b := 15) (by omega) (by omega) c_23
                refine lv_aload_n hx hb dL_keep_111 rfl (lv_at hl 3 rfl) ?_
                refine lv_iconst (v := iI 1) hx hb dL_keep_112 (by decide) ?_
                refine x_iald' (f := (uz (uz nf 0 (T 0 0 0 0)) 1 w1)) (z := 1) B 0 rfl (by omega) dL_keep_113 ?_
                refine lv_seti (y := iI (w1)) (congrArg iI (show (uz (uz nf 0 (T 0 0 0 0)) 1 w1) 1 = w1 from uz_s)) ?_
                exact J_8 w1 (show w1 = kp2 nf xx dn from (by first | omega | (unfold kp2; first | (rw [if_pos (by omega)]; done) | (rw [if_neg (by omega)]; done) | (rw [if_neg (by omega)]; assumption)))) _ _ _ (lv_sub hl [0, 1, 2, 3, 4, 5] rfl) (bd_to rfl B)
              · have zc_23 : (xx % 16) = 15 := jeq (a := (xx % 16)) (b := 15) (by omega) (by omega) c_23
                refine lv_iload_n hx hb dL_keep_98 rfl (lv_at hl 4 rfl) ?_
                refine lv_bipush (v := iI 16) hx hb dL_keep_99 (by decide) ?_
                refine y_div hx hb (a := xx) (b := 16) (by omega) (by omega) dL_keep_101 ?_
                refine lv_iconst (v := iI 4) hx hb dL_keep_102 (by decide) ?_
                refine y_rem hx hb (a := (xx / 16)) (b := 4) (by omega) (by omega) dL_keep_103 ?_
                refine lv_if_ne (tgt := 111) hx hb dL_keep_104 (by decide) (fun c_24 => ?_) (fun c_24 => ?_)
                · have zc_24 : ((xx / 16) % 4) ≠ 0 := jne (a := ((xx / 16) % 4)) (b := 0) (by omega) (by omega) c_24
                  refine lv_aload_n hx hb dL_keep_111 rfl (lv_at hl 3 rfl) ?_
                  refine lv_iconst (v := iI 1) hx hb dL_keep_112 (by decide) ?_
                  refine x_iald' (f := (uz (uz nf 0 (T 0 0 0 0)) 1 w1)) (z := 1) B 0 rfl (by omega) dL_keep_113 ?_
                  refine lv_seti (y := iI (w1)) (congrArg iI (show (uz (uz nf 0 (T 0 0 0 0)) 1 w1) 1 = w1 from uz_s)) ?_
                  exact J_8 w1 (show w1 = kp2 nf xx dn from (by first | omega | (unfold kp2; first | (rw [if_pos (by omega)]; done) | (rw [if_neg (by omega)]; done) | (rw [if_neg (by omega)]; assumption)))) _ _ _ (lv_sub hl [0, 1, 2, 3, 4, 5] rfl) (bd_to rfl B)
                · have zc_24 : ((xx / 16) % 4) = 0 := jeq (a := ((xx / 16) % 4)) (b := 0) (by omega) (by omega) c_24
                  refine lv_iconst (v := iI 0) hx hb dL_keep_107 (by decide) ?_
                  refine lv_goto (tgt := 114) hx hb dL_keep_108 (by decide) ?_
                  exact J_8 0 (show 0 = kp2 nf xx dn from (by first | omega | (unfold kp2; first | (rw [if_pos (by omega)]; done) | (rw [if_neg (by omega)]; done) | (rw [if_neg (by omega)]; assumption)))) _ _ _ (lv_sub hl [0, 1, 2, 3, 4, 5] rfl) (bd_to rfl B)
    refine lv_iload hx hb dL_keep_40 (lv_at hl 0 rfl) ?_
    refine lv_bipush (v := iI 11) hx hb dL_keep_42 (by decide) ?_
    refine lv_icmp_ne (tgt := 64) hx hb dL_keep_44 (by decide) (fun c_25 => ?_) (fun c_25 => ?_)
    · have zc_25 : (xx % 16) ≠ 11 := jne (a := (xx % 16)) (b := 11) (by omega) (by omega) c_25
      refine lv_iconst (v := iI 0) hx hb dL_keep_64 (by decide) ?_
      exact J_7 0 (show 0 = kpP xx dn from (by first | omega | (unfold kpP; first | (rw [if_pos (by omega)]; done) | (rw [if_neg (by omega)]; done) | (rw [if_neg (by omega)]; assumption)))) _ _ _ (lv_sub hl [0, 1, 2, 3, 4] rfl) (bd_to rfl B)
    · have zc_25 : (xx % 16) = 11 := jeq (a := (xx % 16)) (b := 11) (by omega) (by omega) c_25
      refine lv_iload_n hx hb dL_keep_47 rfl (lv_at hl 3 rfl) ?_
      refine lv_bipush (v := iI 16) hx hb dL_keep_48 (by decide) ?_
      refine y_div hx hb (a := xx) (b := 16) (by omega) (by omega) dL_keep_50 ?_
      refine lv_iconst (v := iI 2) hx hb dL_keep_51 (by decide) ?_
      refine y_rem hx hb (a := (xx / 16)) (b := 2) (by omega) (by omega) dL_keep_52 ?_
      refine lv_if_ne (tgt := 64) hx hb dL_keep_53 (by decide) (fun c_26 => ?_) (fun c_26 => ?_)
      · have zc_26 : ((xx / 16) % 2) ≠ 0 := jne (a := ((xx / 16) % 2)) (b := 0) (by omega) (by omega) c_26
        refine lv_iconst (v := iI 0) hx hb dL_keep_64 (by decide) ?_
        exact J_7 0 (show 0 = kpP xx dn from (by first | omega | (unfold kpP; first | (rw [if_pos (by omega)]; done) | (rw [if_neg (by omega)]; done) | (rw [if_neg (by omega)]; assumption)))) _ _ _ (lv_sub hl [0, 1, 2, 3, 4] rfl) (bd_to rfl B)
      · have zc_26 : ((xx / 16) % 2) = 0 := jeq (a := ((xx / 16) % 2)) (b := 0) (by omega) (by omega) c_26
        refine lv_iload_n hx hb dL_keep_56 rfl (lv_at hl 4 rfl) ?_
        refine lv_if_le (tgt := 64) hx hb dL_keep_57 (by decide) (fun c_27 => ?_) (fun c_27 => ?_)
        · have zc_27 : dn ≤ 0 := jle (a := dn) (b := 0) (by omega) (by omega) c_27
          refine lv_iconst (v := iI 0) hx hb dL_keep_64 (by decide) ?_
          exact J_7 0 (show 0 = kpP xx dn from (by first | omega | (unfold kpP; first | (rw [if_pos (by omega)]; done) | (rw [if_neg (by omega)]; done) | (rw [if_neg (by omega)]; assumption)))) _ _ _ (lv_sub hl [0, 1, 2, 3, 4] rfl) (bd_to rfl B)
        · have zc_27 : 0 < dn := jnle (a := dn) (b := 0) (by omega) (by omega) c_27
          refine lv_iconst (v := iI 1) hx hb dL_keep_60 (by decide) ?_
          refine lv_goto (tgt := 65) hx hb dL_keep_61 (by decide) ?_
          exact J_7 1 (show 1 = kpP xx dn from (by first | omega | (unfold kpP; first | (rw [if_pos (by omega)]; done) | (rw [if_neg (by omega)]; done) | (rw [if_neg (by omega)]; assumption)))) _ _ _ (lv_sub hl [0, 1, 2, 3, 4] rfl) (bd_to rfl B)
  refine lv_iload hx hb dL_keep_15 (lv_at hl 0 rfl) ?_
  refine lv_iconst (v := iI 1) hx hb dL_keep_17 (by decide) ?_
  refine lv_icmp_le (tgt := 36) hx hb dL_keep_18 (by decide) (fun c_28 => ?_) (fun c_28 => ?_)
  · have zc_28 : (xx % 16) ≤ 1 := jle (a := (xx % 16)) (b := 1) (by omega) (by omega) c_28
    refine lv_aload_n hx hb dL_keep_36 rfl (lv_at hl 2 rfl) ?_
    refine lv_iconst (v := iI 1) hx hb dL_keep_37 (by decide) ?_
    refine x_iald' (f := (uz nf 0 (T 0 0 0 0))) (z := 1) B 0 rfl (by omega) dL_keep_38 ?_
    refine lv_seti (y := iI (nf 1)) (congrArg iI (show (uz nf 0 (T 0 0 0 0)) 1 = nf 1 from (uz_n (by decide)))) ?_
    exact J_6 (nf 1) (show (nf 1) = kp1 nf xx dn from (by first | omega | (unfold kp1; first | (rw [if_pos (by omega)]; done) | (rw [if_neg (by omega)]; done) | (rw [if_neg (by omega)]; assumption)))) _ _ _ (lv_sub hl [0, 1, 2, 3, 4] rfl) (bd_to rfl B)
  · have zc_28 : 1 < (xx % 16) := jnle (a := (xx % 16)) (b := 1) (by omega) (by omega) c_28
    refine lv_iload hx hb dL_keep_21 (lv_at hl 0 rfl) ?_
    refine lv_bipush (v := iI 6) hx hb dL_keep_23 (by decide) ?_
    refine lv_icmp_ge (tgt := 36) hx hb dL_keep_25 (by decide) (fun c_29 => ?_) (fun c_29 => ?_)
    · have zc_29 : 6 ≤ (xx % 16) := jle (a := 6) (b := (xx % 16)) (by omega) (by omega) c_29
      refine lv_aload_n hx hb dL_keep_36 rfl (lv_at hl 2 rfl) ?_
      refine lv_iconst (v := iI 1) hx hb dL_keep_37 (by decide) ?_
      refine x_iald' (f := (uz nf 0 (T 0 0 0 0))) (z := 1) B 0 rfl (by omega) dL_keep_38 ?_
      refine lv_seti (y := iI (nf 1)) (congrArg iI (show (uz nf 0 (T 0 0 0 0)) 1 = nf 1 from (uz_n (by decide)))) ?_
      exact J_6 (nf 1) (show (nf 1) = kp1 nf xx dn from (by first | omega | (unfold kp1; first | (rw [if_pos (by omega)]; done) | (rw [if_neg (by omega)]; done) | (rw [if_neg (by omega)]; assumption)))) _ _ _ (lv_sub hl [0, 1, 2, 3, 4] rfl) (bd_to rfl B)
    · have zc_29 : (xx % 16) < 6 := jnle (a := 6) (b := (xx % 16)) (by omega) (by omega) c_29
      refine lv_iload_n hx hb dL_keep_28 rfl (lv_at hl 4 rfl) ?_
      refine lv_if_le (tgt := 36) hx hb dL_keep_29 (by decide) (fun c_30 => ?_) (fun c_30 => ?_)
      · have zc_30 : dn ≤ 0 := jle (a := dn) (b := 0) (by omega) (by omega) c_30
        refine lv_aload_n hx hb dL_keep_36 rfl (lv_at hl 2 rfl) ?_
        refine lv_iconst (v := iI 1) hx hb dL_keep_37 (by decide) ?_
        refine x_iald' (f := (uz nf 0 (T 0 0 0 0))) (z := 1) B 0 rfl (by omega) dL_keep_38 ?_
        refine lv_seti (y := iI (nf 1)) (congrArg iI (show (uz nf 0 (T 0 0 0 0)) 1 = nf 1 from (uz_n (by decide)))) ?_
        exact J_6 (nf 1) (show (nf 1) = kp1 nf xx dn from (by first | omega | (unfold kp1; first | (rw [if_pos (by omega)]; done) | (rw [if_neg (by omega)]; done) | (rw [if_neg (by omega)]; assumption)))) _ _ _ (lv_sub hl [0, 1, 2, 3, 4] rfl) (bd_to rfl B)
      · have zc_30 : 0 < dn := jnle (a := dn) (b := 0) (by omega) (by omega) c_30
        refine lv_iload_n hx hb dL_keep_32 rfl (lv_at hl 4 rfl) ?_
        refine lv_goto (tgt := 39) hx hb dL_keep_33 (by decide) ?_
        exact J_6 dn (show dn = kp1 nf xx dn from (by first | omega | (unfold kp1; first | (rw [if_pos (by omega)]; done) | (rw [if_neg (by omega)]; done) | (rw [if_neg (by omega)]; assumption)))) _ _ _ (lv_sub hl [0, 1, 2, 3, 4] rfl) (bd_to rfl B)

end
