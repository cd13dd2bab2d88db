section
/-- what acts have brought about: blocks, words, letters, notes, terms -/
def bdW (T : Nat → Int → Int → Int → Int) (i j : Int) : Int := 1 + T 4 i j 0 + (if T 7 i j 0 = -1 then 0 else 1) + (if T 7 i j 3 = -1 then 0 else 1)
def bdB (T : Nat → Int → Int → Int → Int) (i : Int) : Int := 1 + smZ (bdW T i) 0 (Int.toNat (T 3 i 0 0))
def BUD (T : Nat → Int → Int → Int → Int) (K : Nat → Int → Int) : Int := smZ (bdB T) 0 (Int.toNat (T 0 0 0 0)) + (K 0 0 + (if K 2 0 = -1 then 0 else 1) + (if K 2 3 = -1 then 0 else 1))
/-- figures are high -/
def FHT (T : Nat → Int → Int → Int → Int) : Prop := ∀ j, 0 ≤ j → j < T 12 0 0 0 → 1 ≤ T 14 j 0 0
/-- a press after n acts -/
def GOOD (T : Nat → Int → Int → Int → Int) (K : Nat → Int → Int) (n : Int) : Prop := TK T ∧ KK T K ∧ (∀ j : Int, j < 0 ∨ 5 < j → K 1 j = 0) ∧ BUD T K ≤ n ∧ FHT T
def NFR (T : Nat → Int → Int → Int → Int) (K : Nat → Int → Int) (nf : Int → Int) : Prop := nf 0 = T 0 0 0 0 ∧ nf 1 = K 0 0 ∧ nf 2 = T 12 0 0 0 ∧ nf 3 = T 18 0 0 0
section BUDS
variable {T T' : Nat → Int → Int → Int → Int} {K K' : Nat → Int → Int} {n xx : Int} {f g : Int → Int}
theorem smc : ∀ n : Nat, (∀ j : Int, 0 ≤ j → j < n → f j = g j) → smZ f 0 n = smZ g 0 n
  | 0, _ => rfl
  | n + 1, h => by
    simp only [smZ]
    rw [smc n (fun j a b => h j a (by omega)), h (0 + (n : Int)) (by omega) (by omega)]
theorem sm_up {i : Int} (h : ∀ j, j ≠ i → g j = f j) : ∀ n : Nat, 0 ≤ i → i < n → smZ g 0 n = smZ f 0 n + (g i - f i)
  | 0, a, b => by omega
  | n + 1, a, b => by
    simp only [smZ]
    by_cases e : i = (n : Int)
    · rw [smc n (fun j c d => h j (by omega)), show (0 : Int) + (n : Int) = i by omega]
      omega
    · rw [sm_up h n a (by omega), h (0 + (n : Int)) (by omega)]
      omega
theorem sm_nn (h : ∀ j, 0 ≤ f j) : ∀ n : Nat, 0 ≤ smZ f 0 n
  | 0 => Int.le_refl 0
  | n + 1 => by
    have := sm_nn h n
    have := h (0 + (n : Int))
    simp only [smZ]
    omega
/-- one place taken out -/
theorem sm_rs {a : Int} : ∀ n : Nat, 0 ≤ a → a ≤ n → smZ (fun j => f (rsh a j)) 0 n + f a = smZ f 0 (n + 1)
  | 0, h1, h2 => by
    rw [show a = 0 by omega]
    simp [smZ]
  | n + 1, h1, h2 => by
    have e1 : smZ (fun j => f (rsh a j)) 0 (n + 1) = smZ (fun j => f (rsh a j)) 0 n + f (rsh a (0 + (n : Int))) := rfl
    have e2 : smZ f 0 (n + 1 + 1) = smZ f 0 (n + 1) + f (0 + ((n + 1 : Nat) : Int)) := rfl
    rw [e1, e2]
    by_cases e : a = ((n + 1 : Nat) : Int)
    · have e3 : smZ (fun j => f (rsh a j)) 0 n = smZ f 0 n := smc n (fun j c d => by unfold rsh; rw [if_pos (by omega)])
      have e4 : smZ f 0 (n + 1) = smZ f 0 n + f (0 + (n : Int)) := rfl
      rw [e3, e4, show rsh a (0 + (n : Int)) = 0 + (n : Int) by unfold rsh; rw [if_pos (by omega)], e, show (0 : Int) + ((n + 1 : Nat) : Int) = ((n + 1 : Nat) : Int) by omega]
    · have ih := sm_rs (a := a) n h1 (by omega)
      rw [show rsh a (0 + (n : Int)) = 0 + ((n + 1 : Nat) : Int) by unfold rsh; rw [if_neg (by omega)]; omega]
      omega
/-- one place put in -/
theorem sm_is {a w : Int} (n : Nat) (h1 : 0 ≤ a) (h2 : a ≤ n) : smZ (fun j => if j = a then w else f (ish a j)) 0 (n + 1) = smZ f 0 n + w := by
  rw [← sm_rs (f := fun j => if j = a then w else f (ish a j)) n h1 h2, if_pos rfl]
  congr 1
  refine smc n (fun j c d => ?_)
  have hr : rsh a j ≠ a ∧ ish a (rsh a j) = j := by
    unfold rsh ish
    constructor
    · split <;> omega
    · by_cases e : j < a
      · rw [if_pos e, if_pos e]
      · rw [if_neg e, if_neg (by omega)]; omega
  rw [if_neg hr.1, hr.2]
theorem bdW_nn (hK : TK T) (i j : Int) : 1 ≤ bdW T i j := by
  have := TK_len hK i j
  unfold bdW
  split <;> split <;> omega
theorem bdB_nn (hK : TK T) (i : Int) : 1 ≤ bdB T i := by
  have := sm_nn (f := bdW T i) (fun j => by have := bdW_nn hK i j; omega) (Int.toNat (T 3 i 0 0))
  unfold bdB
  omega
theorem BUD_cg (h0 : T' 0 = T 0) (h3 : T' 3 = T 3) (h4 : T' 4 = T 4) (h7 : T' 7 = T 7) : BUD T' K = BUD T K := by
  have e1 : bdW T' = bdW T := by funext i j; unfold bdW; rw [h4, h7]
  have e2 : bdB T' = bdB T := by funext i; unfold bdB; rw [e1, h3]
  unfold BUD
  rw [e2, h0]
/-- one block's words changed -/
theorem BUD_1 {i : Int} (hi : 0 ≤ i ∧ i < T 0 0 0 0) (h0 : T' 0 = T 0) (h3 : ∀ j, j ≠ i → T' 3 j = T 3 j) (h4 : ∀ j, j ≠ i → T' 4 j = T 4 j) (h7 : ∀ j, j ≠ i → T' 7 j = T 7 j) : BUD T' K = BUD T K + (bdB T' i - bdB T i) := by
  have e1 : ∀ j, j ≠ i → bdB T' j = bdB T j := by
    intro j hj
    have e : bdW T' j = bdW T j := by funext q; unfold bdW; rw [h4 j hj, h7 j hj]
    unfold bdB
    rw [e, h3 j hj]
  unfold BUD
  rw [h0, sm_up e1 (Int.toNat (T 0 0 0 0)) hi.1 (by omega)]
  omega
theorem BUD_tk (hK : TK T) {i a : Int} (hi : 0 ≤ i ∧ i < T 0 0 0 0) (ha : 0 ≤ a ∧ a < T 3 i 0 0) : BUD (tkT T i a) K ≤ BUD T K := by
  have hn : ∀ c j, j ≠ i → tkT T i a c j = T c j := fun c j hj => if_neg (fun q => hj q.2.2)
  rw [BUD_1 (T := T) (T' := tkT T i a) hi (funext fun j => if_neg (fun q => by omega)) (hn 3) (hn 4) (hn 7)]
  have e4 : tkT T i a 4 i = fun q r => T 4 i (rsh a q) r := by unfold tkT; rw [if_pos (by omega), if_neg (by omega)]
  have e7 : tkT T i a 7 i = fun q r => T 7 i (rsh a q) r := by unfold tkT; rw [if_pos (by omega), if_neg (by omega)]
  have e3 : tkT T i a 3 i 0 0 = T 3 i 0 0 - 1 := by unfold tkT; rw [if_pos (by omega), if_pos rfl]
  have ew : bdW (tkT T i a) i = fun j => bdW T i (rsh a j) := by funext j; unfold bdW; rw [e4, e7]
  unfold bdB
  rw [e3, ew]
  have h1 := sm_rs (f := bdW T i) (a := a) (Int.toNat (T 3 i 0 0 - 1)) ha.1 (by omega)
  rw [show Int.toNat (T 3 i 0 0 - 1) + 1 = Int.toNat (T 3 i 0 0) by omega] at h1
  have := bdW_nn hK i a
  omega
theorem BUD_pu {i a : Int} {nl : Nat} {fl fm : Int → Int} {lb gs_ : Int} (hi : 0 ≤ i ∧ i < T 0 0 0 0) (ha : 0 ≤ a ∧ a ≤ T 3 i 0 0) : BUD (puT T i a nl fl lb fm gs_) K = BUD T K + (1 + (nl : Int) + (if fm 0 = -1 then 0 else 1) + (if fm 3 = -1 then 0 else 1)) := by
  have hn : ∀ c j, j ≠ i → puT T i a nl fl lb fm gs_ c j = T c j := fun c j hj => if_neg (fun q => hj q.2.2)
  rw [BUD_1 (T := T) (T' := puT T i a nl fl lb fm gs_) hi (funext fun j => if_neg (fun q => by omega)) (hn 3) (hn 4) (hn 7)]
  have e4 : puT T i a nl fl lb fm gs_ 4 i = fun q r => if q = a then (nl : Int) else T 4 i (ish a q) r := by unfold puT; rw [if_pos (by omega), if_neg (by omega)]; funext q r; simp
  have e7 : puT T i a nl fl lb fm gs_ 7 i = fun q r => if q = a then fm r else T 7 i (ish a q) r := by unfold puT; rw [if_pos (by omega), if_neg (by omega)]; funext q r; simp
  have e3 : puT T i a nl fl lb fm gs_ 3 i 0 0 = T 3 i 0 0 + 1 := by unfold puT; rw [if_pos (by omega), if_pos rfl]
  have ew : bdW (puT T i a nl fl lb fm gs_) i = fun j => if j = a then (1 + (nl : Int) + (if fm 0 = -1 then 0 else 1) + (if fm 3 = -1 then 0 else 1)) else bdW T i (ish a j) := by
    funext j
    unfold bdW
    rw [e4, e7]
    dsimp only
    by_cases e : j = a
    · simp only [if_pos e]
    · simp only [if_neg e]
  unfold bdB
  rw [e3, ew, show Int.toNat (T 3 i 0 0 + 1) = Int.toNat (T 3 i 0 0) + 1 by omega, sm_is (Int.toNat (T 3 i 0 0)) ha.1 (by omega)]
  omega
theorem BUD_rb (hK : TK T) {a : Int} (ha : 0 ≤ a ∧ a < T 0 0 0 0) : BUD (rbT T a) K ≤ BUD T K := by
  have e0 : rbT T a 0 0 0 0 = T 0 0 0 0 - 1 := rfl
  have eb : bdB (rbT T a) = fun j => bdB T (rsh a j) := rfl
  unfold BUD
  rw [e0, eb]
  have h1 := sm_rs (f := bdB T) (a := a) (Int.toNat (T 0 0 0 0 - 1)) ha.1 (by omega)
  rw [show Int.toNat (T 0 0 0 0 - 1) + 1 = Int.toNat (T 0 0 0 0) by omega] at h1
  have := bdB_nn hK a
  omega
theorem BUD_ib {a kd : Int} (ha : 0 ≤ a ∧ a ≤ T 0 0 0 0) (hk : bdB (ibT T a kd) a = 1) : BUD (ibT T a kd) K = BUD T K + 1 := by
  have e0 : ibT T a kd 0 0 0 0 = T 0 0 0 0 + 1 := rfl
  have eb : bdB (ibT T a kd) = fun j => if j = a then 1 else bdB T (ish a j) := by
    funext j
    by_cases e : j = a
    · rw [if_pos e, e]; exact hk
    · have en : ∀ c, c = 3 ∨ c = 4 ∨ c = 7 → ibT T a kd c j = T c (ish a j) := fun c hc => by
        unfold ibT
        rw [if_neg (by omega), if_pos (by omega), if_neg e]
      rw [if_neg e]
      have ew : bdW (ibT T a kd) j = bdW T (ish a j) := by funext q; unfold bdW; rw [en 4 (by omega), en 7 (by omega)]
      unfold bdB
      rw [ew, en 3 (by omega)]
  unfold BUD
  rw [e0, eb, show Int.toNat (T 0 0 0 0 + 1) = Int.toNat (T 0 0 0 0) + 1 by omega, sm_is (Int.toNat (T 0 0 0 0)) ha.1 (by omega)]
  omega
end BUDS

theorem zc_spells (T : Nat → Int → Int → Int → Int) (K : Nat → Int → Int) (le : Int) : (z_spells T K le = (T, (KKn (K 0 0 + 1) (uz (K 1) (K 0 0) le) (K 2)), (K 0 0 + 1)) ∧ ((0 ≤ le ∧ le ≤ 3) ∧ K 0 0 < 6)) ∨ ∃ c9 : Int, z_spells T K le = (T, K, c9) ∧ -2000000003 ≤ c9 ∧ c9 < 0 := by
  unfold z_spells
  split
  · rename_i h9; exact Or.inl ⟨rfl, h9⟩
  · right; repeat' split
    all_goals exact ⟨_, rfl, by omega, by omega⟩
theorem zc_marks (T : Nat → Int → Int → Int → Int) (K : Nat → Int → Int) (wt va : Int) : (z_marks T K wt va = (T, (KKn (K 0 0) (K 1) (uz (K 2) wt va)), (K 2 wt)) ∧ ((0 ≤ wt ∧ wt ≤ 4) ∧ (va = -1 ∨ (lmZ wt ≤ va ∧ va ≤ mmZ T wt)))) ∨ ∃ c9 : Int, z_marks T K wt va = (T, K, c9) ∧ -2000000003 ≤ c9 ∧ c9 < 0 := by
  unfold z_marks
  split
  · rename_i h9; exact Or.inl ⟨rfl, h9⟩
  · right; repeat' split
    all_goals exact ⟨_, rfl, by omega, by omega⟩
theorem zc_patterns (T : Nat → Int → Int → Int → Int) (K : Nat → Int → Int) (gp lv_ : Int) : (z_patterns T K gp lv_ = ((gpT (apT T (Int.toNat (K 0 0)) (spF K) gp lv_) (T 0 0 0 0) 0), (KKn 0 (K 1) (K 2)), (T 18 0 0 0 + 1)) ∧ (((0 ≤ gp ∧ gp ≤ K 0 0) ∧ 1 ≤ lv_ ∧ lv_ ≤ 5) ∧ ((0 < K 0 0 ∧ K 0 0 ≤ 3) ∧ T 18 0 0 0 < 8))) ∨ ∃ c9 : Int, z_patterns T K gp lv_ = (T, K, c9) ∧ -2000000003 ≤ c9 ∧ c9 < 0 := by
  unfold z_patterns
  split
  · rename_i h9; exact Or.inl ⟨rfl, h9⟩
  · right; repeat' split
    all_goals exact ⟨_, rfl, by omega, by omega⟩
theorem zc_words (T : Nat → Int → Int → Int → Int) (K : Nat → Int → Int) (pl at_ : Int) : (z_words T K pl at_ = ((puT T pl at_ (Int.toNat (K 0 0)) (spF K) (-1) (K 2) (gsZ T (spF K) ((Int.toNat (K 0 0) : Nat) : Int))), (KKn 0 (K 1) (fun _ : Int => (-1))), (T 3 pl 0 0 + 1)) ∧ (((0 ≤ pl ∧ pl < T 0 0 0 0) ∧ 0 ≤ at_ ∧ at_ ≤ T 3 pl 0 0) ∧ (T 1 pl 0 0 ≤ 2 ∧ T 3 pl 0 0 < 12) ∧ 0 < K 0 0)) ∨ ∃ c9 : Int, z_words T K pl at_ = (T, K, c9) ∧ -2000000003 ≤ c9 ∧ c9 < 0 := by
  unfold z_words
  split
  · rename_i h9; exact Or.inl ⟨rfl, h9⟩
  · right; repeat' split
    all_goals exact ⟨_, rfl, by omega, by omega⟩
theorem zc_refers (T : Nat → Int → Int → Int → Int) (K : Nat → Int → Int) (pl at_ lab : Int) : (z_refers T K pl at_ lab = ((puT T pl at_ 0 (fun _ : Int => (0 : Int)) lab (K 2) (gsZ T (fun _ : Int => (0 : Int)) ((0 : Nat) : Int))), (KKn (K 0 0) (K 1) (fun _ : Int => (-1))), (T 3 pl 0 0 + 1)) ∧ ((((0 ≤ pl ∧ pl < T 0 0 0 0) ∧ 0 ≤ at_ ∧ at_ ≤ T 3 pl 0 0) ∧ (0 ≤ lab ∧ lab ≤ 5)) ∧ (T 1 pl 0 0 ≤ 2 ∧ T 3 pl 0 0 < 12))) ∨ ∃ c9 : Int, z_refers T K pl at_ lab = (T, K, c9) ∧ -2000000003 ≤ c9 ∧ c9 < 0 := by
  unfold z_refers
  split
  · rename_i h9; exact Or.inl ⟨rfl, h9⟩
  · right; repeat' split
    all_goals exact ⟨_, rfl, by omega, by omega⟩
theorem zc_takes (T : Nat → Int → Int → Int → Int) (K : Nat → Int → Int) (pl at_ : Int) : (z_takes T K pl at_ = ((tkT T pl at_), K, (T 3 pl 0 0 - 1)) ∧ ((0 ≤ pl ∧ pl < T 0 0 0 0) ∧ 0 ≤ at_ ∧ at_ < T 3 pl 0 0)) ∨ ∃ c9 : Int, z_takes T K pl at_ = (T, K, c9) ∧ -2000000003 ≤ c9 ∧ c9 < 0 := by
  unfold z_takes
  split
  · rename_i h9; exact Or.inl ⟨rfl, h9⟩
  · right; repeat' split
    all_goals exact ⟨_, rfl, by omega, by omega⟩
theorem zc_blocks (T : Nat → Int → Int → Int → Int) (K : Nat → Int → Int) (pl kd : Int) : (z_blocks T K pl kd = ((ibT T pl kd), K, (T 0 0 0 0 + 1)) ∧ ((0 ≤ pl ∧ pl ≤ T 0 0 0 0) ∧ (0 ≤ kd ∧ kd ≤ 6) ∧ T 0 0 0 0 < 16)) ∨ ∃ c9 : Int, z_blocks T K pl kd = (T, K, c9) ∧ -2000000003 ≤ c9 ∧ c9 < 0 := by
  unfold z_blocks
  split
  · rename_i h9; exact Or.inl ⟨rfl, h9⟩
  · right; repeat' split
    all_goals exact ⟨_, rfl, by omega, by omega⟩
theorem zc_removes (T : Nat → Int → Int → Int → Int) (K : Nat → Int → Int) (pl : Int) : (z_removes T K pl = ((rbT T pl), K, (T 0 0 0 0 - 1)) ∧ ((0 ≤ pl ∧ pl < T 0 0 0 0))) ∨ ∃ c9 : Int, z_removes T K pl = (T, K, c9) ∧ -2000000003 ≤ c9 ∧ c9 < 0 := by
  unfold z_removes
  split
  · rename_i h9; exact Or.inl ⟨rfl, h9⟩
  · right; repeat' split
    all_goals exact ⟨_, rfl, by omega, by omega⟩
theorem zc_styles (T : Nat → Int → Int → Int → Int) (K : Nat → Int → Int) (pl st_ va : Int) : (z_styles T K pl st_ va = ((stT T pl st_ va), K, (T 2 pl st_ 0)) ∧ ((0 ≤ pl ∧ pl < T 0 0 0 0) ∧ (0 ≤ st_ ∧ st_ ≤ 6) ∧ (lsZ st_ ≤ va ∧ va ≤ msZ st_))) ∨ ∃ c9 : Int, z_styles T K pl st_ va = (T, K, c9) ∧ -2000000003 ≤ c9 ∧ c9 < 0 := by
  unfold z_styles
  split
  · rename_i h9; exact Or.inl ⟨rfl, h9⟩
  · right; repeat' split
    all_goals exact ⟨_, rfl, by omega, by omega⟩
theorem zc_cells (T : Nat → Int → Int → Int → Int) (K : Nat → Int → Int) (pl ro co sn le be : Int) : (z_cells T K pl ro co sn le be = ((teT T pl ((ro * 3) + co) sn le be), K, (rcT (teT T pl ((ro * 3) + co) sn le be) pl)) ∧ ((0 ≤ pl ∧ pl < T 0 0 0 0) ∧ ((0 ≤ ro ∧ ro ≤ 3) ∧ (0 ≤ co ∧ co ≤ 2) ∧ 1 ≤ sn ∧ sn ≤ 3 - co) ∧ ((0 ≤ le ∧ le ≤ 60) ∧ le ≤ be ∧ be ≤ 200) ∧ T 1 pl 0 0 = 3)) ∨ ∃ c9 : Int, z_cells T K pl ro co sn le be = (T, K, c9) ∧ -2000000003 ≤ c9 ∧ c9 < 0 := by
  unfold z_cells
  split
  · rename_i h9; exact Or.inl ⟨rfl, h9⟩
  · right; repeat' split
    all_goals exact ⟨_, rfl, by omega, by omega⟩
theorem zc_figures (T : Nat → Int → Int → Int → Int) (K : Nat → Int → Int) (ki he_ : Int) : (z_figures T K ki he_ = ((fiT T ki he_), K, (T 12 0 0 0)) ∧ (((0 ≤ ki ∧ ki ≤ 1) ∧ 1 ≤ he_ ∧ he_ ≤ 40) ∧ T 12 0 0 0 < 5)) ∨ ∃ c9 : Int, z_figures T K ki he_ = (T, K, c9) ∧ -2000000003 ≤ c9 ∧ c9 < 0 := by
  unfold z_figures
  split
  · rename_i h9; exact Or.inl ⟨rfl, h9⟩
  · right; repeat' split
    all_goals exact ⟨_, rfl, by omega, by omega⟩
theorem zc_papers (T : Nat → Int → Int → Int → Int) (K : Nat → Int → Int) (wi he_ : Int) : (z_papers T K wi he_ = ((paT T wi he_), K, (T 16 0 0 0)) ∧ ((30 ≤ wi ∧ wi ≤ 120) ∧ 6 ≤ he_ ∧ he_ ≤ 40)) ∨ ∃ c9 : Int, z_papers T K wi he_ = (T, K, c9) ∧ -2000000003 ≤ c9 ∧ c9 < 0 := by
  unfold z_papers
  split
  · rename_i h9; exact Or.inl ⟨rfl, h9⟩
  · right; repeat' split
    all_goals exact ⟨_, rfl, by omega, by omega⟩
theorem zc_keys (T : Nat → Int → Int → Int → Int) (K : Nat → Int → Int) (te ky_ : Int) : (z_keys T K te ky_ = ((kyT T te ky_), K, (T 15 te 0 0)) ∧ ((0 ≤ te ∧ te ≤ 7) ∧ 0 ≤ ky_ ∧ ky_ ≤ 999)) ∨ ∃ c9 : Int, z_keys T K te ky_ = (T, K, c9) ∧ -2000000003 ≤ c9 ∧ c9 < 0 := by
  unfold z_keys
  split
  · rename_i h9; exact Or.inl ⟨rfl, h9⟩
  · right; repeat' split
    all_goals exact ⟨_, rfl, by omega, by omega⟩
section GOODS
variable {T T' : Nat → Int → Int → Int → Int} {K K' : Nat → Int → Int} {n xx : Int} {nf nf2 : Int → Int}
theorem GOOD_mono (h : GOOD T K n) : GOOD T K (n + 1) := ⟨h.1, h.2.1, h.2.2.1, by have := h.2.2.2.1; omega, h.2.2.2.2⟩
/-- a triple that an act leaves -/
def ZGD (T : Nat → Int → Int → Int → Int) (K : Nat → Int → Int) (n : Int) (z : (Nat → Int → Int → Int → Int) × (Nat → Int → Int) × Int) : Prop := GOOD z.1 z.2.1 (n + 1) ∧ -2147483648 ≤ z.2.2 ∧ z.2.2 < 2147483648
theorem ZGD_bad (h : GOOD T K n) {c9 : Int} (hc : -2000000003 ≤ c9 ∧ c9 < 0) : ZGD T K n (T, K, c9) := ⟨GOOD_mono h, by dsimp only; omega, by dsimp only; omega⟩
theorem ZGD_T (h : GOOD T K n) (hT : TK T') (hfh : FHT T') (hfc : T 12 0 0 0 ≤ T' 12 0 0 0) (hb : BUD T' K ≤ BUD T K + 1) {r : Int} (hr : -2147483648 ≤ r ∧ r < 2147483648) : ZGD T K n (T', K, r) := ⟨⟨hT, KK_to h.2.1 hfc, h.2.2.1, by have := h.2.2.2.1; dsimp only; omega, hfh⟩, hr.1, hr.2⟩
theorem zg_spells (h : GOOD T K n) (le : Int) : ZGD T K n (z_spells T K le) := by
  rcases zc_spells T K le with ⟨e, g⟩ | ⟨c, e, g⟩
  · rw [e]
    have h0 := h.2.1.1
    refine ⟨⟨h.1, KK_spell h.2.1 g, KO_spell h.2.1 h.2.2.1 g.2, ?_, h.2.2.2.2⟩, by dsimp only; omega, by dsimp only; omega⟩
    have := h.2.2.2.1
    show smZ (bdB T) 0 (Int.toNat (T 0 0 0 0)) + ((K 0 0 + 1) + (if K 2 0 = -1 then 0 else 1) + (if K 2 3 = -1 then 0 else 1)) ≤ n + 1
    unfold BUD at this
    omega
  · rw [e]; exact ZGD_bad h g
theorem zg_marks (h : GOOD T K n) (wt va : Int) : ZGD T K n (z_marks T K wt va) := by
  rcases zc_marks T K wt va with ⟨e, g⟩ | ⟨c, e, g⟩
  · rw [e]
    have h2 := h.2.1.2.2.1 wt
    refine ⟨⟨h.1, KK_mark h.1 h.2.1 g, h.2.2.1, ?_, h.2.2.2.2⟩, by dsimp only; omega, by dsimp only; omega⟩
    have := h.2.2.2.1
    show smZ (bdB T) 0 (Int.toNat (T 0 0 0 0)) + (K 0 0 + (if uz (K 2) wt va 0 = -1 then 0 else 1) + (if uz (K 2) wt va 3 = -1 then 0 else 1)) ≤ n + 1
    unfold BUD at this
    unfold uz
    by_cases e0 : (0 : Int) = wt
    · rw [if_pos e0, if_neg (show ¬ (3 : Int) = wt by omega)]
      split <;> split at this <;> omega
    · rw [if_neg e0]
      by_cases e3 : (3 : Int) = wt
      · rw [if_pos e3]
        split <;> split <;> split at this <;> split at this <;> omega
      · rw [if_neg e3]
        omega
  · rw [e]; exact ZGD_bad h g
theorem zg_patterns (h : GOOD T K n) (gp lv_ : Int) : ZGD T K n (z_patterns T K gp lv_) := by
  rcases zc_patterns T K gp lv_ with ⟨e, g⟩ | ⟨c, e, g⟩
  · rw [e]
    have h0 := h.2.1.1
    have hp := TK_np h.1
    have hT : TK (gpT (apT T (Int.toNat (K 0 0)) (spF K) gp lv_) (T 0 0 0 0) 0) := TK_gpT (TK_apT h.1 ⟨by omega, spF_in h.2.1, by omega, by omega⟩ (by omega))
    refine ⟨⟨hT, ⟨(show (0 : Int) ≤ 0 ∧ (0 : Int) ≤ 6 by decide), h.2.1.2⟩, h.2.2.1, ?_, h.2.2.2.2⟩, by dsimp only; omega, by dsimp only; omega⟩
    have := h.2.2.2.1
    have eb : BUD (gpT (apT T (Int.toNat (K 0 0)) (spF K) gp lv_) (T 0 0 0 0) 0) (KKn 0 (K 1) (K 2)) = BUD T (KKn 0 (K 1) (K 2)) := BUD_cg rfl rfl rfl rfl
    dsimp only
    rw [eb]
    unfold BUD at this ⊢
    show smZ (bdB T) 0 (Int.toNat (T 0 0 0 0)) + (0 + (if K 2 0 = -1 then 0 else 1) + (if K 2 3 = -1 then 0 else 1)) ≤ n + 1
    omega
  · rw [e]; exact ZGD_bad h g
theorem zg_words (h : GOOD T K n) (pl at_ : Int) : ZGD T K n (z_words T K pl at_) := by
  rcases zc_words T K pl at_ with ⟨e, g⟩ | ⟨c, e, g⟩
  · rw [e]
    have h0 := h.2.1.1
    have hw := TK_nw h.1 pl
    refine ⟨⟨TK_puT h.1 (by omega) (WOK_w h.2.1 (by omega)) (gs_ok (by omega)), ?_, h.2.2.1, ?_, h.2.2.2.2⟩, by dsimp only; omega, by dsimp only; omega⟩
    · exact KK_to (KK_drop h.1 h.2.1 ⟨Int.le_refl 0, by decide⟩) (Int.le_refl _)
    have := h.2.2.2.1
    dsimp only
    rw [BUD_pu (T := T) (by omega) (by omega)]
    unfold BUD at this ⊢
    show smZ (bdB T) 0 (Int.toNat (T 0 0 0 0)) + (0 + (if (-1 : Int) = -1 then 0 else 1) + (if (-1 : Int) = -1 then 0 else 1)) + _ ≤ n + 1
    rw [if_pos rfl]
    omega
  · rw [e]; exact ZGD_bad h g
theorem zg_refers (h : GOOD T K n) (pl at_ lab : Int) : ZGD T K n (z_refers T K pl at_ lab) := by
  rcases zc_refers T K pl at_ lab with ⟨e, g⟩ | ⟨c, e, g⟩
  · rw [e]
    have h0 := h.2.1.1
    have hw := TK_nw h.1 pl
    refine ⟨⟨TK_puT h.1 (by omega) (WOK_r h.2.1 (by omega)) (gs_ok (by omega)), ?_, h.2.2.1, ?_, h.2.2.2.2⟩, by dsimp only; omega, by dsimp only; omega⟩
    · exact KK_to (KK_drop h.1 h.2.1 h0) (Int.le_refl _)
    have := h.2.2.2.1
    dsimp only
    rw [BUD_pu (T := T) (by omega) (by omega)]
    unfold BUD at this ⊢
    show smZ (bdB T) 0 (Int.toNat (T 0 0 0 0)) + (K 0 0 + (if (-1 : Int) = -1 then 0 else 1) + (if (-1 : Int) = -1 then 0 else 1)) + _ ≤ n + 1
    rw [if_pos rfl]
    omega
  · rw [e]; exact ZGD_bad h g
theorem zg_takes (h : GOOD T K n) (pl at_ : Int) : ZGD T K n (z_takes T K pl at_) := by
  rcases zc_takes T K pl at_ with ⟨e, g⟩ | ⟨c, e, g⟩
  · rw [e]
    have hw := TK_nw h.1 pl
    exact ZGD_T h (TK_tkT h.1 g.2) h.2.2.2.2 (Int.le_refl _) (by have := BUD_tk (K := K) h.1 g.1 g.2; omega) (by omega)
  · rw [e]; exact ZGD_bad h g
theorem zg_blocks (h : GOOD T K n) (pl kd : Int) : ZGD T K n (z_blocks T K pl kd) := by
  rcases zc_blocks T K pl kd with ⟨e, g⟩ | ⟨c, e, g⟩
  · rw [e]
    have hw := TK_nb h.1
    have hb : bdB (ibT T pl kd) pl = 1 := by
      have e3 : ibT T pl kd 3 pl 0 0 = 0 := by unfold ibT; rw [if_neg (by omega), if_pos (by omega), if_pos rfl]; rfl
      unfold bdB
      rw [e3]
      rfl
    exact ZGD_T h (TK_ibT h.1 g.2.1 g.2.2) h.2.2.2.2 (Int.le_refl _) (by rw [BUD_ib g.1 hb]; omega) (by omega)
  · rw [e]; exact ZGD_bad h g
theorem zg_removes (h : GOOD T K n) (pl : Int) : ZGD T K n (z_removes T K pl) := by
  rcases zc_removes T K pl with ⟨e, g⟩ | ⟨c, e, g⟩
  · rw [e]
    have hw := TK_nb h.1
    exact ZGD_T h (TK_rbT h.1 g) h.2.2.2.2 (Int.le_refl _) (by have := BUD_rb (K := K) h.1 g; omega) (by omega)
  · rw [e]; exact ZGD_bad h g
theorem zg_styles (h : GOOD T K n) (pl st_ va : Int) : ZGD T K n (z_styles T K pl st_ va) := by
  rcases zc_styles T K pl st_ va with ⟨e, g⟩ | ⟨c, e, g⟩
  · rw [e]
    have hs := TK_sty h.1 pl st_
    have eb : BUD (stT T pl st_ va) K = BUD T K := BUD_cg rfl rfl rfl rfl
    exact ZGD_T h (TK_stT h.1 (by omega)) h.2.2.2.2 (Int.le_refl _) (by omega) (by omega)
  · rw [e]; exact ZGD_bad h g
theorem zg_cells (h : GOOD T K n) (pl ro co sn le be : Int) : ZGD T K n (z_cells T K pl ro co sn le be) := by
  rcases zc_cells T K pl ro co sn le be with ⟨e, g⟩ | ⟨c, e, g⟩
  · rw [e]
    have hr := rcZ_in (f := fun j9 : Int => teT T pl ((ro * 3) + co) sn le be 9 pl j9 0) 12 (Nat.le_refl _)
    have eb : BUD (teT T pl ((ro * 3) + co) sn le be) K = BUD T K := BUD_cg rfl rfl rfl rfl
    exact ZGD_T h (TK_teT h.1 (by omega)) h.2.2.2.2 (Int.le_refl _) (by omega) (by show -2147483648 ≤ rcZ _ 12 ∧ rcZ _ 12 < 2147483648; omega)
  · rw [e]; exact ZGD_bad h g
theorem zg_figures (h : GOOD T K n) (ki he_ : Int) : ZGD T K n (z_figures T K ki he_) := by
  rcases zc_figures T K ki he_ with ⟨e, g⟩ | ⟨c, e, g⟩
  · rw [e]
    have hs := TK_fc h.1
    have eb : BUD (fiT T ki he_) K = BUD T K := BUD_cg rfl rfl rfl rfl
    exact ZGD_T h (TK_fiT h.1 (by omega)) (fun j a b => by
      show 1 ≤ (if j = T 12 0 0 0 then he_ else T 14 j 0 0)
      have b2 : j < T 12 0 0 0 + 1 := b
      split
      · omega
      · exact h.2.2.2.2 j a (by omega)) (by show T 12 0 0 0 ≤ T 12 0 0 0 + 1; omega) (by omega) (by omega)
  · rw [e]; exact ZGD_bad h g
theorem zg_papers (h : GOOD T K n) (wi he_ : Int) : ZGD T K n (z_papers T K wi he_) := by
  rcases zc_papers T K wi he_ with ⟨e, g⟩ | ⟨c, e, g⟩
  · rw [e]
    have hs := TK_wid h.1
    have eb : BUD (paT T wi he_) K = BUD T K := BUD_cg rfl rfl rfl rfl
    exact ZGD_T h (TK_paT h.1 (by omega)) h.2.2.2.2 (Int.le_refl _) (by omega) (by omega)
  · rw [e]; exact ZGD_bad h g
theorem zg_keys (h : GOOD T K n) (te ky_ : Int) : ZGD T K n (z_keys T K te ky_) := by
  rcases zc_keys T K te ky_ with ⟨e, g⟩ | ⟨c, e, g⟩
  · rw [e]
    have hs := TK_key h.1 te
    have eb : BUD (kyT T te ky_) K = BUD T K := BUD_cg rfl rfl rfl rfl
    exact ZGD_T h (TK_kyT h.1 (by omega)) h.2.2.2.2 (Int.le_refl _) (by omega) (by omega)
  · rw [e]; exact ZGD_bad h g
theorem zg_unspell (h : GOOD T K n) : ZGD T K n (T, KKn 0 (K 1) (K 2), K 0 0) := by
  have h0 := h.2.1.1
  refine ⟨⟨h.1, ⟨(show (0 : Int) ≤ 0 ∧ (0 : Int) ≤ 6 by decide), h.2.1.2⟩, h.2.2.1, ?_, h.2.2.2.2⟩, by dsimp only; omega, by dsimp only; omega⟩
  have := h.2.2.2.1
  unfold BUD at this
  show smZ (bdB T) 0 (Int.toNat (T 0 0 0 0)) + (0 + (if K 2 0 = -1 then 0 else 1) + (if K 2 3 = -1 then 0 else 1)) ≤ n + 1
  omega
theorem ZGD_ac (h : GOOD T K n) : ZGD T K n (acZ T K xx) := by
  unfold acZ
  by_cases c1 : xx % 16 = 0
  · rw [if_pos c1]
    by_cases c2 : ((xx / 16) / 17) % 9 < 4
    · rw [if_pos c2]
      exact zg_blocks h ((xx / 16) % ((T 0 0 0 0) + 1)) 0
    · rw [if_neg c2]
      exact zg_blocks h ((xx / 16) % ((T 0 0 0 0) + 1)) ((((xx / 16) / 17) % 9) - 3)
  · rw [if_neg c1]
    by_cases c3 : xx % 16 = 1
    · rw [if_pos c3]
      by_cases c4 : (xx / 16) % 3 = 0
      · rw [if_pos c4]
        exact zg_blocks h (T 0 0 0 0) 0
      · rw [if_neg c4]
        by_cases c5 : (xx / 16) % 11 = 0
        · rw [if_pos c5]
          exact zg_removes h (plcZ T xx)
        · rw [if_neg c5]
          exact zg_removes h (T 0 0 0 0)
    · rw [if_neg c3]
      by_cases c6 : xx % 16 < 6
      · rw [if_pos c6]
        exact zg_spells h ((xx / 16) % 4)
      · rw [if_neg c6]
        by_cases c7 : xx % 16 < 9
        · rw [if_pos c7]
          by_cases c8 : T 0 0 0 0 = 0
          · rw [if_pos c8]
            exact zg_words h (plcZ T xx) 0
          · rw [if_neg c8]
            exact zg_words h (plcZ T xx) (v_count T (plcZ T xx))
        · rw [if_neg c7]
          by_cases c9 : xx % 16 = 9
          · rw [if_pos c9]
            exact zg_refers h (plcZ T xx) 0 (((xx / 16) / 17) % 6)
          · rw [if_neg c9]
            by_cases c10 : xx % 16 = 10
            · rw [if_pos c10]
              exact zg_marks h ((xx / 16) % 5) ((((xx / 16) / 5) % 7) - 1)
            · rw [if_neg c10]
              by_cases c11 : xx % 16 = 11
              · rw [if_pos c11]
                by_cases c12 : (xx / 16) % 2 = 0
                · rw [if_pos c12]
                  exact zg_patterns h (((xx / 16) / 2) % 3) (1 + (((xx / 16) / 6) % 5))
                · rw [if_neg c12]
                  exact zg_styles h (plcZ T xx) (((xx / 16) / 17) % 7) (((xx / 16) / 119) % 3)
              · rw [if_neg c11]
                by_cases c13 : xx % 16 = 12
                · rw [if_pos c13]
                  exact zg_cells h (plcZ T xx) (((xx / 16) / 17) % 4) (((xx / 16) / 68) % 3) (1 + (((xx / 16) / 204) % 2)) (((xx / 16) / 408) % 20) (20 + (((xx / 16) / 816) % 60))
                · rw [if_neg c13]
                  by_cases c14 : xx % 16 = 13
                  · rw [if_pos c14]
                    by_cases c15 : (xx / 16) % 3 = 0
                    · rw [if_pos c15]
                      exact zg_figures h (((xx / 16) / 3) % 2) (1 + (((xx / 16) / 6) % 12))
                    · rw [if_neg c15]
                      exact zg_takes h (plcZ T xx) 0
                  · rw [if_neg c14]
                    by_cases c16 : xx % 16 = 14
                    · rw [if_pos c16]
                      by_cases c17 : (xx / 16) % 3 = 0
                      · rw [if_pos c17]
                        exact zg_papers h (30 + (((xx / 16) / 3) % 40)) (6 + (((xx / 16) / 120) % 10))
                      · rw [if_neg c17]
                        exact zg_keys h (((xx / 16) / 3) % 8) (((xx / 16) / 24) % 10)
                    · rw [if_neg c16]
                      by_cases c18 : (xx / 16) % 4 = 0
                      · rw [if_pos c18]
                        exact zg_unspell h
                      · rw [if_neg c18]
                        exact zg_styles h (plcZ T xx) (((xx / 16) / 17) % 4) (((xx / 16) / 119) % 2)
theorem GOOD_step (h : GOOD T K n) (hx : 0 ≤ xx ∧ xx ≤ 2147483647) : GOOD (acZ T K xx).1 (acZ T K xx).2.1 (n + 1) := (ZGD_ac h).1
theorem acZ_in (h : GOOD T K n) (hx : 0 ≤ xx ∧ xx ≤ 2147483647) : -2147483648 ≤ (acZ T K xx).2.2 ∧ (acZ T K xx).2.2 < 2147483648 := (ZGD_ac h).2
theorem GOOD_0 : GOOD T00 K00 0 := ⟨TK_T00, KK_00, fun _ _ => rfl, (show BUD T00 K00 ≤ 0 by decide), fun j a b => by have b2 : j < 0 := b; omega⟩
theorem NF_in (h : GOOD T K n) (hf : NFR T K nf) : (0 ≤ nf 1 ∧ nf 1 ≤ 6) ∧ (0 ≤ nf 2 ∧ nf 2 ≤ 5) ∧ (0 ≤ nf 3 ∧ nf 3 ≤ 8) := by
  obtain ⟨a, b, c, d⟩ := hf
  rw [b, c, d]
  exact ⟨h.2.1.1, TK_fc h.1, TK_np h.1⟩
/-- the law's numbers after an act whose answer is a throw's, or that leaves letters, figures and patterns -/
def ZNF (T : Nat → Int → Int → Int → Int) (K : Nat → Int → Int) (xx : Int) (z : (Nat → Int → Int → Int → Int) × (Nat → Int → Int) × Int) : Prop := z.2.1 0 0 = (if kpP xx z.2.2 = 1 ∨ (5 < xx % 16 ∧ xx % 16 < 9 ∧ 0 < z.2.2) ∨ (xx % 16 = 15 ∧ xx / 16 % 4 = 0) then 0 else if 1 < xx % 16 ∧ xx % 16 < 6 ∧ 0 < z.2.2 then z.2.2 else K 0 0) ∧ z.1 12 0 0 0 = T 12 0 0 0 + kp3 xx z.2.2 ∧ z.1 18 0 0 0 = T 18 0 0 0 + kpP xx z.2.2
theorem ZNF_bad {c9 : Int} (hc : -2000000003 ≤ c9 ∧ c9 < 0) (h15 : ¬ (xx % 16 = 15 ∧ xx / 16 % 4 = 0)) : ZNF T K xx (T, K, c9) := by
  have e1 : kpP xx c9 = 0 := by unfold kpP; rw [if_neg (by omega)]
  have e3 : kp3 xx c9 = 0 := by unfold kp3; rw [if_neg (by omega)]
  unfold ZNF
  dsimp only
  rw [e1, e3, if_neg (by omega), if_neg (by omega)]
  omega
/-- acts that leave all three -/
theorem ZNF_k {r : Int} (hx : (xx % 16 < 2 ∨ xx % 16 = 9 ∨ xx % 16 = 10 ∨ (xx % 16 = 11 ∧ xx / 16 % 2 ≠ 0) ∨ xx % 16 = 12 ∨ (xx % 16 = 13 ∧ xx / 16 % 3 ≠ 0) ∨ xx % 16 = 14 ∨ (xx % 16 = 15 ∧ xx / 16 % 4 ≠ 0))) (h0 : K' 0 0 = K 0 0) (h12 : T' 12 0 0 0 = T 12 0 0 0) (h18 : T' 18 0 0 0 = T 18 0 0 0) : ZNF T K xx (T', K', r) := by
  have e1 : kpP xx r = 0 := by unfold kpP; rw [if_neg (by omega)]
  have e3 : kp3 xx r = 0 := by unfold kp3; rw [if_neg (by omega)]
  unfold ZNF
  dsimp only
  rw [e1, e3, if_neg (by omega), if_neg (by omega)]
  omega
theorem ZNF_ac (h : GOOD T K n) (hx : 0 ≤ xx ∧ xx ≤ 2147483647) : ZNF T K xx (acZ T K xx) := by
  have hp := TK_np h.1
  have hf := TK_fc h.1
  have h0 := h.2.1.1
  unfold acZ
  by_cases c19 : xx % 16 = 0
  · rw [if_pos c19]
    by_cases c20 : ((xx / 16) / 17) % 9 < 4
    · rw [if_pos c20]
      rcases zc_blocks T K ((xx / 16) % ((T 0 0 0 0) + 1)) 0 with ⟨e, g⟩ | ⟨c, e, g⟩
      · rw [e]
        exact ZNF_k (by omega) rfl rfl rfl
      · rw [e]; exact ZNF_bad g (by omega)
    · rw [if_neg c20]
      rcases zc_blocks T K ((xx / 16) % ((T 0 0 0 0) + 1)) ((((xx / 16) / 17) % 9) - 3) with ⟨e, g⟩ | ⟨c, e, g⟩
      · rw [e]
        exact ZNF_k (by omega) rfl rfl rfl
      · rw [e]; exact ZNF_bad g (by omega)
  · rw [if_neg c19]
    by_cases c21 : xx % 16 = 1
    · rw [if_pos c21]
      by_cases c22 : (xx / 16) % 3 = 0
      · rw [if_pos c22]
        rcases zc_blocks T K (T 0 0 0 0) 0 with ⟨e, g⟩ | ⟨c, e, g⟩
        · rw [e]
          exact ZNF_k (by omega) rfl rfl rfl
        · rw [e]; exact ZNF_bad g (by omega)
      · rw [if_neg c22]
        by_cases c23 : (xx / 16) % 11 = 0
        · rw [if_pos c23]
          rcases zc_removes T K (plcZ T xx) with ⟨e, g⟩ | ⟨c, e, g⟩
          · rw [e]
            exact ZNF_k (by omega) rfl rfl rfl
          · rw [e]; exact ZNF_bad g (by omega)
        · rw [if_neg c23]
          rcases zc_removes T K (T 0 0 0 0) with ⟨e, g⟩ | ⟨c, e, g⟩
          · rw [e]
            exact ZNF_k (by omega) rfl rfl rfl
          · rw [e]; exact ZNF_bad g (by omega)
    · rw [if_neg c21]
      by_cases c24 : xx % 16 < 6
      · rw [if_pos c24]
        rcases zc_spells T K ((xx / 16) % 4) with ⟨e, g⟩ | ⟨c, e, g⟩
        · rw [e]
          have e1 : kpP xx (K 0 0 + 1) = 0 := by unfold kpP; rw [if_neg (by omega)]
          have e3 : kp3 xx (K 0 0 + 1) = 0 := by unfold kp3; rw [if_neg (by omega)]
          unfold ZNF
          dsimp only
          rw [e1, e3, if_neg (by omega), if_pos (by omega)]
          exact ⟨rfl, by omega, by omega⟩
        · rw [e]; exact ZNF_bad g (by omega)
      · rw [if_neg c24]
        by_cases c25 : xx % 16 < 9
        · rw [if_pos c25]
          by_cases c26 : T 0 0 0 0 = 0
          · rw [if_pos c26]
            rcases zc_words T K (plcZ T xx) 0 with ⟨e, g⟩ | ⟨c, e, g⟩
            · rw [e]
              have hw := TK_nw h.1 (plcZ T xx)
              have e1 : kpP xx (T 3 (plcZ T xx) 0 0 + 1) = 0 := by unfold kpP; rw [if_neg (by omega)]
              have e3 : kp3 xx (T 3 (plcZ T xx) 0 0 + 1) = 0 := by unfold kp3; rw [if_neg (by omega)]
              unfold ZNF
              dsimp only
              rw [e1, e3, if_pos (by omega)]
              exact ⟨rfl, (Int.add_zero _).symm, (Int.add_zero _).symm⟩
            · rw [e]; exact ZNF_bad g (by omega)
          · rw [if_neg c26]
            rcases zc_words T K (plcZ T xx) (v_count T (plcZ T xx)) with ⟨e, g⟩ | ⟨c, e, g⟩
            · rw [e]
              have hw := TK_nw h.1 (plcZ T xx)
              have e1 : kpP xx (T 3 (plcZ T xx) 0 0 + 1) = 0 := by unfold kpP; rw [if_neg (by omega)]
              have e3 : kp3 xx (T 3 (plcZ T xx) 0 0 + 1) = 0 := by unfold kp3; rw [if_neg (by omega)]
              unfold ZNF
              dsimp only
              rw [e1, e3, if_pos (by omega)]
              exact ⟨rfl, (Int.add_zero _).symm, (Int.add_zero _).symm⟩
            · rw [e]; exact ZNF_bad g (by omega)
        · rw [if_neg c25]
          by_cases c27 : xx % 16 = 9
          · rw [if_pos c27]
            rcases zc_refers T K (plcZ T xx) 0 (((xx / 16) / 17) % 6) with ⟨e, g⟩ | ⟨c, e, g⟩
            · rw [e]
              exact ZNF_k (by omega) rfl rfl rfl
            · rw [e]; exact ZNF_bad g (by omega)
          · rw [if_neg c27]
            by_cases c28 : xx % 16 = 10
            · rw [if_pos c28]
              rcases zc_marks T K ((xx / 16) % 5) ((((xx / 16) / 5) % 7) - 1) with ⟨e, g⟩ | ⟨c, e, g⟩
              · rw [e]
                exact ZNF_k (by omega) rfl rfl rfl
              · rw [e]; exact ZNF_bad g (by omega)
            · rw [if_neg c28]
              by_cases c29 : xx % 16 = 11
              · rw [if_pos c29]
                by_cases c30 : (xx / 16) % 2 = 0
                · rw [if_pos c30]
                  rcases zc_patterns T K (((xx / 16) / 2) % 3) (1 + (((xx / 16) / 6) % 5)) with ⟨e, g⟩ | ⟨c, e, g⟩
                  · rw [e]
                    have e1 : kpP xx (T 18 0 0 0 + 1) = 1 := by unfold kpP; rw [if_pos (by omega)]
                    have e3 : kp3 xx (T 18 0 0 0 + 1) = 0 := by unfold kp3; rw [if_neg (by omega)]
                    unfold ZNF
                    dsimp only
                    rw [e1, e3, if_pos (by omega)]
                    exact ⟨rfl, (Int.add_zero _).symm, rfl⟩
                  · rw [e]; exact ZNF_bad g (by omega)
                · rw [if_neg c30]
                  rcases zc_styles T K (plcZ T xx) (((xx / 16) / 17) % 7) (((xx / 16) / 119) % 3) with ⟨e, g⟩ | ⟨c, e, g⟩
                  · rw [e]
                    exact ZNF_k (by omega) rfl rfl rfl
                  · rw [e]; exact ZNF_bad g (by omega)
              · rw [if_neg c29]
                by_cases c31 : xx % 16 = 12
                · rw [if_pos c31]
                  rcases zc_cells T K (plcZ T xx) (((xx / 16) / 17) % 4) (((xx / 16) / 68) % 3) (1 + (((xx / 16) / 204) % 2)) (((xx / 16) / 408) % 20) (20 + (((xx / 16) / 816) % 60)) with ⟨e, g⟩ | ⟨c, e, g⟩
                  · rw [e]
                    exact ZNF_k (by omega) rfl rfl rfl
                  · rw [e]; exact ZNF_bad g (by omega)
                · rw [if_neg c31]
                  by_cases c32 : xx % 16 = 13
                  · rw [if_pos c32]
                    by_cases c33 : (xx / 16) % 3 = 0
                    · rw [if_pos c33]
                      rcases zc_figures T K (((xx / 16) / 3) % 2) (1 + (((xx / 16) / 6) % 12)) with ⟨e, g⟩ | ⟨c, e, g⟩
                      · rw [e]
                        have e1 : kpP xx (T 12 0 0 0) = 0 := by unfold kpP; rw [if_neg (by omega)]
                        have e3 : kp3 xx (T 12 0 0 0) = 1 := by unfold kp3; rw [if_pos (by omega)]
                        unfold ZNF
                        dsimp only
                        rw [e1, e3, if_neg (by omega), if_neg (by omega)]
                        exact ⟨rfl, rfl, (Int.add_zero _).symm⟩
                      · rw [e]; exact ZNF_bad g (by omega)
                    · rw [if_neg c33]
                      rcases zc_takes T K (plcZ T xx) 0 with ⟨e, g⟩ | ⟨c, e, g⟩
                      · rw [e]
                        exact ZNF_k (by omega) rfl rfl rfl
                      · rw [e]; exact ZNF_bad g (by omega)
                  · rw [if_neg c32]
                    by_cases c34 : xx % 16 = 14
                    · rw [if_pos c34]
                      by_cases c35 : (xx / 16) % 3 = 0
                      · rw [if_pos c35]
                        rcases zc_papers T K (30 + (((xx / 16) / 3) % 40)) (6 + (((xx / 16) / 120) % 10)) with ⟨e, g⟩ | ⟨c, e, g⟩
                        · rw [e]
                          exact ZNF_k (by omega) rfl rfl rfl
                        · rw [e]; exact ZNF_bad g (by omega)
                      · rw [if_neg c35]
                        rcases zc_keys T K (((xx / 16) / 3) % 8) (((xx / 16) / 24) % 10) with ⟨e, g⟩ | ⟨c, e, g⟩
                        · rw [e]
                          exact ZNF_k (by omega) rfl rfl rfl
                        · rw [e]; exact ZNF_bad g (by omega)
                    · rw [if_neg c34]
                      by_cases c36 : (xx / 16) % 4 = 0
                      · rw [if_pos c36]
                        have e1 : kpP xx (K 0 0) = 0 := by unfold kpP; rw [if_neg (by omega)]
                        have e3 : kp3 xx (K 0 0) = 0 := by unfold kp3; rw [if_neg (by omega)]
                        unfold ZNF
                        dsimp only
                        rw [e1, e3, if_pos (by omega)]
                        exact ⟨rfl, (Int.add_zero _).symm, (Int.add_zero _).symm⟩
                      · rw [if_neg c36]
                        rcases zc_styles T K (plcZ T xx) (((xx / 16) / 17) % 4) (((xx / 16) / 119) % 2) with ⟨e, g⟩ | ⟨c, e, g⟩
                        · rw [e]
                          exact ZNF_k (by omega) rfl rfl rfl
                        · rw [e]; exact ZNF_bad g (by omega)
theorem NF_step (h : GOOD T K n) (hx : 0 ≤ xx ∧ xx ≤ 2147483647) (hf : NFR T K nf) (h0 : nf2 0 = (acZ T K xx).1 0 0 0 0) (h1 : nf2 1 = kp2 nf xx (acZ T K xx).2.2) (h2 : nf2 2 = nf 2 + kp3 xx (acZ T K xx).2.2) (h3 : nf2 3 = nf 3 + kpP xx (acZ T K xx).2.2) : NFR (acZ T K xx).1 (acZ T K xx).2.1 nf2 := by
  obtain ⟨q1, q2, q3⟩ := ZNF_ac h hx
  refine ⟨h0, ?_, ?_, ?_⟩
  · rw [h1, q1]
    unfold kp2 kp1
    rw [hf.2.1]
  · rw [h2, q2, hf.2.2.1]
  · rw [h3, q3, hf.2.2.2]
end GOODS

end
