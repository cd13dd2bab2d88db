section
set_option maxRecDepth 100000 in
theorem and63 (x : Int32) : ∃ n : Nat, n ≤ 63 ∧ x &&& 63 = nI n := by
  refine ⟨(x &&& 63).toBitVec.toNat, ?_, ?_⟩
  · have h : (x &&& 63).toBitVec.toNat = x.toBitVec.toNat &&& 63 := by rw [Int32.toBitVec_and, BitVec.toNat_and]; rfl
    rw [h]
    exact Nat.and_le_right
  · apply Int32.toBitVec_inj.1
    show _ = BitVec.ofNat 32 _
    exact (BitVec.ofNat_toNat 32 _).symm ▸ (by simp)

theorem law_short {l : Launch} {dC : Nat → ClassId} {dI : Nat → Nat → Nat} {k : Nat → ClassId} {p : Program} {e : Env} {s : State} {m : MethodId} {below : List Frame} {meth : Method} {c : Code} {b L : Nat} {xs : Nat → Int32} (hX : va_X b L xs s s.heap) (hbl : b < s.heap.size) (hL7 : L < 7) (hr : meth.sig.returnType = ret) {H : Heap} {locs : List Loc} {ls : Array Slot} {ws : va_W} {cells slots : Nat} (B : bd p s m #[Value.ref b] meth c cL_law 8 "GalleyforgeLaw" dC dI k (fun q => s.heap.size ≤ q) ws H locs) (hl : lv_has ls 8 [(0, .ref b), (4, .int 0)]) (hC : cells ≤ 600002) (hS : slots ≤ 7302232) : W p l e room_1 s m #[Value.ref b] below meth c H locs cells slots (lw_Z below #[Value.ref b] s) (F0 m 23 ls []) := by
  have hx := B.1.1
  have hb := B.1.2.1
  refine lv_iload hx hb dL_law_23 (lv_at hl 1 rfl) ?_
  refine lv_aload_n hx hb dL_law_25 rfl (lv_at hl 0 rfl) ?_
  refine va_slen hx hb hX hbl (Nat.not_le.mpr hbl) B.2.2.2.2.2 dL_law_26 ?_
  refine lv_bipush (v := 7) hx hb dL_law_27 (by decide) ?_
  refine lv_isub hx hb dL_law_29 ?_
  refine lv_topi (fun z ez => ?_)
  have hz : z < 0 := by
    rw [ez]
    rcases (show L = 0 ∨ L = 1 ∨ L = 2 ∨ L = 3 ∨ L = 4 ∨ L = 5 ∨ L = 6 by omega) with rfl | rfl | rfl | rfl | rfl | rfl | rfl <;> decide
  refine lv_icmp_gt (tgt := 2815) hx hb dL_law_30 (by decide) (fun _ => ?_) (fun c9 => absurd hz c9)
  refine lv_iconst (v := 1) hx hb dL_law_2815 (by decide) ?_
  refine va_forget (fun q hq => B.2.2.2.2.2.2.2 q hq) ?_
  refine W.widen hC hS ?_
  exact lw_ret hx hb hr B.1.2.2.2.2.2 dL_law_2816

end
