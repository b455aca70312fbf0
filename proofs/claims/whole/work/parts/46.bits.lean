def bb (x : Int32) (i : Nat) : Bool := x.toBitVec.getLsbD i
theorem bb_ext {x y : Int32} (h : ∀ i, i < 32 → bb x i = bb y i) : x = y := Int32.toBitVec_inj.mp (BitVec.eq_of_getLsbD_eq h)
theorem bb_and (x y : Int32) (i : Nat) : bb (x &&& y) i = (bb x i && bb y i) := by
  unfold bb; rw [Int32.toBitVec_and, BitVec.getLsbD_and]
theorem bb_or (x y : Int32) (i : Nat) : bb (x ||| y) i = (bb x i || bb y i) := by
  unfold bb; rw [Int32.toBitVec_or, BitVec.getLsbD_or]
theorem bb_shr {x k : Int32} {m : Nat} (hk : ((k &&& 31).toBitVec.smod 32).toNat = m) {i : Nat} (hi : i < 32) : bb (x >>> (k &&& 31)) i = if m + i < 32 then bb x (m + i) else bb x 31 := by
  unfold bb
  rw [Int32.toBitVec_shiftRight, BitVec.sshiftRight_eq', hk, BitVec.getLsbD_sshiftRight, BitVec.msb_eq_getLsbD_last]
  rw [decide_eq_false (by omega : ¬ 32 ≤ i)]
  rfl
theorem bb_ushr {x k : Int32} {m : Nat} (hk : ((Int32.toUInt32 k &&& Int32.toUInt32 31).toBitVec % 32).toNat = m) {i : Nat} (hi : i < 32) : bb (Int32.toUInt32 x >>> (Int32.toUInt32 k &&& Int32.toUInt32 31)).toInt32 i = if m + i < 32 then bb x (m + i) else false := by
  have e : bb (Int32.toUInt32 x >>> (Int32.toUInt32 k &&& Int32.toUInt32 31)).toInt32 i = (x.toBitVec >>> ((Int32.toUInt32 k &&& Int32.toUInt32 31).toBitVec % 32)).getLsbD i := rfl
  rw [e, BitVec.ushiftRight_eq', hk, BitVec.getLsbD_ushiftRight]
  unfold bb
  by_cases h : m + i < 32
  · rw [if_pos h]
  · rw [if_neg h, BitVec.getLsbD_of_ge _ _ (by omega)]
theorem bb_shl {x k : Int32} {m : Nat} (hk : ((k &&& 31).toBitVec.smod 32).toNat = m) {i : Nat} (hi : i < 32) : bb (x <<< (k &&& 31)) i = (decide (m ≤ i) && bb x (i - m)) := by
  unfold bb
  rw [Int32.toBitVec_shiftLeft, BitVec.shiftLeft_eq', hk, BitVec.getLsbD_shiftLeft]
  rw [decide_eq_true hi, Bool.true_and]
  by_cases h : i < m
  · rw [decide_eq_true h, decide_eq_false (by omega : ¬ m ≤ i)]; rfl
  · rw [decide_eq_false h, decide_eq_true (by omega : m ≤ i)]; rfl
theorem bt_mask (x k m : Int32) (kn j : Nat) (h1 : ((Int32.toUInt32 k &&& Int32.toUInt32 31).toBitVec % 32).toNat = kn) (h2 : ((k &&& 31).toBitVec.smod 32).toNat = kn) (hm : ∀ i, i < 32 → bb m i = decide (i < j)) (hj : j + kn ≤ 32) :
    ((Int32.toUInt32 x >>> (Int32.toUInt32 k &&& Int32.toUInt32 31)).toInt32) &&& m = (x >>> (k &&& 31)) &&& m := by
  refine bb_ext fun i hi => ?_
  rw [bb_and, bb_and, bb_ushr h1 hi, bb_shr h2 hi, hm i hi]
  by_cases h : i < j
  · rw [if_pos (by omega), if_pos (by omega)]
  · rw [decide_eq_false h, Bool.and_false, Bool.and_false]
theorem bt_d (w : Int32) : f_Word_d w = f_M_d w := bt_mask w 7 31 7 5 (by decide) (by decide) (by decide) (by decide)
theorem bt_f (w : Int32) : f_Word_f w = f_M_f w := bt_mask w 12 7 12 3 (by decide) (by decide) (by decide) (by decide)
theorem bt_a (w : Int32) : f_Word_a w = f_M_a w := bt_mask w 15 31 15 5 (by decide) (by decide) (by decide) (by decide)
theorem bt_b (w : Int32) : f_Word_b w = f_M_b w := bt_mask w 20 31 20 5 (by decide) (by decide) (by decide) (by decide)
theorem bt_g (w : Int32) : f_Word_g w = f_M_g w := by
  unfold f_Word_g f_M_g
  refine bb_ext fun i hi => ?_
  rw [bb_and, bb_ushr (m := 25) (by decide) hi, bb_shr (m := 25) (by decide) hi, (by decide : ∀ i, i < 32 → bb 127 i = decide (i < 7)) i hi]
  by_cases h : i < 7
  · rw [if_pos (by omega), if_pos (by omega), decide_eq_true h, Bool.and_true]
  · rw [if_neg (by omega), decide_eq_false h, Bool.and_false]
theorem bt_sl12 (w : Int32) : w &&& (1044480 : Int32) = ((w >>> (12 &&& 31)) &&& 255) <<< (12 &&& 31) := by
  refine bb_ext fun i hi => ?_
  rw [bb_and, bb_shl (m := 12) (by decide) hi, bb_and, bb_shr (m := 12) (by decide) (by omega), (by decide : ∀ i, i < 32 → bb 255 i = decide (i < 8)) (i - 12) (by omega), (by decide : ∀ i, i < 32 → bb 1044480 i = decide (12 ≤ i ∧ i < 20)) i hi]
  by_cases h : 12 ≤ i
  · rw [decide_eq_true h, Bool.true_and]
    by_cases h2 : i < 20
    · rw [if_pos (by omega), decide_eq_true (⟨h, h2⟩ : 12 ≤ i ∧ i < 20), decide_eq_true (by omega : i - 12 < 8), show 12 + (i - 12) = i by omega]
    · rw [decide_eq_false (by omega : ¬ (12 ≤ i ∧ i < 20)), decide_eq_false (by omega : ¬ i - 12 < 8), Bool.and_false, Bool.and_false]
  · rw [decide_eq_false h, decide_eq_false (by omega : ¬ (12 ≤ i ∧ i < 20)), Bool.and_false, Bool.false_and]
theorem bt_off (w : Int32) : f_Word_offset w = f_M_offset w := by
  unfold f_Word_offset f_M_offset f_Word_branchOffset f_Word_jumpOffset f_Word_code
  rw [bt_mask w 7 1 7 1 (by decide) (by decide) (by decide) (by decide), bt_mask w 25 63 25 6 (by decide) (by decide) (by decide) (by decide), bt_mask w 8 15 8 4 (by decide) (by decide) (by decide) (by decide), bt_mask w 20 1 20 1 (by decide) (by decide) (by decide) (by decide), bt_mask w 21 1023 21 10 (by decide) (by decide) (by decide) (by decide), bt_sl12 w]
theorem bt_or1 (a b c d e : Int32) : (a ||| (b ||| c)) ||| (d ||| e) = (((a ||| b) ||| e) ||| c) ||| d := by ac_rfl
theorem bt_or2 (a b c d e : Int32) : (a ||| (b ||| c)) ||| (d ||| e) = (((a ||| b) ||| e) ||| d) ||| c := by ac_rfl
theorem bt_bw (w o : Int32) : f_Word_withBranchOffset w o = f_M_branchWith w o := by
  unfold f_Word_withBranchOffset f_M_branchWith
  rw [bt_mask o 12 1 12 1 (by decide) (by decide) (by decide) (by decide), bt_mask o 5 63 5 6 (by decide) (by decide) (by decide) (by decide), bt_mask o 1 15 1 4 (by decide) (by decide) (by decide) (by decide), bt_mask o 11 1 11 1 (by decide) (by decide) (by decide) (by decide)]
  exact bt_or1 _ _ _ _ _
theorem bt_jw (w o : Int32) : f_Word_withJumpOffset w o = f_M_jumpWith w o := by
  unfold f_Word_withJumpOffset f_M_jumpWith
  rw [bt_mask o 20 1 20 1 (by decide) (by decide) (by decide) (by decide), bt_mask o 1 1023 1 10 (by decide) (by decide) (by decide) (by decide), bt_mask o 11 1 11 1 (by decide) (by decide) (by decide) (by decide), bt_sl12 o]
  exact bt_or2 _ _ _ _ _
theorem bn_and (x m : Int32) (M : Nat) (hm : m.toBitVec.toNat = M) : ∃ k, k ≤ M ∧ x &&& m = Int32.ofNat k := by
  refine ⟨(x &&& m).toBitVec.toNat, ?_, Int32.toBitVec_inj.mp ?_⟩
  · rw [Int32.toBitVec_and, BitVec.toNat_and, hm]; exact Nat.and_le_right
  · show _ = BitVec.ofNat 32 _
    rw [BitVec.ofNat_toNat, BitVec.setWidth_eq]
theorem bt_isImm (f g : Int32) : (if f_Word_isImmForm f g = 0 then (-1 : Int32) else 1) = if f = 1 then (if g = 0 then 1 else -1) else (if f = 5 then (if g = 0 then 1 else (if g = 32 then 1 else -1)) else 1) := by
  unfold f_Word_isImmForm
  by_cases h1 : f = 1
  · rw [if_pos h1, if_pos h1]
    by_cases h2 : g = 0
    · rw [if_pos h2, if_pos h2]; rfl
    · rw [if_neg h2, if_neg h2]; rfl
  · rw [if_neg h1, if_neg h1]
    by_cases h5 : f = 5
    · rw [if_pos h5, if_pos h5]
      by_cases h2 : g = 0
      · rw [if_pos h2, if_pos h2]; rfl
      · rw [if_neg h2, if_neg h2]
        by_cases h3 : g = 32
        · rw [if_pos h3, if_pos h3]; rfl
        · rw [if_neg h3, if_neg h3]; rfl
    · rw [if_neg h5, if_neg h5]; rfl
theorem bt_isReg (f g : Int32) : (if f_Word_isRegForm f g = 0 then (-1 : Int32) else 0) = if g = 0 then 0 else (if g = 1 then 0 else (if g = 32 then (if f = 0 then 0 else (if f = 5 then 0 else -1)) else -1)) := by
  unfold f_Word_isRegForm
  by_cases h1 : g = 0
  · rw [if_pos h1, if_pos h1]; rfl
  · rw [if_neg h1, if_neg h1]
    by_cases h2 : g = 1
    · rw [if_pos h2, if_pos h2]; rfl
    · rw [if_neg h2, if_neg h2]
      by_cases h3 : g = 32
      · rw [if_pos h3, if_pos h3]
        by_cases h4 : f = 0
        · rw [if_pos h4, if_pos h4]; rfl
        · rw [if_neg h4, if_neg h4]
          by_cases h5 : f = 5
          · rw [if_pos h5, if_pos h5]; rfl
          · rw [if_neg h5, if_neg h5]; rfl
      · rw [if_neg h3, if_neg h3]; rfl
theorem bt_k3 : ∀ k, k ≤ 7 → (if Int32.ofNat k ≤ 2 then (3 : Int32) else if Int32.ofNat k = 4 then 3 else if Int32.ofNat k = 5 then 3 else -1) = if Int32.ofNat k < 3 then 3 else if Int32.ofNat k = 4 then 3 else if Int32.ofNat k = 5 then 3 else -1 := by decide
theorem bt_k4 : ∀ k, k ≤ 7 → (if 2 < Int32.ofNat k then (-1 : Int32) else 4) = if 3 ≤ Int32.ofNat k then -1 else 4 := by decide
theorem bt_k5 : ∀ k, k ≤ 7 → (if Int32.ofNat k = 2 then (-1 : Int32) else if Int32.ofNat k = 3 then -1 else 5) = if Int32.ofNat k < 2 then 5 else if Int32.ofNat k ≤ 3 then -1 else 5 := by decide
theorem bt_kind (w : Int32) : f_Word_kind w = f_M_kindOf w := by
  obtain ⟨k, hk, e⟩ := bn_and (w >>> (12 &&& 31)) 7 7 (by decide)
  have e1 : f_M_f w = Int32.ofNat k := e
  unfold f_Word_kind f_M_kindOf f_Word_code
  rw [bt_f, bt_g, bt_d, e1, bt_isImm, bt_isReg, bt_k3 k hk, bt_k4 k hk, bt_k5 k hk]
