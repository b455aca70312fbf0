theorem fx {x k m : Int32} (kn j : Nat) (h2 : ((k &&& 31).toBitVec.smod 32).toNat = kn) (hm : ∀ i, i < 32 → bb m i = decide (i < j)) (hj : j + kn ≤ 32) {i : Nat} (hi : i < 32) : bb ((x >>> (k &&& 31)) &&& m) i = (decide (i < j) && bb x (kn + i)) := by
  rw [bb_and, bb_shr h2 hi, hm i hi]
  by_cases h : i < j
  · rw [if_pos (by omega), decide_eq_true h, Bool.and_true, Bool.true_and]
  · rw [decide_eq_false h, Bool.and_false, Bool.false_and]
theorem fxl {x k m l : Int32} (kn j ln : Nat) (h2 : ((k &&& 31).toBitVec.smod 32).toNat = kn) (hm : ∀ i, i < 32 → bb m i = decide (i < j)) (hj : j + kn ≤ 32) (hl : ((l &&& 31).toBitVec.smod 32).toNat = ln) {i : Nat} (hi : i < 32) : bb (((x >>> (k &&& 31)) &&& m) <<< (l &&& 31)) i = (decide (ln ≤ i ∧ i < ln + j) && bb x (kn + (i - ln))) := by
  rw [bb_shl hl hi, fx kn j h2 hm hj (by omega)]
  by_cases h : ln ≤ i
  · by_cases h3 : i < ln + j
    · rw [decide_eq_true h, decide_eq_true (by omega : i - ln < j), decide_eq_true (⟨h, h3⟩ : ln ≤ i ∧ i < ln + j), Bool.true_and]
    · rw [decide_eq_true h, decide_eq_false (by omega : ¬ i - ln < j), decide_eq_false (fun z => h3 z.2 : ¬ (ln ≤ i ∧ i < ln + j)), Bool.true_and]
  · rw [decide_eq_false h, decide_eq_false (fun z => h z.1 : ¬ (ln ≤ i ∧ i < ln + j)), Bool.false_and, Bool.false_and]
theorem bwb (w o : Int32) {i : Nat} (hi : i < 32) : bb (f_M_branchWith w o) i = if i < 7 ∨ (12 ≤ i ∧ i < 25) then bb w i else if i = 31 then bb o 12 else if i = 7 then bb o 11 else if 25 ≤ i then bb o (i - 20) else bb o (i - 7) := by
  unfold f_M_branchWith
  rw [bb_or, bb_or, bb_or, bb_or, bb_and w, (by decide : ∀ i, i < 32 → bb 33550463 i = decide (i < 7 ∨ (12 ≤ i ∧ i < 25))) i hi, fxl 12 1 31 (by decide) (by decide) (by decide) (by decide) hi, fxl 11 1 7 (by decide) (by decide) (by decide) (by decide) hi, fxl 5 6 25 (by decide) (by decide) (by decide) (by decide) hi, fxl 1 4 8 (by decide) (by decide) (by decide) (by decide) hi]
  by_cases c1 : i < 7 ∨ (12 ≤ i ∧ i < 25)
  · rw [if_pos c1, decide_eq_true c1, decide_eq_false (by omega : ¬ (31 ≤ i ∧ i < 31 + 1)), decide_eq_false (by omega : ¬ (7 ≤ i ∧ i < 7 + 1)), decide_eq_false (by omega : ¬ (25 ≤ i ∧ i < 25 + 6)), decide_eq_false (by omega : ¬ (8 ≤ i ∧ i < 8 + 4))]
    simp only [Bool.and_true, Bool.false_and, Bool.or_false]
  · rw [if_neg c1, decide_eq_false c1]
    by_cases c2 : i = 31
    · rw [if_pos c2, decide_eq_true (by omega : 31 ≤ i ∧ i < 31 + 1), decide_eq_false (by omega : ¬ (7 ≤ i ∧ i < 7 + 1)), decide_eq_false (by omega : ¬ (25 ≤ i ∧ i < 25 + 6)), decide_eq_false (by omega : ¬ (8 ≤ i ∧ i < 8 + 4)), show 12 + (i - 31) = 12 by omega]
      simp only [Bool.and_false, Bool.false_and, Bool.or_false, Bool.true_and, Bool.false_or]
    · rw [if_neg c2, decide_eq_false (by omega : ¬ (31 ≤ i ∧ i < 31 + 1))]
      by_cases c3 : i = 7
      · rw [if_pos c3, decide_eq_true (by omega : 7 ≤ i ∧ i < 7 + 1), decide_eq_false (by omega : ¬ (25 ≤ i ∧ i < 25 + 6)), decide_eq_false (by omega : ¬ (8 ≤ i ∧ i < 8 + 4)), show 11 + (i - 7) = 11 by omega]
        simp only [Bool.and_false, Bool.false_and, Bool.or_false, Bool.true_and, Bool.false_or]
      · rw [if_neg c3, decide_eq_false (by omega : ¬ (7 ≤ i ∧ i < 7 + 1))]
        by_cases c4 : 25 ≤ i
        · rw [if_pos c4, decide_eq_true (by omega : 25 ≤ i ∧ i < 25 + 6), decide_eq_false (by omega : ¬ (8 ≤ i ∧ i < 8 + 4)), show 5 + (i - 25) = i - 20 by omega]
          simp only [Bool.and_false, Bool.false_and, Bool.or_false, Bool.true_and, Bool.false_or]
        · rw [if_neg c4, decide_eq_false (by omega : ¬ (25 ≤ i ∧ i < 25 + 6)), decide_eq_true (by omega : 8 ≤ i ∧ i < 8 + 4), show 1 + (i - 8) = i - 7 by omega]
          simp only [Bool.and_false, Bool.false_and, Bool.or_false, Bool.true_and, Bool.false_or]
theorem jwb (w o : Int32) {i : Nat} (hi : i < 32) : bb (f_M_jumpWith w o) i = if i < 12 then bb w i else if i = 31 then bb o 20 else if i < 20 then bb o i else if i = 20 then bb o 11 else bb o (i - 20) := by
  unfold f_M_jumpWith
  rw [bb_or, bb_or, bb_or, bb_or, bb_and w, (by decide : ∀ i, i < 32 → bb 4095 i = decide (i < 12)) i hi, fxl 20 1 31 (by decide) (by decide) (by decide) (by decide) hi, fxl 12 8 12 (by decide) (by decide) (by decide) (by decide) hi, fxl 11 1 20 (by decide) (by decide) (by decide) (by decide) hi, fxl 1 10 21 (by decide) (by decide) (by decide) (by decide) hi]
  by_cases c1 : i < 12
  · rw [if_pos c1, decide_eq_true c1, decide_eq_false (by omega : ¬ (31 ≤ i ∧ i < 31 + 1)), decide_eq_false (by omega : ¬ (12 ≤ i ∧ i < 12 + 8)), decide_eq_false (by omega : ¬ (20 ≤ i ∧ i < 20 + 1)), decide_eq_false (by omega : ¬ (21 ≤ i ∧ i < 21 + 10))]
    simp only [Bool.and_true, Bool.false_and, Bool.or_false]
  · rw [if_neg c1, decide_eq_false c1]
    by_cases c2 : i = 31
    · rw [if_pos c2, decide_eq_true (by omega : 31 ≤ i ∧ i < 31 + 1), decide_eq_false (by omega : ¬ (12 ≤ i ∧ i < 12 + 8)), decide_eq_false (by omega : ¬ (20 ≤ i ∧ i < 20 + 1)), decide_eq_false (by omega : ¬ (21 ≤ i ∧ i < 21 + 10)), show 20 + (i - 31) = 20 by omega]
      simp only [Bool.and_false, Bool.false_and, Bool.or_false, Bool.true_and, Bool.false_or]
    · rw [if_neg c2, decide_eq_false (by omega : ¬ (31 ≤ i ∧ i < 31 + 1))]
      by_cases c3 : i < 20
      · rw [if_pos c3, decide_eq_true (by omega : 12 ≤ i ∧ i < 12 + 8), decide_eq_false (by omega : ¬ (20 ≤ i ∧ i < 20 + 1)), decide_eq_false (by omega : ¬ (21 ≤ i ∧ i < 21 + 10)), show 12 + (i - 12) = i by omega]
        simp only [Bool.and_false, Bool.false_and, Bool.or_false, Bool.true_and, Bool.false_or]
      · rw [if_neg c3, decide_eq_false (by omega : ¬ (12 ≤ i ∧ i < 12 + 8))]
        by_cases c4 : i = 20
        · rw [if_pos c4, decide_eq_true (by omega : 20 ≤ i ∧ i < 20 + 1), decide_eq_false (by omega : ¬ (21 ≤ i ∧ i < 21 + 10)), show 11 + (i - 20) = 11 by omega]
          simp only [Bool.and_false, Bool.false_and, Bool.or_false, Bool.true_and, Bool.false_or]
        · rw [if_neg c4, decide_eq_false (by omega : ¬ (20 ≤ i ∧ i < 20 + 1)), decide_eq_true (by omega : 21 ≤ i ∧ i < 21 + 10), show 1 + (i - 21) = i - 20 by omega]
          simp only [Bool.and_false, Bool.false_and, Bool.or_false, Bool.true_and, Bool.false_or]
theorem bw_c (w o : Int32) : f_M_branchWith w o &&& 127 = w &&& 127 := by
  refine bb_ext fun i hi => ?_
  rw [bb_and, bb_and, (by decide : ∀ i, i < 32 → bb 127 i = decide (i < 7)) i hi]
  by_cases h : i < 7
  · rw [bwb w o hi, if_pos (Or.inl h)]
  · rw [decide_eq_false h, Bool.and_false, Bool.and_false]
theorem jw_c (w o : Int32) : f_M_jumpWith w o &&& 127 = w &&& 127 := by
  refine bb_ext fun i hi => ?_
  rw [bb_and, bb_and, (by decide : ∀ i, i < 32 → bb 127 i = decide (i < 7)) i hi]
  by_cases h : i < 7
  · rw [jwb w o hi, if_pos (by omega)]
  · rw [decide_eq_false h, Bool.and_false, Bool.and_false]
theorem bw_f (w o : Int32) : f_M_f (f_M_branchWith w o) = f_M_f w := by
  unfold f_M_f
  refine bb_ext fun i hi => ?_
  rw [fx 12 3 (by decide) (by decide) (by decide) hi, fx 12 3 (by decide) (by decide) (by decide) hi]
  by_cases h : i < 3
  · rw [bwb w o (by omega), if_pos (by omega)]
  · rw [decide_eq_false h, Bool.false_and, Bool.false_and]
theorem bw_a (w o : Int32) : f_M_a (f_M_branchWith w o) = f_M_a w := by
  unfold f_M_a
  refine bb_ext fun i hi => ?_
  rw [fx 15 5 (by decide) (by decide) (by decide) hi, fx 15 5 (by decide) (by decide) (by decide) hi]
  by_cases h : i < 5
  · rw [bwb w o (by omega), if_pos (by omega)]
  · rw [decide_eq_false h, Bool.false_and, Bool.false_and]
theorem bw_b (w o : Int32) : f_M_b (f_M_branchWith w o) = f_M_b w := by
  unfold f_M_b
  refine bb_ext fun i hi => ?_
  rw [fx 20 5 (by decide) (by decide) (by decide) hi, fx 20 5 (by decide) (by decide) (by decide) hi]
  by_cases h : i < 5
  · rw [bwb w o (by omega), if_pos (by omega)]
  · rw [decide_eq_false h, Bool.false_and, Bool.false_and]
theorem jw_d (w o : Int32) : f_M_d (f_M_jumpWith w o) = f_M_d w := by
  unfold f_M_d
  refine bb_ext fun i hi => ?_
  rw [fx 7 5 (by decide) (by decide) (by decide) hi, fx 7 5 (by decide) (by decide) (by decide) hi]
  by_cases h : i < 5
  · rw [jwb w o (by omega), if_pos (by omega)]
  · rw [decide_eq_false h, Bool.false_and, Bool.false_and]
theorem sx12 {x : Int32} (h1 : -4096 ≤ x.toInt) (h2 : x.toInt < 4096) {i : Nat} (hi : 12 ≤ i) (hi2 : i < 32) : bb x i = bb x 12 := by
  have hs : x >>> ((12 : Int32) &&& 31) = 0 ∨ x >>> ((12 : Int32) &&& 31) = -1 := by
    have e := bi_shr (x := x) (k := 12) (m := 12) (by decide)
    by_cases c : 0 ≤ x.toInt
    · left
      refine Int32.toInt_inj.mp ?_
      rw [e, bi_0]; omega
    · right
      refine Int32.toInt_inj.mp ?_
      rw [e, show (-1 : Int32).toInt = -1 by decide]; omega
  have b : ∀ j, 12 ≤ j → j < 32 → bb x j = bb (x >>> ((12 : Int32) &&& 31)) (j - 12) := fun j h1 h2 => by
    rw [bb_shr (m := 12) (by decide) (by omega), if_pos (by omega), show 12 + (j - 12) = j by omega]
  rw [b i hi hi2, b 12 (by omega) (by omega)]
  rcases hs with z | z
  · rw [z, (by decide : ∀ j, j < 32 → bb 0 j = false) _ (by omega), (by decide : ∀ j, j < 32 → bb 0 j = false) _ (by omega)]
  · rw [z, (by decide : ∀ j, j < 32 → bb (-1) j = true) _ (by omega), (by decide : ∀ j, j < 32 → bb (-1) j = true) _ (by omega)]
theorem sx20 {x : Int32} (h1 : -1048576 ≤ x.toInt) (h2 : x.toInt < 1048576) {i : Nat} (hi : 20 ≤ i) (hi2 : i < 32) : bb x i = bb x 20 := by
  have hs : x >>> ((20 : Int32) &&& 31) = 0 ∨ x >>> ((20 : Int32) &&& 31) = -1 := by
    have e := bi_shr (x := x) (k := 20) (m := 20) (by decide)
    by_cases c : 0 ≤ x.toInt
    · left
      refine Int32.toInt_inj.mp ?_
      rw [e, bi_0]; omega
    · right
      refine Int32.toInt_inj.mp ?_
      rw [e, show (-1 : Int32).toInt = -1 by decide]; omega
  have b : ∀ j, 20 ≤ j → j < 32 → bb x j = bb (x >>> ((20 : Int32) &&& 31)) (j - 20) := fun j h1 h2 => by
    rw [bb_shr (m := 20) (by decide) (by omega), if_pos (by omega), show 20 + (j - 20) = j by omega]
  rw [b i hi hi2, b 20 (by omega) (by omega)]
  rcases hs with z | z
  · rw [z, (by decide : ∀ j, j < 32 → bb 0 j = false) _ (by omega), (by decide : ∀ j, j < 32 → bb 0 j = false) _ (by omega)]
  · rw [z, (by decide : ∀ j, j < 32 → bb (-1) j = true) _ (by omega), (by decide : ∀ j, j < 32 → bb (-1) j = true) _ (by omega)]
theorem bb_ev {x : Int32} (h : x.toInt % 2 = 0) : bb x 0 = false := by
  have e : x &&& 1 = 0 := Int32.toInt_inj.mp (by rw [bi_and1, h, bi_0])
  have := congrArg (fun y => bb y 0) e
  simp only [bb_and, show bb 1 0 = true by decide, Bool.and_true, show bb 0 0 = false by decide] at this
  exact this
theorem sh31 (w : Int32) {i : Nat} (hi : i < 32) : bb (w >>> ((31 : Int32) &&& 31)) i = bb w 31 := by
  rw [bb_shr (m := 31) (by decide) hi]
  by_cases h : 31 + i < 32
  · rw [if_pos h, show 31 + i = 31 by omega]
  · rw [if_neg h]
theorem bw_o {w o : Int32} (hc : w &&& 127 = 99) (h1 : -4096 ≤ o.toInt) (h2 : o.toInt < 4096) (h3 : o.toInt % 2 = 0) : f_M_offset (f_M_branchWith w o) = o := by
  unfold f_M_offset
  rw [if_pos ((bw_c w o).trans hc)]
  refine bb_ext fun i hi => ?_
  rw [bb_or, bb_or, bb_or, bb_shl (m := 12) (by decide) hi, sh31 _ (by omega), fxl 7 1 11 (by decide) (by decide) (by decide) (by decide) hi, fxl 25 6 5 (by decide) (by decide) (by decide) (by decide) hi, fxl 8 4 1 (by decide) (by decide) (by decide) (by decide) hi]
  by_cases c1 : 12 ≤ i
  · rw [decide_eq_true c1, decide_eq_false (by omega : ¬ (11 ≤ i ∧ i < 11 + 1)), decide_eq_false (by omega : ¬ (5 ≤ i ∧ i < 5 + 6)), decide_eq_false (by omega : ¬ (1 ≤ i ∧ i < 1 + 4)), bwb w o (by omega), if_neg (by omega), if_pos rfl, sx12 h1 h2 c1 hi]
    simp only [Bool.and_false, Bool.false_and, Bool.or_false, Bool.true_and, Bool.false_or]
  · rw [decide_eq_false c1]
    by_cases c2 : i = 11
    · rw [decide_eq_true (by omega : 11 ≤ i ∧ i < 11 + 1), decide_eq_false (by omega : ¬ (5 ≤ i ∧ i < 5 + 6)), decide_eq_false (by omega : ¬ (1 ≤ i ∧ i < 1 + 4)), show 7 + (i - 11) = 7 by omega, bwb w o (by omega : 7 < 32), if_neg (by omega), if_neg (by omega), if_pos rfl, c2]
      simp only [Bool.and_false, Bool.false_and, Bool.or_false, Bool.true_and, Bool.false_or]
    · rw [decide_eq_false (by omega : ¬ (11 ≤ i ∧ i < 11 + 1))]
      by_cases c3 : 5 ≤ i
      · rw [decide_eq_true (by omega : 5 ≤ i ∧ i < 5 + 6), decide_eq_false (by omega : ¬ (1 ≤ i ∧ i < 1 + 4)), bwb w o (by omega : 25 + (i - 5) < 32), if_neg (by omega), if_neg (by omega), if_neg (by omega), if_pos (by omega), show 25 + (i - 5) - 20 = i by omega]
        simp only [Bool.and_false, Bool.false_and, Bool.or_false, Bool.true_and, Bool.false_or]
      · rw [decide_eq_false (by omega : ¬ (5 ≤ i ∧ i < 5 + 6))]
        by_cases c4 : 1 ≤ i
        · rw [decide_eq_true (by omega : 1 ≤ i ∧ i < 1 + 4), bwb w o (by omega : 8 + (i - 1) < 32), if_neg (by omega), if_neg (by omega), if_neg (by omega), if_neg (by omega), show 8 + (i - 1) - 7 = i by omega]
          simp only [Bool.and_false, Bool.false_and, Bool.or_false, Bool.true_and, Bool.false_or]
        · rw [decide_eq_false (by omega : ¬ (1 ≤ i ∧ i < 1 + 4)), show i = 0 by omega, bb_ev h3]
          simp only [Bool.and_false, Bool.false_and, Bool.or_false, Bool.true_and, Bool.false_or]
theorem jw_o {w o : Int32} (hc : ¬ w &&& 127 = 99) (h1 : -1048576 ≤ o.toInt) (h2 : o.toInt < 1048576) (h3 : o.toInt % 2 = 0) : f_M_offset (f_M_jumpWith w o) = o := by
  unfold f_M_offset
  rw [if_neg (fun z => hc ((jw_c w o).symm.trans z))]
  refine bb_ext fun i hi => ?_
  rw [bb_or, bb_or, bb_or, bb_shl (m := 20) (by decide) hi, sh31 _ (by omega), fxl 12 8 12 (by decide) (by decide) (by decide) (by decide) hi, fxl 20 1 11 (by decide) (by decide) (by decide) (by decide) hi, fxl 21 10 1 (by decide) (by decide) (by decide) (by decide) hi]
  by_cases c1 : 20 ≤ i
  · rw [decide_eq_true c1, decide_eq_false (by omega : ¬ (12 ≤ i ∧ i < 12 + 8)), decide_eq_false (by omega : ¬ (11 ≤ i ∧ i < 11 + 1)), decide_eq_false (by omega : ¬ (1 ≤ i ∧ i < 1 + 10)), jwb w o (by omega), if_neg (by omega), if_pos rfl, sx20 h1 h2 c1 hi]
    simp only [Bool.and_false, Bool.false_and, Bool.or_false, Bool.true_and, Bool.false_or]
  · rw [decide_eq_false c1]
    by_cases c2 : 12 ≤ i
    · rw [decide_eq_true (by omega : 12 ≤ i ∧ i < 12 + 8), decide_eq_false (by omega : ¬ (11 ≤ i ∧ i < 11 + 1)), decide_eq_false (by omega : ¬ (1 ≤ i ∧ i < 1 + 10)), show 12 + (i - 12) = i by omega, jwb w o hi, if_neg (by omega), if_neg (by omega), if_pos (by omega)]
      simp only [Bool.and_false, Bool.false_and, Bool.or_false, Bool.true_and, Bool.false_or]
    · rw [decide_eq_false (by omega : ¬ (12 ≤ i ∧ i < 12 + 8))]
      by_cases c3 : i = 11
      · rw [decide_eq_true (by omega : 11 ≤ i ∧ i < 11 + 1), decide_eq_false (by omega : ¬ (1 ≤ i ∧ i < 1 + 10)), show 20 + (i - 11) = 20 by omega, jwb w o (by omega : 20 < 32), if_neg (by omega), if_neg (by omega), if_neg (by omega), if_pos rfl, c3]
        simp only [Bool.and_false, Bool.false_and, Bool.or_false, Bool.true_and, Bool.false_or]
      · rw [decide_eq_false (by omega : ¬ (11 ≤ i ∧ i < 11 + 1))]
        by_cases c4 : 1 ≤ i
        · rw [decide_eq_true (by omega : 1 ≤ i ∧ i < 1 + 10), jwb w o (by omega : 21 + (i - 1) < 32), if_neg (by omega), if_neg (by omega), if_neg (by omega), if_neg (by omega), show 21 + (i - 1) - 20 = i by omega]
          simp only [Bool.and_false, Bool.false_and, Bool.or_false, Bool.true_and, Bool.false_or]
        · rw [decide_eq_false (by omega : ¬ (1 ≤ i ∧ i < 1 + 10)), show i = 0 by omega, bb_ev h3]
          simp only [Bool.and_false, Bool.false_and, Bool.or_false, Bool.true_and, Bool.false_or]
theorem kd_5 {w : Int32} (h : f_M_kindOf w = 5) : w &&& 127 = 99 := by
  unfold f_M_kindOf at h
  repeat' split at h
  all_goals first | assumption | exact absurd h (by decide)
theorem kd_6 {w : Int32} (h : f_M_kindOf w = 6) : w &&& 127 = 111 ∧ f_M_d w = 0 := by
  unfold f_M_kindOf at h
  repeat' split at h
  all_goals first | exact ⟨by assumption, by assumption⟩ | exact absurd h (by decide)
theorem kd_99 {w : Int32} (h : w &&& 127 = 99) : f_M_kindOf w = if f_M_f w < 2 then 5 else if f_M_f w ≤ 3 then -1 else 5 := by
  unfold f_M_kindOf
  rw [h]; rfl
theorem kd_111 {w : Int32} (h : w &&& 127 = 111) : f_M_kindOf w = if f_M_d w = 0 then 6 else -1 := by
  unfold f_M_kindOf
  rw [h]; rfl
theorem bw_k {w : Int32} (o : Int32) (h : f_M_kindOf w = 5) : f_M_kindOf (f_M_branchWith w o) = 5 := by
  have c := kd_5 h
  rw [kd_99 ((bw_c w o).trans c), bw_f, ← kd_99 c]; exact h
theorem jw_k {w : Int32} (o : Int32) (h : f_M_kindOf w = 6) : f_M_kindOf (f_M_jumpWith w o) = 6 := by
  have c := (kd_6 h).1
  rw [kd_111 ((jw_c w o).trans c), jw_d, ← kd_111 c]; exact h
theorem subI {a b : Nat} (ha : a ≤ 1040) (hb : b ≤ 1040) : (nI a - nI b).toInt = (a : Int) - b := by
  rw [Int32.toInt_sub, nI_toInt (by omega), nI_toInt (by omega), Int.bmod_eq_of_le (by omega) (by omega)]
theorem of4 {a b : Nat} (ha : a ≤ 1040) (hb : b ≤ 1040) : ((4 : Int32) * (nI a - nI b)).toInt = 4 * ((a : Int) - b) := by
  rw [Int32.toInt_mul, subI ha hb, show (4 : Int32).toInt = 4 by decide, Int.bmod_eq_of_le (by omega) (by omega)]
theorem of4d {a b : Nat} (ha : a ≤ 1040) (hb : b ≤ 1040) : nI b + (4 : Int32) * (nI a - nI b) / 4 = nI a := by
  refine Int32.toInt_inj.mp ?_
  have e : ((4 : Int32) * (nI a - nI b) / 4).toInt = (a : Int) - b := by
    rw [Int32.toInt_div, of4 ha hb, show (4 : Int32).toInt = 4 by decide, bi_td]
    by_cases c : 0 ≤ 4 * ((a : Int) - b)
    · rw [if_pos c, Int.bmod_eq_of_le (by omega) (by omega)]; omega
    · rw [if_neg c, Int.bmod_eq_of_le (by omega) (by omega)]; omega
  rw [Int32.toInt_add, e, nI_toInt (by omega), nI_toInt (by omega), Int.bmod_eq_of_le (by omega) (by omega)]; omega
theorem of43 {a b : Nat} (ha : a ≤ 1040) (hb : b ≤ 1040) : (4 : Int32) * (nI a - nI b) &&& 3 = 0 := by
  refine Int32.toInt_inj.mp ?_
  rw [bi_and3, of4 ha hb, bi_0]; omega
