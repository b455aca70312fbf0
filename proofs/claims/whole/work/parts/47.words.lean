theorem bi_r (x : Int32) : -2147483648 ≤ x.toInt ∧ x.toInt < 2147483648 := by
  have h1 := x.le_toInt
  have h2 := x.toInt_lt
  omega
theorem bi_0 : (0 : Int32).toInt = 0 := by decide
theorem bi_shr {x k : Int32} {m : Nat} (hk : ((k &&& 31).toBitVec.smod 32).toNat = m) : (x >>> (k &&& 31)).toInt = x.toInt / ((2 ^ m : Nat) : Int) := by
  show (x >>> (k &&& 31)).toBitVec.toInt = _
  rw [Int32.toBitVec_shiftRight, BitVec.sshiftRight_eq', hk, BitVec.toInt_sshiftRight, Int.shiftRight_eq_div_pow]
  rfl
theorem bi_and1 (x : Int32) : (x &&& 1).toInt = x.toInt % 2 := by
  have e : (x &&& 1).toBitVec.toNat = x.toBitVec.toNat % 2 := by
    rw [Int32.toBitVec_and, BitVec.toNat_and]
    exact Nat.and_two_pow_sub_one_eq_mod _ 1
  have hX := x.toBitVec.isLt
  have e1 : (x &&& 1).toInt = (x &&& 1).toBitVec.toInt := rfl
  have e2 : x.toInt = x.toBitVec.toInt := rfl
  rw [e1, e2, BitVec.toInt_eq_toNat_cond, BitVec.toInt_eq_toNat_cond, e]
  split <;> split <;> omega
theorem bi_and3 (x : Int32) : (x &&& 3).toInt = x.toInt % 4 := by
  have e : (x &&& 3).toBitVec.toNat = x.toBitVec.toNat % 4 := by
    rw [Int32.toBitVec_and, BitVec.toNat_and]
    exact Nat.and_two_pow_sub_one_eq_mod _ 2
  have hX := x.toBitVec.isLt
  have e1 : (x &&& 3).toInt = (x &&& 3).toBitVec.toInt := rfl
  have e2 : x.toInt = x.toBitVec.toInt := rfl
  rw [e1, e2, BitVec.toInt_eq_toNat_cond, BitVec.toInt_eq_toNat_cond, e]
  split <;> split <;> omega
theorem bi_and31 (x : Int32) : (x &&& 31).toInt = x.toInt % 32 := by
  have e : (x &&& 31).toBitVec.toNat = x.toBitVec.toNat % 32 := by
    rw [Int32.toBitVec_and, BitVec.toNat_and]
    exact Nat.and_two_pow_sub_one_eq_mod _ 5
  have hX := x.toBitVec.isLt
  have e1 : (x &&& 31).toInt = (x &&& 31).toBitVec.toInt := rfl
  have e2 : x.toInt = x.toBitVec.toInt := rfl
  rw [e1, e2, BitVec.toInt_eq_toNat_cond, BitVec.toInt_eq_toNat_cond, e]
  split <;> split <;> omega
theorem bi_and63 (x : Int32) : (x &&& 63).toInt = x.toInt % 64 := by
  have e : (x &&& 63).toBitVec.toNat = x.toBitVec.toNat % 64 := by
    rw [Int32.toBitVec_and, BitVec.toNat_and]
    exact Nat.and_two_pow_sub_one_eq_mod _ 6
  have hX := x.toBitVec.isLt
  have e1 : (x &&& 63).toInt = (x &&& 63).toBitVec.toInt := rfl
  have e2 : x.toInt = x.toBitVec.toInt := rfl
  rw [e1, e2, BitVec.toInt_eq_toNat_cond, BitVec.toInt_eq_toNat_cond, e]
  split <;> split <;> omega
theorem bi_td (z : Int) (n : Int) : z.tdiv n = if 0 ≤ z then z / n else -((-z) / n) := by
  split
  · exact Int.tdiv_eq_ediv_of_nonneg (by assumption)
  · rw [← Int.tdiv_eq_ediv_of_nonneg (by omega), Int.neg_tdiv, Int.neg_neg]
theorem bt_q4 (o : Int32) : o &&& 3 = 0 ↔ o - o / 4 * 4 = 0 := by
  have hr := bi_r o
  have h4 : (4 : Int32).toInt = 4 := by decide
  have hd : (o / 4).toInt = o.toInt.tdiv 4 := by rw [Int32.toInt_div_of_ne_right _ _ (by decide), h4]
  rw [← Int32.toInt_inj, ← Int32.toInt_inj, bi_and3, Int32.toInt_sub, Int32.toInt_mul, hd, h4, bi_0, bi_td]
  split
  · rw [Int.bmod_eq_of_le (m := 2 ^ 32) (n := o.toInt / 4 * 4) (by omega) (by omega), Int.bmod_eq_of_le (by omega) (by omega)]; omega
  · rw [Int.bmod_eq_of_le (m := 2 ^ 32) (n := -(-o.toInt / 4) * 4) (by omega) (by omega), Int.bmod_eq_of_le (by omega) (by omega)]; omega
theorem bt_q4s {o : Int32} (h : o &&& 3 = 0) : o >>> (2 &&& 31) = o / 4 := by
  have hr := bi_r o
  have h4 : (4 : Int32).toInt = 4 := by decide
  have hd : (o / 4).toInt = o.toInt.tdiv 4 := by rw [Int32.toInt_div_of_ne_right _ _ (by decide), h4]
  rw [← Int32.toInt_inj, bi_and3, bi_0] at h
  rw [← Int32.toInt_inj, bi_shr (m := 2) (by decide), hd, bi_td]
  split <;> omega
theorem bt_kr (w : Int32) : f_M_kindOf w = -1 ∨ ∃ k, k ≤ 8 ∧ f_M_kindOf w = Int32.ofNat k := by
  unfold f_M_kindOf
  repeat' split
  all_goals first | exact Or.inl rfl | exact Or.inr ⟨0, by decide, rfl⟩ | exact Or.inr ⟨1, by decide, rfl⟩ | exact Or.inr ⟨2, by decide, rfl⟩ | exact Or.inr ⟨3, by decide, rfl⟩ | exact Or.inr ⟨4, by decide, rfl⟩ | exact Or.inr ⟨5, by decide, rfl⟩ | exact Or.inr ⟨6, by decide, rfl⟩ | exact Or.inr ⟨7, by decide, rfl⟩ | exact Or.inr ⟨8, by decide, rfl⟩
def f_fo (w p n : Int32) : Int32 := if w &&& 127 = 103 then 1 else if w &&& 127 = 23 then 2 else if w &&& 127 = 111 ∧ ¬ f_M_d w = 0 then 3 else if f_M_kindOf w = -1 then 4 else if f_M_kindOf w = 5 ∨ f_M_kindOf w = 6 then (if f_M_offset w &&& 3 = 0 ∧ ¬ p + f_M_offset w / 4 < 0 ∧ ¬ n < p + f_M_offset w / 4 then 0 else 5) else 0
theorem bt_inside (p o n : Int32) : f_Word_goesInside p o n = if o &&& 3 = 0 ∧ ¬ p + o / 4 < 0 ∧ ¬ n < p + o / 4 then 1 else 0 := by
  unfold f_Word_goesInside
  by_cases h : o &&& 3 = 0
  · rw [if_pos h, bt_q4s h]
    by_cases h1 : p + o / 4 < 0
    · rw [if_pos h1, if_neg (fun z => z.2.1 h1)]
    · rw [if_neg h1]
      by_cases h2 : n < p + o / 4
      · rw [if_pos h2, if_neg (fun z => z.2.2 h2)]
      · rw [if_neg h2, if_pos ⟨h, h1, h2⟩]
  · rw [if_neg h, if_neg (fun z => h z.1)]
theorem bt_fault (w p n : Int32) : f_Word_fault w p n = f_fo w p n := by
  unfold f_Word_fault f_fo
  simp only [gd_j1, gd_t1, f_Word_code, bt_kind, bt_d, bt_off, bt_inside]
  by_cases h1 : w &&& 127 = 103
  · rw [if_pos h1, if_pos h1]
  rw [if_neg h1, if_neg h1]
  by_cases h2 : w &&& 127 = 23
  · rw [if_pos h2, if_pos h2]
  rw [if_neg h2, if_neg h2]
  by_cases h3 : w &&& 127 = 111 ∧ ¬ f_M_d w = 0
  · rw [if_pos h3.1, if_neg h3.2, if_pos h3]
  rw [if_neg h3]
  have e : ∀ x : Int32, (if w &&& 127 = 111 then if f_M_d w = 0 then x else 3 else x) = x := by
    intro x
    by_cases h4 : w &&& 127 = 111
    · rw [if_pos h4, if_pos (Decidable.not_not.mp fun z => h3 ⟨h4, z⟩)]
    · rw [if_neg h4]
  rw [e]
  by_cases h5 : f_M_kindOf w = -1
  · rw [if_pos h5, if_pos h5]
  rw [if_neg h5, if_neg h5]
  by_cases h6 : f_M_kindOf w = 5
  · rw [if_pos h6, if_pos (Or.inl h6), if_neg (by decide)]
    by_cases h7 : f_M_offset w &&& 3 = 0 ∧ ¬ p + f_M_offset w / 4 < 0 ∧ ¬ n < p + f_M_offset w / 4
    · rw [if_pos h7, if_pos h7, if_neg (by decide)]
    · rw [if_neg h7, if_neg h7, if_pos rfl]
  · by_cases h8 : f_M_kindOf w = 6
    · rw [if_neg h6, if_pos h8, if_pos (Or.inr h8), if_neg (by decide)]
      by_cases h7 : f_M_offset w &&& 3 = 0 ∧ ¬ p + f_M_offset w / 4 < 0 ∧ ¬ n < p + f_M_offset w / 4
      · rw [if_pos h7, if_pos h7, if_neg (by decide)]
      · rw [if_neg h7, if_neg h7, if_pos rfl]
    · rw [if_neg h6, if_neg h8, if_pos rfl, if_neg (show ¬ (f_M_kindOf w = 5 ∨ f_M_kindOf w = 6) from fun z => z.elim h6 h8)]
theorem br_kind {p : Int32} {σ : gS} (h : gd_in p 1040) : R_M_kind p σ = some (.inl (some (.int (f_M_kindOf (gA σ 42 p.toNatClampNeg))))) := by
  unfold R_M_kind; rw [gd_gI h]
theorem br_target {p : Int32} {σ : gS} (h : gd_in p 1040) : R_M_target p σ = some (.inl (some (.int (p + f_M_offset (gA σ 42 p.toNatClampNeg) / 4)))) := by
  unfold R_M_target; rw [gd_gI h]
theorem br_fault {p : Int32} {σ : gS} (h : gd_in p 1040) : R_M_faultOf p σ = some (.inl (some (.int (f_fo (gA σ 42 p.toNatClampNeg) p (gI σ 41 2))))) := by
  have hq := bt_q4 (f_M_offset (gA σ 42 p.toNatClampNeg))
  have hk := bt_kr (gA σ 42 p.toNatClampNeg)
  unfold R_M_faultOf f_fo
  simp only [gd_gI h, gd_j1, br_kind h, br_target h, gd_pi1]
  generalize gA σ 42 p.toNatClampNeg = w at *
  by_cases h1 : w &&& 127 = 103
  · simp only [if_pos h1]
  simp only [if_neg h1]
  by_cases h2 : w &&& 127 = 23
  · simp only [if_pos h2]
  simp only [if_neg h2]
  by_cases h3 : w &&& 127 = 111 ∧ ¬ f_M_d w = 0
  · simp only [if_pos h3.1, if_neg h3.2, if_pos h3]
  rw [if_neg h3]
  have e : ∀ x : gP, (if w &&& 127 = 111 then if f_M_d w = 0 then x else some (.inl (some (.int 3))) else x) = x := by
    intro x
    by_cases h4 : w &&& 127 = 111
    · rw [if_pos h4, if_pos (Decidable.not_not.mp fun z => h3 ⟨h4, z⟩)]
    · rw [if_neg h4]
  rw [e]
  have hj : ∀ y : Int32, (if f_M_offset w - f_M_offset w / 4 * 4 = 0 then if p + f_M_offset w / 4 < 0 then some (.inl (some (.int 5))) else if p + f_M_offset w / 4 ≤ y then some (.inl (some (.int 0))) else some (.inl (some (.int 5))) else some (.inl (some (.int 5))) : gP) = some (.inl (some (.int (if f_M_offset w &&& 3 = 0 ∧ ¬ p + f_M_offset w / 4 < 0 ∧ ¬ y < p + f_M_offset w / 4 then 0 else 5)))) := by
    intro y
    by_cases g1 : f_M_offset w &&& 3 = 0
    · rw [if_pos (hq.mp g1)]
      by_cases g2 : p + f_M_offset w / 4 < 0
      · rw [if_pos g2, if_neg (fun z => z.2.1 g2)]
      · rw [if_neg g2]
        by_cases g3 : p + f_M_offset w / 4 ≤ y
        · rw [if_pos g3, if_pos ⟨g1, g2, Int32.not_lt.mpr g3⟩]
        · rw [if_neg g3, if_neg (fun z => g3 (Int32.not_lt.mp z.2.2))]
    · rw [if_neg (fun z => g1 (hq.mpr z)), if_neg (fun z => g1 z.1)]
  rw [hj]
  by_cases h5 : f_M_kindOf w = -1
  · rw [h5]; rfl
  rw [if_neg h5]
  by_cases h6 : f_M_kindOf w = 5
  · rw [if_pos h6, if_pos (Or.inl h6)]
  by_cases h8 : f_M_kindOf w = 6
  · rw [if_neg h6, if_pos h8, if_pos (Or.inr h8)]
  rw [if_neg h6, if_neg h8, if_neg (show ¬ (f_M_kindOf w = 5 ∨ f_M_kindOf w = 6) from fun z => z.elim h6 h8)]
  rcases hk with hk | ⟨k, hk, e⟩
  · exact absurd hk h5
  · have h0 : (0 : Int32) ≤ Int32.ofNat k := (ai_le (a := 0) (by omega) (by omega)).mpr (by omega)
    rw [e, if_pos h0]
