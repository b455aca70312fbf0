theorem al_b8 (z : Int32) : (Int32.toInt8 z).toInt32 &&& 255 = z &&& (255 : Int32) := by
  refine bb_ext fun i hi => ?_
  rw [bb_and, bb_and, (by decide : ∀ i, i < 32 → bb 255 i = decide (i < 8)) i hi]
  by_cases h : i < 8
  · have e : bb (Int32.toInt8 z).toInt32 i = ((z.toBitVec.signExtend 8).signExtend 32).getLsbD i := rfl
    rw [e, BitVec.getLsbD_signExtend, BitVec.getLsbD_signExtend, if_pos h, if_pos hi, decide_eq_true h, decide_eq_true hi]
    rfl
  · rw [decide_eq_false h, Bool.and_false, Bool.and_false]
theorem mc_vb (v : Int32) {i : Nat} (hi : i < 4) : fits .byte (.int (mc_vc v i)) = true ∧ mc_vc v i &&& 255 = mc_vr v i := by
  unfold mc_vc mc_vr
  rw [pk_vb]
  refine ⟨pk_fb _, ?_⟩
  rw [al_b8]
  have : i = 0 ∨ i = 1 ∨ i = 2 ∨ i = 3 := by omega
  rcases this with rfl | rfl | rfl | rfl
  · exact bt_mask v (8 * nI 0) 255 0 8 (by decide) (by decide) (by decide) (by decide)
  · exact bt_mask v (8 * nI 1) 255 8 8 (by decide) (by decide) (by decide) (by decide)
  · exact bt_mask v (8 * nI 2) 255 16 8 (by decide) (by decide) (by decide) (by decide)
  · exact bt_mask v (8 * nI 3) 255 24 8 (by decide) (by decide) (by decide) (by decide)
theorem al_and32 (b : Int32) : (Int32.toInt64 b &&& 4294967295).toInt = (b.toBitVec.toNat : Int) := by
  have e : (Int32.toInt64 b &&& 4294967295).toBitVec.toNat = b.toBitVec.toNat := by
    rw [Int64.toBitVec_and, BitVec.toNat_and]
    have h2 : (Int32.toInt64 b).toBitVec = b.toBitVec.signExtend 64 := rfl
    rw [h2]
    have h3 := Nat.and_two_pow_sub_one_eq_mod (b.toBitVec.signExtend 64).toNat 32
    refine h3.trans ?_
    rw [BitVec.toNat_signExtend]
    have hb := b.toBitVec.isLt
    rw [BitVec.toNat_setWidth]
    split <;> omega
  have hb := b.toBitVec.isLt
  have e1 : (Int32.toInt64 b &&& 4294967295).toInt = (Int32.toInt64 b &&& 4294967295).toBitVec.toInt := rfl
  rw [e1, BitVec.toInt_eq_toNat_cond, e, if_pos (by omega)]
theorem al_shr {x : Int64} {k : Int64} {m : Nat} (hk : ((k &&& 63).toBitVec.smod 64).toNat = m) : (x >>> (k &&& 63)).toInt = x.toInt / ((2 ^ m : Nat) : Int) := by
  show (x >>> (k &&& 63)).toBitVec.toInt = _
  rw [Int64.toBitVec_shiftRight, BitVec.sshiftRight_eq', hk, BitVec.toInt_sshiftRight, Int.shiftRight_eq_div_pow]
  rfl
theorem al_and16 (x : Int64) : (x &&& 65535).toInt = x.toInt % 65536 := by
  have e : (x &&& 65535).toBitVec.toNat = x.toBitVec.toNat % 65536 := by
    rw [Int64.toBitVec_and, BitVec.toNat_and]
    exact Nat.and_two_pow_sub_one_eq_mod _ 16
  have hX := x.toBitVec.isLt
  have e1 : (x &&& 65535).toInt = (x &&& 65535).toBitVec.toInt := rfl
  have e2 : x.toInt = x.toBitVec.toInt := rfl
  rw [e1, e2, BitVec.toInt_eq_toNat_cond, BitVec.toInt_eq_toNat_cond, e]
  split <;> split <;> omega
theorem al_bm (x : Int) (m : Nat) : ∃ k : Int, x.bmod m = x - m * k := ⟨x.bdiv m, by have := Int.bdiv_add_bmod x m; omega⟩
theorem al_hi {U V H L : Int} (hU : U = 65536 * H + L) : (H * V + L * V / 65536) / 65536 = U * V / 4294967296 := by
  have e : U * V = L * V + H * V * 65536 := by subst hU; rw [Int.add_mul, Int.mul_assoc 65536 H V, Int.mul_comm 65536 (H * V), Int.add_comm]
  have e2 : U * V / 65536 = L * V / 65536 + H * V := by rw [e, Int.add_mul_ediv_right _ _ (by decide)]
  rw [show (4294967296 : Int) = 65536 * 65536 by decide, ← Int.ediv_ediv_of_nonneg (by decide), e2, Int.add_comm]
theorem al_mulh {u v : Int64} (hu : -2147483648 ≤ u.toInt ∧ u.toInt < 4294967296) (hv : -2147483648 ≤ v.toInt ∧ v.toInt < 4294967296) :
    Int64.toInt32 ((u * v) >>> (Int32.toInt64 32 &&& 63)) = Int64.toInt32 ((((u >>> (Int32.toInt64 16 &&& 63)) * v) + (((u &&& 65535) * v) >>> (Int32.toInt64 16 &&& 63))) >>> (Int32.toInt64 16 &&& 63)) := by
  rw [← Int32.toInt_inj, Int64.toInt_toInt32, Int64.toInt_toInt32, al_shr (m := 32) (by decide), al_shr (m := 16) (by decide), Int64.toInt_mul, Int64.toInt_add, Int64.toInt_mul, al_shr (m := 16) (by decide), al_shr (m := 16) (by decide), Int64.toInt_mul, al_and16]
  obtain ⟨k, hk⟩ := al_bm (u.toInt * v.toInt) (2 ^ 64)
  rw [hk]
  generalize hU : u.toInt = U at *
  generalize hV : v.toInt = V at *
  have hL : 0 ≤ U % 65536 := Int.emod_nonneg U (by decide)
  have hL2 : U % 65536 < 65536 := Int.emod_lt_of_pos U (by decide)
  have hH1 : -32768 ≤ U / 65536 := by omega
  have hH2 : U / 65536 < 65536 := by omega
  have b1 : -(281474976710656 : Int) ≤ U / 65536 * V ∧ U / 65536 * V ≤ 281474976710656 := by
    generalize U / 65536 = H at *
    rcases Int.le_total 0 H with h | h
    · have h1 := Int.mul_le_mul_of_nonneg_left hv.1 h
      have h2 := Int.mul_le_mul_of_nonneg_left (Int.le_of_lt hv.2) h
      omega
    · have h1 := Int.mul_le_mul_of_nonpos_left h hv.1
      have h2 := Int.mul_le_mul_of_nonpos_left h (Int.le_of_lt hv.2)
      omega
  have b2 : -(281474976710656 : Int) ≤ U % 65536 * V ∧ U % 65536 * V ≤ 281474976710656 := by
    generalize U % 65536 = L at *
    have h1 := Int.mul_le_mul_of_nonneg_left hv.1 hL
    have h2 := Int.mul_le_mul_of_nonneg_left (Int.le_of_lt hv.2) hL
    omega
  have hq := al_hi (U := U) (V := V) (H := U / 65536) (L := U % 65536) (by omega)
  have p16 : ((2 ^ 16 : Nat) : Int) = 65536 := by decide
  have p32 : ((2 ^ 32 : Nat) : Int) = 4294967296 := by decide
  have p64 : ((2 ^ 64 : Nat) : Int) = 18446744073709551616 := by decide
  rw [p16, p32, p64, Int.bmod_eq_of_le (m := 2 ^ 64) (n := U / 65536 * V) (by omega) (by omega), Int.bmod_eq_of_le (m := 2 ^ 64) (n := U % 65536 * V) (by omega) (by omega)]
  rw [Int.bmod_eq_of_le (m := 2 ^ 64) (n := U / 65536 * V + U % 65536 * V / 65536) (by omega) (by omega), hq]
  have e3 : (U * V - 18446744073709551616 * k) / 4294967296 = U * V / 4294967296 - 4294967296 * k := by omega
  rw [e3]
  have e4 : U * V / 4294967296 - 4294967296 * k = U * V / 4294967296 + ((2 ^ 32 : Nat) : Int) * (-k) := by rw [p32]; omega
  rw [e4, Int.add_mul_bmod_self_left]
theorem al_srl (b : Int32) {k : Nat} (hk : k < 32) : (Int32.toUInt32 b >>> (Int32.toUInt32 (nI k) &&& Int32.toUInt32 31)).toInt32 = Int64.toInt32 ((Int32.toInt64 b &&& 4294967295) >>> (Int32.toInt64 (nI k) &&& 63)) := by
  have h1 : ((Int32.toUInt32 (nI k) &&& Int32.toUInt32 31).toBitVec % 32).toNat = k := (by decide : ∀ k, k < 32 → ((Int32.toUInt32 (nI k) &&& Int32.toUInt32 31).toBitVec % 32).toNat = k) k hk
  have h2 : ((Int32.toInt64 (nI k) &&& 63).toBitVec.smod 64).toNat = k := (by decide : ∀ k, k < 32 → ((Int32.toInt64 (nI k) &&& 63).toBitVec.smod 64).toNat = k) k hk
  have e := pk_ushr b (nI k) k h1
  rw [← Int32.toInt_inj, Int64.toInt_toInt32, al_shr h2, al_and32]
  show (Int32.toUInt32 b >>> (Int32.toUInt32 (nI k) &&& Int32.toUInt32 31)).toInt32.toBitVec.toInt = _
  rw [BitVec.toInt_eq_toNat_bmod, e]
  rfl
theorem al_64 (x : Int32) : -2147483648 ≤ (Int32.toInt64 x).toInt ∧ (Int32.toInt64 x).toInt < 4294967296 := by
  rw [Int32.toInt_toInt64]
  have := bi_r x
  omega
theorem al_lo (x : Int32) : -2147483648 ≤ (Int32.toInt64 x &&& 4294967295).toInt ∧ (Int32.toInt64 x &&& 4294967295).toInt < 4294967296 := by
  rw [al_and32]
  have := x.toBitVec.isLt
  omega
theorem al_mul {k : Nat} (hk : k < 4) (x y : Int32) : f_Arithmetic_product (8 + nI k) x y = f_M_multiplied (nI k) x y := by
  have : k = 0 ∨ k = 1 ∨ k = 2 ∨ k = 3 := by omega
  rcases this with rfl | rfl | rfl | rfl
  · show x * y = Int64.toInt32 (Int32.toInt64 x * Int32.toInt64 y)
    rw [Int64.toInt32_mul, Int32.toInt32_toInt64, Int32.toInt32_toInt64]
  · exact al_mulh (al_64 x) (al_64 y)
  · exact al_mulh (al_64 x) (al_lo y)
  · exact al_mulh (al_lo x) (al_lo y)
def mc_dv (h x y : Int32) : Int32 := if y = 0 then (if h ≤ 5 then -1 else x) else (if h = 5 ∨ h = 7 then (if h ≤ 5 then Int64.toInt32 ((Int32.toInt64 x &&& 4294967295) / (Int32.toInt64 y &&& 4294967295)) else Int64.toInt32 ((Int32.toInt64 x &&& 4294967295) - (Int32.toInt64 x &&& 4294967295) / (Int32.toInt64 y &&& 4294967295) * (Int32.toInt64 y &&& 4294967295))) else (if h ≤ 5 then Int64.toInt32 (Int32.toInt64 x / Int32.toInt64 y) else Int64.toInt32 (Int32.toInt64 x - Int32.toInt64 x / Int32.toInt64 y * Int32.toInt64 y)))
theorem al_n1 {y : Int32} (h : ¬ y = 0) : ¬ Int32.toInt64 y = 0 := by
  intro z
  have := congrArg Int64.toInt z
  rw [Int32.toInt_toInt64] at this
  exact h (Int32.toInt_inj.mp (this.trans (by decide)))
theorem al_n2 {y : Int32} (h : ¬ y = 0) : ¬ Int32.toInt64 y &&& 4294967295 = 0 := by
  intro z
  have := congrArg Int64.toInt z
  rw [al_and32] at this
  have h0 : (0 : Int64).toInt = 0 := by decide
  refine h (Int32.toBitVec_inj.mp (BitVec.eq_of_toNat_eq ?_))
  show y.toBitVec.toNat = 0
  omega
theorem al_dr {k : Nat} (hk : 4 ≤ k ∧ k < 8) (x y : Int32) (σ : gS) : R_M_divided (nI k) x y σ = some (.inl (some (.int (mc_dv (nI k) x y)))) := by
  have : k = 4 ∨ k = 5 ∨ k = 6 ∨ k = 7 := by omega
  unfold R_M_divided mc_dv
  simp only [gd_t1, gd_j1]
  by_cases h : y = 0
  · rw [if_pos h, if_pos h]
    rcases this with rfl | rfl | rfl | rfl <;> rfl
  · rw [if_neg h, if_neg h]
    rcases this with rfl | rfl | rfl | rfl
    · exact gd_gI (al_n1 h)
    · exact gd_gI (al_n2 h)
    · exact gd_gI (al_n1 h)
    · exact gd_gI (al_n2 h)
theorem al_c0 (x : Int64) : lg_cmp x 0 = 0 ↔ x = 0 := by
  unfold lg_cmp
  by_cases h : x = 0
  · subst h; decide
  · rw [if_neg h]
    constructor
    · intro z
      split at z <;> exact absurd z (by decide)
    · intro z; exact absurd z h
theorem al_dc {k : Nat} (hk : 4 ≤ k ∧ k < 8) (x y : Int32) (σ : gS) : R_Arithmetic_quotient (8 + nI k) x y σ = some (.inl (some (.int (mc_dv (nI k) x y)))) := by
  have : k = 4 ∨ k = 5 ∨ k = 6 ∨ k = 7 := by omega
  unfold R_Arithmetic_quotient mc_dv
  simp only [gd_t1, gd_j1]
  by_cases h : y = 0
  · subst h
    rcases this with rfl | rfl | rfl | rfl <;> rfl
  · rw [if_neg h]
    rcases this with rfl | rfl | rfl | rfl
    · exact (if_neg (fun z => al_n1 h ((al_c0 _).mp z))).trans (gd_gI (al_n1 h))
    · exact (if_neg (fun z => al_n2 h ((al_c0 _).mp z))).trans (gd_gI (al_n2 h))
    · exact (if_neg (fun z => al_n1 h ((al_c0 _).mp z))).trans (gd_gI (al_n1 h))
    · exact (if_neg (fun z => al_n2 h ((al_c0 _).mp z))).trans (gd_gI (al_n2 h))
theorem al_less (x y : Int32) : (if y ≤ x then (some (.inl (some (.int 0))) : gP) else some (.inl (some (.int 1)))) = some (.inl (some (.int (if f_M_less x y 0 = 0 then 0 else 1)))) := by
  unfold f_M_less
  rw [if_pos rfl]
  by_cases h : y ≤ x
  · rw [if_pos h, if_pos h]; rfl
  · rw [if_neg h, if_neg h]; rfl
theorem al_an (x y : Int32) (σ : gS) {k : Nat} (hk : k < 8) : R_Arithmetic_answer (nI k) x y σ = some (.inl (some (.int (f_M_made (nI k) x y 0)))) := by
  have : k = 0 ∨ k = 1 ∨ k = 2 ∨ k = 3 ∨ k = 4 ∨ k = 5 ∨ k = 6 ∨ k = 7 := by omega
  obtain ⟨j, hj, ej⟩ := bn_and y 31 31 (by decide)
  have ej : y &&& (31 : Int32) = nI j := ej
  unfold R_Arithmetic_answer f_M_made
  simp only [gd_j1]
  rcases this with rfl | rfl | rfl | rfl | rfl | rfl | rfl | rfl
  · rfl
  · rfl
  · exact al_less x y
  · show (if f_Arithmetic_lessUnsigned x y = 0 then (some (.inl (some (.int 0))) : gP) else some (.inl (some (.int 1)))) = some (.inl (some (.int (if f_M_less x y 1 = 0 then 0 else 1))))
    have e : f_M_less x y 1 = f_Arithmetic_lessUnsigned x y := rfl
    rw [e]
    by_cases h : f_Arithmetic_lessUnsigned x y = 0
    · rw [if_pos h, if_pos h]
    · rw [if_neg h, if_neg h]
  · rfl
  · show (some (.inl (some (.int ((Int32.toUInt32 x >>> (Int32.toUInt32 (y &&& (31 : Int32)) &&& Int32.toUInt32 31)).toInt32)))) : gP) = some (.inl (some (.int (Int64.toInt32 ((Int32.toInt64 x &&& (4294967295 : Int64)) >>> (Int32.toInt64 (y &&& (31 : Int32)) &&& 63))))))
    rw [ej, al_srl x (by omega)]
  · rfl
  · rfl
theorem al_k0 {w : Int32} (h : f_M_kindOf w = 0) : f_M_g w = 0 ∨ f_M_g w = 1 ∨ (f_M_g w = 32 ∧ (f_M_f w = 0 ∨ f_M_f w = 5)) := by
  unfold f_M_kindOf at h
  repeat' split at h
  all_goals first | exact absurd h (by decide) | (first | exact Or.inl (by assumption) | exact Or.inr (Or.inl (by assumption)) | exact Or.inr (Or.inr ⟨by assumption, Or.inl (by assumption)⟩) | exact Or.inr (Or.inr ⟨by assumption, Or.inr (by assumption)⟩))
def mc_al (w x y : Int32) : Int32 := if f_M_g w = 1 then (if 4 ≤ f_M_f w then mc_dv (f_M_f w) x y else f_M_multiplied (f_M_f w) x y) else f_M_made (f_M_f w) x y (if f_M_g w = 32 then 1 else 0)
def mc_ob (a f g : Int32) : Int32 :=
 gd_j (α := Int32) (
  gd_j (α := Int32) (
   gd_t (α := Int32) (if f = 5 then
     if g = 32 then
      1
     else
      0
    else
     0) fun v4 =>
   if v4 = 0 then
    f
   else
    if a = 0 then
     17
    else
     if a = 1 then
      17
     else
      f) fun J2 =>
  if a = 0 then
   if g = 32 then
    if f = 0 then
     16
    else
     J2
   else
    J2
  else
   J2) fun J1 =>
 if a = 0 then
  if g = 1 then
   8 + f
  else
   J1
 else
  J1
theorem al_ob (a w : Int32) : f_Listing_operationOf a w = mc_ob a (f_M_f w) (f_M_g w) := by
  rw [← bt_f, ← bt_g]; rfl
theorem al_o0 : ∀ k, k ≤ 7 → mc_ob 0 (nI k) 0 = nI k := by decide
theorem al_o1 : ∀ k, k ≤ 7 → mc_ob 0 (nI k) 1 = 8 + nI k := by decide
theorem al_reg {w : Int32} (h : f_M_kindOf w = 0) (x y : Int32) (σ : gS) : R_Arithmetic_answer (f_Listing_operationOf 0 w) x y σ = some (.inl (some (.int (mc_al w x y)))) := by
  obtain ⟨k, hk, e⟩ := sp_fl w
  unfold mc_al
  rw [al_ob, e]
  rcases al_k0 h with hg | hg | ⟨hg, hf⟩
  · rw [hg, al_o0 k hk, al_an x y σ (by omega : k < 8)]
    rfl
  · rw [hg, al_o1 k hk, if_pos rfl]
    by_cases h4 : 4 ≤ k
    · have hc : 4 ≤ nI k := (gi_le (a := 4) (by omega) (by omega)).mpr h4
      rw [if_pos hc, ← al_dc (by omega) x y σ]
      have : k = 4 ∨ k = 5 ∨ k = 6 ∨ k = 7 := by omega
      have key : ∀ z : gP, (∃ r, z = some (.inl (some (.int r)))) → (gd_pi z fun r2 => some (.inl (some (.int r2)))) = z := by
        rintro z ⟨r, rfl⟩; rfl
      have hz : ∃ r, R_Arithmetic_quotient (8 + nI k) x y σ = some (.inl (some (.int r))) := ⟨_, al_dc (by omega) x y σ⟩
      refine Eq.trans ?_ (key _ hz)
      rcases this with rfl | rfl | rfl | rfl <;> rfl
    · have hc : ¬ 4 ≤ nI k := fun z => h4 ((gi_le (a := 4) (by omega) (by omega)).mp z)
      rw [if_neg hc, ← al_mul (by omega) x y]
      have : k = 0 ∨ k = 1 ∨ k = 2 ∨ k = 3 := by omega
      rcases this with rfl | rfl | rfl | rfl <;> rfl
  · rw [hg]
    rw [e] at hf
    rcases hf with hf | hf
    · rw [hf]; rfl
    · rw [hf]; rfl
theorem al_imm (w x y : Int32) (σ : gS) : R_Arithmetic_answer (f_Listing_operationOf 1 w) x y σ = some (.inl (some (.int (f_M_made (f_M_f w) x y (if f_M_f w = 5 then (if f_M_g w = 32 then 1 else 0) else 0))))) := by
  obtain ⟨k, hk, e⟩ := sp_fl w
  rw [al_ob, e]
  by_cases h5 : nI k = 5
  · rw [h5]
    by_cases hg : f_M_g w = 32
    · rw [hg]; rfl
    · rw [if_pos rfl, if_neg hg]
      have e1 : mc_ob 1 5 (f_M_g w) = 5 := by
        unfold mc_ob
        simp only [gd_j1, gd_t1]
        rw [if_neg (show ¬ (1 : Int32) = 0 by decide), if_neg (show ¬ (1 : Int32) = 0 by decide), if_pos trivial, if_neg hg, if_pos rfl]
      rw [e1]
      exact al_an x y σ (k := 5) (by omega)
  · rw [if_neg h5, ← al_an x y σ (by omega : k < 8)]
    have e1 : mc_ob 1 (nI k) (f_M_g w) = nI k := by
      unfold mc_ob
      simp only [gd_j1, gd_t1]
      rw [if_neg (show ¬ (1 : Int32) = 0 by decide), if_neg (show ¬ (1 : Int32) = 0 by decide), if_neg h5, if_pos rfl]
    rw [e1]
