def mc_rd (mm : Nat → Int32) (st : Nat) : Nat → Int32 → Int32
  | 0, v => v
  | i + 1, v => mc_rd mm st i ((v <<< ((8 : Int32) &&& 31)) ||| mm (st + i))
def mc_st (a : Int32) (b : Nat) : Nat := (a &&& (256 - nI b)).toNatClampNeg
def mc_b (b : Nat) : Prop := b = 1 ∨ b = 2 ∨ b = 4
theorem mc_sb {b : Nat} (h : mc_b b) (a : Int32) : a &&& (256 - nI b) = nI (mc_st a b) ∧ mc_st a b + b ≤ 256 := by
  rcases h with rfl | rfl | rfl
  · obtain ⟨k, hk, e⟩ := bn_and a (256 - nI 1) 255 (by decide)
    have e : a &&& (256 - nI 1) = nI k := e
    unfold mc_st
    rw [e, gi_cl (by omega)]
    exact ⟨rfl, by omega⟩
  · obtain ⟨k, hk, e⟩ := bn_and a (256 - nI 2) 254 (by decide)
    have e : a &&& (256 - nI 2) = nI k := e
    unfold mc_st
    rw [e, gi_cl (by omega)]
    exact ⟨rfl, by omega⟩
  · obtain ⟨k, hk, e⟩ := bn_and a (256 - nI 4) 252 (by decide)
    have e : a &&& (256 - nI 4) = nI k := e
    unfold mc_st
    rw [e, gi_cl (by omega)]
    exact ⟨rfl, by omega⟩
theorem mc_m1 (j : Nat) : nI (j + 1) - 1 = nI j := nI_pred j
theorem mc_dn (x : Int32) : x + (-1) = x - 1 := (Int32.sub_eq_add_neg x 1).symm
theorem mc_readC {b : Nat} (hb : mc_b b) (a : Int32) (σ : gS) : R_Machine_read a (nI b) σ = some (.inl (some (.int (mc_rd (fun a => gA σ 12 a &&& 255) (mc_st a b) b 0)))) := by
  have h := mc_sb hb a
  have hb4 : b ≤ 4 := by rcases hb with rfl | rfl | rfl <;> omega
  unfold R_Machine_read
  rw [h.1]
  refine gd_it2 (I := fun m v i => ∃ j, j ≤ b ∧ m = j ∧ i = nI j - 1 ∧ mc_rd (fun a => gA σ 12 a &&& 255) (mc_st a b) j v = mc_rd (fun a => gA σ 12 a &&& 255) (mc_st a b) b 0) (E := fun (r : gP) => r = some (.inl (some (.int (mc_rd (fun a => gA σ 12 a &&& 255) (mc_st a b) b 0))))) ?_ gd_N b 0 (nI b - 1) ⟨b, Nat.le_refl b, rfl, rfl, rfl⟩ (gd_Nlt (by omega))
  rintro m v i ag ⟨j, hj, rfl, rfl, e⟩
  unfold B_Machine_read_16
  cases m with
  | zero =>
    rw [if_pos (by decide)]
    refine Or.inr ?_
    rw [← e]
    rfl
  | succ j =>
    rw [mc_m1, if_neg (nI_pos (by omega)), nI_add, gd_gI (gi_in (by omega) (by omega)), gi_cl (by omega), mc_dn]
    exact Or.inl ⟨_, _, j, by omega, ⟨j, by omega, rfl, rfl, e⟩, rfl⟩
theorem mc_readR {b : Nat} (hb : mc_b b) (a : Int32) (σ : gS) : R_M_read a (nI b) σ = some (.inl (some (.int (mc_rd (fun a => gA σ 45 a) (mc_st a b) b 0)))) := by
  have h := mc_sb hb a
  have hb4 : b ≤ 4 := by rcases hb with rfl | rfl | rfl <;> omega
  unfold R_M_read
  rw [h.1]
  refine gd_it2 (I := fun m v i => ∃ j, j ≤ b ∧ m = j ∧ i = nI j - 1 ∧ mc_rd (fun a => gA σ 45 a) (mc_st a b) j v = mc_rd (fun a => gA σ 45 a) (mc_st a b) b 0) (E := fun (r : gP) => r = some (.inl (some (.int (mc_rd (fun a => gA σ 45 a) (mc_st a b) b 0))))) ?_ gd_N b 0 (nI b - 1) ⟨b, Nat.le_refl b, rfl, rfl, rfl⟩ (gd_Nlt (by omega))
  rintro m v i ag ⟨j, hj, rfl, rfl, e⟩
  unfold B_M_read_16
  cases m with
  | zero =>
    rw [if_pos (by decide)]
    refine Or.inr ?_
    rw [← e]
    rfl
  | succ j =>
    rw [mc_m1, if_neg (nI_pos (by omega)), nI_add, gd_gI (gi_in (by omega) (by omega)), gi_cl (by omega), mc_dn]
    exact Or.inl ⟨_, _, j, by omega, ⟨j, by omega, rfl, rfl, e⟩, rfl⟩
theorem mc_rd_congr {f g : Nat → Int32} {st : Nat} : ∀ (j : Nat) (v : Int32), (∀ i, i < j → f (st + i) = g (st + i)) → mc_rd f st j v = mc_rd g st j v
  | 0, _, _ => rfl
  | j + 1, v, h => by
    show mc_rd f st j _ = mc_rd g st j _
    rw [h j (by omega)]
    exact mc_rd_congr j _ (fun i hi => h i (by omega))
def mc_put (f : Nat → Int32) (st b : Nat) (g : Nat → Int32) : Nat → Int32 := fun a => if st ≤ a ∧ a < st + b then g (a - st) else f a
theorem mc_put0 (f : Nat → Int32) (st : Nat) (g : Nat → Int32) (a : Nat) : mc_put f st 0 g a = f a := if_neg (by omega)
theorem mc_put1 (f : Nat → Int32) (st b : Nat) (g : Nat → Int32) (a : Nat) : mc_put f st (b + 1) g a = if a = st + b then g b else mc_put f st b g a := by
  unfold mc_put
  by_cases h : a = st + b
  · rw [if_pos h, if_pos (by omega), show a - st = b by omega]
  · rw [if_neg h]
    by_cases h2 : st ≤ a ∧ a < st + b
    · rw [if_pos h2, if_pos (by omega)]
    · rw [if_neg h2, if_neg (by omega)]
def mc_vc (v : Int32) (i : Nat) : Int32 := vp_nar .byte ((Int32.toInt8 ((Int32.toUInt32 v >>> (Int32.toUInt32 ((8 : Int32) * nI i) &&& Int32.toUInt32 31)).toInt32)).toInt32)
def mc_vr (v : Int32) (i : Nat) : Int32 := (v >>> (((8 : Int32) * nI i) &&& 31)) &&& (255 : Int32)
theorem mc_writeC {b : Nat} (hb : mc_b b) (a v : Int32) (σ : gS) : F_Machine_write a (nI b) v σ = some (.inl none, gs_row σ 12 (mc_put (gA σ 12) (mc_st a b) b (mc_vc v))) := by
  have h := mc_sb hb a
  have hb4 : b ≤ 4 := by rcases hb with rfl | rfl | rfl <;> omega
  unfold F_Machine_write
  rw [h.1]
  refine gd_it2 (I := fun m i s => ∃ j, j ≤ b ∧ m = b - j ∧ i = nI j ∧ s = gs_row σ 12 (mc_put (gA σ 12) (mc_st a b) j (mc_vc v))) (E := fun (r : gR) => r = some (.inl none, gs_row σ 12 (mc_put (gA σ 12) (mc_st a b) b (mc_vc v)))) ?_ gd_N b 0 σ ⟨0, by omega, rfl, rfl, gs_row0 σ 12 _ (mc_put0 _ _ _)⟩ (gd_Nlt (by omega))
  rintro m i s ag ⟨j, hj, rfl, rfl, rfl⟩
  unfold B_Machine_write_12
  by_cases hjb : j = b
  · subst hjb
    rw [if_pos ((gi_le (by omega) (by omega)).mpr (Nat.le_refl j))]
    exact Or.inr rfl
  · rw [if_neg (fun z => hjb (by have := (gi_le (by omega) (by omega)).mp z; omega)), nI_add, gd_gI (gi_in (by omega) (by omega)), gi_cl (by omega), gd_s1]
    refine Or.inl ⟨nI (j + 1), _, b - (j + 1), by omega, ⟨j + 1, by omega, rfl, rfl, rfl⟩, ?_⟩
    rw [nI_1]
    exact congrArg (ag (nI (j + 1))) (gs_rowA σ 12 _ _ _ _ (mc_put1 (gA σ 12) (mc_st a b) j (mc_vc v)))
theorem mc_writeR {b : Nat} (hb : mc_b b) (a v : Int32) (σ : gS) : F_M_write a (nI b) v σ = some (.inl none, gs_row σ 45 (mc_put (gA σ 45) (mc_st a b) b (mc_vr v))) := by
  have h := mc_sb hb a
  have hb4 : b ≤ 4 := by rcases hb with rfl | rfl | rfl <;> omega
  unfold F_M_write
  rw [h.1]
  refine gd_it2 (I := fun m i s => ∃ j, j ≤ b ∧ m = b - j ∧ i = nI j ∧ s = gs_row σ 45 (mc_put (gA σ 45) (mc_st a b) j (mc_vr v))) (E := fun (r : gR) => r = some (.inl none, gs_row σ 45 (mc_put (gA σ 45) (mc_st a b) b (mc_vr v)))) ?_ gd_N b 0 σ ⟨0, by omega, rfl, rfl, gs_row0 σ 45 _ (mc_put0 _ _ _)⟩ (gd_Nlt (by omega))
  rintro m i s ag ⟨j, hj, rfl, rfl, rfl⟩
  unfold B_M_write_12
  by_cases hjb : j = b
  · subst hjb
    rw [if_pos ((gi_le (by omega) (by omega)).mpr (Nat.le_refl j))]
    exact Or.inr rfl
  · rw [if_neg (fun z => hjb (by have := (gi_le (by omega) (by omega)).mp z; omega)), nI_add, gd_gI (gi_in (by omega) (by omega)), gi_cl (by omega), gd_s1]
    refine Or.inl ⟨nI (j + 1), _, b - (j + 1), by omega, ⟨j + 1, by omega, rfl, rfl, rfl⟩, ?_⟩
    rw [nI_1]
    exact congrArg (ag (nI (j + 1))) (gs_rowA σ 45 _ _ _ _ (mc_put1 (gA σ 45) (mc_st a b) j (mc_vr v)))
