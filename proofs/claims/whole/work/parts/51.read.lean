theorem gi_in {p N : Nat} (h : p < N) (hN : N ≤ 100000) : gd_in (nI p) N := ⟨nI_pos (by omega), by rw [nI_clamp (by omega)]; exact h⟩
theorem gi_cl {p : Nat} (h : p ≤ 100000) : (nI p).toNatClampNeg = p := nI_clamp (by omega)
theorem gi_le {a b : Nat} (ha : a ≤ 100000) (hb : b ≤ 100000) : nI a ≤ nI b ↔ a ≤ b := nI_leI (by omega) (by omega)
theorem gi_lt {a b : Nat} (ha : a ≤ 100000) (hb : b ≤ 100000) : nI a < nI b ↔ a < b := nI_ltI (by omega) (by omega)
theorem gi_eq {a b : Nat} (ha : a ≤ 100000) (hb : b ≤ 100000) : nI a = nI b ↔ a = b := nI_eq (by omega) (by omega)
theorem gi_m1 {a : Nat} (ha : a ≤ 100000) : ¬ nI a = -1 := by
  intro z
  have h := congrArg Int32.toInt z
  rw [nI_toInt (by omega)] at h
  have h2 : (-1 : Int32).toInt = -1 := by decide
  omega
theorem br_kindN {p : Nat} (hp : p < 1040) (σ : gS) : R_M_kind (nI p) σ = some (.inl (some (.int (sp_k (gA σ 42) p)))) := by
  rw [br_kind (gi_in hp (by omega)), gi_cl (by omega)]
theorem br_targetN {p : Nat} (hp : p < 1040) (σ : gS) : R_M_target (nI p) σ = some (.inl (some (.int (nI p + f_M_offset (gA σ 42 p) / 4)))) := by
  rw [br_target (gi_in hp (by omega)), gi_cl (by omega)]
theorem sp_d (w : Int32) : ∃ k, k ≤ 31 ∧ f_M_d w = nI k := bn_and (w >>> (7 &&& 31)) 31 31 (by decide)
theorem sp_al (w : Int32) : ∃ k, k ≤ 31 ∧ f_M_a w = nI k := bn_and (w >>> (15 &&& 31)) 31 31 (by decide)
theorem sp_bl (w : Int32) : ∃ k, k ≤ 31 ∧ f_M_b w = nI k := bn_and (w >>> (20 &&& 31)) 31 31 (by decide)
theorem sp_fl (w : Int32) : ∃ k, k ≤ 7 ∧ f_M_f w = nI k := bn_and (w >>> (12 &&& 31)) 7 7 (by decide)
theorem sp_rl (W : Nat → Int32) (p : Nat) : ∃ k, k ≤ 31 ∧ sp_r W p = nI k := by
  unfold sp_r
  split
  · exact ⟨0, by omega, rfl⟩
  · exact sp_d (W p)
theorem br_result {p : Nat} (hp : p < 1040) (σ : gS) : R_M_result (nI p) σ = some (.inl (some (.int (if sp_r (gA σ 42) p = 0 then -1 else sp_r (gA σ 42) p)))) := by
  unfold R_M_result sp_r
  rw [br_kindN hp, gd_pi1]
  simp only [gd_gI (gi_in hp (by omega : 1040 ≤ 100000)), gi_cl (by omega : p ≤ 100000)]
  obtain ⟨d, hd, e⟩ := sp_d (gA σ 42 p)
  rw [e]
  have h4 : 4 ≤ sp_k (gA σ 42) p ↔ 3 < sp_k (gA σ 42) p := by
    rw [Int32.le_iff_toInt_le, Int32.lt_iff_toInt_lt]
    have h3 : (3 : Int32).toInt = 3 := by decide
    have h4 : (4 : Int32).toInt = 4 := by decide
    omega
  by_cases h : 3 < sp_k (gA σ 42) p
  · rw [if_pos (h4.mpr h), if_pos h, if_pos rfl]
  · rw [if_neg (fun z => h (h4.mp z)), if_neg h]
    by_cases h0 : d = 0
    · subst h0; rfl
    · rw [if_neg (nI_nle (by omega) (by omega)), if_neg (nI_ne0 (by omega) (by omega))]
theorem sp_kn (w : Int32) : f_M_kindOf w = -1 ∨ ∃ k, k ≤ 8 ∧ f_M_kindOf w = nI k := bt_kr w
theorem sp_okk {W : Nat → Int32} {n p : Nat} (h : sp_ok W n) (hp : p < n) : ∃ k, k ≤ 8 ∧ sp_k W p = nI k := by
  rcases sp_kn (W p) with hk | hk
  · have h1 := h p hp
    unfold f_fo at h1
    rw [if_pos hk] at h1
    repeat' split at h1
    all_goals exact absurd h1 (by decide)
  · exact hk
theorem sp_tgt {W : Nat → Int32} {n p : Nat} (h : sp_ok W n) (hn : n ≤ 1040) (hp : p < n) (hk : sp_k W p = 5 ∨ sp_k W p = 6) : ∃ t, t ≤ n ∧ nI p + f_M_offset (W p) / 4 = nI t := by
  have h1 := h p hp
  unfold f_fo at h1
  rw [if_neg (show ¬ f_M_kindOf (W p) = -1 from fun z => by
    rcases hk with hk | hk
    · exact absurd (hk.symm.trans z) (by decide)
    · exact absurd (hk.symm.trans z) (by decide)), if_pos hk] at h1
  by_cases hc : f_M_offset (W p) &&& 3 = 0 ∧ ¬ nI p + f_M_offset (W p) / 4 < 0 ∧ ¬ nI n < nI p + f_M_offset (W p) / 4
  · exact nI_of2 (M := nI n) (n := n) (nI_toInt (by omega)) hc.2.1 (Int32.not_lt.mp hc.2.2)
  · rw [if_neg hc] at h1
    repeat' split at h1
    all_goals exact absurd h1 (by decide)
theorem br_first {p : Nat} (hp : p < 1040) (σ : gS) (hk : ∃ k, k ≤ 8 ∧ sp_k (gA σ 42) p = nI k) : R_M_first (nI p) σ = some (.inl (some (.int (sp_a (gA σ 42) p)))) := by
  unfold R_M_first sp_a
  rw [br_kindN hp, gd_pi1]
  simp only [gd_gI (gi_in hp (by omega : 1040 ≤ 100000)), gi_cl (by omega : p ≤ 100000)]
  obtain ⟨k, hk, e⟩ := hk
  rw [e]
  have : k = 0 ∨ k = 1 ∨ k = 2 ∨ k = 3 ∨ k = 4 ∨ k = 5 ∨ k = 6 ∨ k = 7 ∨ k = 8 := by omega
  rcases this with rfl | rfl | rfl | rfl | rfl | rfl | rfl | rfl | rfl <;> rfl
theorem br_second {p : Nat} (hp : p < 1040) (σ : gS) (hk : ∃ k, k ≤ 8 ∧ sp_k (gA σ 42) p = nI k) : R_M_second (nI p) σ = some (.inl (some (.int (sp_b (gA σ 42) p)))) := by
  unfold R_M_second sp_b
  rw [br_kindN hp, gd_pi1]
  simp only [gd_gI (gi_in hp (by omega : 1040 ≤ 100000)), gi_cl (by omega : p ≤ 100000), gd_j1]
  obtain ⟨k, hk, e⟩ := hk
  rw [e]
  have : k = 0 ∨ k = 1 ∨ k = 2 ∨ k = 3 ∨ k = 4 ∨ k = 5 ∨ k = 6 ∨ k = 7 ∨ k = 8 := by omega
  rcases this with rfl | rfl | rfl | rfl | rfl | rfl | rfl | rfl | rfl <;> rfl
