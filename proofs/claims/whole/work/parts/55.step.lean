def rD (n : Nat) (σ : gS) : Prop := gI σ 2 7 = nI n ∧ n ≤ 1040 ∧ sp_ok (gA σ 42) n ∧ ∀ p, p < n → gA σ 3 p = sp_k (gA σ 42) p ∧ gA σ 4 p = f_Listing_operationOf (sp_k (gA σ 42) p) (gA σ 42 p) ∧ gA σ 5 p = sp_r (gA σ 42) p ∧ gA σ 6 p = sp_a (gA σ 42) p ∧ gA σ 7 p = sp_b (gA σ 42) p ∧ gA σ 8 p = f_Listing_numberOf (sp_k (gA σ 42) p) (gA σ 42 p) ∧ gA σ 9 p = sp_t (gA σ 42) p
def mc_dvd (w : Int32) : Prop := f_M_g w = 1 ∧ 4 ≤ f_M_f w
def mc_ld (w : Int32) (mm : Nat → Int32) (a : Int32) : Int32 := if f_M_f w = 0 then ((mc_rd mm (mc_st a 1) 1 0) <<< ((24 : Int32) &&& 31)) >>> ((24 : Int32) &&& 31) else if f_M_f w = 1 then ((mc_rd mm (mc_st a 2) 2 0) <<< ((16 : Int32) &&& 31)) >>> ((16 : Int32) &&& 31) else if f_M_f w = 2 then mc_rd mm (mc_st a 4) 4 0 else if f_M_f w = 4 then mc_rd mm (mc_st a 1) 1 0 else mc_rd mm (mc_st a 2) 2 0
def mc_sz (w : Int32) : Nat := if f_M_f w = 0 then 1 else if f_M_f w = 1 then 2 else 4
def mc_gl (W : Nat → Int32) (p : Nat) (x y : Int32) : Nat := if f_Arithmetic_holds (f_M_f (W p)) x y = 0 then p + 1 else (sp_t W p).toNatClampNeg
def mc_x (W : Nat → Int32) (m : mS) : Int32 := m.2.1 (f_M_a (W m.1)).toNatClampNeg
def mc_y (W : Nat → Int32) (m : mS) : Int32 := m.2.1 (f_M_b (W m.1)).toNatClampNeg
def mc_n (W : Nat → Int32) (m : mS) : Int32 := f_Listing_numberOf (sp_k W m.1) (W m.1)
def mc_d (W : Nat → Int32) (m : mS) : Nat := (sp_r W m.1).toNatClampNeg
noncomputable def mc_s0 (W : Nat → Int32) (m : mS) : mS := if f_M_g (W m.1) = 1 ∧ 4 ≤ f_M_f (W m.1) then mc_set (mc_tell (mc_tell (mc_go m (m.1 + 1)) 3 (mc_x W m)) 4 (mc_y W m)) (mc_d W m) (mc_al (W m.1) (mc_x W m) (mc_y W m)) else mc_set (mc_go m (m.1 + 1)) (mc_d W m) (mc_al (W m.1) (mc_x W m) (mc_y W m))
noncomputable def mc_step (W : Nat → Int32) (m : mS) : mS :=
  if sp_k W m.1 = 0 then mc_s0 W m
  else if sp_k W m.1 = 1 then mc_set (mc_go m (m.1 + 1)) (mc_d W m) (f_M_made (f_M_f (W m.1)) (mc_x W m) (mc_n W m) (if f_M_f (W m.1) = 5 then (if f_M_g (W m.1) = 32 then 1 else 0) else 0))
  else if sp_k W m.1 = 2 then mc_set (mc_go m (m.1 + 1)) (mc_d W m) (mc_n W m)
  else if sp_k W m.1 = 3 then mc_set (mc_tell (mc_go m (m.1 + 1)) 1 (mc_x W m + mc_n W m)) (mc_d W m) (mc_ld (W m.1) m.2.2.1 (mc_x W m + mc_n W m))
  else if sp_k W m.1 = 4 then mc_mem (mc_tell (mc_go m (m.1 + 1)) 2 (mc_x W m + mc_n W m)) (mc_put m.2.2.1 (mc_st (mc_x W m + mc_n W m) (mc_sz (W m.1))) (mc_sz (W m.1)) (mc_vr (mc_y W m)))
  else if sp_k W m.1 = 5 then mc_tell (mc_go m (mc_gl W m.1 (mc_x W m) (mc_y W m))) 0 (nI (mc_gl W m.1 (mc_x W m) (mc_y W m)))
  else if sp_k W m.1 = 6 then mc_tell (mc_go m (sp_t W m.1).toNatClampNeg) 0 (nI (sp_t W m.1).toNatClampNeg)
  else mc_go m (m.1 + 1)
theorem aC_go {σ : gS} {m : mS} (h : aC σ m) {x : Int32} {p : Nat} (hx : x = nI p) : aC (gs_I σ 10 5 x) (mc_go m p) := by
  subst hx
  exact ⟨rfl, h.2.1, h.2.2.1, h.2.2.2.1, h.2.2.2.2⟩
theorem aR_go {σ : gS} {m : mS} (h : aR σ m) {x : Int32} {p : Nat} (hx : x = nI p) : aR (gs_I σ 41 7 x) (mc_go m p) := by
  subst hx
  exact ⟨rfl, h.2.1, h.2.2.1, h.2.2.2.1, h.2.2.2.2⟩
theorem al_ine {α : Type} {c : Prop} {i : Decidable c} {x y a : α} (hx : ¬ x = a) (hy : ¬ y = a) : ¬ (@ite α c i x y = a) := by
  by_cases h : c
  · rw [if_pos h]; exact hx
  · rw [if_neg h]; exact hy
theorem al_k3 {w : Int32} (h : f_M_kindOf w = 3) : f_M_f w = 0 ∨ f_M_f w = 1 ∨ f_M_f w = 2 ∨ f_M_f w = 4 ∨ f_M_f w = 5 := by
  obtain ⟨k, hk, e⟩ := sp_fl w
  unfold f_M_kindOf at h
  by_cases c : w &&& 127 = 3
  · rw [if_pos c] at h
    by_cases h1 : f_M_f w < 3
    · rw [e] at h1 ⊢
      have h2 := (gi_lt (b := 3) (by omega) (by omega)).mp h1
      have : k = 0 ∨ k = 1 ∨ k = 2 := by omega
      rcases this with rfl | rfl | rfl
      · exact Or.inl rfl
      · exact Or.inr (Or.inl rfl)
      · exact Or.inr (Or.inr (Or.inl rfl))
    · rw [if_neg h1] at h
      by_cases h2 : f_M_f w = 4
      · exact Or.inr (Or.inr (Or.inr (Or.inl h2)))
      · rw [if_neg h2] at h
        by_cases h3 : f_M_f w = 5
        · exact Or.inr (Or.inr (Or.inr (Or.inr h3)))
        · rw [if_neg h3] at h; exact absurd h (by decide)
  · rw [if_neg c] at h
    refine absurd h ?_
    repeat' apply al_ine
    all_goals decide
theorem al_k4 {w : Int32} (h : f_M_kindOf w = 4) : f_M_f w = 0 ∨ f_M_f w = 1 ∨ f_M_f w = 2 := by
  obtain ⟨k, hk, e⟩ := sp_fl w
  unfold f_M_kindOf at h
  by_cases c : w &&& 127 = 35
  · rw [c] at h
    by_cases h1 : 3 ≤ f_M_f w
    · have h : (if 3 ≤ f_M_f w then (-1 : Int32) else 4) = 4 := h
      rw [if_pos h1] at h; exact absurd h (by decide)
    · rw [e] at h1 ⊢
      have h2 : ¬ 3 ≤ k := fun z => h1 ((gi_le (a := 3) (by omega) (by omega)).mpr z)
      have : k = 0 ∨ k = 1 ∨ k = 2 := by omega
      rcases this with rfl | rfl | rfl
      · exact Or.inl rfl
      · exact Or.inr (Or.inl rfl)
      · exact Or.inr (Or.inr rfl)
  · rw [if_neg c] at h
    refine absurd h ?_
    repeat' apply al_ine
    all_goals decide
theorem al_k5 {w : Int32} (h : f_M_kindOf w = 5) : f_M_f w = 0 ∨ f_M_f w = 1 ∨ f_M_f w = 4 ∨ f_M_f w = 5 ∨ f_M_f w = 6 ∨ f_M_f w = 7 := by
  obtain ⟨k, hk, e⟩ := sp_fl w
  unfold f_M_kindOf at h
  by_cases c : w &&& 127 = 99
  · rw [c] at h
    have h : (if f_M_f w < 2 then (5 : Int32) else if f_M_f w ≤ 3 then -1 else 5) = 5 := h
    by_cases h1 : f_M_f w < 2
    · rw [e] at h1 ⊢
      have h2 := (gi_lt (b := 2) (by omega) (by omega)).mp h1
      have : k = 0 ∨ k = 1 := by omega
      rcases this with rfl | rfl
      · exact Or.inl rfl
      · exact Or.inr (Or.inl rfl)
    · rw [if_neg h1] at h
      by_cases h3 : f_M_f w ≤ 3
      · rw [if_pos h3] at h; exact absurd h (by decide)
      · rw [e] at h3 ⊢
        have h2 : ¬ k ≤ 3 := fun z => h3 ((gi_le (b := 3) (by omega) (by omega)).mpr z)
        have : k = 4 ∨ k = 5 ∨ k = 6 ∨ k = 7 := by omega
        rcases this with rfl | rfl | rfl | rfl
        · exact Or.inr (Or.inr (Or.inl rfl))
        · exact Or.inr (Or.inr (Or.inr (Or.inl rfl)))
        · exact Or.inr (Or.inr (Or.inr (Or.inr (Or.inl rfl))))
        · exact Or.inr (Or.inr (Or.inr (Or.inr (Or.inr rfl))))
  · rw [if_neg c] at h
    refine absurd h ?_
    repeat' apply al_ine
    all_goals decide
theorem st_num {p : Nat} (hp : p < 1040) (σ : gS) : R_M_number (nI p) σ = some (.inl (some (.int (f_Listing_numberOf (sp_k (gA σ 42) p) (gA σ 42 p))))) := by
  unfold R_M_number f_Listing_numberOf
  rw [gd_gI (gi_in hp (by omega)), br_kindN hp, gd_pi1]
  simp only [gd_j1, gi_cl (by omega : p ≤ 100000), bt_f, bt_b]
  by_cases h1 : sp_k (gA σ 42) p = 1
  · rw [if_pos h1, if_pos h1]
    by_cases h2 : f_M_f (gA σ 42 p) = 1
    · rw [if_pos h2, if_pos h2]
    · rw [if_neg h2, if_neg h2]
      by_cases h3 : f_M_f (gA σ 42 p) = 5
      · rw [if_pos h3, if_pos h3]
      · rw [if_neg h3, if_neg h3]; rfl
  · rw [if_neg h1, if_neg h1]
    by_cases h2 : sp_k (gA σ 42) p = 2
    · rw [if_pos h2, if_pos h2]
    · rw [if_neg h2, if_neg h2]
      by_cases h3 : sp_k (gA σ 42) p = 3
      · rw [if_pos h3, if_pos h3]; rfl
      · rw [if_neg h3, if_neg h3]
        by_cases h4 : sp_k (gA σ 42) p = 4
        · rw [if_pos h4, if_pos h4]
          unfold f_Word_storeNumber
          rw [bt_d]
        · rw [if_neg h4, if_neg h4]
theorem st_goal {W : Nat → Int32} {n p : Nat} {σ : gS} (hW : gA σ 42 = W) (hok : sp_ok W n) (hn : n ≤ 1040) (hp : p < n) (hk : sp_k W p = 5) (x y : Int32) : R_M_goal (nI p) x y σ = some (.inl (some (.int (nI (mc_gl W p x y))))) ∧ mc_gl W p x y ≤ n := by
  obtain ⟨t, ht, et⟩ := sp_tgt hok hn hp (Or.inl hk)
  have e1 : sp_t W p = nI t := by unfold sp_t; rw [if_pos (Or.inl hk)]; exact et
  have e2 : (sp_t W p).toNatClampNeg = t := by rw [e1, gi_cl (by omega)]
  have ht2 := br_targetN (p := p) (by omega) σ
  rw [hW, et] at ht2
  unfold R_M_goal mc_gl
  rw [e2]
  rw [gd_gI (gi_in (by omega) (by omega)), gi_cl (by omega), hW]
  simp only [gd_j1, gd_t1, ht2, gd_pi1]
  have key : ∀ h : Int32, (h = 0 ∨ h = 1) → (if h = 0 then (some (.inl (some (.int (nI p + (1 : Int32))))) : gP) else some (.inl (some (.int (nI t))))) = some (.inl (some (.int (nI (if h = 0 then p + 1 else t))))) := by
    intro h hh
    rcases hh with rfl | rfl
    · rw [if_pos rfl, if_pos rfl, nI_1]
    · rw [if_neg (by decide), if_neg (by decide)]
  have hz := z_Arithmetic_holds (f_M_f (W p)) x y
  refine ⟨Eq.trans ?_ (key _ hz), ?_⟩
  · have hl : f_M_less x y 0 = (if y ≤ x then 0 else 1) := rfl
    have hu : f_M_less x y 1 = f_Arithmetic_lessUnsigned x y := rfl
    have zu := z_Arithmetic_lessUnsigned x y
    rcases al_k5 hk with e | e | e | e | e | e
    · rw [e]
      by_cases c : x = y
      · subst c
        rw [if_neg (by decide), if_pos rfl]
        have : f_Arithmetic_holds 0 x x = 1 := by unfold f_Arithmetic_holds; rw [if_pos rfl, if_pos rfl]
        rw [this]; rfl
      · rw [if_neg (by decide), if_neg c]
        have : f_Arithmetic_holds 0 x y = 0 := by unfold f_Arithmetic_holds; rw [if_pos rfl, if_neg c]
        rw [this]; rfl
    · rw [e]
      by_cases c : x = y
      · subst c
        rw [if_neg (by decide), if_pos rfl]
        have : f_Arithmetic_holds 1 x x = 0 := by unfold f_Arithmetic_holds; rw [if_neg (by decide), if_pos rfl, if_pos rfl]
        rw [this]; rfl
      · rw [if_neg (by decide), if_neg c]
        have : f_Arithmetic_holds 1 x y = 1 := by unfold f_Arithmetic_holds; rw [if_neg (by decide), if_pos rfl, if_neg c]
        rw [this]; rfl
    · rw [e]
      have h1 : f_Arithmetic_holds 4 x y = if y ≤ x then 0 else 1 := rfl
      rw [h1, if_pos (show (2 : Int32) ≤ 4 by decide), show (if (4 : Int32) ≤ 5 then (0 : Int32) else 1) = 0 from rfl, hl]
      by_cases c : y ≤ x
      · rw [if_pos c]; rfl
      · rw [if_neg c]; rfl
    · rw [e]
      have h1 : f_Arithmetic_holds 5 x y = if x < y then 0 else 1 := rfl
      rw [h1, if_pos (show (2 : Int32) ≤ 5 by decide), show (if (5 : Int32) ≤ 5 then (0 : Int32) else 1) = 0 from rfl, hl]
      by_cases c : y ≤ x
      · rw [if_pos c, if_neg (Int32.not_lt.mpr c)]; rfl
      · rw [if_neg c, if_pos (Int32.not_le.mp c)]; rfl
    · rw [e]
      have h1 : f_Arithmetic_holds 6 x y = f_Arithmetic_lessUnsigned x y := rfl
      rw [h1, if_pos (show (2 : Int32) ≤ 6 by decide), show (if (6 : Int32) ≤ 5 then (0 : Int32) else 1) = 1 from rfl, hu]
      rcases zu with z | z
      · rw [z]; rfl
      · rw [z]; rfl
    · rw [e]
      have h1 : f_Arithmetic_holds 7 x y = if f_Arithmetic_lessUnsigned x y = 0 then 1 else 0 := rfl
      rw [h1, if_pos (show (2 : Int32) ≤ 7 by decide), show (if (7 : Int32) ≤ 5 then (0 : Int32) else 1) = 1 from rfl, hu]
      rcases zu with z | z
      · rw [z]; rfl
      · rw [z]; rfl
  · split <;> omega
