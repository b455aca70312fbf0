def rDl (W : Nat → Int32) (j : Nat) (σ : gS) : Prop := ∀ p, p < j → gA σ 3 p = sp_k W p ∧ gA σ 4 p = f_Listing_operationOf (sp_k W p) (W p) ∧ gA σ 5 p = sp_r W p ∧ gA σ 6 p = sp_a W p ∧ gA σ 7 p = sp_b W p ∧ gA σ 8 p = f_Listing_numberOf (sp_k W p) (W p) ∧ gA σ 9 p = sp_t W p
theorem ld_k {W : Nat → Int32} {n p : Nat} (h : f_fo (W p) (nI p) (nI n) = 0) : ∃ k, k ≤ 8 ∧ sp_k W p = nI k := by
  rcases sp_kn (W p) with hk | hk
  · unfold f_fo at h
    rw [if_pos hk] at h
    repeat' split at h
    all_goals exact absurd h (by decide)
  · exact hk
theorem ld_o {W : Nat → Int32} {n p : Nat} (h : f_fo (W p) (nI p) (nI n) = 0) (hk : sp_k W p = 5 ∨ sp_k W p = 6) : f_M_offset (W p) &&& 3 = 0 := by
  unfold f_fo at h
  rw [if_neg (show ¬ f_M_kindOf (W p) = -1 from fun z => by
    rcases hk with hk | hk
    · exact absurd (hk.symm.trans z) (by decide)
    · exact absurd (hk.symm.trans z) (by decide)), if_pos hk] at h
  by_cases hc : f_M_offset (W p) &&& 3 = 0 ∧ ¬ nI p + f_M_offset (W p) / 4 < 0 ∧ ¬ nI n < nI p + f_M_offset (W p) / 4
  · exact hc.1
  · rw [if_neg hc] at h
    repeat' split at h
    all_goals exact absurd h (by decide)
def ld_s (W : Nat → Int32) (p : Nat) (s : gS) : gS := gs_A (gs_A (gs_A (gs_A (gs_A (gs_A (gs_A s 3 p (sp_k W p)) 4 p (f_Listing_operationOf (sp_k W p) (W p))) 5 p (sp_r W p)) 6 p (sp_a W p)) 7 p (sp_b W p)) 8 p (f_Listing_numberOf (sp_k W p) (W p))) 9 p (sp_t W p)
theorem ld_put {W : Nat → Int32} {n p : Nat} (hp : p < 1040) (h : f_fo (W p) (nI p) (nI n) = 0) (s : gS) : F_Listing_put (nI p) (W p) s = some (.inl none, ld_s W p s) := by
  obtain ⟨k, hk, e⟩ := ld_k h
  have ho := ld_o h
  have eo : sp_k W p = 5 ∨ sp_k W p = 6 → f_M_offset (W p) >>> ((2 : Int32) &&& 31) = f_M_offset (W p) / 4 := fun z => bt_q4s (ho z)
  unfold F_Listing_put ld_s sp_r sp_a sp_b sp_t
  simp only [gd_t1, gd_s1, gd_gI (gi_in hp (by omega : 1040 ≤ 100000)), gi_cl (show p ≤ 100000 by omega), bt_kind, bt_d, bt_a, bt_b, bt_off]
  have e' : f_M_kindOf (W p) = nI k := e
  rw [e] at eo
  simp only [e, e']
  have : k = 0 ∨ k = 1 ∨ k = 2 ∨ k = 3 ∨ k = 4 ∨ k = 5 ∨ k = 6 ∨ k = 7 ∨ k = 8 := by omega
  rcases this with rfl | rfl | rfl | rfl | rfl | rfl | rfl | rfl | rfl
  · rfl
  · rfl
  · rfl
  · rfl
  · rfl
  · rw [eo (Or.inl rfl)]; rfl
  · rw [eo (Or.inr rfl)]; rfl
  · rfl
  · rfl
theorem ld_l {W : Nat → Int32} {j : Nat} {s : gS} (h : rDl W j s) : rDl W (j + 1) (ld_s W j s) := by
  intro p hp
  show (if p = j then sp_k W j else gA s 3 p) = _ ∧ (if p = j then f_Listing_operationOf (sp_k W j) (W j) else gA s 4 p) = _ ∧ (if p = j then sp_r W j else gA s 5 p) = _ ∧ (if p = j then sp_a W j else gA s 6 p) = _ ∧ (if p = j then sp_b W j else gA s 7 p) = _ ∧ (if p = j then f_Listing_numberOf (sp_k W j) (W j) else gA s 8 p) = _ ∧ (if p = j then sp_t W j else gA s 9 p) = _
  by_cases hj : p = j
  · subst hj
    exact ⟨if_pos rfl, if_pos rfl, if_pos rfl, if_pos rfl, if_pos rfl, if_pos rfl, if_pos rfl⟩
  · simp only [if_neg hj]
    exact h p (by omega)
theorem ld_cA (k6 : Int32 → Int32 → gS → gR) (k7 : gS → gR) {σ : gS} {n : Nat} {W : Nat → Int32} (hn : n ≤ 1040) (h7 : gI σ 0 7 = nI n) (hw : ∀ i, i < n → gA σ 1 i = W i) (hok : sp_ok W n) :
    ∃ s, gd_lp (fun _ _ => none) (B_G_takeUp_12 k6 k7) gd_N 0 σ = k7 s ∧ rDl W n s ∧ gd_fm W_Listing_put σ s := by
  refine gd_it2 (I := fun m i s => ∃ j, j ≤ n ∧ m = n - j ∧ i = nI j ∧ rDl W j s ∧ gd_fm W_Listing_put σ s) (E := fun (r : gR) => ∃ s, r = k7 s ∧ rDl W n s ∧ gd_fm W_Listing_put σ s) ?_ gd_N n 0 σ ⟨0, by omega, rfl, rfl, fun p hp => absurd hp (Nat.not_lt_zero p), gd_fm0 _ _⟩ (gd_Nlt (by omega))
  rintro m i s ag ⟨j, hj, rfl, rfl, hl, fr⟩
  have s7 : gI s 0 7 = nI n := (fm_I fr rfl).trans h7
  unfold B_G_takeUp_12
  rw [s7]
  by_cases hjn : j = n
  · subst hjn
    rw [if_pos ((gi_le (by omega) (by omega)).mpr (Nat.le_refl _))]
    exact Or.inr ⟨s, rfl, hl, fr⟩
  · have w1 : gA s 1 j = W j := by rw [fm_A fr rfl]; exact hw j (by omega)
    rw [if_neg (fun z => by have := (gi_le (by omega) (by omega)).mp z; omega)]
    simp only [gd_gI (gi_in (show j < 1040 by omega) (by omega : 1040 ≤ 100000)), gi_cl (show j ≤ 100000 by omega), w1, bt_fault]
    have hf := hok j (by omega)
    have pt := ld_put (W := W) (n := n) (p := j) (by omega) hf s
    rw [if_pos hf, pt, gd_01, nI_1]
    exact Or.inl ⟨nI (j + 1), _, n - (j + 1), by omega, ⟨j + 1, by omega, rfl, rfl, ld_l hl, gd_fmT (gd_sbI rfl) fr (K_Listing_put _ _ s _ pt)⟩, rfl⟩
theorem ld_cB (k6 : Int32 → Int32 → gS → gR) (k7 : gS → gR) {σ : gS} {n p : Nat} {W : Nat → Int32} (hn : n ≤ 1040) (h7 : gI σ 0 7 = nI n) (hw : ∀ i, i < n → gA σ 1 i = W i) (hp : p < n) (hf : ¬ f_fo (W p) (nI p) (nI n) = 0) (hq : ∀ q, q < p → f_fo (W q) (nI q) (nI n) = 0) :
    ∃ s, gd_lp (fun _ _ => none) (B_G_takeUp_12 k6 k7) gd_N 0 σ = k6 (nI p) (f_fo (W p) (nI p) (nI n)) s ∧ gd_fm W_Listing_put σ s := by
  refine gd_it2 (I := fun m i s => ∃ j, j ≤ p ∧ m = p - j ∧ i = nI j ∧ gd_fm W_Listing_put σ s) (E := fun (r : gR) => ∃ s, r = k6 (nI p) (f_fo (W p) (nI p) (nI n)) s ∧ gd_fm W_Listing_put σ s) ?_ gd_N p 0 σ ⟨0, by omega, rfl, rfl, gd_fm0 _ _⟩ (gd_Nlt (by omega))
  rintro m i s ag ⟨j, hj, rfl, rfl, fr⟩
  have s7 : gI s 0 7 = nI n := (fm_I fr rfl).trans h7
  have w1 : gA s 1 j = W j := by rw [fm_A fr rfl]; exact hw j (by omega)
  unfold B_G_takeUp_12
  rw [s7, if_neg (fun z => by have := (gi_le (by omega) (by omega)).mp z; omega)]
  simp only [gd_gI (gi_in (show j < 1040 by omega) (by omega : 1040 ≤ 100000)), gi_cl (show j ≤ 100000 by omega), w1, bt_fault]
  by_cases hjp : j = p
  · subst hjp
    rw [if_neg hf]
    exact Or.inr ⟨s, rfl, fr⟩
  · have hz := hq j (by omega)
    have pt := ld_put (W := W) (n := n) (p := j) (by omega) hz s
    rw [if_pos hz, pt, gd_01, nI_1]
    exact Or.inl ⟨nI (j + 1), _, p - (j + 1), by omega, ⟨j + 1, by omega, rfl, rfl, gd_fmT (gd_sbI rfl) fr (K_Listing_put _ _ s _ pt)⟩, rfl⟩
theorem ld_fv (w p n : Int32) : f_fo w p n = 0 ∨ ¬ f_fo w p n ≤ 0 := by
  unfold f_fo
  repeat' split
  all_goals first | exact Or.inl rfl | exact Or.inr (by decide)
theorem ld_rA (k5 : Int32 → Int32 → gS → gR) (k6 : gS → gR) {σ : gS} {n : Nat} (hn : n ≤ 1040) (h2 : gI σ 41 2 = nI n) (hok : sp_ok (gA σ 42) n) : gd_lp (fun _ _ => none) (B_M_load_7 k5 k6) gd_N 0 σ = k6 σ := by
  refine gd_it2 (I := fun m i s => ∃ j, j ≤ n ∧ m = n - j ∧ i = nI j ∧ s = σ) (E := fun (r : gR) => r = k6 σ) ?_ gd_N n 0 σ ⟨0, by omega, rfl, rfl, rfl⟩ (gd_Nlt (by omega))
  rintro m i s ag ⟨j, hj, rfl, rfl, rfl⟩
  unfold B_M_load_7
  rw [h2]
  by_cases hjn : j = n
  · subst hjn
    rw [if_pos ((gi_le (by omega) (by omega)).mpr (Nat.le_refl _))]
    exact Or.inr rfl
  · rw [if_neg (fun z => by have := (gi_le (by omega) (by omega)).mp z; omega), br_fault (gi_in (by omega) (by omega)), gi_cl (by omega), h2, hok j (by omega), gd_qi1, if_pos (by decide), nI_1]
    exact Or.inl ⟨nI (j + 1), s, n - (j + 1), by omega, ⟨j + 1, by omega, rfl, rfl, rfl⟩, rfl⟩
theorem ld_rB (k5 : Int32 → Int32 → gS → gR) (k6 : gS → gR) {σ : gS} {n p : Nat} (hn : n ≤ 1040) (h2 : gI σ 41 2 = nI n) (hp : p < n) (hf : ¬ f_fo (gA σ 42 p) (nI p) (nI n) = 0) (hq : ∀ q, q < p → f_fo (gA σ 42 q) (nI q) (nI n) = 0) : gd_lp (fun _ _ => none) (B_M_load_7 k5 k6) gd_N 0 σ = k5 (nI p) (f_fo (gA σ 42 p) (nI p) (nI n)) σ := by
  refine gd_it2 (I := fun m i s => ∃ j, j ≤ p ∧ m = p - j ∧ i = nI j ∧ s = σ) (E := fun (r : gR) => r = k5 (nI p) (f_fo (gA σ 42 p) (nI p) (nI n)) σ) ?_ gd_N p 0 σ ⟨0, by omega, rfl, rfl, rfl⟩ (gd_Nlt (by omega))
  rintro m i s ag ⟨j, hj, rfl, rfl, rfl⟩
  unfold B_M_load_7
  rw [h2, if_neg (fun z => by have := (gi_le (by omega) (by omega)).mp z; omega), br_fault (gi_in (by omega) (by omega)), gi_cl (by omega), h2, gd_qi1]
  by_cases hjp : j = p
  · subst hjp
    rcases ld_fv (gA s 42 j) (nI j) (nI n) with z | z
    · exact absurd z hf
    · rw [if_neg z]; exact Or.inr rfl
  · rw [hq j (by omega), if_pos (by decide), nI_1]
    exact Or.inl ⟨nI (j + 1), s, p - (j + 1), by omega, ⟨j + 1, by omega, rfl, rfl, rfl⟩, rfl⟩
def ld_m0 : mS := (0, (fun _ => 0), (fun _ => 0), (fun _ => 0), 0)
theorem ld_mb (σ : gS) : ∃ s, F_M_begin σ = some (.inl none, s) ∧ aR s ld_m0 ∧ gK s [] ∧ gI s 41 5 = 1 ∧ gI s 41 20 = 0 := by
  unfold F_M_begin
  rw [gd_s1, gd_s1, gd_s1, gd_s1, gd_s1, gd_s1, gd_j1]
  generalize hτ : gs_I (gs_I (gs_I (gs_I (gs_I (gs_I σ 41 5 1) 41 20 0) 41 7 0) 41 11 0) 41 18 0) 41 19 0 = τ
  have q1 : gI τ 41 7 = 0 ∧ gI τ 41 11 = 0 ∧ gI τ 41 18 = 0 ∧ gI τ 41 5 = 1 ∧ gI τ 41 20 = 0 := by rw [← hτ]; exact ⟨rfl, rfl, rfl, rfl, rfl⟩
  have l1 : ∀ κ : gS → gR, gd_lp (fun _ _ => none) (B_M_begin_32 κ) gd_N 0 τ = κ (gs_row τ 44 (mc_put (gA τ 44) 0 32 (fun _ => 0))) := by
    intro κ
    refine cp_lp (B := fun κ => B_M_begin_32 κ) τ 44 0 32 (fun _ => 0) (by omega) (fun ag j s hj hs => ?_) (fun ag s hs => ?_)
    · unfold B_M_begin_32
      rw [if_neg (fun z => by have := (gi_le (a := 32) (by omega) (by omega)).mp z; omega)]
      simp only [gd_gI (gi_in (show j < 32 by omega) (by omega : 32 ≤ 100000)), gi_cl (show j ≤ 100000 by omega), Nat.zero_add, gd_s1]
    · unfold B_M_begin_32
      rw [if_pos (show (32 : Int32) ≤ nI 32 by decide)]
  rw [l1]
  have l2 : ∀ s0 : gS, gd_lp (fun _ _ => none) B_M_begin_53 gd_N 0 s0 = some (.inl none, gs_row s0 45 (mc_put (gA s0 45) 0 256 (fun _ => 0))) := by
    intro s0
    refine cp_lp (κ := fun s => some (.inl none, s)) (B := fun _ => B_M_begin_53) s0 45 0 256 (fun _ => 0) (by omega) (fun ag j s hj hs => ?_) (fun ag s hs => ?_)
    · unfold B_M_begin_53
      rw [if_neg (fun z => by have := (gi_le (a := 256) (by omega) (by omega)).mp z; omega)]
      simp only [gd_gI (gi_in (show j < 256 by omega) (by omega : 256 ≤ 100000)), gi_cl (show j ≤ 100000 by omega), Nat.zero_add, gd_s1]
    · unfold B_M_begin_53
      rw [if_pos (show (256 : Int32) ≤ nI 256 by decide)]
  rw [l2]
  refine ⟨_, rfl, ⟨q1.1, fun r hr => ?_, fun a ha => ?_, q1.2.1, fun i hi => absurd hi (Nat.not_lt_zero i)⟩, ⟨by simp, q1.2.2.1, fun i e he => by simp at he⟩, q1.2.2.2.1, q1.2.2.2.2⟩
  · exact if_pos (by omega)
  · exact if_pos (by omega)
theorem ld_cb {W : Nat → Int32} (σ : gS) : ∃ s, F_Machine_begin σ = some (.inl none, s) ∧ aC s ld_m0 ∧ gC W s 0 [] := by
  unfold F_Machine_begin F_Leaks_drop F_Guesses_drop
  refine ⟨_, rfl, ⟨rfl, fun r hr => ?_, fun a ha => ?_, rfl, fun i hi => absurd hi (Nat.not_lt_zero i)⟩, ⟨by omega, by simp⟩, ⟨rfl, rfl⟩, fun i e he => by simp at he⟩
  · exact if_pos ⟨Nat.zero_le _, hr⟩
  · have e : f_fill (gA σ 12) 0 256 (vp_nar .byte 0) a = 0 := if_pos ⟨Nat.zero_le _, ha⟩
    show fits .byte (.int (f_fill (gA σ 12) 0 256 (vp_nar .byte 0) a)) = true ∧ f_fill (gA σ 12) 0 256 (vp_nar .byte 0) a &&& 255 = 0
    rw [e]
    decide
theorem rDl_sm {W : Nat → Int32} {n : Nat} {σ s : gS} (h : rDl W n σ) (g : gd_sm [] [3, 4, 5, 6, 7, 8, 9] [] σ s) : rDl W n s := by
  unfold rDl at h ⊢
  rw [sm_A g (p := 3) rfl, sm_A g (p := 4) rfl, sm_A g (p := 5) rfl, sm_A g (p := 6) rfl, sm_A g (p := 7) rfl, sm_A g (p := 8) rfl, sm_A g (p := 9) rfl]
  exact h
theorem ld_G {σ : gS} {n : Nat} {W : Nat → Int32} (hn : n ≤ 1040) (h7 : gI σ 0 7 = nI n) (hw : ∀ i, i < n → gA σ 1 i = W i) (hok : sp_ok W n) :
    ∃ s, F_G_takeUp σ = some (.inl (some (.int 0)), s) ∧ rDl W n s ∧ gI s 2 7 = nI n ∧ aC s ld_m0 ∧ gC W s 0 [] ∧ gI s 0 8 = -1 ∧ gI s 0 9 = 1 ∧ gI s 0 10 = 0 ∧ (∀ q, q < 1040 → gA s 23 q = 0) ∧ ∀ q, q < 1040 → gA s 24 q = 0 := by
  unfold F_G_takeUp
  rw [gd_s1, gd_s1, gd_j1, gd_j1]
  obtain ⟨s, e, hl, fr⟩ := ld_cA (fun (v10 : Int32) (v11 : Int32) (s9 : gS) => gd_s (gs_I s9 0 8 v10) fun s12 => some (.inl (some (.int v11)), s12)) (fun (s13 : gS) => gd_s (gs_I s13 2 7 (gI s13 0 7)) fun s14 => gd_0 (F_Machine_begin s14) fun s15 => gd_0 (F_Reach_dropRows s15) fun s16 => gd_s (gs_I s16 0 10 0) fun s17 => gd_s (gs_I s17 0 9 1) fun s18 => some (.inl (some (.int 0)), s18)) (σ := gs_I (gs_I σ 0 9 0) 0 8 (-1)) (W := W) hn h7 hw hok
  rw [e]
  obtain ⟨s3, b1, b2, b3⟩ := ld_cb (W := W) (gs_I s 2 7 (gI s 0 7))
  have f3 := K_Machine_begin _ _ b1
  rw [gd_s1, b1, gd_01]
  unfold F_Reach_dropRows
  rw [gd_s1, gd_s1, gd_01, gd_s1, gd_s1]
  have g7 : gI s 0 7 = nI n := (fm_I fr rfl).trans h7
  refine ⟨_, rfl, ?_, ?_, b2, b3, ?_, rfl, rfl, fun q hq => ?_, fun q hq => ?_⟩
  · have g9 : rDl W n s3 := rDl_sm (σ := gs_I s 2 7 (gI s 0 7)) hl (fm_sm f3 rfl)
    exact g9
  · exact (fm_I f3 (p := 2) (k := 7) rfl).trans g7
  · exact (fm_I f3 (p := 0) (k := 8) rfl).trans (fm_I fr (p := 0) (k := 8) rfl)
  · exact if_pos ⟨Nat.zero_le _, hq⟩
  · exact if_pos ⟨Nat.zero_le _, hq⟩
theorem ok_load (X : List Int32) (σ : gS) (h : rel X σ) : lc_i m_G_load m_M_load [] X σ (rel X) := by
  obtain ⟨hX, n, ⟨hn, s7, s2, hw⟩, ⟨b1, b2, b3, b4⟩, hc, hl⟩ := id h
  by_cases hok : sp_ok (gA σ 42) n
  · obtain ⟨s, e, d1, d2, d3, d4, d5, d6, d7, d8, d9⟩ := ld_G hn s7 hw hok
    have e1 : F_G_load σ = some (.inl (some (.int 0)), s) := by unfold F_G_load; rw [e, gd_i1]
    have f1 := K_G_load σ _ e1
    have w1 : gA s 42 = gA σ 42 := fm_A f1 rfl
    have s2' : gI (gs_I s 41 0 0) 41 2 = nI n := (fm_I f1 (p := 41) (k := 2) rfl).trans s2
    obtain ⟨t, g1, g2, g3, g4, g5⟩ := ld_mb (gs_I (gs_I s 41 0 0) 41 6 (-1))
    have e2 : F_M_load s = some (.inl (some (.int 0)), t) := by
      unfold F_M_load
      rw [gd_s1, gd_j1, gd_j1, ld_rA _ _ hn s2' (show sp_ok (gA (gs_I s 41 0 0) 42) n by rw [show gA (gs_I s 41 0 0) 42 = gA σ 42 from w1]; exact hok), gd_s1, g1, gd_01]
    have f2 := K_M_load s _ e2
    have fb := K_M_begin _ _ g1
    have f := fm_2 f1 f2
    have w2 : gA t 42 = gA σ 42 := fm_A f rfl
    refine ⟨0, s, t, X_G_load σ _ e1, f1.2.2.2.trans hX, X_M_load s _ e2, f.2.2.2.trans hX, n, rA_sm ⟨hn, s7, s2, hw⟩ (fm_sm f rfl), ⟨?_, ⟨?_, Or.inr ((fm_I f2 rfl).trans d6)⟩, ⟨?_, ?_, ?_⟩, ?_⟩, by rw [w2]; exact hc, fun _ => ⟨⟨(fm_I f2 rfl).trans d2, hn, by rw [w2]; exact hok, ?_⟩, rM_mk (W := gA σ 42) (m := ld_m0) (o := 0) (ks := []) (aC_sm d3 (fm_sm f2 rfl)) g2 ⟨Nat.zero_le _, rfl, Nat.zero_le _⟩ (gC_sm d4 (fm_sm f2 rfl)) g3 (fun e he => by cases he) w2, ?_, ?_⟩⟩
    · rw [fm_I f2 (p := 0) (k := 8) rfl, d5]
      exact (fm_I fb (p := 41) (k := 6) rfl).symm
    · rw [fm_I f2 (p := 0) (k := 9) rfl, d6, g4]
    · rw [fm_I f (p := 0) (k := 11) rfl, fm_I f (p := 41) (k := 4) rfl]; exact b3.1
    · rw [fm_I f (p := 0) (k := 11) rfl]; exact b3.2.1
    · rw [fm_I f (p := 0) (k := 11) rfl, fm_A f (p := 40) rfl, fm_A f (p := 43) rfl]; exact b3.2.2
    · rw [fm_I f (p := 10) (k := 6) rfl, fm_I f (p := 41) (k := 12) rfl]; exact b4
    · rw [w2]; exact rDl_sm d1 (fm_sm f2 rfl)
    · refine ⟨⟨Or.inl ((fm_I f2 rfl).trans d7), fun y => ?_⟩, fun p hp y => ?_, fun q hq => Or.inl ?_⟩
      · rw [fm_I f2 (p := 0) (k := 10) rfl, d7] at y; exact absurd y (by decide)
      · rw [fm_A f2 (p := 23) rfl, d8 p (by omega)] at y; exact absurd rfl y
      · rw [fm_A f2 (p := 24) rfl]; exact d9 q (by omega)
    · exact ⟨⟨fm_I fb (p := 41) (k := 6) rfl, Or.inl g5⟩, fun y => by rw [g5] at y; exact absurd y (by decide)⟩
  · have hex : ∃ p, p < n ∧ ¬ f_fo (gA σ 42 p) (nI p) (nI n) = 0 := Classical.byContradiction fun z => hok fun p hp => Classical.byContradiction fun y => z ⟨p, hp, y⟩
    obtain ⟨p, ⟨hp, hf⟩, hq⟩ := pk_least _ hex
    have hq' : ∀ q, q < p → f_fo (gA σ 42 q) (nI q) (nI n) = 0 := fun q hqp => Classical.byContradiction fun y => hq q hqp ⟨by omega, y⟩
    obtain ⟨s, e, fr⟩ := ld_cB (fun (v10 : Int32) (v11 : Int32) (s9 : gS) => gd_s (gs_I s9 0 8 v10) fun s12 => some (.inl (some (.int v11)), s12)) (fun (s13 : gS) => gd_s (gs_I s13 2 7 (gI s13 0 7)) fun s14 => gd_0 (F_Machine_begin s14) fun s15 => gd_0 (F_Reach_dropRows s15) fun s16 => gd_s (gs_I s16 0 10 0) fun s17 => gd_s (gs_I s17 0 9 1) fun s18 => some (.inl (some (.int 0)), s18)) (σ := gs_I (gs_I σ 0 9 0) 0 8 (-1)) (W := gA σ 42) hn s7 hw hp hf hq'
    have e1 : F_G_load σ = some (.inl (some (.int (f_fo (gA σ 42 p) (nI p) (nI n)))), gs_I s 0 8 (nI p)) := by
      unfold F_G_load F_G_takeUp
      rw [gd_s1, gd_s1, gd_j1, gd_j1, e, gd_s1, gd_i1]
    have f1 := K_G_load σ _ e1
    have w1 : gA (gs_I s 0 8 (nI p)) 42 = gA σ 42 := fm_A f1 rfl
    have s2' : gI (gs_I (gs_I s 0 8 (nI p)) 41 0 0) 41 2 = nI n := (fm_I f1 (p := 41) (k := 2) rfl).trans s2
    have e2 : F_M_load (gs_I s 0 8 (nI p)) = some (.inl (some (.int (f_fo (gA σ 42 p) (nI p) (nI n)))), gs_I (gs_I (gs_I (gs_I s 0 8 (nI p)) 41 0 0) 41 5 0) 41 6 (nI p)) := by
      unfold F_M_load
      have w3 : gA (gs_I (gs_I s 0 8 (nI p)) 41 0 0) 42 = gA σ 42 := w1
      rw [gd_s1, gd_j1, gd_j1, ld_rB _ _ hn s2' hp (by rw [w3]; exact hf) (by rw [w3]; exact hq'), w3, gd_s1, gd_s1]
    have f2 := K_M_load _ _ e2
    have f := fm_2 f1 f2
    have w2 := fm_A f (p := 42) rfl
    have z9 : gI s 0 9 = 0 := fm_I fr (p := 0) (k := 9) rfl
    refine ⟨_, _, _, X_G_load σ _ e1, f1.2.2.2.trans hX, X_M_load _ _ e2, f.2.2.2.trans hX, n, rA_sm ⟨hn, s7, s2, hw⟩ (fm_sm f rfl), ⟨rfl, ⟨z9, Or.inl z9⟩, ⟨?_, ?_, ?_⟩, ?_⟩, by rw [w2]; exact hc, fun y => ?_⟩
    · rw [fm_I f (p := 0) (k := 11) rfl, fm_I f (p := 41) (k := 4) rfl]; exact b3.1
    · rw [fm_I f (p := 0) (k := 11) rfl]; exact b3.2.1
    · rw [fm_I f (p := 0) (k := 11) rfl, fm_A f (p := 40) rfl, fm_A f (p := 43) rfl]; exact b3.2.2
    · rw [fm_I f (p := 10) (k := 6) rfl, fm_I f (p := 41) (k := 12) rfl]; exact b4
    · have y : gI s 0 9 = 1 := y
      rw [z9] at y; exact absurd y (by decide)
