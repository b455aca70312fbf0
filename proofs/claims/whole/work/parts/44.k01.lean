abbrev W_G_noteNewWords : gW := ([(0, 9), (0, 11)], [], [])
theorem K_G_noteNewWords (σ : gS) (r0 : gQ × gS) (h : F_G_noteNewWords σ = some r0) : gd_fm W_G_noteNewWords σ r0.2 := by
  unfold F_G_noteNewWords at h
  have hf0 := gd_fm0 W_G_noteNewWords σ
  refine gd_ks (C := gd_fm W_G_noteNewWords σ) (gd_fmI hf0 rfl) h (fun s1 hfs1 h => ?_)
  refine gd_ks (C := gd_fm W_G_noteNewWords σ) (gd_fmI hfs1 rfl) h (fun s2 hfs2 h => ?_)
  exact gd_ke hfs2 h
abbrev W_G_word : gW := ([(0, 7), (0, 9), (0, 11)], [1], [])
theorem K_G_word (a : Int32) (σ : gS) (r0 : gQ × gS) (h : F_G_word a σ = some r0) : gd_fm W_G_word σ r0.2 := by
  unfold F_G_word at h
  have hf0 := gd_fm0 W_G_word σ
  refine gd_ki h (fun h => ?_) (fun h => ?_)
  · obtain ⟨-, h⟩ := gd_gE h
    refine gd_ks (C := gd_fm W_G_word σ) (gd_fmA hf0 rfl) h (fun s1 hfs1 h => ?_)
    refine gd_ks (C := gd_fm W_G_word σ) (gd_fmI hfs1 rfl) h (fun s2 hfs2 h => ?_)
    refine gd_kc0 hfs2 (K_G_noteNewWords _) rfl h (fun s3 hfs3 h => ?_)
    exact gd_ke hfs3 h
  · exact gd_ke hf0 h
abbrev W_G_clear : gW := ([(0, 7), (0, 9), (0, 11)], [], [])
theorem K_G_clear (σ : gS) (r0 : gQ × gS) (h : F_G_clear σ = some r0) : gd_fm W_G_clear σ r0.2 := by
  unfold F_G_clear at h
  have hf0 := gd_fm0 W_G_clear σ
  refine gd_ks (C := gd_fm W_G_clear σ) (gd_fmI hf0 rfl) h (fun s1 hfs1 h => ?_)
  refine gd_kc0 hfs1 (K_G_noteNewWords _) rfl h (fun s2 hfs2 h => ?_)
  exact gd_ke hfs2 h
abbrev W_Listing_put : gW := ([], [3, 4, 5, 6, 7, 8, 9], [])
theorem K_Listing_put (a : Int32) (b : Int32) (σ : gS) (r0 : gQ × gS) (h : F_Listing_put a b σ = some r0) : gd_fm W_Listing_put σ r0.2 := by
  unfold F_Listing_put at h
  have hf0 := gd_fm0 W_Listing_put σ
  refine gd_kt h (fun v2 h => ?_)
  refine gd_kt h (fun v4 h => ?_)
  refine gd_kt h (fun v6 h => ?_)
  obtain ⟨-, h⟩ := gd_gE h
  refine gd_ks (C := gd_fm W_Listing_put σ) (gd_fmA hf0 rfl) h (fun s7 hfs7 h => ?_)
  obtain ⟨-, h⟩ := gd_gE h
  refine gd_ks (C := gd_fm W_Listing_put σ) (gd_fmA hfs7 rfl) h (fun s8 hfs8 h => ?_)
  refine gd_kt h (fun v10 h => ?_)
  obtain ⟨-, h⟩ := gd_gE h
  refine gd_ks (C := gd_fm W_Listing_put σ) (gd_fmA hfs8 rfl) h (fun s11 hfs11 h => ?_)
  refine gd_kt h (fun v13 h => ?_)
  obtain ⟨-, h⟩ := gd_gE h
  refine gd_ks (C := gd_fm W_Listing_put σ) (gd_fmA hfs11 rfl) h (fun s14 hfs14 h => ?_)
  refine gd_kt h (fun v16 h => ?_)
  obtain ⟨-, h⟩ := gd_gE h
  refine gd_ks (C := gd_fm W_Listing_put σ) (gd_fmA hfs14 rfl) h (fun s17 hfs17 h => ?_)
  obtain ⟨-, h⟩ := gd_gE h
  refine gd_ks (C := gd_fm W_Listing_put σ) (gd_fmA hfs17 rfl) h (fun s18 hfs18 h => ?_)
  refine gd_kt h (fun v20 h => ?_)
  obtain ⟨-, h⟩ := gd_gE h
  refine gd_ks (C := gd_fm W_Listing_put σ) (gd_fmA hfs18 rfl) h (fun s21 hfs21 h => ?_)
  exact gd_ke hfs21 h
abbrev W_Leaks_drop : gW := ([(13, 1)], [], [])
theorem K_Leaks_drop (σ : gS) (r0 : gQ × gS) (h : F_Leaks_drop σ = some r0) : gd_fm W_Leaks_drop σ r0.2 := by
  unfold F_Leaks_drop at h
  have hf0 := gd_fm0 W_Leaks_drop σ
  refine gd_ks (C := gd_fm W_Leaks_drop σ) (gd_fmI hf0 rfl) h (fun s1 hfs1 h => ?_)
  exact gd_ke hfs1 h
abbrev W_Guesses_drop : gW := ([(15, 5), (15, 6), (15, 7)], [], [])
theorem K_Guesses_drop (σ : gS) (r0 : gQ × gS) (h : F_Guesses_drop σ = some r0) : gd_fm W_Guesses_drop σ r0.2 := by
  unfold F_Guesses_drop at h
  have hf0 := gd_fm0 W_Guesses_drop σ
  refine gd_ks (C := gd_fm W_Guesses_drop σ) (gd_fmI hf0 rfl) h (fun s1 hfs1 h => ?_)
  refine gd_ks (C := gd_fm W_Guesses_drop σ) (gd_fmI hfs1 rfl) h (fun s2 hfs2 h => ?_)
  refine gd_ks (C := gd_fm W_Guesses_drop σ) (gd_fmI hfs2 rfl) h (fun s3 hfs3 h => ?_)
  exact gd_ke hfs3 h
abbrev W_Machine_begin : gW := ([(10, 5), (13, 1), (15, 5), (15, 6), (15, 7)], [11, 12], [])
theorem K_Machine_begin (σ : gS) (r0 : gQ × gS) (h : F_Machine_begin σ = some r0) : gd_fm W_Machine_begin σ r0.2 := by
  unfold F_Machine_begin at h
  have hf0 := gd_fm0 W_Machine_begin σ
  refine gd_ks (C := gd_fm W_Machine_begin σ) (gd_fmR hf0 rfl) h (fun s1 hfs1 h => ?_)
  refine gd_ks (C := gd_fm W_Machine_begin σ) (gd_fmR hfs1 rfl) h (fun s2 hfs2 h => ?_)
  refine gd_kci hfs2 (K_Leaks_drop _) rfl h (fun r3 s4 hfs4 h => ?_)
  refine gd_kc0 hfs4 (K_Guesses_drop _) rfl h (fun s5 hfs5 h => ?_)
  refine gd_ks (C := gd_fm W_Machine_begin σ) (gd_fmI hfs5 rfl) h (fun s6 hfs6 h => ?_)
  exact gd_ke hfs6 h
abbrev W_Reach_dropRows : gW := ([], [23, 24], [])
theorem K_Reach_dropRows (σ : gS) (r0 : gQ × gS) (h : F_Reach_dropRows σ = some r0) : gd_fm W_Reach_dropRows σ r0.2 := by
  unfold F_Reach_dropRows at h
  have hf0 := gd_fm0 W_Reach_dropRows σ
  refine gd_ks (C := gd_fm W_Reach_dropRows σ) (gd_fmR hf0 rfl) h (fun s1 hfs1 h => ?_)
  refine gd_ks (C := gd_fm W_Reach_dropRows σ) (gd_fmR hfs1 rfl) h (fun s2 hfs2 h => ?_)
  exact gd_ke hfs2 h
abbrev W_G_takeUp : gW := ([(0, 8), (0, 9), (0, 10), (2, 7), (10, 5), (13, 1), (15, 5), (15, 6), (15, 7)], [3, 4, 5, 6, 7, 8, 9, 11, 12, 23, 24], [])
theorem KL_G_takeUp_12 (k6 : Int32 → Int32 → gS → gR) (k7 : gS → gR) (σ : gS) (r0 : gQ × gS) (hk6 : ∀ (v10 : Int32) (v11 : Int32) (s9 : gS), gd_fm W_G_takeUp σ s9 → k6 v10 v11 s9 = some r0 → gd_fm W_G_takeUp σ r0.2) (hk7 : ∀ (s13 : gS), gd_fm W_G_takeUp σ s13 → k7 s13 = some r0 → gd_fm W_G_takeUp σ r0.2) (n : Nat) : ∀ (n_1_3 : Int32) (s4 : gS), gd_fm W_G_takeUp σ s4 → gd_lp (fun _ _ => none) (B_G_takeUp_12 k6 k7) n n_1_3 s4 = some r0 → gd_fm W_G_takeUp σ r0.2 := by
  refine gd_lpC (fun (ag5 : Int32 → gS → gR) => ∀ (n_1_3 : Int32) (s4 : gS), gd_fm W_G_takeUp σ s4 → ag5 n_1_3 s4 = some r0 → gd_fm W_G_takeUp σ r0.2) (fun n_1_3 s4 _ h => by cases h) (fun ag5 ih n_1_3 s4 hfs4 h => ?_) n
  unfold B_G_takeUp_12 at h
  refine gd_ki h (fun h => ?_) (fun h => ?_)
  · exact hk7 _ hfs4 h
  · obtain ⟨-, h⟩ := gd_gE h
    refine gd_ki h (fun h => ?_) (fun h => ?_)
    · obtain ⟨-, h⟩ := gd_gE h
      refine gd_kc0 hfs4 (K_Listing_put _ _ _) rfl h (fun s8 hfs8 h => ?_)
      exact ih _ _ hfs8 h
    · exact hk6 _ _ _ hfs4 h
theorem K_G_takeUp (σ : gS) (r0 : gQ × gS) (h : F_G_takeUp σ = some r0) : gd_fm W_G_takeUp σ r0.2 := by
  unfold F_G_takeUp at h
  have hf0 := gd_fm0 W_G_takeUp σ
  refine gd_ks (C := gd_fm W_G_takeUp σ) (gd_fmI hf0 rfl) h (fun s1 hfs1 h => ?_)
  refine gd_ks (C := gd_fm W_G_takeUp σ) (gd_fmI hfs1 rfl) h (fun s2 hfs2 h => ?_)
  refine gd_jC (fun k6 => ∀ (v10 : Int32) (v11 : Int32) (s9 : gS), gd_fm W_G_takeUp σ s9 → k6 v10 v11 s9 = some r0 → gd_fm W_G_takeUp σ r0.2) h (fun v10 v11 s9 hfs9 h => ?_) (fun k6 hk6 h => ?_)
  · refine gd_ks (C := gd_fm W_G_takeUp σ) (gd_fmI hfs9 rfl) h (fun s12 hfs12 h => ?_)
    exact gd_ke hfs12 h
  refine gd_jC (fun k7 => ∀ (s13 : gS), gd_fm W_G_takeUp σ s13 → k7 s13 = some r0 → gd_fm W_G_takeUp σ r0.2) h (fun s13 hfs13 h => ?_) (fun k7 hk7 h => ?_)
  · refine gd_ks (C := gd_fm W_G_takeUp σ) (gd_fmI hfs13 rfl) h (fun s14 hfs14 h => ?_)
    refine gd_kc0 hfs14 (K_Machine_begin _) rfl h (fun s15 hfs15 h => ?_)
    refine gd_kc0 hfs15 (K_Reach_dropRows _) rfl h (fun s16 hfs16 h => ?_)
    refine gd_ks (C := gd_fm W_G_takeUp σ) (gd_fmI hfs16 rfl) h (fun s17 hfs17 h => ?_)
    refine gd_ks (C := gd_fm W_G_takeUp σ) (gd_fmI hfs17 rfl) h (fun s18 hfs18 h => ?_)
    exact gd_ke hfs18 h
  exact KL_G_takeUp_12 _ _ σ r0 hk6 hk7 _ _ _ hfs2 h
abbrev W_G_load : gW := ([(0, 8), (0, 9), (0, 10), (2, 7), (10, 5), (13, 1), (15, 5), (15, 6), (15, 7)], [3, 4, 5, 6, 7, 8, 9, 11, 12, 23, 24], [])
theorem K_G_load (σ : gS) (r0 : gQ × gS) (h : F_G_load σ = some r0) : gd_fm W_G_load σ r0.2 := by
  unfold F_G_load at h
  have hf0 := gd_fm0 W_G_load σ
  refine gd_kci hf0 (K_G_takeUp _) rfl h (fun r1 s2 hfs2 h => ?_)
  exact gd_ke hfs2 h
abbrev W_G_again : gW := ([(0, 7), (0, 9), (0, 11)], [1], [])
theorem KL_G_again_54 (k6 : gS → gR) (x_1_1 : Int32) (x_3_2 : Int64) (σ : gS) (r0 : gQ × gS) (hk6 : ∀ (s8 : gS), gd_fm W_G_again σ s8 → k6 s8 = some r0 → gd_fm W_G_again σ r0.2) (n : Nat) : ∀ (n_5_3 : Int32) (s4 : gS), gd_fm W_G_again σ s4 → gd_lp (fun _ _ => none) (B_G_again_54 k6 x_1_1 x_3_2) n n_5_3 s4 = some r0 → gd_fm W_G_again σ r0.2 := by
  refine gd_lpC (fun (ag5 : Int32 → gS → gR) => ∀ (n_5_3 : Int32) (s4 : gS), gd_fm W_G_again σ s4 → ag5 n_5_3 s4 = some r0 → gd_fm W_G_again σ r0.2) (fun n_5_3 s4 _ h => by cases h) (fun ag5 ih n_5_3 s4 hfs4 h => ?_) n
  unfold B_G_again_54 at h
  refine gd_ki h (fun h => ?_) (fun h => ?_)
  · exact hk6 _ hfs4 h
  · obtain ⟨-, h⟩ := gd_gE h
    obtain ⟨-, h⟩ := gd_gE h
    refine gd_ks (C := gd_fm W_G_again σ) (gd_fmA hfs4 rfl) h (fun s7 hfs7 h => ?_)
    exact ih _ _ hfs7 h
theorem K_G_again (a : Int32) (b : Int32) (σ : gS) (r0 : gQ × gS) (h : F_G_again a b σ = some r0) : gd_fm W_G_again σ r0.2 := by
  unfold F_G_again at h
  have hf0 := gd_fm0 W_G_again σ
  refine gd_ki h (fun h => ?_) (fun h => ?_)
  · exact gd_ke hf0 h
  · refine gd_ki h (fun h => ?_) (fun h => ?_)
    · exact gd_ke hf0 h
    · refine gd_ki h (fun h => ?_) (fun h => ?_)
      · refine gd_ki h (fun h => ?_) (fun h => ?_)
        · refine gd_jC (fun k6 => ∀ (s8 : gS), gd_fm W_G_again σ s8 → k6 s8 = some r0 → gd_fm W_G_again σ r0.2) h (fun s8 hfs8 h => ?_) (fun k6 hk6 h => ?_)
          · refine gd_ks (C := gd_fm W_G_again σ) (gd_fmI hfs8 rfl) h (fun s9 hfs9 h => ?_)
            refine gd_kc0 hfs9 (K_G_noteNewWords _) rfl h (fun s10 hfs10 h => ?_)
            exact gd_ke hfs10 h
          exact KL_G_again_54 _ _ _ σ r0 hk6 _ _ _ hf0 h
        · exact gd_ke hf0 h
      · exact gd_ke hf0 h
abbrev W_Machine_put : gW := ([], [11], [])
theorem K_Machine_put (a : Int32) (b : Int32) (σ : gS) (r0 : gQ × gS) (h : F_Machine_put a b σ = some r0) : gd_fm W_Machine_put σ r0.2 := by
  unfold F_Machine_put at h
  have hf0 := gd_fm0 W_Machine_put σ
  refine gd_ki h (fun h => ?_) (fun h => ?_)
  · exact gd_ke hf0 h
  · refine gd_ki h (fun h => ?_) (fun h => ?_)
    · exact gd_ke hf0 h
    · obtain ⟨-, h⟩ := gd_gE h
      refine gd_ks (C := gd_fm W_Machine_put σ) (gd_fmA hf0 rfl) h (fun s1 hfs1 h => ?_)
      exact gd_ke hfs1 h
abbrev W_G_set : gW := ([], [11], [])
theorem K_G_set (a : Int32) (b : Int32) (σ : gS) (r0 : gQ × gS) (h : F_G_set a b σ = some r0) : gd_fm W_G_set σ r0.2 := by
  unfold F_G_set at h
  have hf0 := gd_fm0 W_G_set σ
  refine gd_kq0 hf0 h (fun h => ?_)
  refine gd_kq0 hf0 h (fun h => ?_)
  refine gd_ki h (fun h => ?_) (fun h => ?_)
  · exact gd_ke hf0 h
  · refine gd_ki h (fun h => ?_) (fun h => ?_)
    · refine gd_kc0 hf0 (K_Machine_put _ _ _) rfl h (fun s1 hfs1 h => ?_)
      exact gd_ke hfs1 h
    · exact gd_ke hf0 h
abbrev W_Machine_write : gW := ([], [12], [])
theorem KL_Machine_write_12 (x_2_1 : Int32) (x_3_2 : Int32) (x_4_3 : Int32) (σ : gS) (r0 : gQ × gS) (n : Nat) : ∀ (n_5_4 : Int32) (s5 : gS), gd_fm W_Machine_write σ s5 → gd_lp (fun _ _ => none) (B_Machine_write_12 x_2_1 x_3_2 x_4_3) n n_5_4 s5 = some r0 → gd_fm W_Machine_write σ r0.2 := by
  refine gd_lpC (fun (ag6 : Int32 → gS → gR) => ∀ (n_5_4 : Int32) (s5 : gS), gd_fm W_Machine_write σ s5 → ag6 n_5_4 s5 = some r0 → gd_fm W_Machine_write σ r0.2) (fun n_5_4 s5 _ h => by cases h) (fun ag6 ih n_5_4 s5 hfs5 h => ?_) n
  unfold B_Machine_write_12 at h
  refine gd_ki h (fun h => ?_) (fun h => ?_)
  · exact gd_ke hfs5 h
  · obtain ⟨-, h⟩ := gd_gE h
    refine gd_ks (C := gd_fm W_Machine_write σ) (gd_fmA hfs5 rfl) h (fun s7 hfs7 h => ?_)
    exact ih _ _ hfs7 h
theorem K_Machine_write (a : Int32) (b : Int32) (c : Int32) (σ : gS) (r0 : gQ × gS) (h : F_Machine_write a b c σ = some r0) : gd_fm W_Machine_write σ r0.2 := by
  unfold F_Machine_write at h
  have hf0 := gd_fm0 W_Machine_write σ
  exact KL_Machine_write_12 _ _ _ σ r0 _ _ _ hf0 h
abbrev W_G_poke : gW := ([], [12], [])
theorem K_G_poke (a : Int32) (b : Int32) (σ : gS) (r0 : gQ × gS) (h : F_G_poke a b σ = some r0) : gd_fm W_G_poke σ r0.2 := by
  unfold F_G_poke at h
  have hf0 := gd_fm0 W_G_poke σ
  refine gd_kq0 hf0 h (fun h => ?_)
  refine gd_kq0 hf0 h (fun h => ?_)
  refine gd_kc0 hf0 (K_Machine_write _ _ _ _) rfl h (fun s1 hfs1 h => ?_)
  exact gd_ke hfs1 h
abbrev W_Leaks_add : gW := ([(13, 1)], [], [14])
theorem K_Leaks_add (a : Int32) (b : Int32) (σ : gS) (r0 : gQ × gS) (h : F_Leaks_add a b σ = some r0) : gd_fm W_Leaks_add σ r0.2 := by
  unfold F_Leaks_add at h
  have hf0 := gd_fm0 W_Leaks_add σ
  refine gd_ki h (fun h => ?_) (fun h => ?_)
  · exact gd_ke hf0 h
  · obtain ⟨-, h⟩ := gd_gE h
    refine gd_ks (C := gd_fm W_Leaks_add σ) (gd_fmL hf0 rfl) h (fun s1 hfs1 h => ?_)
    refine gd_ks (C := gd_fm W_Leaks_add σ) (gd_fmI hfs1 rfl) h (fun s2 hfs2 h => ?_)
    exact gd_ke hfs2 h
abbrev W_Machine_compute : gW := ([(13, 1)], [11], [14])
theorem K_Machine_compute (a : Int32) (σ : gS) (r0 : gQ × gS) (h : F_Machine_compute a σ = some r0) : gd_fm W_Machine_compute σ r0.2 := by
  unfold F_Machine_compute at h
  have hf0 := gd_fm0 W_Machine_compute σ
  obtain ⟨-, h⟩ := gd_gE h
  refine gd_kqi hf0 h (fun r1 h => ?_)
  obtain ⟨-, h⟩ := gd_gE h
  refine gd_jC (fun J2 => ∀ (v4 : Int32), J2 v4 = some r0 → gd_fm W_Machine_compute σ r0.2) h (fun v4 h => ?_) (fun J2 hJ2 h => ?_)
  · refine gd_kqi hf0 h (fun r5 h => ?_)
    refine gd_jC (fun J6 => ∀ (s9 : gS), gd_fm W_Machine_compute σ s9 → J6 s9 = some r0 → gd_fm W_Machine_compute σ r0.2) h (fun s9 hfs9 h => ?_) (fun J6 hJ6 h => ?_)
    · obtain ⟨-, h⟩ := gd_gE h
      obtain ⟨-, h⟩ := gd_gE h
      refine gd_kqi hfs9 h (fun r10 h => ?_)
      refine gd_kc0 hfs9 (K_Machine_put _ _ _) rfl h (fun s11 hfs11 h => ?_)
      exact gd_ke hfs11 h
    · refine gd_ki h (fun h => ?_) (fun h => ?_)
      · exact hJ6 _ hf0 h
      · refine gd_kc0 hf0 (K_Leaks_add _ _ _) rfl h (fun s7 hfs7 h => ?_)
        refine gd_kc0 hfs7 (K_Leaks_add _ _ _) rfl h (fun s8 hfs8 h => ?_)
        exact hJ6 _ hfs8 h
  · refine gd_ki h (fun h => ?_) (fun h => ?_)
    · obtain ⟨-, h⟩ := gd_gE h
      refine gd_kqi hf0 h (fun r3 h => ?_)
      exact hJ2 _ h
    · obtain ⟨-, h⟩ := gd_gE h
      exact hJ2 _ h
abbrev W_Machine_fetch : gW := ([(13, 1)], [11], [14])
theorem K_Machine_fetch (a : Int32) (σ : gS) (r0 : gQ × gS) (h : F_Machine_fetch a σ = some r0) : gd_fm W_Machine_fetch σ r0.2 := by
  unfold F_Machine_fetch at h
  have hf0 := gd_fm0 W_Machine_fetch σ
  obtain ⟨-, h⟩ := gd_gE h
  refine gd_kqi hf0 h (fun r1 h => ?_)
  refine gd_kqi hf0 h (fun r2 h => ?_)
  refine gd_kt h (fun v4 h => ?_)
  refine gd_kc0 hf0 (K_Leaks_add _ _ _) rfl h (fun s5 hfs5 h => ?_)
  obtain ⟨-, h⟩ := gd_gE h
  refine gd_kc0 hfs5 (K_Machine_put _ _ _) rfl h (fun s6 hfs6 h => ?_)
  exact gd_ke hfs6 h
abbrev W_Machine_keep : gW := ([(13, 1)], [12], [14])
theorem K_Machine_keep (a : Int32) (σ : gS) (r0 : gQ × gS) (h : F_Machine_keep a σ = some r0) : gd_fm W_Machine_keep σ r0.2 := by
  unfold F_Machine_keep at h
  have hf0 := gd_fm0 W_Machine_keep σ
  refine gd_kqi hf0 h (fun r1 h => ?_)
  refine gd_kc0 hf0 (K_Leaks_add _ _ _) rfl h (fun s2 hfs2 h => ?_)
  obtain ⟨-, h⟩ := gd_gE h
  obtain ⟨-, h⟩ := gd_gE h
  refine gd_kqi hfs2 h (fun r3 h => ?_)
  refine gd_kc0 hfs2 (K_Machine_write _ _ _ _) rfl h (fun s4 hfs4 h => ?_)
  exact gd_ke hfs4 h
abbrev W_Machine_goTo : gW := ([(10, 5), (13, 1)], [], [14])
theorem K_Machine_goTo (a : Int32) (σ : gS) (r0 : gQ × gS) (h : F_Machine_goTo a σ = some r0) : gd_fm W_Machine_goTo σ r0.2 := by
  unfold F_Machine_goTo at h
  have hf0 := gd_fm0 W_Machine_goTo σ
  refine gd_kc0 hf0 (K_Leaks_add _ _ _) rfl h (fun s1 hfs1 h => ?_)
  refine gd_ks (C := gd_fm W_Machine_goTo σ) (gd_fmI hfs1 rfl) h (fun s2 hfs2 h => ?_)
  exact gd_ke hfs2 h
abbrev W_Machine_step : gW := ([(10, 5), (13, 1)], [11, 12], [14])
theorem K_Machine_step (σ : gS) (r0 : gQ × gS) (h : F_Machine_step σ = some r0) : gd_fm W_Machine_step σ r0.2 := by
  unfold F_Machine_step at h
  have hf0 := gd_fm0 W_Machine_step σ
  refine gd_ks (C := gd_fm W_Machine_step σ) (gd_fmI hf0 rfl) h (fun s1 hfs1 h => ?_)
  obtain ⟨-, h⟩ := gd_gE h
  refine gd_ki h (fun h => ?_) (fun h => ?_)
  · refine gd_kc0 hfs1 (K_Machine_compute _ _) rfl h (fun s2 hfs2 h => ?_)
    exact gd_ke hfs2 h
  refine gd_ki h (fun h => ?_) (fun h => ?_)
  · refine gd_kc0 hfs1 (K_Machine_compute _ _) rfl h (fun s3 hfs3 h => ?_)
    exact gd_ke hfs3 h
  refine gd_ki h (fun h => ?_) (fun h => ?_)
  · obtain ⟨-, h⟩ := gd_gE h
    obtain ⟨-, h⟩ := gd_gE h
    refine gd_kc0 hfs1 (K_Machine_put _ _ _) rfl h (fun s4 hfs4 h => ?_)
    exact gd_ke hfs4 h
  refine gd_ki h (fun h => ?_) (fun h => ?_)
  · refine gd_kc0 hfs1 (K_Machine_fetch _ _) rfl h (fun s5 hfs5 h => ?_)
    exact gd_ke hfs5 h
  refine gd_ki h (fun h => ?_) (fun h => ?_)
  · refine gd_kc0 hfs1 (K_Machine_keep _ _) rfl h (fun s6 hfs6 h => ?_)
    exact gd_ke hfs6 h
  refine gd_ki h (fun h => ?_) (fun h => ?_)
  · refine gd_kqi hfs1 h (fun r7 h => ?_)
    refine gd_kc0 hfs1 (K_Machine_goTo _ _) rfl h (fun s8 hfs8 h => ?_)
    exact gd_ke hfs8 h
  refine gd_ki h (fun h => ?_) (fun h => ?_)
  · obtain ⟨-, h⟩ := gd_gE h
    refine gd_kc0 hfs1 (K_Machine_goTo _ _) rfl h (fun s9 hfs9 h => ?_)
    exact gd_ke hfs9 h
  exact gd_ke hfs1 h
abbrev W_Machine_runInOrder : gW := ([(10, 5), (13, 1)], [11, 12], [14])
theorem KL_Machine_runInOrder_2 (x_1_1 : Int32) (σ : gS) (r0 : gQ × gS) (n : Nat) : ∀ (n_2_2 : Int32) (s3 : gS), gd_fm W_Machine_runInOrder σ s3 → gd_lp (fun _ _ => none) (B_Machine_runInOrder_2 x_1_1) n n_2_2 s3 = some r0 → gd_fm W_Machine_runInOrder σ r0.2 := by
  refine gd_lpC (fun (ag4 : Int32 → gS → gR) => ∀ (n_2_2 : Int32) (s3 : gS), gd_fm W_Machine_runInOrder σ s3 → ag4 n_2_2 s3 = some r0 → gd_fm W_Machine_runInOrder σ r0.2) (fun n_2_2 s3 _ h => by cases h) (fun ag4 ih n_2_2 s3 hfs3 h => ?_) n
  unfold B_Machine_runInOrder_2 at h
  refine gd_ki h (fun h => ?_) (fun h => ?_)
  · exact gd_ke hfs3 h
  · refine gd_kqi hfs3 h (fun r5 h => ?_)
    refine gd_ki h (fun h => ?_) (fun h => ?_)
    · exact gd_ke hfs3 h
    · refine gd_kc0 hfs3 (K_Machine_step _) rfl h (fun s6 hfs6 h => ?_)
      exact ih _ _ hfs6 h
theorem K_Machine_runInOrder (a : Int32) (σ : gS) (r0 : gQ × gS) (h : F_Machine_runInOrder a σ = some r0) : gd_fm W_Machine_runInOrder σ r0.2 := by
  unfold F_Machine_runInOrder at h
  have hf0 := gd_fm0 W_Machine_runInOrder σ
  exact KL_Machine_runInOrder_2 _ σ r0 _ _ _ hf0 h
abbrev W_G_run : gW := ([(10, 5), (13, 1)], [11, 12], [14])
theorem K_G_run (a : Int32) (σ : gS) (r0 : gQ × gS) (h : F_G_run a σ = some r0) : gd_fm W_G_run σ r0.2 := by
  unfold F_G_run at h
  have hf0 := gd_fm0 W_G_run σ
  refine gd_kq0 hf0 h (fun h => ?_)
  refine gd_kq0 hf0 h (fun h => ?_)
  refine gd_ki h (fun h => ?_) (fun h => ?_)
  · exact gd_ke hf0 h
  · refine gd_ki h (fun h => ?_) (fun h => ?_)
    · refine gd_kci hf0 (K_Machine_runInOrder _ _) rfl h (fun r1 s2 hfs2 h => ?_)
      exact gd_ke hfs2 h
    · exact gd_ke hf0 h
abbrev W_Guesses_countStep : gW := ([(15, 7)], [], [])
theorem K_Guesses_countStep (σ : gS) (r0 : gQ × gS) (h : F_Guesses_countStep σ = some r0) : gd_fm W_Guesses_countStep σ r0.2 := by
  unfold F_Guesses_countStep at h
  have hf0 := gd_fm0 W_Guesses_countStep σ
  refine gd_ks (C := gd_fm W_Guesses_countStep σ) (gd_fmI hf0 rfl) h (fun s1 hfs1 h => ?_)
  exact gd_ke hfs1 h
abbrev W_Machine_runAhead : gW := ([(10, 5), (13, 1), (15, 7)], [11, 12], [14])
theorem K_Machine_runAhead (σ : gS) (r0 : gQ × gS) (h : F_Machine_runAhead σ = some r0) : gd_fm W_Machine_runAhead σ r0.2 := by
  unfold F_Machine_runAhead at h
  have hf0 := gd_fm0 W_Machine_runAhead σ
  refine gd_kqi hf0 h (fun r1 h => ?_)
  refine gd_kt h (fun v3 h => ?_)
  refine gd_kqi hf0 h (fun r4 h => ?_)
  refine gd_ki h (fun h => ?_) (fun h => ?_)
  · exact gd_ke hf0 h
  · refine gd_kqi hf0 h (fun r5 h => ?_)
    refine gd_ki h (fun h => ?_) (fun h => ?_)
    · refine gd_ki h (fun h => ?_) (fun h => ?_)
      · refine gd_kqi hf0 h (fun r6 h => ?_)
        refine gd_ki h (fun h => ?_) (fun h => ?_)
        · refine gd_kc0 hf0 (K_Machine_step _) rfl h (fun s7 hfs7 h => ?_)
          refine gd_kc0 hfs7 (K_Guesses_countStep _) rfl h (fun s8 hfs8 h => ?_)
          exact gd_ke hfs8 h
        · exact gd_ke hf0 h
      · exact gd_ke hf0 h
    · exact gd_ke hf0 h
abbrev W_Guesses_add_11_12 : gW := ([(15, 6), (15, 7)], [16, 17, 18, 19, 20], [])
theorem K_Guesses_add_11_12 (a : Int32) (b : Int32) (σ : gS) (r0 : gQ × gS) (h : F_Guesses_add_11_12 a b σ = some r0) : gd_fm W_Guesses_add_11_12 σ r0.2 := by
  unfold F_Guesses_add_11_12 at h
  have hf0 := gd_fm0 W_Guesses_add_11_12 σ
  refine gd_ks (C := gd_fm W_Guesses_add_11_12 σ) (gd_fmI hf0 rfl) h (fun s1 hfs1 h => ?_)
  obtain ⟨-, h⟩ := gd_gE h
  refine gd_ks (C := gd_fm W_Guesses_add_11_12 σ) (gd_fmA hfs1 rfl) h (fun s2 hfs2 h => ?_)
  obtain ⟨-, h⟩ := gd_gE h
  refine gd_ks (C := gd_fm W_Guesses_add_11_12 σ) (gd_fmA hfs2 rfl) h (fun s3 hfs3 h => ?_)
  obtain ⟨-, h⟩ := gd_gE h
  refine gd_ks (C := gd_fm W_Guesses_add_11_12 σ) (gd_fmA hfs3 rfl) h (fun s4 hfs4 h => ?_)
  obtain ⟨-, h⟩ := gd_gE h
  refine gd_ks (C := gd_fm W_Guesses_add_11_12 σ) (gd_fmR hfs4 rfl) h (fun s5 hfs5 h => ?_)
  obtain ⟨-, h⟩ := gd_gE h
  refine gd_ks (C := gd_fm W_Guesses_add_11_12 σ) (gd_fmR hfs5 rfl) h (fun s6 hfs6 h => ?_)
  refine gd_ks (C := gd_fm W_Guesses_add_11_12 σ) (gd_fmI hfs6 rfl) h (fun s7 hfs7 h => ?_)
  exact gd_ke hfs7 h
abbrev W_Machine_guess : gW := ([(10, 5), (15, 6), (15, 7)], [16, 17, 18, 19, 20], [])
theorem K_Machine_guess (a : Int32) (σ : gS) (r0 : gQ × gS) (h : F_Machine_guess a σ = some r0) : gd_fm W_Machine_guess σ r0.2 := by
  unfold F_Machine_guess at h
  have hf0 := gd_fm0 W_Machine_guess σ
  refine gd_kqi hf0 h (fun r1 h => ?_)
  refine gd_ki h (fun h => ?_) (fun h => ?_)
  · exact gd_ke hf0 h
  · refine gd_kqi hf0 h (fun r2 h => ?_)
    refine gd_ki h (fun h => ?_) (fun h => ?_)
    · refine gd_kqi hf0 h (fun r3 h => ?_)
      refine gd_ki h (fun h => ?_) (fun h => ?_)
      · refine gd_jC (fun J4 => ∀ (v5 : Int32), J4 v5 = some r0 → gd_fm W_Machine_guess σ r0.2) h (fun v5 h => ?_) (fun J4 hJ4 h => ?_)
        · refine gd_kqi hf0 h (fun r6 h => ?_)
          refine gd_kc0 hf0 (K_Guesses_add_11_12 _ _ _) rfl h (fun s7 hfs7 h => ?_)
          refine gd_ks (C := gd_fm W_Machine_guess σ) (gd_fmI hfs7 rfl) h (fun s8 hfs8 h => ?_)
          exact gd_ke hfs8 h
        · refine gd_ki h (fun h => ?_) (fun h => ?_)
          · exact hJ4 _ h
          · obtain ⟨-, h⟩ := gd_gE h
            exact hJ4 _ h
      · exact gd_ke hf0 h
    · exact gd_ke hf0 h
abbrev W_Guesses_rollBack_11_12 : gW := ([(15, 5), (15, 6), (15, 7)], [11, 12], [])
theorem K_Guesses_rollBack_11_12 (σ : gS) (r0 : gQ × gS) (h : F_Guesses_rollBack_11_12 σ = some r0) : gd_fm W_Guesses_rollBack_11_12 σ r0.2 := by
  unfold F_Guesses_rollBack_11_12 at h
  have hf0 := gd_fm0 W_Guesses_rollBack_11_12 σ
  obtain ⟨-, h⟩ := gd_gE h
  refine gd_ks (C := gd_fm W_Guesses_rollBack_11_12 σ) (gd_fmR hf0 rfl) h (fun s1 hfs1 h => ?_)
  obtain ⟨-, h⟩ := gd_gE h
  refine gd_ks (C := gd_fm W_Guesses_rollBack_11_12 σ) (gd_fmR hfs1 rfl) h (fun s2 hfs2 h => ?_)
  refine gd_kc0 hfs2 (K_Guesses_drop _) rfl h (fun s3 hfs3 h => ?_)
  exact gd_ke hfs3 h
abbrev W_Guesses_closeOldest : gW := ([(15, 5), (15, 6)], [], [])
theorem K_Guesses_closeOldest (σ : gS) (r0 : gQ × gS) (h : F_Guesses_closeOldest σ = some r0) : gd_fm W_Guesses_closeOldest σ r0.2 := by
  unfold F_Guesses_closeOldest at h
  have hf0 := gd_fm0 W_Guesses_closeOldest σ
  refine gd_ks (C := gd_fm W_Guesses_closeOldest σ) (gd_fmI hf0 rfl) h (fun s1 hfs1 h => ?_)
  refine gd_ks (C := gd_fm W_Guesses_closeOldest σ) (gd_fmI hfs1 rfl) h (fun s2 hfs2 h => ?_)
  exact gd_ke hfs2 h
abbrev W_Machine_resolve : gW := ([(10, 5), (13, 1), (15, 5), (15, 6), (15, 7)], [11, 12], [14])
theorem K_Machine_resolve (σ : gS) (r0 : gQ × gS) (h : F_Machine_resolve σ = some r0) : gd_fm W_Machine_resolve σ r0.2 := by
  unfold F_Machine_resolve at h
  have hf0 := gd_fm0 W_Machine_resolve σ
  refine gd_ki h (fun h => ?_) (fun h => ?_)
  · exact gd_ke hf0 h
  · refine gd_kqi hf0 h (fun r1 h => ?_)
    refine gd_ki h (fun h => ?_) (fun h => ?_)
    · exact gd_ke hf0 h
    · refine gd_kqi hf0 h (fun r2 h => ?_)
      refine gd_kc0 hf0 (K_Leaks_add _ _ _) rfl h (fun s3 hfs3 h => ?_)
      refine gd_kqi hfs3 h (fun r4 h => ?_)
      refine gd_ki h (fun h => ?_) (fun h => ?_)
      · refine gd_kqi hfs3 h (fun r5 h => ?_)
        refine gd_ks (C := gd_fm W_Machine_resolve σ) (gd_fmI hfs3 rfl) h (fun s6 hfs6 h => ?_)
        refine gd_kc0 hfs6 (K_Guesses_rollBack_11_12 _) rfl h (fun s7 hfs7 h => ?_)
        exact gd_ke hfs7 h
      · refine gd_kc0 hfs3 (K_Guesses_closeOldest _) rfl h (fun s8 hfs8 h => ?_)
        exact gd_ke hfs8 h
abbrev W_Machine_obey : gW := ([(10, 5), (13, 1), (15, 5), (15, 6), (15, 7)], [11, 12, 16, 17, 18, 19, 20], [14])
theorem K_Machine_obey (a : Int32) (σ : gS) (r0 : gQ × gS) (h : F_Machine_obey a σ = some r0) : gd_fm W_Machine_obey σ r0.2 := by
  unfold F_Machine_obey at h
  have hf0 := gd_fm0 W_Machine_obey σ
  refine gd_ki h (fun h => ?_) (fun h => ?_)
  · refine gd_kci hf0 (K_Machine_runAhead _) rfl h (fun r1 s2 hfs2 h => ?_)
    exact gd_ke hfs2 h
  refine gd_ki h (fun h => ?_) (fun h => ?_)
  · refine gd_kci hf0 (K_Machine_guess _ _) rfl h (fun r3 s4 hfs4 h => ?_)
    exact gd_ke hfs4 h
  refine gd_ki h (fun h => ?_) (fun h => ?_)
  · refine gd_kci hf0 (K_Machine_guess _ _) rfl h (fun r5 s6 hfs6 h => ?_)
    exact gd_ke hfs6 h
  refine gd_kci hf0 (K_Machine_resolve _) rfl h (fun r7 s8 hfs8 h => ?_)
  exact gd_ke hfs8 h
abbrev W_G_order : gW := ([(10, 5), (13, 1), (15, 5), (15, 6), (15, 7)], [11, 12, 16, 17, 18, 19, 20], [14])
theorem K_G_order (a : Int32) (σ : gS) (r0 : gQ × gS) (h : F_G_order a σ = some r0) : gd_fm W_G_order σ r0.2 := by
  unfold F_G_order at h
  have hf0 := gd_fm0 W_G_order σ
  refine gd_kq0 hf0 h (fun h => ?_)
  refine gd_ki h (fun h => ?_) (fun h => ?_)
  · exact gd_ke hf0 h
  · refine gd_ki h (fun h => ?_) (fun h => ?_)
    · refine gd_kci hf0 (K_Machine_obey _ _) rfl h (fun r1 s2 hfs2 h => ?_)
      exact gd_ke hfs2 h
    · exact gd_ke hf0 h
abbrev W_G_window : gW := ([(10, 6)], [], [])
theorem K_G_window (a : Int32) (σ : gS) (r0 : gQ × gS) (h : F_G_window a σ = some r0) : gd_fm W_G_window σ r0.2 := by
  unfold F_G_window at h
  have hf0 := gd_fm0 W_G_window σ
  refine gd_ki h (fun h => ?_) (fun h => ?_)
  · exact gd_ke hf0 h
  · refine gd_ki h (fun h => ?_) (fun h => ?_)
    · refine gd_ks (C := gd_fm W_G_window σ) (gd_fmI hf0 rfl) h (fun s1 hfs1 h => ?_)
      exact gd_ke hfs1 h
    · exact gd_ke hf0 h
abbrev W_G_forget : gW := ([(13, 1)], [], [])
theorem K_G_forget (σ : gS) (r0 : gQ × gS) (h : F_G_forget σ = some r0) : gd_fm W_G_forget σ r0.2 := by
  unfold F_G_forget at h
  have hf0 := gd_fm0 W_G_forget σ
  refine gd_kq0 hf0 h (fun h => ?_)
  refine gd_kci hf0 (K_Leaks_drop _) rfl h (fun r1 s2 hfs2 h => ?_)
  exact gd_ke hfs2 h
abbrev W_Taint_prepare : gW := ([(26, 8), (26, 9), (26, 10)], [27, 30], [31, 32])
theorem KL_Taint_prepare_41 (σ : gS) (r0 : gQ × gS) (n : Nat) : ∀ (n_1_7 : Int32) (s8 : gS), gd_fm W_Taint_prepare σ s8 → gd_lp (fun _ _ => none) (B_Taint_prepare_41) n n_1_7 s8 = some r0 → gd_fm W_Taint_prepare σ r0.2 := by
  refine gd_lpC (fun (ag9 : Int32 → gS → gR) => ∀ (n_1_7 : Int32) (s8 : gS), gd_fm W_Taint_prepare σ s8 → ag9 n_1_7 s8 = some r0 → gd_fm W_Taint_prepare σ r0.2) (fun n_1_7 s8 _ h => by cases h) (fun ag9 ih n_1_7 s8 hfs8 h => ?_) n
  unfold B_Taint_prepare_41 at h
  refine gd_ki h (fun h => ?_) (fun h => ?_)
  · exact gd_ke hfs8 h
  · obtain ⟨-, h⟩ := gd_gE h
    refine gd_jC (fun J10 => ∀ (v12 : Int32), J10 v12 = some r0 → gd_fm W_Taint_prepare σ r0.2) h (fun v12 h => ?_) (fun J10 hJ10 h => ?_)
    · obtain ⟨-, h⟩ := gd_gE h
      refine gd_ks (C := gd_fm W_Taint_prepare σ) (gd_fmA hfs8 rfl) h (fun s13 hfs13 h => ?_)
      obtain ⟨-, h⟩ := gd_gE h
      refine gd_kqi hfs13 h (fun r14 h => ?_)
      refine gd_kt h (fun v16 h => ?_)
      obtain ⟨-, h⟩ := gd_gE h
      refine gd_ks (C := gd_fm W_Taint_prepare σ) (gd_fmL hfs13 rfl) h (fun s17 hfs17 h => ?_)
      obtain ⟨-, h⟩ := gd_gE h
      refine gd_kt h (fun v19 h => ?_)
      obtain ⟨-, h⟩ := gd_gE h
      refine gd_ks (C := gd_fm W_Taint_prepare σ) (gd_fmL hfs17 rfl) h (fun s20 hfs20 h => ?_)
      exact ih _ _ hfs20 h
    · refine gd_ki h (fun h => ?_) (fun h => ?_)
      · exact hJ10 _ h
      · refine gd_ki h (fun h => ?_) (fun h => ?_)
        · exact hJ10 _ h
        · refine gd_ki h (fun h => ?_) (fun h => ?_)
          · exact hJ10 _ h
          · refine gd_kqi hfs8 h (fun r11 h => ?_)
            refine gd_ki h (fun h => ?_) (fun h => ?_)
            · exact hJ10 _ h
            · exact hJ10 _ h
theorem K_Taint_prepare (σ : gS) (r0 : gQ × gS) (h : F_Taint_prepare σ = some r0) : gd_fm W_Taint_prepare σ r0.2 := by
  unfold F_Taint_prepare at h
  have hf0 := gd_fm0 W_Taint_prepare σ
  refine gd_ks (C := gd_fm W_Taint_prepare σ) (gd_fmI hf0 rfl) h (fun s1 hfs1 h => ?_)
  refine gd_ks (C := gd_fm W_Taint_prepare σ) (gd_fmI hfs1 rfl) h (fun s2 hfs2 h => ?_)
  refine gd_ks (C := gd_fm W_Taint_prepare σ) (gd_fmI hfs2 rfl) h (fun s3 hfs3 h => ?_)
  refine gd_ks (C := gd_fm W_Taint_prepare σ) (gd_fmR hfs3 rfl) h (fun s4 hfs4 h => ?_)
  refine gd_ks (C := gd_fm W_Taint_prepare σ) (gd_fmRL hfs4 rfl) h (fun s5 hfs5 h => ?_)
  refine gd_ks (C := gd_fm W_Taint_prepare σ) (gd_fmRL hfs5 rfl) h (fun s6 hfs6 h => ?_)
  exact KL_Taint_prepare_41 σ r0 _ _ _ hfs6 h
abbrev W_Taint_addGuessed : gW := ([(26, 8)], [27, 28], [])
theorem K_Taint_addGuessed (a : Int32) (σ : gS) (r0 : gQ × gS) (h : F_Taint_addGuessed a σ = some r0) : gd_fm W_Taint_addGuessed σ r0.2 := by
  unfold F_Taint_addGuessed at h
  have hf0 := gd_fm0 W_Taint_addGuessed σ
  refine gd_ki h (fun h => ?_) (fun h => ?_)
  · exact gd_ke hf0 h
  · obtain ⟨-, h⟩ := gd_gE h
    refine gd_ki h (fun h => ?_) (fun h => ?_)
    · obtain ⟨-, h⟩ := gd_gE h
      obtain ⟨-, h⟩ := gd_gE h
      refine gd_ks (C := gd_fm W_Taint_addGuessed σ) (gd_fmA hf0 rfl) h (fun s1 hfs1 h => ?_)
      obtain ⟨-, h⟩ := gd_gE h
      refine gd_ks (C := gd_fm W_Taint_addGuessed σ) (gd_fmA hfs1 rfl) h (fun s2 hfs2 h => ?_)
      refine gd_ks (C := gd_fm W_Taint_addGuessed σ) (gd_fmI hfs2 rfl) h (fun s3 hfs3 h => ?_)
      exact gd_ke hfs3 h
    · exact gd_ke hf0 h
abbrev W_Taint_addGuessedNexts : gW := ([(26, 8)], [27, 28], [])
theorem K_Taint_addGuessedNexts (a : Int32) (σ : gS) (r0 : gQ × gS) (h : F_Taint_addGuessedNexts a σ = some r0) : gd_fm W_Taint_addGuessedNexts σ r0.2 := by
  unfold F_Taint_addGuessedNexts at h
  have hf0 := gd_fm0 W_Taint_addGuessedNexts σ
  refine gd_kqi hf0 h (fun r1 h => ?_)
  refine gd_kc0 hf0 (K_Taint_addGuessed _ _) rfl h (fun s2 hfs2 h => ?_)
  refine gd_kqi hfs2 h (fun r3 h => ?_)
  refine gd_kc0 hfs2 (K_Taint_addGuessed _ _) rfl h (fun s4 hfs4 h => ?_)
  exact gd_ke hfs4 h
abbrev W_Taint_markGuessed : gW := ([(26, 8)], [27, 28], [])
theorem KL_Taint_markGuessed_2 (k4 : gS → gR) (σ : gS) (r0 : gQ × gS) (hk4 : ∀ (s8 : gS), gd_fm W_Taint_markGuessed σ s8 → k4 s8 = some r0 → gd_fm W_Taint_markGuessed σ r0.2) (n : Nat) : ∀ (n_1_1 : Int32) (s2 : gS), gd_fm W_Taint_markGuessed σ s2 → gd_lp (fun _ _ => none) (B_Taint_markGuessed_2 k4) n n_1_1 s2 = some r0 → gd_fm W_Taint_markGuessed σ r0.2 := by
  refine gd_lpC (fun (ag3 : Int32 → gS → gR) => ∀ (n_1_1 : Int32) (s2 : gS), gd_fm W_Taint_markGuessed σ s2 → ag3 n_1_1 s2 = some r0 → gd_fm W_Taint_markGuessed σ r0.2) (fun n_1_1 s2 _ h => by cases h) (fun ag3 ih n_1_1 s2 hfs2 h => ?_) n
  unfold B_Taint_markGuessed_2 at h
  refine gd_ki h (fun h => ?_) (fun h => ?_)
  · exact hk4 _ hfs2 h
  · obtain ⟨-, h⟩ := gd_gE h
    refine gd_jC (fun J5 => ∀ (s7 : gS), gd_fm W_Taint_markGuessed σ s7 → J5 s7 = some r0 → gd_fm W_Taint_markGuessed σ r0.2) h (fun s7 hfs7 h => ?_) (fun J5 hJ5 h => ?_)
    · exact ih _ _ hfs7 h
    · refine gd_ki h (fun h => ?_) (fun h => ?_)
      · refine gd_kc0 hfs2 (K_Taint_addGuessedNexts _ _) rfl h (fun s6 hfs6 h => ?_)
        exact hJ5 _ hfs6 h
      · exact hJ5 _ hfs2 h
theorem KL_Taint_markGuessed_39 (σ : gS) (r0 : gQ × gS) (n : Nat) : ∀ (n_1_9 : Int32) (s10 : gS), gd_fm W_Taint_markGuessed σ s10 → gd_lp (fun _ _ => none) (B_Taint_markGuessed_39) n n_1_9 s10 = some r0 → gd_fm W_Taint_markGuessed σ r0.2 := by
  refine gd_lpC (fun (ag11 : Int32 → gS → gR) => ∀ (n_1_9 : Int32) (s10 : gS), gd_fm W_Taint_markGuessed σ s10 → ag11 n_1_9 s10 = some r0 → gd_fm W_Taint_markGuessed σ r0.2) (fun n_1_9 s10 _ h => by cases h) (fun ag11 ih n_1_9 s10 hfs10 h => ?_) n
  unfold B_Taint_markGuessed_39 at h
  refine gd_ki h (fun h => ?_) (fun h => ?_)
  · exact gd_ke hfs10 h
  · refine gd_ki h (fun h => ?_) (fun h => ?_)
    · exact gd_ke hfs10 h
    · obtain ⟨-, h⟩ := gd_gE h
      obtain ⟨-, h⟩ := gd_gE h
      refine gd_jC (fun J12 => ∀ (s14 : gS), gd_fm W_Taint_markGuessed σ s14 → J12 s14 = some r0 → gd_fm W_Taint_markGuessed σ r0.2) h (fun s14 hfs14 h => ?_) (fun J12 hJ12 h => ?_)
      · exact ih _ _ hfs14 h
      · refine gd_ki h (fun h => ?_) (fun h => ?_)
        · exact hJ12 _ hfs10 h
        · obtain ⟨-, h⟩ := gd_gE h
          refine gd_kc0 hfs10 (K_Taint_addGuessedNexts _ _) rfl h (fun s13 hfs13 h => ?_)
          exact hJ12 _ hfs13 h
theorem K_Taint_markGuessed (σ : gS) (r0 : gQ × gS) (h : F_Taint_markGuessed σ = some r0) : gd_fm W_Taint_markGuessed σ r0.2 := by
  unfold F_Taint_markGuessed at h
  have hf0 := gd_fm0 W_Taint_markGuessed σ
  refine gd_jC (fun k4 => ∀ (s8 : gS), gd_fm W_Taint_markGuessed σ s8 → k4 s8 = some r0 → gd_fm W_Taint_markGuessed σ r0.2) h (fun s8 hfs8 h => ?_) (fun k4 hk4 h => ?_)
  · exact KL_Taint_markGuessed_39 σ r0 _ _ _ hfs8 h
  exact KL_Taint_markGuessed_2 _ σ r0 hk4 _ _ _ hf0 h
abbrev W_Taint_addResult : gW := ([(26, 9)], [27, 29], [])
theorem K_Taint_addResult (a : Int32) (σ : gS) (r0 : gQ × gS) (h : F_Taint_addResult a σ = some r0) : gd_fm W_Taint_addResult σ r0.2 := by
  unfold F_Taint_addResult at h
  have hf0 := gd_fm0 W_Taint_addResult σ
  obtain ⟨-, h⟩ := gd_gE h
  obtain ⟨-, h⟩ := gd_gE h
  refine gd_ks (C := gd_fm W_Taint_addResult σ) (gd_fmA hf0 rfl) h (fun s1 hfs1 h => ?_)
  obtain ⟨-, h⟩ := gd_gE h
  refine gd_ks (C := gd_fm W_Taint_addResult σ) (gd_fmA hfs1 rfl) h (fun s2 hfs2 h => ?_)
  refine gd_ks (C := gd_fm W_Taint_addResult σ) (gd_fmI hfs2 rfl) h (fun s3 hfs3 h => ?_)
  exact gd_ke hfs3 h
abbrev W_Reach_addOnce : gW := ([(21, 5)], [24, 25], [])
theorem K_Reach_addOnce (a : Int32) (b : Int32) (σ : gS) (r0 : gQ × gS) (h : F_Reach_addOnce a b σ = some r0) : gd_fm W_Reach_addOnce σ r0.2 := by
  unfold F_Reach_addOnce at h
  have hf0 := gd_fm0 W_Reach_addOnce σ
  refine gd_ki h (fun h => ?_) (fun h => ?_)
  · exact gd_ke hf0 h
  · obtain ⟨-, h⟩ := gd_gE h
    refine gd_ki h (fun h => ?_) (fun h => ?_)
    · exact gd_ke hf0 h
    · obtain ⟨-, h⟩ := gd_gE h
      refine gd_ks (C := gd_fm W_Reach_addOnce σ) (gd_fmA hf0 rfl) h (fun s1 hfs1 h => ?_)
      obtain ⟨-, h⟩ := gd_gE h
      refine gd_ks (C := gd_fm W_Reach_addOnce σ) (gd_fmA hfs1 rfl) h (fun s2 hfs2 h => ?_)
      refine gd_ks (C := gd_fm W_Reach_addOnce σ) (gd_fmI hfs2 rfl) h (fun s3 hfs3 h => ?_)
      exact gd_ke hfs3 h
abbrev W_Reach_addNexts : gW := ([(21, 5)], [24, 25], [])
theorem K_Reach_addNexts (a : Int32) (b : Int32) (σ : gS) (r0 : gQ × gS) (h : F_Reach_addNexts a b σ = some r0) : gd_fm W_Reach_addNexts σ r0.2 := by
  unfold F_Reach_addNexts at h
  have hf0 := gd_fm0 W_Reach_addNexts σ
  refine gd_kqi hf0 h (fun r1 h => ?_)
  refine gd_kc0 hf0 (K_Reach_addOnce _ _ _) rfl h (fun s2 hfs2 h => ?_)
  refine gd_kqi hfs2 h (fun r3 h => ?_)
  refine gd_kc0 hfs2 (K_Reach_addOnce _ _ _) rfl h (fun s4 hfs4 h => ?_)
  exact gd_ke hfs4 h
abbrev W_Reach_follow : gW := ([(21, 5)], [24, 25], [22])
theorem KL_Reach_follow_13 (x_1_3 : Int32) (x_2_4 : Int32) (σ : gS) (r0 : gQ × gS) (n : Nat) : ∀ (n_3_5 : Int32) (s6 : gS), gd_fm W_Reach_follow σ s6 → gd_lp (fun _ _ => none) (B_Reach_follow_13 x_1_3 x_2_4) n n_3_5 s6 = some r0 → gd_fm W_Reach_follow σ r0.2 := by
  refine gd_lpC (fun (ag7 : Int32 → gS → gR) => ∀ (n_3_5 : Int32) (s6 : gS), gd_fm W_Reach_follow σ s6 → ag7 n_3_5 s6 = some r0 → gd_fm W_Reach_follow σ r0.2) (fun n_3_5 s6 _ h => by cases h) (fun ag7 ih n_3_5 s6 hfs6 h => ?_) n
  unfold B_Reach_follow_13 at h
  refine gd_ki h (fun h => ?_) (fun h => ?_)
  · exact gd_ke hfs6 h
  · refine gd_ki h (fun h => ?_) (fun h => ?_)
    · exact gd_ke hfs6 h
    · obtain ⟨-, h⟩ := gd_gE h
      refine gd_kqi hfs6 h (fun r8 h => ?_)
      refine gd_jC (fun J9 => ∀ (s11 : gS), gd_fm W_Reach_follow σ s11 → J9 s11 = some r0 → gd_fm W_Reach_follow σ r0.2) h (fun s11 hfs11 h => ?_) (fun J9 hJ9 h => ?_)
      · obtain ⟨-, h⟩ := gd_gE h
        refine gd_jC (fun J12 => ∀ (s14 : gS), gd_fm W_Reach_follow σ s14 → J12 s14 = some r0 → gd_fm W_Reach_follow σ r0.2) h (fun s14 hfs14 h => ?_) (fun J12 hJ12 h => ?_)
        · exact ih _ _ hfs14 h
        · refine gd_ki h (fun h => ?_) (fun h => ?_)
          · exact hJ12 _ hfs11 h
          · obtain ⟨-, h⟩ := gd_gE h
            refine gd_ki h (fun h => ?_) (fun h => ?_)
            · exact hJ12 _ hfs11 h
            · refine gd_kc0 hfs11 (K_Reach_addNexts _ _ _) rfl h (fun s13 hfs13 h => ?_)
              exact hJ12 _ hfs13 h
      · refine gd_ki h (fun h => ?_) (fun h => ?_)
        · exact hJ9 _ hfs6 h
        · obtain ⟨-, h⟩ := gd_gE h
          obtain ⟨-, h⟩ := gd_gE h
          refine gd_ks (C := gd_fm W_Reach_follow σ) (gd_fmL hfs6 rfl) h (fun s10 hfs10 h => ?_)
          exact hJ9 _ hfs10 h
theorem K_Reach_follow (a : Int32) (b : Int32) (σ : gS) (r0 : gQ × gS) (h : F_Reach_follow a b σ = some r0) : gd_fm W_Reach_follow σ r0.2 := by
  unfold F_Reach_follow at h
  have hf0 := gd_fm0 W_Reach_follow σ
  refine gd_ks (C := gd_fm W_Reach_follow σ) (gd_fmI hf0 rfl) h (fun s1 hfs1 h => ?_)
  refine gd_kc0 hfs1 (K_Reach_addNexts _ _ _) rfl h (fun s2 hfs2 h => ?_)
  exact KL_Reach_follow_13 _ _ σ r0 _ _ _ hfs2 h
abbrev W_Reach_trace : gW := ([(21, 5)], [23, 24, 25], [22])
theorem K_Reach_trace (a : Int32) (σ : gS) (r0 : gQ × gS) (h : F_Reach_trace a σ = some r0) : gd_fm W_Reach_trace σ r0.2 := by
  unfold F_Reach_trace at h
  have hf0 := gd_fm0 W_Reach_trace σ
  obtain ⟨-, h⟩ := gd_gE h
  refine gd_ki h (fun h => ?_) (fun h => ?_)
  · obtain ⟨-, h⟩ := gd_gE h
    refine gd_ks (C := gd_fm W_Reach_trace σ) (gd_fmA hf0 rfl) h (fun s1 hfs1 h => ?_)
    obtain ⟨-, h⟩ := gd_gE h
    refine gd_ks (C := gd_fm W_Reach_trace σ) (gd_fmRL hfs1 rfl) h (fun s2 hfs2 h => ?_)
    obtain ⟨-, h⟩ := gd_gE h
    refine gd_ki h (fun h => ?_) (fun h => ?_)
    · exact gd_ke hfs2 h
    · obtain ⟨-, h⟩ := gd_gE h
      refine gd_kc0 hfs2 (K_Reach_follow _ _ _) rfl h (fun s3 hfs3 h => ?_)
      exact gd_ke hfs3 h
  · exact gd_ke hf0 h
abbrev W_Taint_passOn : gW := ([(21, 5), (26, 9)], [23, 24, 25, 27, 29], [22, 31])
theorem KL_Taint_passOn_22 (x_1_3 : Int32) (σ : gS) (r0 : gQ × gS) (n : Nat) : ∀ (n_2_4 : Int32) (s5 : gS), gd_fm W_Taint_passOn σ s5 → gd_lp (fun _ _ => none) (B_Taint_passOn_22 x_1_3) n n_2_4 s5 = some r0 → gd_fm W_Taint_passOn σ r0.2 := by
  refine gd_lpC (fun (ag6 : Int32 → gS → gR) => ∀ (n_2_4 : Int32) (s5 : gS), gd_fm W_Taint_passOn σ s5 → ag6 n_2_4 s5 = some r0 → gd_fm W_Taint_passOn σ r0.2) (fun n_2_4 s5 _ h => by cases h) (fun ag6 ih n_2_4 s5 hfs5 h => ?_) n
  unfold B_Taint_passOn_22 at h
  refine gd_ki h (fun h => ?_) (fun h => ?_)
  · exact gd_ke hfs5 h
  · obtain ⟨-, h⟩ := gd_gE h
    obtain ⟨-, h⟩ := gd_gE h
    refine gd_ks (C := gd_fm W_Taint_passOn σ) (gd_fmL hfs5 rfl) h (fun s7 hfs7 h => ?_)
    refine gd_kc0 hfs7 (K_Taint_addResult _ _) rfl h (fun s8 hfs8 h => ?_)
    refine gd_kqi hfs8 h (fun r9 h => ?_)
    exact ih _ _ hfs8 h
theorem K_Taint_passOn (a : Int32) (σ : gS) (r0 : gQ × gS) (h : F_Taint_passOn a σ = some r0) : gd_fm W_Taint_passOn σ r0.2 := by
  unfold F_Taint_passOn at h
  have hf0 := gd_fm0 W_Taint_passOn σ
  refine gd_kc0 hf0 (K_Reach_trace _ _) rfl h (fun s1 hfs1 h => ?_)
  refine gd_kqi hfs1 h (fun r2 h => ?_)
  exact KL_Taint_passOn_22 _ σ r0 _ _ _ hfs1 h
abbrev W_Taint_addExposed : gW := ([(26, 10)], [27], [])
theorem K_Taint_addExposed (a : Int32) (σ : gS) (r0 : gQ × gS) (h : F_Taint_addExposed a σ = some r0) : gd_fm W_Taint_addExposed σ r0.2 := by
  unfold F_Taint_addExposed at h
  have hf0 := gd_fm0 W_Taint_addExposed σ
  obtain ⟨-, h⟩ := gd_gE h
  refine gd_ki h (fun h => ?_) (fun h => ?_)
  · obtain ⟨-, h⟩ := gd_gE h
    obtain ⟨-, h⟩ := gd_gE h
    refine gd_ks (C := gd_fm W_Taint_addExposed σ) (gd_fmA hf0 rfl) h (fun s1 hfs1 h => ?_)
    refine gd_ks (C := gd_fm W_Taint_addExposed σ) (gd_fmI hfs1 rfl) h (fun s2 hfs2 h => ?_)
    exact gd_ke hfs2 h
  · exact gd_ke hf0 h
abbrev W_Taint_expose : gW := ([(26, 10)], [27, 30], [])
theorem KL_Taint_expose_14 (x_1_2 : Int32) (σ : gS) (r0 : gQ × gS) (n : Nat) : ∀ (n_2_3 : Int32) (s4 : gS), gd_fm W_Taint_expose σ s4 → gd_lp (fun _ _ => none) (B_Taint_expose_14 x_1_2) n n_2_3 s4 = some r0 → gd_fm W_Taint_expose σ r0.2 := by
  refine gd_lpC (fun (ag5 : Int32 → gS → gR) => ∀ (n_2_3 : Int32) (s4 : gS), gd_fm W_Taint_expose σ s4 → ag5 n_2_3 s4 = some r0 → gd_fm W_Taint_expose σ r0.2) (fun n_2_3 s4 _ h => by cases h) (fun ag5 ih n_2_3 s4 hfs4 h => ?_) n
  unfold B_Taint_expose_14 at h
  refine gd_ki h (fun h => ?_) (fun h => ?_)
  · exact gd_ke hfs4 h
  · obtain ⟨-, h⟩ := gd_gE h
    refine gd_kqi hfs4 h (fun r6 h => ?_)
    refine gd_jC (fun J7 => ∀ (s10 : gS), gd_fm W_Taint_expose σ s10 → J7 s10 = some r0 → gd_fm W_Taint_expose σ r0.2) h (fun s10 hfs10 h => ?_) (fun J7 hJ7 h => ?_)
    · refine gd_kqi hfs10 h (fun r11 h => ?_)
      exact ih _ _ hfs10 h
    · refine gd_ki h (fun h => ?_) (fun h => ?_)
      · exact hJ7 _ hfs4 h
      · obtain ⟨-, h⟩ := gd_gE h
        refine gd_ks (C := gd_fm W_Taint_expose σ) (gd_fmA hfs4 rfl) h (fun s8 hfs8 h => ?_)
        refine gd_kc0 hfs8 (K_Taint_addExposed _ _) rfl h (fun s9 hfs9 h => ?_)
        exact hJ7 _ hfs9 h
theorem K_Taint_expose (a : Int32) (σ : gS) (r0 : gQ × gS) (h : F_Taint_expose a σ = some r0) : gd_fm W_Taint_expose σ r0.2 := by
  unfold F_Taint_expose at h
  have hf0 := gd_fm0 W_Taint_expose σ
  refine gd_kqi hf0 h (fun r1 h => ?_)
  exact KL_Taint_expose_14 _ σ r0 _ _ _ hf0 h
abbrev W_Taint_spread : gW := ([(21, 5), (26, 8), (26, 9), (26, 10)], [23, 24, 25, 27, 28, 29, 30], [22, 31, 32])
theorem KL_Taint_spread_10 (k6 : gS → gR) (σ : gS) (r0 : gQ × gS) (hk6 : ∀ (s12 : gS), gd_fm W_Taint_spread σ s12 → k6 s12 = some r0 → gd_fm W_Taint_spread σ r0.2) (n : Nat) : ∀ (n_1_3 : Int32) (s4 : gS), gd_fm W_Taint_spread σ s4 → gd_lp (fun _ _ => none) (B_Taint_spread_10 k6) n n_1_3 s4 = some r0 → gd_fm W_Taint_spread σ r0.2 := by
  refine gd_lpC (fun (ag5 : Int32 → gS → gR) => ∀ (n_1_3 : Int32) (s4 : gS), gd_fm W_Taint_spread σ s4 → ag5 n_1_3 s4 = some r0 → gd_fm W_Taint_spread σ r0.2) (fun n_1_3 s4 _ h => by cases h) (fun ag5 ih n_1_3 s4 hfs4 h => ?_) n
  unfold B_Taint_spread_10 at h
  refine gd_ki h (fun h => ?_) (fun h => ?_)
  · exact hk6 _ hfs4 h
  · obtain ⟨-, h⟩ := gd_gE h
    refine gd_kt h (fun v8 h => ?_)
    refine gd_jC (fun J9 => ∀ (s11 : gS), gd_fm W_Taint_spread σ s11 → J9 s11 = some r0 → gd_fm W_Taint_spread σ r0.2) h (fun s11 hfs11 h => ?_) (fun J9 hJ9 h => ?_)
    · exact ih _ _ hfs11 h
    · refine gd_ki h (fun h => ?_) (fun h => ?_)
      · exact hJ9 _ hfs4 h
      · obtain ⟨-, h⟩ := gd_gE h
        refine gd_ki h (fun h => ?_) (fun h => ?_)
        · obtain ⟨-, h⟩ := gd_gE h
          refine gd_ki h (fun h => ?_) (fun h => ?_)
          · exact hJ9 _ hfs4 h
          · refine gd_kc0 hfs4 (K_Taint_addResult _ _) rfl h (fun s10 hfs10 h => ?_)
            exact hJ9 _ hfs10 h
        · exact hJ9 _ hfs4 h
theorem KL_Taint_spread_80 (k16 : gS → gR) (σ : gS) (r0 : gQ × gS) (hk16 : ∀ (s18 : gS), gd_fm W_Taint_spread σ s18 → k16 s18 = some r0 → gd_fm W_Taint_spread σ r0.2) (n : Nat) : ∀ (n_1_13 : Int32) (s14 : gS), gd_fm W_Taint_spread σ s14 → gd_lp (fun _ _ => none) (B_Taint_spread_80 k16) n n_1_13 s14 = some r0 → gd_fm W_Taint_spread σ r0.2 := by
  refine gd_lpC (fun (ag15 : Int32 → gS → gR) => ∀ (n_1_13 : Int32) (s14 : gS), gd_fm W_Taint_spread σ s14 → ag15 n_1_13 s14 = some r0 → gd_fm W_Taint_spread σ r0.2) (fun n_1_13 s14 _ h => by cases h) (fun ag15 ih n_1_13 s14 hfs14 h => ?_) n
  unfold B_Taint_spread_80 at h
  refine gd_ki h (fun h => ?_) (fun h => ?_)
  · exact hk16 _ hfs14 h
  · refine gd_ki h (fun h => ?_) (fun h => ?_)
    · exact hk16 _ hfs14 h
    · obtain ⟨-, h⟩ := gd_gE h
      refine gd_kc0 hfs14 (K_Taint_passOn _ _) rfl h (fun s17 hfs17 h => ?_)
      exact ih _ _ hfs17 h
theorem KL_Taint_spread_113 (σ : gS) (r0 : gQ × gS) (n : Nat) : ∀ (n_1_19 : Int32) (s20 : gS), gd_fm W_Taint_spread σ s20 → gd_lp (fun _ _ => none) (B_Taint_spread_113) n n_1_19 s20 = some r0 → gd_fm W_Taint_spread σ r0.2 := by
  refine gd_lpC (fun (ag21 : Int32 → gS → gR) => ∀ (n_1_19 : Int32) (s20 : gS), gd_fm W_Taint_spread σ s20 → ag21 n_1_19 s20 = some r0 → gd_fm W_Taint_spread σ r0.2) (fun n_1_19 s20 _ h => by cases h) (fun ag21 ih n_1_19 s20 hfs20 h => ?_) n
  unfold B_Taint_spread_113 at h
  refine gd_ki h (fun h => ?_) (fun h => ?_)
  · exact gd_ke hfs20 h
  · obtain ⟨-, h⟩ := gd_gE h
    refine gd_kc0 hfs20 (K_Taint_expose _ _) rfl h (fun s22 hfs22 h => ?_)
    exact ih _ _ hfs22 h
theorem K_Taint_spread (σ : gS) (r0 : gQ × gS) (h : F_Taint_spread σ = some r0) : gd_fm W_Taint_spread σ r0.2 := by
  unfold F_Taint_spread at h
  have hf0 := gd_fm0 W_Taint_spread σ
  refine gd_kc0 hf0 (K_Taint_prepare _) rfl h (fun s1 hfs1 h => ?_)
  refine gd_kc0 hfs1 (K_Taint_markGuessed _) rfl h (fun s2 hfs2 h => ?_)
  refine gd_jC (fun k6 => ∀ (s12 : gS), gd_fm W_Taint_spread σ s12 → k6 s12 = some r0 → gd_fm W_Taint_spread σ r0.2) h (fun s12 hfs12 h => ?_) (fun k6 hk6 h => ?_)
  · refine gd_jC (fun k16 => ∀ (s18 : gS), gd_fm W_Taint_spread σ s18 → k16 s18 = some r0 → gd_fm W_Taint_spread σ r0.2) h (fun s18 hfs18 h => ?_) (fun k16 hk16 h => ?_)
    · exact KL_Taint_spread_113 σ r0 _ _ _ hfs18 h
    exact KL_Taint_spread_80 _ σ r0 hk16 _ _ _ hfs12 h
  exact KL_Taint_spread_10 _ σ r0 hk6 _ _ _ hfs2 h
abbrev W_Cut_openEntrance : gW := ([], [], [37])
theorem K_Cut_openEntrance (a : Int32) (σ : gS) (r0 : gQ × gS) (h : F_Cut_openEntrance a σ = some r0) : gd_fm W_Cut_openEntrance σ r0.2 := by
  unfold F_Cut_openEntrance at h
  have hf0 := gd_fm0 W_Cut_openEntrance σ
  obtain ⟨-, h⟩ := gd_gE h
  refine gd_ki h (fun h => ?_) (fun h => ?_)
  · exact gd_ke hf0 h
  · obtain ⟨-, h⟩ := gd_gE h
    obtain ⟨-, h⟩ := gd_gE h
    refine gd_ks (C := gd_fm W_Cut_openEntrance σ) (gd_fmL hf0 rfl) h (fun s1 hfs1 h => ?_)
    exact gd_ke hfs1 h
abbrev W_Cut_prepare : gW := ([], [34, 35], [37])
theorem KL_Cut_prepare_26 (σ : gS) (r0 : gQ × gS) (n : Nat) : ∀ (n_1_4 : Int32) (s5 : gS), gd_fm W_Cut_prepare σ s5 → gd_lp (fun _ _ => none) (B_Cut_prepare_26) n n_1_4 s5 = some r0 → gd_fm W_Cut_prepare σ r0.2 := by
  refine gd_lpC (fun (ag6 : Int32 → gS → gR) => ∀ (n_1_4 : Int32) (s5 : gS), gd_fm W_Cut_prepare σ s5 → ag6 n_1_4 s5 = some r0 → gd_fm W_Cut_prepare σ r0.2) (fun n_1_4 s5 _ h => by cases h) (fun ag6 ih n_1_4 s5 hfs5 h => ?_) n
  unfold B_Cut_prepare_26 at h
  refine gd_ki h (fun h => ?_) (fun h => ?_)
  · exact gd_ke hfs5 h
  · obtain ⟨-, h⟩ := gd_gE h
    refine gd_kc0 hfs5 (K_Cut_openEntrance _ _) rfl h (fun s7 hfs7 h => ?_)
    exact ih _ _ hfs7 h
theorem K_Cut_prepare (σ : gS) (r0 : gQ × gS) (h : F_Cut_prepare σ = some r0) : gd_fm W_Cut_prepare σ r0.2 := by
  unfold F_Cut_prepare at h
  have hf0 := gd_fm0 W_Cut_prepare σ
  refine gd_ks (C := gd_fm W_Cut_prepare σ) (gd_fmR hf0 rfl) h (fun s1 hfs1 h => ?_)
  refine gd_ks (C := gd_fm W_Cut_prepare σ) (gd_fmR hfs1 rfl) h (fun s2 hfs2 h => ?_)
  refine gd_ks (C := gd_fm W_Cut_prepare σ) (gd_fmRL hfs2 rfl) h (fun s3 hfs3 h => ?_)
  exact KL_Cut_prepare_26 σ r0 _ _ _ hfs3 h
abbrev W_Cut_see : gW := ([(33, 7)], [35, 36], [37])
theorem K_Cut_see (a : Int32) (b : Int32) (σ : gS) (r0 : gQ × gS) (h : F_Cut_see a b σ = some r0) : gd_fm W_Cut_see σ r0.2 := by
  unfold F_Cut_see at h
  have hf0 := gd_fm0 W_Cut_see σ
  obtain ⟨-, h⟩ := gd_gE h
  refine gd_ki h (fun h => ?_) (fun h => ?_)
  · obtain ⟨-, h⟩ := gd_gE h
    refine gd_ks (C := gd_fm W_Cut_see σ) (gd_fmA hf0 rfl) h (fun s1 hfs1 h => ?_)
    obtain ⟨-, h⟩ := gd_gE h
    refine gd_ks (C := gd_fm W_Cut_see σ) (gd_fmA hfs1 rfl) h (fun s2 hfs2 h => ?_)
    refine gd_ks (C := gd_fm W_Cut_see σ) (gd_fmI hfs2 rfl) h (fun s3 hfs3 h => ?_)
    refine gd_ki h (fun h => ?_) (fun h => ?_)
    · obtain ⟨-, h⟩ := gd_gE h
      obtain ⟨-, h⟩ := gd_gE h
      refine gd_ks (C := gd_fm W_Cut_see σ) (gd_fmL hfs3 rfl) h (fun s4 hfs4 h => ?_)
      exact gd_ke hfs4 h
    · exact gd_ke hfs3 h
  · exact gd_ke hf0 h
abbrev W_Cut_leaveEntrance : gW := ([(33, 7)], [35, 36], [37])
theorem K_Cut_leaveEntrance (a : Int32) (σ : gS) (r0 : gQ × gS) (h : F_Cut_leaveEntrance a σ = some r0) : gd_fm W_Cut_leaveEntrance σ r0.2 := by
  unfold F_Cut_leaveEntrance at h
  have hf0 := gd_fm0 W_Cut_leaveEntrance σ
  obtain ⟨-, h⟩ := gd_gE h
  refine gd_ki h (fun h => ?_) (fun h => ?_)
  · refine gd_kc0 hf0 (K_Cut_see _ _ _) rfl h (fun s2 hfs2 h => ?_)
    exact gd_ke hfs2 h
  · refine gd_ki h (fun h => ?_) (fun h => ?_)
    · exact gd_ke hf0 h
    · refine gd_kc0 hf0 (K_Cut_see _ _ _) rfl h (fun s1 hfs1 h => ?_)
      exact gd_ke hfs1 h
abbrev W_Cut_leaveExit : gW := ([(33, 7)], [35, 36], [37])
theorem KL_Cut_leaveExit_36 (x_1_5 : Int32) (σ : gS) (r0 : gQ × gS) (n : Nat) : ∀ (n_2_6 : Int32) (s7 : gS), gd_fm W_Cut_leaveExit σ s7 → gd_lp (fun _ _ => none) (B_Cut_leaveExit_36 x_1_5) n n_2_6 s7 = some r0 → gd_fm W_Cut_leaveExit σ r0.2 := by
  refine gd_lpC (fun (ag8 : Int32 → gS → gR) => ∀ (n_2_6 : Int32) (s7 : gS), gd_fm W_Cut_leaveExit σ s7 → ag8 n_2_6 s7 = some r0 → gd_fm W_Cut_leaveExit σ r0.2) (fun n_2_6 s7 _ h => by cases h) (fun ag8 ih n_2_6 s7 hfs7 h => ?_) n
  unfold B_Cut_leaveExit_36 at h
  refine gd_ki h (fun h => ?_) (fun h => ?_)
  · exact gd_ke hfs7 h
  · refine gd_kc0 hfs7 (K_Cut_see _ _ _) rfl h (fun s9 hfs9 h => ?_)
    refine gd_kqi hfs9 h (fun r10 h => ?_)
    exact ih _ _ hfs9 h
theorem K_Cut_leaveExit (a : Int32) (σ : gS) (r0 : gQ × gS) (h : F_Cut_leaveExit a σ = some r0) : gd_fm W_Cut_leaveExit σ r0.2 := by
  unfold F_Cut_leaveExit at h
  have hf0 := gd_fm0 W_Cut_leaveExit σ
  obtain ⟨-, h⟩ := gd_gE h
  refine gd_jC (fun J1 => ∀ (s3 : gS), gd_fm W_Cut_leaveExit σ s3 → J1 s3 = some r0 → gd_fm W_Cut_leaveExit σ r0.2) h (fun s3 hfs3 h => ?_) (fun J1 hJ1 h => ?_)
  · refine gd_kqi hfs3 h (fun r4 h => ?_)
    exact KL_Cut_leaveExit_36 _ σ r0 _ _ _ hfs3 h
  · refine gd_ki h (fun h => ?_) (fun h => ?_)
    · exact hJ1 _ hf0 h
    · refine gd_kc0 hf0 (K_Cut_see _ _ _) rfl h (fun s2 hfs2 h => ?_)
      exact hJ1 _ hfs2 h
abbrev W_Cut_search : gW := ([(33, 7)], [35, 36], [37])
theorem KL_Cut_search_16 (σ : gS) (r0 : gQ × gS) (n : Nat) : ∀ (n_2_3 : Int32) (s4 : gS), gd_fm W_Cut_search σ s4 → gd_lp (fun _ _ => none) (B_Cut_search_16) n n_2_3 s4 = some r0 → gd_fm W_Cut_search σ r0.2 := by
  refine gd_lpC (fun (ag5 : Int32 → gS → gR) => ∀ (n_2_3 : Int32) (s4 : gS), gd_fm W_Cut_search σ s4 → ag5 n_2_3 s4 = some r0 → gd_fm W_Cut_search σ r0.2) (fun n_2_3 s4 _ h => by cases h) (fun ag5 ih n_2_3 s4 hfs4 h => ?_) n
  unfold B_Cut_search_16 at h
  refine gd_ki h (fun h => ?_) (fun h => ?_)
  · exact gd_ke hfs4 h
  · refine gd_ki h (fun h => ?_) (fun h => ?_)
    · exact gd_ke hfs4 h
    · obtain ⟨-, h⟩ := gd_gE h
      obtain ⟨-, h⟩ := gd_gE h
      refine gd_kt h (fun v7 h => ?_)
      refine gd_jC (fun J8 => J8 = some r0 → gd_fm W_Cut_search σ r0.2) h (fun  h => ?_) (fun J8 hJ8 h => ?_)
      · refine gd_jC (fun J9 => ∀ (s12 : gS), gd_fm W_Cut_search σ s12 → J9 s12 = some r0 → gd_fm W_Cut_search σ r0.2) h (fun s12 hfs12 h => ?_) (fun J9 hJ9 h => ?_)
        · exact ih _ _ hfs12 h
        · refine gd_ki h (fun h => ?_) (fun h => ?_)
          · refine gd_kc0 hfs4 (K_Cut_leaveEntrance _ _) rfl h (fun s10 hfs10 h => ?_)
            exact hJ9 _ hfs10 h
          · refine gd_kc0 hfs4 (K_Cut_leaveExit _ _) rfl h (fun s11 hfs11 h => ?_)
            exact hJ9 _ hfs11 h
      · refine gd_ki h (fun h => ?_) (fun h => ?_)
        · exact hJ8 h
        · obtain ⟨-, h⟩ := gd_gE h
          refine gd_ki h (fun h => ?_) (fun h => ?_)
          · exact hJ8 h
          · exact gd_ke hfs4 h
theorem K_Cut_search (a : Int32) (σ : gS) (r0 : gQ × gS) (h : F_Cut_search a σ = some r0) : gd_fm W_Cut_search σ r0.2 := by
  unfold F_Cut_search at h
  have hf0 := gd_fm0 W_Cut_search σ
  refine gd_ks (C := gd_fm W_Cut_search σ) (gd_fmI hf0 rfl) h (fun s1 hfs1 h => ?_)
  refine gd_kc0 hfs1 (K_Cut_see _ _ _) rfl h (fun s2 hfs2 h => ?_)
  exact KL_Cut_search_16 σ r0 _ _ _ hfs2 h
abbrev W_Cut_layPath : gW := ([], [34], [])
theorem KL_Cut_layPath_9 (k6 : gS → gR) (x_1_1 : Int32) (σ : gS) (r0 : gQ × gS) (hk6 : ∀ (s12 : gS), gd_fm W_Cut_layPath σ s12 → k6 s12 = some r0 → gd_fm W_Cut_layPath σ r0.2) (n : Nat) : ∀ (n_3_2 : Int32) (n_4_3 : Int32) (s4 : gS), gd_fm W_Cut_layPath σ s4 → gd_lp (fun _ _ _ => none) (B_Cut_layPath_9 k6 x_1_1) n n_3_2 n_4_3 s4 = some r0 → gd_fm W_Cut_layPath σ r0.2 := by
  refine gd_lpC (fun (ag5 : Int32 → Int32 → gS → gR) => ∀ (n_3_2 : Int32) (n_4_3 : Int32) (s4 : gS), gd_fm W_Cut_layPath σ s4 → ag5 n_3_2 n_4_3 s4 = some r0 → gd_fm W_Cut_layPath σ r0.2) (fun n_3_2 n_4_3 s4 _ h => by cases h) (fun ag5 ih n_3_2 n_4_3 s4 hfs4 h => ?_) n
  unfold B_Cut_layPath_9 at h
  refine gd_ki h (fun h => ?_) (fun h => ?_)
  · exact hk6 _ hfs4 h
  · refine gd_ki h (fun h => ?_) (fun h => ?_)
    · exact hk6 _ hfs4 h
    · obtain ⟨-, h⟩ := gd_gE h
      refine gd_jC (fun J7 => ∀ (s11 : gS), gd_fm W_Cut_layPath σ s11 → J7 s11 = some r0 → gd_fm W_Cut_layPath σ r0.2) h (fun s11 hfs11 h => ?_) (fun J7 hJ7 h => ?_)
      · exact ih _ _ _ hfs11 h
      · refine gd_ki h (fun h => ?_) (fun h => ?_)
        · refine gd_kt h (fun v9 h => ?_)
          obtain ⟨-, h⟩ := gd_gE h
          refine gd_ks (C := gd_fm W_Cut_layPath σ) (gd_fmA hfs4 rfl) h (fun s10 hfs10 h => ?_)
          exact hJ7 _ hfs10 h
        · exact hJ7 _ hfs4 h
theorem K_Cut_layPath (a : Int32) (b : Int32) (σ : gS) (r0 : gQ × gS) (h : F_Cut_layPath a b σ = some r0) : gd_fm W_Cut_layPath σ r0.2 := by
  unfold F_Cut_layPath at h
  have hf0 := gd_fm0 W_Cut_layPath σ
  refine gd_jC (fun k6 => ∀ (s12 : gS), gd_fm W_Cut_layPath σ s12 → k6 s12 = some r0 → gd_fm W_Cut_layPath σ r0.2) h (fun s12 hfs12 h => ?_) (fun k6 hk6 h => ?_)
  · obtain ⟨-, h⟩ := gd_gE h
    refine gd_ks (C := gd_fm W_Cut_layPath σ) (gd_fmA hfs12 rfl) h (fun s13 hfs13 h => ?_)
    exact gd_ke hfs13 h
  exact KL_Cut_layPath_9 _ _ σ r0 hk6 _ _ _ _ hf0 h
abbrev W_Cut_forgetSearch : gW := ([], [35], [37])
theorem KL_Cut_forgetSearch_2 (σ : gS) (r0 : gQ × gS) (n : Nat) : ∀ (n_1_1 : Int32) (s2 : gS), gd_fm W_Cut_forgetSearch σ s2 → gd_lp (fun _ _ => none) (B_Cut_forgetSearch_2) n n_1_1 s2 = some r0 → gd_fm W_Cut_forgetSearch σ r0.2 := by
  refine gd_lpC (fun (ag3 : Int32 → gS → gR) => ∀ (n_1_1 : Int32) (s2 : gS), gd_fm W_Cut_forgetSearch σ s2 → ag3 n_1_1 s2 = some r0 → gd_fm W_Cut_forgetSearch σ r0.2) (fun n_1_1 s2 _ h => by cases h) (fun ag3 ih n_1_1 s2 hfs2 h => ?_) n
  unfold B_Cut_forgetSearch_2 at h
  refine gd_ki h (fun h => ?_) (fun h => ?_)
  · exact gd_ke hfs2 h
  · obtain ⟨-, h⟩ := gd_gE h
    obtain ⟨-, h⟩ := gd_gE h
    refine gd_ks (C := gd_fm W_Cut_forgetSearch σ) (gd_fmA hfs2 rfl) h (fun s4 hfs4 h => ?_)
    refine gd_jC (fun J5 => ∀ (s7 : gS), gd_fm W_Cut_forgetSearch σ s7 → J5 s7 = some r0 → gd_fm W_Cut_forgetSearch σ r0.2) h (fun s7 hfs7 h => ?_) (fun J5 hJ5 h => ?_)
    · exact ih _ _ hfs7 h
    · refine gd_ki h (fun h => ?_) (fun h => ?_)
      · refine gd_kc0 hfs4 (K_Cut_openEntrance _ _) rfl h (fun s6 hfs6 h => ?_)
        exact hJ5 _ hfs6 h
      · exact hJ5 _ hfs4 h
theorem K_Cut_forgetSearch (σ : gS) (r0 : gQ × gS) (h : F_Cut_forgetSearch σ = some r0) : gd_fm W_Cut_forgetSearch σ r0.2 := by
  unfold F_Cut_forgetSearch at h
  have hf0 := gd_fm0 W_Cut_forgetSearch σ
  exact KL_Cut_forgetSearch_2 σ r0 _ _ _ hf0 h
abbrev W_Cut_addPathFrom : gW := ([(33, 7)], [34, 35, 36], [37])
theorem K_Cut_addPathFrom (a : Int32) (σ : gS) (r0 : gQ × gS) (h : F_Cut_addPathFrom a σ = some r0) : gd_fm W_Cut_addPathFrom σ r0.2 := by
  unfold F_Cut_addPathFrom at h
  have hf0 := gd_fm0 W_Cut_addPathFrom σ
  refine gd_kci hf0 (K_Cut_search _ _) rfl h (fun r1 s2 hfs2 h => ?_)
  refine gd_ki h (fun h => ?_) (fun h => ?_)
  · exact gd_ke hfs2 h
  · refine gd_kc0 hfs2 (K_Cut_layPath _ _ _) rfl h (fun s3 hfs3 h => ?_)
    refine gd_kc0 hfs3 (K_Cut_forgetSearch _) rfl h (fun s4 hfs4 h => ?_)
    exact gd_ke hfs4 h
abbrev W_Cut_markIfCut : gW := ([(33, 8)], [27], [])
theorem K_Cut_markIfCut (a : Int32) (σ : gS) (r0 : gQ × gS) (h : F_Cut_markIfCut a σ = some r0) : gd_fm W_Cut_markIfCut σ r0.2 := by
  unfold F_Cut_markIfCut at h
  have hf0 := gd_fm0 W_Cut_markIfCut σ
  obtain ⟨-, h⟩ := gd_gE h
  refine gd_jC (fun J1 => ∀ (v2 : Int32), J1 v2 = some r0 → gd_fm W_Cut_markIfCut σ r0.2) h (fun v2 h => ?_) (fun J1 hJ1 h => ?_)
  · obtain ⟨-, h⟩ := gd_gE h
    refine gd_kt h (fun v4 h => ?_)
    refine gd_ki h (fun h => ?_) (fun h => ?_)
    · exact gd_ke hf0 h
    · refine gd_ki h (fun h => ?_) (fun h => ?_)
      · obtain ⟨-, h⟩ := gd_gE h
        refine gd_ki h (fun h => ?_) (fun h => ?_)
        · exact gd_ke hf0 h
        · obtain ⟨-, h⟩ := gd_gE h
          obtain ⟨-, h⟩ := gd_gE h
          refine gd_ks (C := gd_fm W_Cut_markIfCut σ) (gd_fmA hf0 rfl) h (fun s5 hfs5 h => ?_)
          refine gd_ks (C := gd_fm W_Cut_markIfCut σ) (gd_fmI hfs5 rfl) h (fun s6 hfs6 h => ?_)
          exact gd_ke hfs6 h
      · exact gd_ke hf0 h
  · refine gd_ki h (fun h => ?_) (fun h => ?_)
    · exact hJ1 _ h
    · obtain ⟨-, h⟩ := gd_gE h
      refine gd_ki h (fun h => ?_) (fun h => ?_)
      · exact hJ1 _ h
      · exact hJ1 _ h
abbrev W_Cut_find : gW := ([(33, 7), (33, 8)], [27, 34, 35, 36], [37])
theorem KL_Cut_find_22 (k6 : gS → gR) (σ : gS) (r0 : gQ × gS) (hk6 : ∀ (s10 : gS), gd_fm W_Cut_find σ s10 → k6 s10 = some r0 → gd_fm W_Cut_find σ r0.2) (n : Nat) : ∀ (n_1_3 : Int32) (s4 : gS), gd_fm W_Cut_find σ s4 → gd_lp (fun _ _ => none) (B_Cut_find_22 k6) n n_1_3 s4 = some r0 → gd_fm W_Cut_find σ r0.2 := by
  refine gd_lpC (fun (ag5 : Int32 → gS → gR) => ∀ (n_1_3 : Int32) (s4 : gS), gd_fm W_Cut_find σ s4 → ag5 n_1_3 s4 = some r0 → gd_fm W_Cut_find σ r0.2) (fun n_1_3 s4 _ h => by cases h) (fun ag5 ih n_1_3 s4 hfs4 h => ?_) n
  unfold B_Cut_find_22 at h
  refine gd_ki h (fun h => ?_) (fun h => ?_)
  · exact hk6 _ hfs4 h
  · obtain ⟨-, h⟩ := gd_gE h
    obtain ⟨-, h⟩ := gd_gE h
    refine gd_jC (fun J7 => ∀ (s9 : gS), gd_fm W_Cut_find σ s9 → J7 s9 = some r0 → gd_fm W_Cut_find σ r0.2) h (fun s9 hfs9 h => ?_) (fun J7 hJ7 h => ?_)
    · exact ih _ _ hfs9 h
    · refine gd_ki h (fun h => ?_) (fun h => ?_)
      · refine gd_kc0 hfs4 (K_Cut_addPathFrom _ _) rfl h (fun s8 hfs8 h => ?_)
        exact hJ7 _ hfs8 h
      · exact hJ7 _ hfs4 h
theorem KL_Cut_find_69 (σ : gS) (r0 : gQ × gS) (n : Nat) : ∀ (n_1_11 : Int32) (s12 : gS), gd_fm W_Cut_find σ s12 → gd_lp (fun _ _ => none) (B_Cut_find_69) n n_1_11 s12 = some r0 → gd_fm W_Cut_find σ r0.2 := by
  refine gd_lpC (fun (ag13 : Int32 → gS → gR) => ∀ (n_1_11 : Int32) (s12 : gS), gd_fm W_Cut_find σ s12 → ag13 n_1_11 s12 = some r0 → gd_fm W_Cut_find σ r0.2) (fun n_1_11 s12 _ h => by cases h) (fun ag13 ih n_1_11 s12 hfs12 h => ?_) n
  unfold B_Cut_find_69 at h
  refine gd_ki h (fun h => ?_) (fun h => ?_)
  · exact gd_ke hfs12 h
  · obtain ⟨-, h⟩ := gd_gE h
    refine gd_kc0 hfs12 (K_Cut_markIfCut _ _) rfl h (fun s14 hfs14 h => ?_)
    exact ih _ _ hfs14 h
theorem K_Cut_find (σ : gS) (r0 : gQ × gS) (h : F_Cut_find σ = some r0) : gd_fm W_Cut_find σ r0.2 := by
  unfold F_Cut_find at h
  have hf0 := gd_fm0 W_Cut_find σ
  refine gd_ks (C := gd_fm W_Cut_find σ) (gd_fmI hf0 rfl) h (fun s1 hfs1 h => ?_)
  refine gd_ki h (fun h => ?_) (fun h => ?_)
  · exact gd_ke hfs1 h
  · refine gd_kc0 hfs1 (K_Cut_prepare _) rfl h (fun s2 hfs2 h => ?_)
    refine gd_jC (fun k6 => ∀ (s10 : gS), gd_fm W_Cut_find σ s10 → k6 s10 = some r0 → gd_fm W_Cut_find σ r0.2) h (fun s10 hfs10 h => ?_) (fun k6 hk6 h => ?_)
    · exact KL_Cut_find_69 σ r0 _ _ _ hfs10 h
    exact KL_Cut_find_22 _ σ r0 hk6 _ _ _ hfs2 h
abbrev W_G_study : gW := ([(0, 10), (21, 5), (26, 8), (26, 9), (26, 10), (33, 7), (33, 8)], [23, 24, 25, 27, 28, 29, 30, 34, 35, 36], [22, 31, 32, 37])
theorem K_G_study (σ : gS) (r0 : gQ × gS) (h : F_G_study σ = some r0) : gd_fm W_G_study σ r0.2 := by
  unfold F_G_study at h
  have hf0 := gd_fm0 W_G_study σ
  refine gd_ki h (fun h => ?_) (fun h => ?_)
  · refine gd_kc0 hf0 (K_Taint_spread _) rfl h (fun s1 hfs1 h => ?_)
    refine gd_kc0 hfs1 (K_Cut_find _) rfl h (fun s2 hfs2 h => ?_)
    refine gd_ks (C := gd_fm W_G_study σ) (gd_fmI hfs2 rfl) h (fun s3 hfs3 h => ?_)
    exact gd_ke hfs3 h
  · exact gd_ke hf0 h
abbrev W_G_check : gW := ([(0, 10), (21, 5), (26, 8), (26, 9), (26, 10), (33, 7), (33, 8)], [23, 24, 25, 27, 28, 29, 30, 34, 35, 36], [22, 31, 32, 37])
theorem K_G_check (σ : gS) (r0 : gQ × gS) (h : F_G_check σ = some r0) : gd_fm W_G_check σ r0.2 := by
  unfold F_G_check at h
  have hf0 := gd_fm0 W_G_check σ
  refine gd_kq0 hf0 h (fun h => ?_)
  refine gd_kc0 hf0 (K_G_study _) rfl h (fun s1 hfs1 h => ?_)
  exact gd_ke hfs1 h
abbrev W_G_reaches : gW := ([(21, 5)], [23, 24, 25], [22])
theorem K_G_reaches (a : Int32) (b : Int32) (σ : gS) (r0 : gQ × gS) (h : F_G_reaches a b σ = some r0) : gd_fm W_G_reaches σ r0.2 := by
  unfold F_G_reaches at h
  have hf0 := gd_fm0 W_G_reaches σ
  refine gd_kq0 hf0 h (fun h => ?_)
  refine gd_kq0 hf0 h (fun h => ?_)
  refine gd_kq0 hf0 h (fun h => ?_)
  refine gd_kc0 hf0 (K_Reach_trace _ _) rfl h (fun s1 hfs1 h => ?_)
  refine gd_kqi hfs1 h (fun r2 h => ?_)
  obtain ⟨-, h⟩ := gd_gE h
  exact gd_ke hfs1 h
abbrev W_G_mark : gW := ([(0, 10), (21, 5), (26, 8), (26, 9), (26, 10), (33, 7), (33, 8)], [23, 24, 25, 27, 28, 29, 30, 34, 35, 36], [22, 31, 32, 37])
theorem K_G_mark (a : Int32) (σ : gS) (r0 : gQ × gS) (h : F_G_mark a σ = some r0) : gd_fm W_G_mark σ r0.2 := by
  unfold F_G_mark at h
  have hf0 := gd_fm0 W_G_mark σ
  refine gd_kq0 hf0 h (fun h => ?_)
  refine gd_kq0 hf0 h (fun h => ?_)
  refine gd_kc0 hf0 (K_G_study _) rfl h (fun s1 hfs1 h => ?_)
  obtain ⟨-, h⟩ := gd_gE h
  exact gd_ke hfs1 h
abbrev W_G_cut : gW := ([(0, 10), (21, 5), (26, 8), (26, 9), (26, 10), (33, 7), (33, 8)], [23, 24, 25, 27, 28, 29, 30, 34, 35, 36], [22, 31, 32, 37])
theorem K_G_cut (σ : gS) (r0 : gQ × gS) (h : F_G_cut σ = some r0) : gd_fm W_G_cut σ r0.2 := by
  unfold F_G_cut at h
  have hf0 := gd_fm0 W_G_cut σ
  refine gd_kq0 hf0 h (fun h => ?_)
  refine gd_kc0 hf0 (K_G_study _) rfl h (fun s1 hfs1 h => ?_)
  exact gd_ke hfs1 h
abbrev W_Rewriter_plan : gW := ([], [39], [])
theorem KL_Rewriter_plan_4 (k6 : gS → gR) (x_1_1 : Int32) (σ : gS) (r0 : gQ × gS) (hk6 : ∀ (s11 : gS), gd_fm W_Rewriter_plan σ s11 → k6 s11 = some r0 → gd_fm W_Rewriter_plan σ r0.2) (n : Nat) : ∀ (n_2_2 : Int32) (n_3_3 : Int32) (s4 : gS), gd_fm W_Rewriter_plan σ s4 → gd_lp (fun _ _ _ => none) (B_Rewriter_plan_4 k6 x_1_1) n n_2_2 n_3_3 s4 = some r0 → gd_fm W_Rewriter_plan σ r0.2 := by
  refine gd_lpC (fun (ag5 : Int32 → Int32 → gS → gR) => ∀ (n_2_2 : Int32) (n_3_3 : Int32) (s4 : gS), gd_fm W_Rewriter_plan σ s4 → ag5 n_2_2 n_3_3 s4 = some r0 → gd_fm W_Rewriter_plan σ r0.2) (fun n_2_2 n_3_3 s4 _ h => by cases h) (fun ag5 ih n_2_2 n_3_3 s4 hfs4 h => ?_) n
  unfold B_Rewriter_plan_4 at h
  refine gd_ki h (fun h => ?_) (fun h => ?_)
  · exact hk6 _ hfs4 h
  · obtain ⟨-, h⟩ := gd_gE h
    refine gd_ks (C := gd_fm W_Rewriter_plan σ) (gd_fmA hfs4 rfl) h (fun s7 hfs7 h => ?_)
    refine gd_kqi hfs7 h (fun r8 h => ?_)
    refine gd_kt h (fun v10 h => ?_)
    exact ih _ _ _ hfs7 h
theorem KL_Rewriter_plan_61 (k17 : gS → gR) (x_1_13 : Int32) (σ : gS) (r0 : gQ × gS) (hk17 : ∀ (s20 : gS), gd_fm W_Rewriter_plan σ s20 → k17 s20 = some r0 → gd_fm W_Rewriter_plan σ r0.2) (n : Nat) : ∀ (n_3_14 : Int32) (s15 : gS), gd_fm W_Rewriter_plan σ s15 → gd_lp (fun _ _ => none) (B_Rewriter_plan_61 k17 x_1_13) n n_3_14 s15 = some r0 → gd_fm W_Rewriter_plan σ r0.2 := by
  refine gd_lpC (fun (ag16 : Int32 → gS → gR) => ∀ (n_3_14 : Int32) (s15 : gS), gd_fm W_Rewriter_plan σ s15 → ag16 n_3_14 s15 = some r0 → gd_fm W_Rewriter_plan σ r0.2) (fun n_3_14 s15 _ h => by cases h) (fun ag16 ih n_3_14 s15 hfs15 h => ?_) n
  unfold B_Rewriter_plan_61 at h
  refine gd_ki h (fun h => ?_) (fun h => ?_)
  · exact hk17 _ hfs15 h
  · obtain ⟨-, h⟩ := gd_gE h
    refine gd_jC (fun J18 => J18 = some r0 → gd_fm W_Rewriter_plan σ r0.2) h (fun  h => ?_) (fun J18 hJ18 h => ?_)
    · exact ih _ _ hfs15 h
    · refine gd_ki h (fun h => ?_) (fun h => ?_)
      · refine gd_kqi hfs15 h (fun r19 h => ?_)
        refine gd_ki h (fun h => ?_) (fun h => ?_)
        · exact gd_ke hfs15 h
        · exact hJ18 h
      · exact hJ18 h
theorem K_Rewriter_plan (a : Int32) (σ : gS) (r0 : gQ × gS) (h : F_Rewriter_plan a σ = some r0) : gd_fm W_Rewriter_plan σ r0.2 := by
  unfold F_Rewriter_plan at h
  have hf0 := gd_fm0 W_Rewriter_plan σ
  refine gd_jC (fun k6 => ∀ (s11 : gS), gd_fm W_Rewriter_plan σ s11 → k6 s11 = some r0 → gd_fm W_Rewriter_plan σ r0.2) h (fun s11 hfs11 h => ?_) (fun k6 hk6 h => ?_)
  · obtain ⟨-, h⟩ := gd_gE h
    refine gd_ks (C := gd_fm W_Rewriter_plan σ) (gd_fmA hfs11 rfl) h (fun s12 hfs12 h => ?_)
    refine gd_jC (fun k17 => ∀ (s20 : gS), gd_fm W_Rewriter_plan σ s20 → k17 s20 = some r0 → gd_fm W_Rewriter_plan σ r0.2) h (fun s20 hfs20 h => ?_) (fun k17 hk17 h => ?_)
    · refine gd_ki h (fun h => ?_) (fun h => ?_)
      · exact gd_ke hfs20 h
      · exact gd_ke hfs20 h
    exact KL_Rewriter_plan_61 _ _ σ r0 hk17 _ _ _ hfs12 h
  exact KL_Rewriter_plan_4 _ _ σ r0 hk6 _ _ _ _ hf0 h
abbrev W_Rewriter_writeOver_1 : gW := ([], [1, 40], [])
theorem KL_Rewriter_writeOver_1_10 (k4 : gS → gR) (σ : gS) (r0 : gQ × gS) (hk4 : ∀ (s13 : gS), gd_fm W_Rewriter_writeOver_1 σ s13 → k4 s13 = some r0 → gd_fm W_Rewriter_writeOver_1 σ r0.2) (n : Nat) : ∀ (n_2_1 : Int32) (s2 : gS), gd_fm W_Rewriter_writeOver_1 σ s2 → gd_lp (fun _ _ => none) (B_Rewriter_writeOver_1_10 k4) n n_2_1 s2 = some r0 → gd_fm W_Rewriter_writeOver_1 σ r0.2 := by
  refine gd_lpC (fun (ag3 : Int32 → gS → gR) => ∀ (n_2_1 : Int32) (s2 : gS), gd_fm W_Rewriter_writeOver_1 σ s2 → ag3 n_2_1 s2 = some r0 → gd_fm W_Rewriter_writeOver_1 σ r0.2) (fun n_2_1 s2 _ h => by cases h) (fun ag3 ih n_2_1 s2 hfs2 h => ?_) n
  unfold B_Rewriter_writeOver_1_10 at h
  refine gd_ki h (fun h => ?_) (fun h => ?_)
  · exact hk4 _ hfs2 h
  · obtain ⟨-, h⟩ := gd_gE h
    obtain ⟨-, h⟩ := gd_gE h
    refine gd_kqi hfs2 h (fun r5 h => ?_)
    obtain ⟨-, h⟩ := gd_gE h
    refine gd_ks (C := gd_fm W_Rewriter_writeOver_1 σ) (gd_fmA hfs2 rfl) h (fun s6 hfs6 h => ?_)
    obtain ⟨-, h⟩ := gd_gE h
    refine gd_ks (C := gd_fm W_Rewriter_writeOver_1 σ) (gd_fmA hfs6 rfl) h (fun s7 hfs7 h => ?_)
    refine gd_kqi hfs7 h (fun r8 h => ?_)
    refine gd_jC (fun J9 => ∀ (s12 : gS), gd_fm W_Rewriter_writeOver_1 σ s12 → J9 s12 = some r0 → gd_fm W_Rewriter_writeOver_1 σ r0.2) h (fun s12 hfs12 h => ?_) (fun J9 hJ9 h => ?_)
    · exact ih _ _ hfs12 h
    · refine gd_ki h (fun h => ?_) (fun h => ?_)
      · exact hJ9 _ hfs7 h
      · obtain ⟨-, h⟩ := gd_gE h
        refine gd_ks (C := gd_fm W_Rewriter_writeOver_1 σ) (gd_fmA hfs7 rfl) h (fun s10 hfs10 h => ?_)
        obtain ⟨-, h⟩ := gd_gE h
        refine gd_ks (C := gd_fm W_Rewriter_writeOver_1 σ) (gd_fmA hfs10 rfl) h (fun s11 hfs11 h => ?_)
        exact hJ9 _ hfs11 h
theorem K_Rewriter_writeOver_1 (σ : gS) (r0 : gQ × gS) (h : F_Rewriter_writeOver_1 σ = some r0) : gd_fm W_Rewriter_writeOver_1 σ r0.2 := by
  unfold F_Rewriter_writeOver_1 at h
  have hf0 := gd_fm0 W_Rewriter_writeOver_1 σ
  refine gd_jC (fun k4 => ∀ (s13 : gS), gd_fm W_Rewriter_writeOver_1 σ s13 → k4 s13 = some r0 → gd_fm W_Rewriter_writeOver_1 σ r0.2) h (fun s13 hfs13 h => ?_) (fun k4 hk4 h => ?_)
  · obtain ⟨-, h⟩ := gd_gE h
    exact gd_ke hfs13 h
  exact KL_Rewriter_writeOver_1_10 _ σ r0 hk4 _ _ _ hf0 h
abbrev W_G_rewrite : gW := ([(0, 7), (0, 8), (0, 9), (0, 10), (0, 11), (2, 7), (10, 5), (13, 1), (15, 5), (15, 6), (15, 7), (21, 5), (26, 8), (26, 9), (26, 10), (33, 7), (33, 8)], [1, 3, 4, 5, 6, 7, 8, 9, 11, 12, 23, 24, 25, 27, 28, 29, 30, 34, 35, 36, 39, 40], [22, 31, 32, 37])
theorem K_G_rewrite (σ : gS) (r0 : gQ × gS) (h : F_G_rewrite σ = some r0) : gd_fm W_G_rewrite σ r0.2 := by
  unfold F_G_rewrite at h
  have hf0 := gd_fm0 W_G_rewrite σ
  refine gd_kq0 hf0 h (fun h => ?_)
  refine gd_kc0 hf0 (K_G_study _) rfl h (fun s1 hfs1 h => ?_)
  refine gd_kci hfs1 (K_Rewriter_plan _ _) rfl h (fun r2 s3 hfs3 h => ?_)
  refine gd_ki h (fun h => ?_) (fun h => ?_)
  · exact gd_ke hfs3 h
  · refine gd_kci hfs3 (K_Rewriter_writeOver_1 _) rfl h (fun r4 s5 hfs5 h => ?_)
    refine gd_ks (C := gd_fm W_G_rewrite σ) (gd_fmI hfs5 rfl) h (fun s6 hfs6 h => ?_)
    refine gd_ks (C := gd_fm W_G_rewrite σ) (gd_fmI hfs6 rfl) h (fun s7 hfs7 h => ?_)
    refine gd_kci hfs7 (K_G_takeUp _) rfl h (fun r8 s9 hfs9 h => ?_)
    exact gd_ke hfs9 h
abbrev W_M_changed : gW := ([(41, 4), (41, 5)], [], [])
theorem K_M_changed (σ : gS) (r0 : gQ × gS) (h : F_M_changed σ = some r0) : gd_fm W_M_changed σ r0.2 := by
  unfold F_M_changed at h
  have hf0 := gd_fm0 W_M_changed σ
  refine gd_ks (C := gd_fm W_M_changed σ) (gd_fmI hf0 rfl) h (fun s1 hfs1 h => ?_)
  refine gd_ks (C := gd_fm W_M_changed σ) (gd_fmI hfs1 rfl) h (fun s2 hfs2 h => ?_)
  exact gd_ke hfs2 h
abbrev W_M_word : gW := ([(41, 0), (41, 2), (41, 4), (41, 5)], [42], [])
theorem K_M_word (a : Int32) (σ : gS) (r0 : gQ × gS) (h : F_M_word a σ = some r0) : gd_fm W_M_word σ r0.2 := by
  unfold F_M_word at h
  have hf0 := gd_fm0 W_M_word σ
  refine gd_ks (C := gd_fm W_M_word σ) (gd_fmI hf0 rfl) h (fun s1 hfs1 h => ?_)
  refine gd_ki h (fun h => ?_) (fun h => ?_)
  · obtain ⟨-, h⟩ := gd_gE h
    refine gd_ks (C := gd_fm W_M_word σ) (gd_fmA hfs1 rfl) h (fun s2 hfs2 h => ?_)
    refine gd_ks (C := gd_fm W_M_word σ) (gd_fmI hfs2 rfl) h (fun s3 hfs3 h => ?_)
    refine gd_kc0 hfs3 (K_M_changed _) rfl h (fun s4 hfs4 h => ?_)
    exact gd_ke hfs4 h
  · exact gd_ke hfs1 h
abbrev W_M_again : gW := ([(41, 0), (41, 2), (41, 4), (41, 5)], [42], [])
theorem KL_M_again_58 (k9 : gS → gR) (x_1_4 : Int32) (x_2_5 : Int32) (σ : gS) (r0 : gQ × gS) (hk9 : ∀ (s12 : gS), gd_fm W_M_again σ s12 → k9 s12 = some r0 → gd_fm W_M_again σ r0.2) (n : Nat) : ∀ (n_3_6 : Int32) (s7 : gS), gd_fm W_M_again σ s7 → gd_lp (fun _ _ => none) (B_M_again_58 k9 x_1_4 x_2_5) n n_3_6 s7 = some r0 → gd_fm W_M_again σ r0.2 := by
  refine gd_lpC (fun (ag8 : Int32 → gS → gR) => ∀ (n_3_6 : Int32) (s7 : gS), gd_fm W_M_again σ s7 → ag8 n_3_6 s7 = some r0 → gd_fm W_M_again σ r0.2) (fun n_3_6 s7 _ h => by cases h) (fun ag8 ih n_3_6 s7 hfs7 h => ?_) n
  unfold B_M_again_58 at h
  refine gd_ki h (fun h => ?_) (fun h => ?_)
  · exact hk9 _ hfs7 h
  · obtain ⟨-, h⟩ := gd_gE h
    obtain ⟨-, h⟩ := gd_gE h
    refine gd_ks (C := gd_fm W_M_again σ) (gd_fmA hfs7 rfl) h (fun s10 hfs10 h => ?_)
    refine gd_ks (C := gd_fm W_M_again σ) (gd_fmI hfs10 rfl) h (fun s11 hfs11 h => ?_)
    exact ih _ _ hfs11 h
theorem K_M_again (a : Int32) (b : Int32) (σ : gS) (r0 : gQ × gS) (h : F_M_again a b σ = some r0) : gd_fm W_M_again σ r0.2 := by
  unfold F_M_again at h
  have hf0 := gd_fm0 W_M_again σ
  refine gd_kt h (fun v2 h => ?_)
  refine gd_ks (C := gd_fm W_M_again σ) (gd_fmI hf0 rfl) h (fun s3 hfs3 h => ?_)
  refine gd_ki h (fun h => ?_) (fun h => ?_)
  · refine gd_ki h (fun h => ?_) (fun h => ?_)
    · refine gd_jC (fun k9 => ∀ (s12 : gS), gd_fm W_M_again σ s12 → k9 s12 = some r0 → gd_fm W_M_again σ r0.2) h (fun s12 hfs12 h => ?_) (fun k9 hk9 h => ?_)
      · refine gd_kc0 hfs12 (K_M_changed _) rfl h (fun s13 hfs13 h => ?_)
        exact gd_ke hfs13 h
      exact KL_M_again_58 _ _ _ σ r0 hk9 _ _ _ hfs3 h
    · exact gd_ke hfs3 h
  · exact gd_ke hfs3 h
abbrev W_M_clear : gW := ([(41, 0), (41, 2), (41, 4), (41, 5)], [], [])
theorem K_M_clear (σ : gS) (r0 : gQ × gS) (h : F_M_clear σ = some r0) : gd_fm W_M_clear σ r0.2 := by
  unfold F_M_clear at h
  have hf0 := gd_fm0 W_M_clear σ
  refine gd_ks (C := gd_fm W_M_clear σ) (gd_fmI hf0 rfl) h (fun s1 hfs1 h => ?_)
  refine gd_ks (C := gd_fm W_M_clear σ) (gd_fmI hfs1 rfl) h (fun s2 hfs2 h => ?_)
  refine gd_kc0 hfs2 (K_M_changed _) rfl h (fun s3 hfs3 h => ?_)
  exact gd_ke hfs3 h
abbrev W_M_wordAt : gW := ([(41, 0)], [], [])
theorem K_M_wordAt (a : Int32) (σ : gS) (r0 : gQ × gS) (h : F_M_wordAt a σ = some r0) : gd_fm W_M_wordAt σ r0.2 := by
  unfold F_M_wordAt at h
  have hf0 := gd_fm0 W_M_wordAt σ
  refine gd_ks (C := gd_fm W_M_wordAt σ) (gd_fmI hf0 rfl) h (fun s1 hfs1 h => ?_)
  refine gd_ki h (fun h => ?_) (fun h => ?_)
  · exact gd_ke hfs1 h
  · refine gd_ki h (fun h => ?_) (fun h => ?_)
    · obtain ⟨-, h⟩ := gd_gE h
      exact gd_ke hfs1 h
    · exact gd_ke hfs1 h
abbrev W_M_begin : gW := ([(41, 5), (41, 7), (41, 11), (41, 18), (41, 19), (41, 20)], [44, 45], [])
theorem KL_M_begin_32 (k10 : gS → gR) (σ : gS) (r0 : gQ × gS) (hk10 : ∀ (s12 : gS), gd_fm W_M_begin σ s12 → k10 s12 = some r0 → gd_fm W_M_begin σ r0.2) (n : Nat) : ∀ (n_1_7 : Int32) (s8 : gS), gd_fm W_M_begin σ s8 → gd_lp (fun _ _ => none) (B_M_begin_32 k10) n n_1_7 s8 = some r0 → gd_fm W_M_begin σ r0.2 := by
  refine gd_lpC (fun (ag9 : Int32 → gS → gR) => ∀ (n_1_7 : Int32) (s8 : gS), gd_fm W_M_begin σ s8 → ag9 n_1_7 s8 = some r0 → gd_fm W_M_begin σ r0.2) (fun n_1_7 s8 _ h => by cases h) (fun ag9 ih n_1_7 s8 hfs8 h => ?_) n
  unfold B_M_begin_32 at h
  refine gd_ki h (fun h => ?_) (fun h => ?_)
  · exact hk10 _ hfs8 h
  · obtain ⟨-, h⟩ := gd_gE h
    refine gd_ks (C := gd_fm W_M_begin σ) (gd_fmA hfs8 rfl) h (fun s11 hfs11 h => ?_)
    exact ih _ _ hfs11 h
theorem KL_M_begin_53 (σ : gS) (r0 : gQ × gS) (n : Nat) : ∀ (n_1_13 : Int32) (s14 : gS), gd_fm W_M_begin σ s14 → gd_lp (fun _ _ => none) (B_M_begin_53) n n_1_13 s14 = some r0 → gd_fm W_M_begin σ r0.2 := by
  refine gd_lpC (fun (ag15 : Int32 → gS → gR) => ∀ (n_1_13 : Int32) (s14 : gS), gd_fm W_M_begin σ s14 → ag15 n_1_13 s14 = some r0 → gd_fm W_M_begin σ r0.2) (fun n_1_13 s14 _ h => by cases h) (fun ag15 ih n_1_13 s14 hfs14 h => ?_) n
  unfold B_M_begin_53 at h
  refine gd_ki h (fun h => ?_) (fun h => ?_)
  · exact gd_ke hfs14 h
  · obtain ⟨-, h⟩ := gd_gE h
    refine gd_ks (C := gd_fm W_M_begin σ) (gd_fmA hfs14 rfl) h (fun s16 hfs16 h => ?_)
    exact ih _ _ hfs16 h
theorem K_M_begin (σ : gS) (r0 : gQ × gS) (h : F_M_begin σ = some r0) : gd_fm W_M_begin σ r0.2 := by
  unfold F_M_begin at h
  have hf0 := gd_fm0 W_M_begin σ
  refine gd_ks (C := gd_fm W_M_begin σ) (gd_fmI hf0 rfl) h (fun s1 hfs1 h => ?_)
  refine gd_ks (C := gd_fm W_M_begin σ) (gd_fmI hfs1 rfl) h (fun s2 hfs2 h => ?_)
  refine gd_ks (C := gd_fm W_M_begin σ) (gd_fmI hfs2 rfl) h (fun s3 hfs3 h => ?_)
  refine gd_ks (C := gd_fm W_M_begin σ) (gd_fmI hfs3 rfl) h (fun s4 hfs4 h => ?_)
  refine gd_ks (C := gd_fm W_M_begin σ) (gd_fmI hfs4 rfl) h (fun s5 hfs5 h => ?_)
  refine gd_ks (C := gd_fm W_M_begin σ) (gd_fmI hfs5 rfl) h (fun s6 hfs6 h => ?_)
  refine gd_jC (fun k10 => ∀ (s12 : gS), gd_fm W_M_begin σ s12 → k10 s12 = some r0 → gd_fm W_M_begin σ r0.2) h (fun s12 hfs12 h => ?_) (fun k10 hk10 h => ?_)
  · exact KL_M_begin_53 σ r0 _ _ _ hfs12 h
  exact KL_M_begin_32 _ σ r0 hk10 _ _ _ hfs6 h
abbrev W_M_load : gW := ([(41, 0), (41, 5), (41, 6), (41, 7), (41, 11), (41, 18), (41, 19), (41, 20)], [44, 45], [])
theorem KL_M_load_7 (k5 : Int32 → Int32 → gS → gR) (k6 : gS → gR) (σ : gS) (r0 : gQ × gS) (hk5 : ∀ (v9 : Int32) (v10 : Int32) (s8 : gS), gd_fm W_M_load σ s8 → k5 v9 v10 s8 = some r0 → gd_fm W_M_load σ r0.2) (hk6 : ∀ (s13 : gS), gd_fm W_M_load σ s13 → k6 s13 = some r0 → gd_fm W_M_load σ r0.2) (n : Nat) : ∀ (n_1_2 : Int32) (s3 : gS), gd_fm W_M_load σ s3 → gd_lp (fun _ _ => none) (B_M_load_7 k5 k6) n n_1_2 s3 = some r0 → gd_fm W_M_load σ r0.2 := by
  refine gd_lpC (fun (ag4 : Int32 → gS → gR) => ∀ (n_1_2 : Int32) (s3 : gS), gd_fm W_M_load σ s3 → ag4 n_1_2 s3 = some r0 → gd_fm W_M_load σ r0.2) (fun n_1_2 s3 _ h => by cases h) (fun ag4 ih n_1_2 s3 hfs3 h => ?_) n
  unfold B_M_load_7 at h
  refine gd_ki h (fun h => ?_) (fun h => ?_)
  · exact hk6 _ hfs3 h
  · refine gd_kqi hfs3 h (fun r7 h => ?_)
    refine gd_ki h (fun h => ?_) (fun h => ?_)
    · exact ih _ _ hfs3 h
    · exact hk5 _ _ _ hfs3 h
theorem K_M_load (σ : gS) (r0 : gQ × gS) (h : F_M_load σ = some r0) : gd_fm W_M_load σ r0.2 := by
  unfold F_M_load at h
  have hf0 := gd_fm0 W_M_load σ
  refine gd_ks (C := gd_fm W_M_load σ) (gd_fmI hf0 rfl) h (fun s1 hfs1 h => ?_)
  refine gd_jC (fun k5 => ∀ (v9 : Int32) (v10 : Int32) (s8 : gS), gd_fm W_M_load σ s8 → k5 v9 v10 s8 = some r0 → gd_fm W_M_load σ r0.2) h (fun v9 v10 s8 hfs8 h => ?_) (fun k5 hk5 h => ?_)
  · refine gd_ks (C := gd_fm W_M_load σ) (gd_fmI hfs8 rfl) h (fun s11 hfs11 h => ?_)
    refine gd_ks (C := gd_fm W_M_load σ) (gd_fmI hfs11 rfl) h (fun s12 hfs12 h => ?_)
    exact gd_ke hfs12 h
  refine gd_jC (fun k6 => ∀ (s13 : gS), gd_fm W_M_load σ s13 → k6 s13 = some r0 → gd_fm W_M_load σ r0.2) h (fun s13 hfs13 h => ?_) (fun k6 hk6 h => ?_)
  · refine gd_ks (C := gd_fm W_M_load σ) (gd_fmI hfs13 rfl) h (fun s14 hfs14 h => ?_)
    refine gd_kc0 hfs14 (K_M_begin _) rfl h (fun s15 hfs15 h => ?_)
    exact gd_ke hfs15 h
  exact KL_M_load_7 _ _ σ r0 hk5 hk6 _ _ _ hfs1 h
abbrev W_M_faultAt : gW := ([(41, 0)], [], [])
theorem K_M_faultAt (σ : gS) (r0 : gQ × gS) (h : F_M_faultAt σ = some r0) : gd_fm W_M_faultAt σ r0.2 := by
  unfold F_M_faultAt at h
  have hf0 := gd_fm0 W_M_faultAt σ
  refine gd_ks (C := gd_fm W_M_faultAt σ) (gd_fmI hf0 rfl) h (fun s1 hfs1 h => ?_)
  exact gd_ke hfs1 h
abbrev W_M_decoded : gW := ([(41, 0)], [], [])
theorem K_M_decoded (a : Int32) (b : Int32) (σ : gS) (r0 : gQ × gS) (h : F_M_decoded a b σ = some r0) : gd_fm W_M_decoded σ r0.2 := by
  unfold F_M_decoded at h
  have hf0 := gd_fm0 W_M_decoded σ
  refine gd_jC (fun J1 => ∀ (v3 : Int32), J1 v3 = some r0 → gd_fm W_M_decoded σ r0.2) h (fun v3 h => ?_) (fun J1 hJ1 h => ?_)
  · refine gd_ks (C := gd_fm W_M_decoded σ) (gd_fmI hf0 rfl) h (fun s4 hfs4 h => ?_)
    refine gd_ki h (fun h => ?_) (fun h => ?_)
    · refine gd_ki h (fun h => ?_) (fun h => ?_)
      · refine gd_kqi hfs4 h (fun r5 h => ?_)
        exact gd_ke hfs4 h
      refine gd_ki h (fun h => ?_) (fun h => ?_)
      · refine gd_kqi hfs4 h (fun r6 h => ?_)
        exact gd_ke hfs4 h
      refine gd_ki h (fun h => ?_) (fun h => ?_)
      · refine gd_kqi hfs4 h (fun r7 h => ?_)
        exact gd_ke hfs4 h
      refine gd_ki h (fun h => ?_) (fun h => ?_)
      · refine gd_kqi hfs4 h (fun r8 h => ?_)
        exact gd_ke hfs4 h
      refine gd_ki h (fun h => ?_) (fun h => ?_)
      · refine gd_kqi hfs4 h (fun r9 h => ?_)
        exact gd_ke hfs4 h
      refine gd_kqi hfs4 h (fun r10 h => ?_)
      refine gd_jC (fun J11 => J11 = some r0 → gd_fm W_M_decoded σ r0.2) h (fun  h => ?_) (fun J11 hJ11 h => ?_)
      · refine gd_kqi hfs4 h (fun r13 h => ?_)
        exact gd_ke hfs4 h
      · refine gd_ki h (fun h => ?_) (fun h => ?_)
        · exact hJ11 h
        · refine gd_kqi hfs4 h (fun r12 h => ?_)
          refine gd_ki h (fun h => ?_) (fun h => ?_)
          · exact hJ11 h
          · exact gd_ke hfs4 h
    · exact gd_ke hfs4 h
  · refine gd_ki h (fun h => ?_) (fun h => ?_)
    · exact hJ1 _ h
    · refine gd_kqi hf0 h (fun r2 h => ?_)
      refine gd_ki h (fun h => ?_) (fun h => ?_)
      · exact hJ1 _ h
      · refine gd_ki h (fun h => ?_) (fun h => ?_)
        · exact hJ1 _ h
        · refine gd_ki h (fun h => ?_) (fun h => ?_)
          · exact hJ1 _ h
          · exact hJ1 _ h
abbrev W_M_set : gW := ([(41, 0)], [44], [])
theorem K_M_set (a : Int32) (b : Int32) (σ : gS) (r0 : gQ × gS) (h : F_M_set a b σ = some r0) : gd_fm W_M_set σ r0.2 := by
  unfold F_M_set at h
  have hf0 := gd_fm0 W_M_set σ
  refine gd_kt h (fun v2 h => ?_)
  refine gd_ks (C := gd_fm W_M_set σ) (gd_fmI hf0 rfl) h (fun s3 hfs3 h => ?_)
  refine gd_ki h (fun h => ?_) (fun h => ?_)
  · obtain ⟨-, h⟩ := gd_gE h
    refine gd_ks (C := gd_fm W_M_set σ) (gd_fmA hfs3 rfl) h (fun s4 hfs4 h => ?_)
    exact gd_ke hfs4 h
  · exact gd_ke hfs3 h
abbrev W_M_register : gW := ([(41, 0)], [], [])
theorem K_M_register (a : Int32) (σ : gS) (r0 : gQ × gS) (h : F_M_register a σ = some r0) : gd_fm W_M_register σ r0.2 := by
  unfold F_M_register at h
  have hf0 := gd_fm0 W_M_register σ
  refine gd_kt h (fun v2 h => ?_)
  refine gd_ks (C := gd_fm W_M_register σ) (gd_fmI hf0 rfl) h (fun s3 hfs3 h => ?_)
  refine gd_ki h (fun h => ?_) (fun h => ?_)
  · obtain ⟨-, h⟩ := gd_gE h
    exact gd_ke hfs3 h
  · exact gd_ke hfs3 h
abbrev W_M_write : gW := ([], [45], [])
theorem KL_M_write_12 (x_2_1 : Int32) (x_3_2 : Int32) (x_4_3 : Int32) (σ : gS) (r0 : gQ × gS) (n : Nat) : ∀ (n_5_4 : Int32) (s5 : gS), gd_fm W_M_write σ s5 → gd_lp (fun _ _ => none) (B_M_write_12 x_2_1 x_3_2 x_4_3) n n_5_4 s5 = some r0 → gd_fm W_M_write σ r0.2 := by
  refine gd_lpC (fun (ag6 : Int32 → gS → gR) => ∀ (n_5_4 : Int32) (s5 : gS), gd_fm W_M_write σ s5 → ag6 n_5_4 s5 = some r0 → gd_fm W_M_write σ r0.2) (fun n_5_4 s5 _ h => by cases h) (fun ag6 ih n_5_4 s5 hfs5 h => ?_) n
  unfold B_M_write_12 at h
  refine gd_ki h (fun h => ?_) (fun h => ?_)
  · exact gd_ke hfs5 h
  · obtain ⟨-, h⟩ := gd_gE h
    refine gd_ks (C := gd_fm W_M_write σ) (gd_fmA hfs5 rfl) h (fun s7 hfs7 h => ?_)
    exact ih _ _ hfs7 h
theorem K_M_write (a : Int32) (b : Int32) (c : Int32) (σ : gS) (r0 : gQ × gS) (h : F_M_write a b c σ = some r0) : gd_fm W_M_write σ r0.2 := by
  unfold F_M_write at h
  have hf0 := gd_fm0 W_M_write σ
  exact KL_M_write_12 _ _ _ σ r0 _ _ _ hf0 h
abbrev W_M_poke : gW := ([(41, 0)], [45], [])
theorem K_M_poke (a : Int32) (b : Int32) (σ : gS) (r0 : gQ × gS) (h : F_M_poke a b σ = some r0) : gd_fm W_M_poke σ r0.2 := by
  unfold F_M_poke at h
  have hf0 := gd_fm0 W_M_poke σ
  refine gd_kt h (fun v2 h => ?_)
  refine gd_ks (C := gd_fm W_M_poke σ) (gd_fmI hf0 rfl) h (fun s3 hfs3 h => ?_)
  refine gd_ki h (fun h => ?_) (fun h => ?_)
  · refine gd_kc0 hfs3 (K_M_write _ _ _ _) rfl h (fun s4 hfs4 h => ?_)
    exact gd_ke hfs4 h
  · exact gd_ke hfs3 h
abbrev W_M_peek : gW := ([(41, 0)], [], [])
theorem K_M_peek (a : Int32) (σ : gS) (r0 : gQ × gS) (h : F_M_peek a σ = some r0) : gd_fm W_M_peek σ r0.2 := by
  unfold F_M_peek at h
  have hf0 := gd_fm0 W_M_peek σ
  refine gd_kt h (fun v2 h => ?_)
  refine gd_ks (C := gd_fm W_M_peek σ) (gd_fmI hf0 rfl) h (fun s3 hfs3 h => ?_)
  refine gd_ki h (fun h => ?_) (fun h => ?_)
  · refine gd_kqi hfs3 h (fun r4 h => ?_)
    exact gd_ke hfs3 h
  · exact gd_ke hfs3 h
abbrev W_M_tell : gW := ([(41, 11)], [], [46])
theorem K_M_tell (a : Int32) (b : Int32) (σ : gS) (r0 : gQ × gS) (h : F_M_tell a b σ = some r0) : gd_fm W_M_tell σ r0.2 := by
  unfold F_M_tell at h
  have hf0 := gd_fm0 W_M_tell σ
  obtain ⟨-, h⟩ := gd_gE h
  refine gd_ks (C := gd_fm W_M_tell σ) (gd_fmL hf0 rfl) h (fun s1 hfs1 h => ?_)
  refine gd_ks (C := gd_fm W_M_tell σ) (gd_fmI hfs1 rfl) h (fun s2 hfs2 h => ?_)
  exact gd_ke hfs2 h
abbrev W_M_loadedValue : gW := ([(41, 11)], [], [46])
theorem K_M_loadedValue (a : Int32) (b : Int32) (σ : gS) (r0 : gQ × gS) (h : F_M_loadedValue a b σ = some r0) : gd_fm W_M_loadedValue σ r0.2 := by
  unfold F_M_loadedValue at h
  have hf0 := gd_fm0 W_M_loadedValue σ
  refine gd_kc0 hf0 (K_M_tell _ _ _) rfl h (fun s1 hfs1 h => ?_)
  refine gd_ki h (fun h => ?_) (fun h => ?_)
  · refine gd_kqi hfs1 h (fun r2 h => ?_)
    exact gd_ke hfs1 h
  refine gd_ki h (fun h => ?_) (fun h => ?_)
  · refine gd_kqi hfs1 h (fun r3 h => ?_)
    exact gd_ke hfs1 h
  refine gd_ki h (fun h => ?_) (fun h => ?_)
  · refine gd_kqi hfs1 h (fun r4 h => ?_)
    exact gd_ke hfs1 h
  refine gd_ki h (fun h => ?_) (fun h => ?_)
  · refine gd_kqi hfs1 h (fun r5 h => ?_)
    exact gd_ke hfs1 h
  refine gd_ki h (fun h => ?_) (fun h => ?_)
  · refine gd_kqi hfs1 h (fun r6 h => ?_)
    exact gd_ke hfs1 h
  refine gd_kqi hfs1 h (fun r7 h => ?_)
  exact gd_ke hfs1 h
abbrev W_M_reg : gW := ([(41, 11)], [], [46])
theorem K_M_reg (a : Int32) (σ : gS) (r0 : gQ × gS) (h : F_M_reg a σ = some r0) : gd_fm W_M_reg σ r0.2 := by
  unfold F_M_reg at h
  have hf0 := gd_fm0 W_M_reg σ
  obtain ⟨-, h⟩ := gd_gE h
  obtain ⟨-, h⟩ := gd_gE h
  refine gd_ki h (fun h => ?_) (fun h => ?_)
  · refine gd_ki h (fun h => ?_) (fun h => ?_)
    · refine gd_kc0 hf0 (K_M_tell _ _ _) rfl h (fun s1 hfs1 h => ?_)
      refine gd_kc0 hfs1 (K_M_tell _ _ _) rfl h (fun s2 hfs2 h => ?_)
      refine gd_kqi hfs2 h (fun r3 h => ?_)
      exact gd_ke hfs2 h
    · exact gd_ke hf0 h
  · refine gd_kt h (fun v5 h => ?_)
    exact gd_ke hf0 h
abbrev W_M_runOne : gW := ([(41, 7), (41, 11)], [44, 45], [46])
theorem K_M_runOne (σ : gS) (r0 : gQ × gS) (h : F_M_runOne σ = some r0) : gd_fm W_M_runOne σ r0.2 := by
  unfold F_M_runOne at h
  have hf0 := gd_fm0 W_M_runOne σ
  obtain ⟨-, h⟩ := gd_gE h
  refine gd_kqi hf0 h (fun r1 h => ?_)
  refine gd_ks (C := gd_fm W_M_runOne σ) (gd_fmI hf0 rfl) h (fun s2 hfs2 h => ?_)
  refine gd_jC (fun J3 => ∀ (v22 : Int32) (s23 : gS), gd_fm W_M_runOne σ s23 → J3 v22 s23 = some r0 → gd_fm W_M_runOne σ r0.2) h (fun v22 s23 hfs23 h => ?_) (fun J3 hJ3 h => ?_)
  · refine gd_kqi hfs23 h (fun r24 h => ?_)
    refine gd_ki h (fun h => ?_) (fun h => ?_)
    · exact gd_ke hfs23 h
    · refine gd_kqi hfs23 h (fun r25 h => ?_)
      obtain ⟨-, h⟩ := gd_gE h
      refine gd_ks (C := gd_fm W_M_runOne σ) (gd_fmA hfs23 rfl) h (fun s26 hfs26 h => ?_)
      exact gd_ke hfs26 h
  · refine gd_ki h (fun h => ?_) (fun h => ?_)
    · refine gd_kci hfs2 (K_M_reg _ _) rfl h (fun r20 s21 hfs21 h => ?_)
      exact hJ3 _ _ hfs21 h
    · refine gd_ki h (fun h => ?_) (fun h => ?_)
      · obtain ⟨-, h⟩ := gd_gE h
        refine gd_kqi hfs2 h (fun r17 h => ?_)
        refine gd_kt h (fun v19 h => ?_)
        exact hJ3 _ _ hfs2 h
      · refine gd_ki h (fun h => ?_) (fun h => ?_)
        · refine gd_kqi hfs2 h (fun r16 h => ?_)
          exact hJ3 _ _ hfs2 h
        · refine gd_ki h (fun h => ?_) (fun h => ?_)
          · obtain ⟨-, h⟩ := gd_gE h
            refine gd_kqi hfs2 h (fun r13 h => ?_)
            refine gd_kci hfs2 (K_M_loadedValue _ _ _) rfl h (fun r14 s15 hfs15 h => ?_)
            exact hJ3 _ _ hfs15 h
          · refine gd_ki h (fun h => ?_) (fun h => ?_)
            · obtain ⟨-, h⟩ := gd_gE h
              refine gd_kqi hfs2 h (fun r10 h => ?_)
              refine gd_kc0 hfs2 (K_M_tell _ _ _) rfl h (fun s11 hfs11 h => ?_)
              obtain ⟨-, h⟩ := gd_gE h
              refine gd_kc0 hfs11 (K_M_write _ _ _ _) rfl h (fun s12 hfs12 h => ?_)
              exact hJ3 _ _ hfs12 h
            · refine gd_ki h (fun h => ?_) (fun h => ?_)
              · obtain ⟨-, h⟩ := gd_gE h
                obtain ⟨-, h⟩ := gd_gE h
                refine gd_kqi hfs2 h (fun r7 h => ?_)
                refine gd_ks (C := gd_fm W_M_runOne σ) (gd_fmI hfs2 rfl) h (fun s8 hfs8 h => ?_)
                refine gd_kc0 hfs8 (K_M_tell _ _ _) rfl h (fun s9 hfs9 h => ?_)
                exact hJ3 _ _ hfs9 h
              · refine gd_ki h (fun h => ?_) (fun h => ?_)
                · refine gd_kqi hfs2 h (fun r4 h => ?_)
                  refine gd_ks (C := gd_fm W_M_runOne σ) (gd_fmI hfs2 rfl) h (fun s5 hfs5 h => ?_)
                  refine gd_kc0 hfs5 (K_M_tell _ _ _) rfl h (fun s6 hfs6 h => ?_)
                  exact hJ3 _ _ hfs6 h
                · exact hJ3 _ _ hfs2 h
abbrev W_M_run : gW := ([(41, 0), (41, 7), (41, 11)], [44, 45], [46])
theorem KL_M_run_40 (x_1_4 : Int32) (σ : gS) (r0 : gQ × gS) (n : Nat) : ∀ (n_2_5 : Int32) (s6 : gS), gd_fm W_M_run σ s6 → gd_lp (fun _ _ => none) (B_M_run_40 x_1_4) n n_2_5 s6 = some r0 → gd_fm W_M_run σ r0.2 := by
  refine gd_lpC (fun (ag7 : Int32 → gS → gR) => ∀ (n_2_5 : Int32) (s6 : gS), gd_fm W_M_run σ s6 → ag7 n_2_5 s6 = some r0 → gd_fm W_M_run σ r0.2) (fun n_2_5 s6 _ h => by cases h) (fun ag7 ih n_2_5 s6 hfs6 h => ?_) n
  unfold B_M_run_40 at h
  refine gd_ki h (fun h => ?_) (fun h => ?_)
  · refine gd_ki h (fun h => ?_) (fun h => ?_)
    · exact gd_ke hfs6 h
    · refine gd_ki h (fun h => ?_) (fun h => ?_)
      · exact gd_ke hfs6 h
      · refine gd_kqi hfs6 h (fun r8 h => ?_)
        refine gd_ki h (fun h => ?_) (fun h => ?_)
        · exact gd_ke hfs6 h
        · refine gd_ki h (fun h => ?_) (fun h => ?_)
          · exact gd_ke hfs6 h
          · refine gd_kc0 hfs6 (K_M_runOne _) rfl h (fun s9 hfs9 h => ?_)
            exact ih _ _ hfs9 h
  · exact gd_ke hfs6 h
theorem K_M_run (a : Int32) (σ : gS) (r0 : gQ × gS) (h : F_M_run a σ = some r0) : gd_fm W_M_run σ r0.2 := by
  unfold F_M_run at h
  have hf0 := gd_fm0 W_M_run σ
  refine gd_kt h (fun v2 h => ?_)
  refine gd_ks (C := gd_fm W_M_run σ) (gd_fmI hf0 rfl) h (fun s3 hfs3 h => ?_)
  exact KL_M_run_40 _ σ r0 _ _ _ hfs3 h
abbrev W_M_guess : gW := ([(41, 7), (41, 18), (41, 19)], [47, 48, 49, 50, 51], [])
theorem KL_M_guess_43 (k7 : gS → gR) (x_1_3 : Int32) (σ : gS) (r0 : gQ × gS) (hk7 : ∀ (s9 : gS), gd_fm W_M_guess σ s9 → k7 s9 = some r0 → gd_fm W_M_guess σ r0.2) (n : Nat) : ∀ (n_2_4 : Int32) (s5 : gS), gd_fm W_M_guess σ s5 → gd_lp (fun _ _ => none) (B_M_guess_43 k7 x_1_3) n n_2_4 s5 = some r0 → gd_fm W_M_guess σ r0.2 := by
  refine gd_lpC (fun (ag6 : Int32 → gS → gR) => ∀ (n_2_4 : Int32) (s5 : gS), gd_fm W_M_guess σ s5 → ag6 n_2_4 s5 = some r0 → gd_fm W_M_guess σ r0.2) (fun n_2_4 s5 _ h => by cases h) (fun ag6 ih n_2_4 s5 hfs5 h => ?_) n
  unfold B_M_guess_43 at h
  refine gd_ki h (fun h => ?_) (fun h => ?_)
  · exact hk7 _ hfs5 h
  · obtain ⟨-, h⟩ := gd_gE h
    obtain ⟨-, h⟩ := gd_gE h
    refine gd_ks (C := gd_fm W_M_guess σ) (gd_fmA hfs5 rfl) h (fun s8 hfs8 h => ?_)
    exact ih _ _ hfs8 h
theorem KL_M_guess_77 (k14 : gS → gR) (x_1_10 : Int32) (σ : gS) (r0 : gQ × gS) (hk14 : ∀ (s16 : gS), gd_fm W_M_guess σ s16 → k14 s16 = some r0 → gd_fm W_M_guess σ r0.2) (n : Nat) : ∀ (n_2_11 : Int32) (s12 : gS), gd_fm W_M_guess σ s12 → gd_lp (fun _ _ => none) (B_M_guess_77 k14 x_1_10) n n_2_11 s12 = some r0 → gd_fm W_M_guess σ r0.2 := by
  refine gd_lpC (fun (ag13 : Int32 → gS → gR) => ∀ (n_2_11 : Int32) (s12 : gS), gd_fm W_M_guess σ s12 → ag13 n_2_11 s12 = some r0 → gd_fm W_M_guess σ r0.2) (fun n_2_11 s12 _ h => by cases h) (fun ag13 ih n_2_11 s12 hfs12 h => ?_) n
  unfold B_M_guess_77 at h
  refine gd_ki h (fun h => ?_) (fun h => ?_)
  · exact hk14 _ hfs12 h
  · obtain ⟨-, h⟩ := gd_gE h
    obtain ⟨-, h⟩ := gd_gE h
    refine gd_ks (C := gd_fm W_M_guess σ) (gd_fmA hfs12 rfl) h (fun s15 hfs15 h => ?_)
    exact ih _ _ hfs15 h
theorem K_M_guess (a : Int32) (σ : gS) (r0 : gQ × gS) (h : F_M_guess a σ = some r0) : gd_fm W_M_guess σ r0.2 := by
  unfold F_M_guess at h
  have hf0 := gd_fm0 W_M_guess σ
  refine gd_ki h (fun h => ?_) (fun h => ?_)
  · exact gd_ke hf0 h
  · refine gd_kqi hf0 h (fun r1 h => ?_)
    refine gd_ki h (fun h => ?_) (fun h => ?_)
    · refine gd_ki h (fun h => ?_) (fun h => ?_)
      · exact gd_ke hf0 h
      · refine gd_kqi hf0 h (fun r2 h => ?_)
        refine gd_ki h (fun h => ?_) (fun h => ?_)
        · refine gd_jC (fun k7 => ∀ (s9 : gS), gd_fm W_M_guess σ s9 → k7 s9 = some r0 → gd_fm W_M_guess σ r0.2) h (fun s9 hfs9 h => ?_) (fun k7 hk7 h => ?_)
          · refine gd_jC (fun k14 => ∀ (s16 : gS), gd_fm W_M_guess σ s16 → k14 s16 = some r0 → gd_fm W_M_guess σ r0.2) h (fun s16 hfs16 h => ?_) (fun k14 hk14 h => ?_)
            · refine gd_ks (C := gd_fm W_M_guess σ) (gd_fmI hfs16 rfl) h (fun s17 hfs17 h => ?_)
              obtain ⟨-, h⟩ := gd_gE h
              refine gd_ks (C := gd_fm W_M_guess σ) (gd_fmA hfs17 rfl) h (fun s18 hfs18 h => ?_)
              obtain ⟨-, h⟩ := gd_gE h
              refine gd_ks (C := gd_fm W_M_guess σ) (gd_fmA hfs18 rfl) h (fun s19 hfs19 h => ?_)
              refine gd_jC (fun J20 => ∀ (v22 : Int32), J20 v22 = some r0 → gd_fm W_M_guess σ r0.2) h (fun v22 h => ?_) (fun J20 hJ20 h => ?_)
              · refine gd_ks (C := gd_fm W_M_guess σ) (gd_fmI hfs19 rfl) h (fun s23 hfs23 h => ?_)
                obtain ⟨-, h⟩ := gd_gE h
                refine gd_ks (C := gd_fm W_M_guess σ) (gd_fmA hfs23 rfl) h (fun s24 hfs24 h => ?_)
                refine gd_ks (C := gd_fm W_M_guess σ) (gd_fmI hfs24 rfl) h (fun s25 hfs25 h => ?_)
                exact gd_ke hfs25 h
              · refine gd_ki h (fun h => ?_) (fun h => ?_)
                · refine gd_kqi hfs19 h (fun r21 h => ?_)
                  exact hJ20 _ h
                · exact hJ20 _ h
            exact KL_M_guess_77 _ _ σ r0 hk14 _ _ _ hfs9 h
          exact KL_M_guess_43 _ _ σ r0 hk7 _ _ _ hf0 h
        · exact gd_ke hf0 h
    · exact gd_ke hf0 h
abbrev W_M_resolve : gW := ([(41, 7), (41, 11), (41, 18)], [44, 45, 47, 48, 49, 50, 51], [46])
theorem KL_M_resolve_153 (k7 : gS → gR) (σ : gS) (r0 : gQ × gS) (hk7 : ∀ (s11 : gS), gd_fm W_M_resolve σ s11 → k7 s11 = some r0 → gd_fm W_M_resolve σ r0.2) (n : Nat) : ∀ (n_3_4 : Int32) (s5 : gS), gd_fm W_M_resolve σ s5 → gd_lp (fun _ _ => none) (B_M_resolve_153 k7) n n_3_4 s5 = some r0 → gd_fm W_M_resolve σ r0.2 := by
  refine gd_lpC (fun (ag6 : Int32 → gS → gR) => ∀ (n_3_4 : Int32) (s5 : gS), gd_fm W_M_resolve σ s5 → ag6 n_3_4 s5 = some r0 → gd_fm W_M_resolve σ r0.2) (fun n_3_4 s5 _ h => by cases h) (fun ag6 ih n_3_4 s5 hfs5 h => ?_) n
  unfold B_M_resolve_153 at h
  refine gd_ki h (fun h => ?_) (fun h => ?_)
  · exact hk7 _ hfs5 h
  · obtain ⟨-, h⟩ := gd_gE h
    obtain ⟨-, h⟩ := gd_gE h
    refine gd_ks (C := gd_fm W_M_resolve σ) (gd_fmA hfs5 rfl) h (fun s8 hfs8 h => ?_)
    obtain ⟨-, h⟩ := gd_gE h
    obtain ⟨-, h⟩ := gd_gE h
    refine gd_ks (C := gd_fm W_M_resolve σ) (gd_fmA hfs8 rfl) h (fun s9 hfs9 h => ?_)
    obtain ⟨-, h⟩ := gd_gE h
    obtain ⟨-, h⟩ := gd_gE h
    refine gd_ks (C := gd_fm W_M_resolve σ) (gd_fmA hfs9 rfl) h (fun s10 hfs10 h => ?_)
    exact ih _ _ hfs10 h
theorem KL_M_resolve_211 (k15 : gS → gR) (σ : gS) (r0 : gQ × gS) (hk15 : ∀ (s17 : gS), gd_fm W_M_resolve σ s17 → k15 s17 = some r0 → gd_fm W_M_resolve σ r0.2) (n : Nat) : ∀ (n_3_12 : Int32) (s13 : gS), gd_fm W_M_resolve σ s13 → gd_lp (fun _ _ => none) (B_M_resolve_211 k15) n n_3_12 s13 = some r0 → gd_fm W_M_resolve σ r0.2 := by
  refine gd_lpC (fun (ag14 : Int32 → gS → gR) => ∀ (n_3_12 : Int32) (s13 : gS), gd_fm W_M_resolve σ s13 → ag14 n_3_12 s13 = some r0 → gd_fm W_M_resolve σ r0.2) (fun n_3_12 s13 _ h => by cases h) (fun ag14 ih n_3_12 s13 hfs13 h => ?_) n
  unfold B_M_resolve_211 at h
  refine gd_ki h (fun h => ?_) (fun h => ?_)
  · exact hk15 _ hfs13 h
  · obtain ⟨-, h⟩ := gd_gE h
    obtain ⟨-, h⟩ := gd_gE h
    refine gd_ks (C := gd_fm W_M_resolve σ) (gd_fmA hfs13 rfl) h (fun s16 hfs16 h => ?_)
    exact ih _ _ hfs16 h
theorem KL_M_resolve_245 (σ : gS) (r0 : gQ × gS) (n : Nat) : ∀ (n_3_18 : Int32) (s19 : gS), gd_fm W_M_resolve σ s19 → gd_lp (fun _ _ => none) (B_M_resolve_245) n n_3_18 s19 = some r0 → gd_fm W_M_resolve σ r0.2 := by
  refine gd_lpC (fun (ag20 : Int32 → gS → gR) => ∀ (n_3_18 : Int32) (s19 : gS), gd_fm W_M_resolve σ s19 → ag20 n_3_18 s19 = some r0 → gd_fm W_M_resolve σ r0.2) (fun n_3_18 s19 _ h => by cases h) (fun ag20 ih n_3_18 s19 hfs19 h => ?_) n
  unfold B_M_resolve_245 at h
  refine gd_ki h (fun h => ?_) (fun h => ?_)
  · exact gd_ke hfs19 h
  · obtain ⟨-, h⟩ := gd_gE h
    obtain ⟨-, h⟩ := gd_gE h
    refine gd_ks (C := gd_fm W_M_resolve σ) (gd_fmA hfs19 rfl) h (fun s21 hfs21 h => ?_)
    exact ih _ _ hfs21 h
theorem KL_M_resolve_78 (k26 : gS → gR) (x_2_22 : Int32) (σ : gS) (r0 : gQ × gS) (hk26 : ∀ (s28 : gS), gd_fm W_M_resolve σ s28 → k26 s28 = some r0 → gd_fm W_M_resolve σ r0.2) (n : Nat) : ∀ (n_3_23 : Int32) (s24 : gS), gd_fm W_M_resolve σ s24 → gd_lp (fun _ _ => none) (B_M_resolve_78 k26 x_2_22) n n_3_23 s24 = some r0 → gd_fm W_M_resolve σ r0.2 := by
  refine gd_lpC (fun (ag25 : Int32 → gS → gR) => ∀ (n_3_23 : Int32) (s24 : gS), gd_fm W_M_resolve σ s24 → ag25 n_3_23 s24 = some r0 → gd_fm W_M_resolve σ r0.2) (fun n_3_23 s24 _ h => by cases h) (fun ag25 ih n_3_23 s24 hfs24 h => ?_) n
  unfold B_M_resolve_78 at h
  refine gd_ki h (fun h => ?_) (fun h => ?_)
  · exact hk26 _ hfs24 h
  · obtain ⟨-, h⟩ := gd_gE h
    obtain ⟨-, h⟩ := gd_gE h
    refine gd_ks (C := gd_fm W_M_resolve σ) (gd_fmA hfs24 rfl) h (fun s27 hfs27 h => ?_)
    exact ih _ _ hfs27 h
theorem KL_M_resolve_104 (k33 : gS → gR) (x_2_29 : Int32) (σ : gS) (r0 : gQ × gS) (hk33 : ∀ (s35 : gS), gd_fm W_M_resolve σ s35 → k33 s35 = some r0 → gd_fm W_M_resolve σ r0.2) (n : Nat) : ∀ (n_3_30 : Int32) (s31 : gS), gd_fm W_M_resolve σ s31 → gd_lp (fun _ _ => none) (B_M_resolve_104 k33 x_2_29) n n_3_30 s31 = some r0 → gd_fm W_M_resolve σ r0.2 := by
  refine gd_lpC (fun (ag32 : Int32 → gS → gR) => ∀ (n_3_30 : Int32) (s31 : gS), gd_fm W_M_resolve σ s31 → ag32 n_3_30 s31 = some r0 → gd_fm W_M_resolve σ r0.2) (fun n_3_30 s31 _ h => by cases h) (fun ag32 ih n_3_30 s31 hfs31 h => ?_) n
  unfold B_M_resolve_104 at h
  refine gd_ki h (fun h => ?_) (fun h => ?_)
  · exact hk33 _ hfs31 h
  · obtain ⟨-, h⟩ := gd_gE h
    obtain ⟨-, h⟩ := gd_gE h
    refine gd_ks (C := gd_fm W_M_resolve σ) (gd_fmA hfs31 rfl) h (fun s34 hfs34 h => ?_)
    exact ih _ _ hfs34 h
theorem K_M_resolve (σ : gS) (r0 : gQ × gS) (h : F_M_resolve σ = some r0) : gd_fm W_M_resolve σ r0.2 := by
  unfold F_M_resolve at h
  have hf0 := gd_fm0 W_M_resolve σ
  refine gd_ki h (fun h => ?_) (fun h => ?_)
  · exact gd_ke hf0 h
  · refine gd_ki h (fun h => ?_) (fun h => ?_)
    · obtain ⟨-, h⟩ := gd_gE h
      obtain ⟨-, h⟩ := gd_gE h
      obtain ⟨-, h⟩ := gd_gE h
      obtain ⟨-, h⟩ := gd_gE h
      obtain ⟨-, h⟩ := gd_gE h
      refine gd_kqi hf0 h (fun r1 h => ?_)
      refine gd_kc0 hf0 (K_M_tell _ _ _) rfl h (fun s2 hfs2 h => ?_)
      obtain ⟨-, h⟩ := gd_gE h
      refine gd_ki h (fun h => ?_) (fun h => ?_)
      · refine gd_ks (C := gd_fm W_M_resolve σ) (gd_fmI hfs2 rfl) h (fun s3 hfs3 h => ?_)
        refine gd_jC (fun k7 => ∀ (s11 : gS), gd_fm W_M_resolve σ s11 → k7 s11 = some r0 → gd_fm W_M_resolve σ r0.2) h (fun s11 hfs11 h => ?_) (fun k7 hk7 h => ?_)
        · refine gd_jC (fun k15 => ∀ (s17 : gS), gd_fm W_M_resolve σ s17 → k15 s17 = some r0 → gd_fm W_M_resolve σ r0.2) h (fun s17 hfs17 h => ?_) (fun k15 hk15 h => ?_)
          · exact KL_M_resolve_245 σ r0 _ _ _ hfs17 h
          exact KL_M_resolve_211 _ σ r0 hk15 _ _ _ hfs11 h
        exact KL_M_resolve_153 _ σ r0 hk7 _ _ _ hfs3 h
      · refine gd_jC (fun k26 => ∀ (s28 : gS), gd_fm W_M_resolve σ s28 → k26 s28 = some r0 → gd_fm W_M_resolve σ r0.2) h (fun s28 hfs28 h => ?_) (fun k26 hk26 h => ?_)
        · refine gd_jC (fun k33 => ∀ (s35 : gS), gd_fm W_M_resolve σ s35 → k33 s35 = some r0 → gd_fm W_M_resolve σ r0.2) h (fun s35 hfs35 h => ?_) (fun k33 hk33 h => ?_)
          · refine gd_ks (C := gd_fm W_M_resolve σ) (gd_fmI hfs35 rfl) h (fun s36 hfs36 h => ?_)
            refine gd_ks (C := gd_fm W_M_resolve σ) (gd_fmI hfs36 rfl) h (fun s37 hfs37 h => ?_)
            exact gd_ke hfs37 h
          exact KL_M_resolve_104 _ _ σ r0 hk33 _ _ _ hfs28 h
        exact KL_M_resolve_78 _ _ σ r0 hk26 _ _ _ hfs2 h
    · exact gd_ke hf0 h
abbrev W_M_order : gW := ([(41, 0), (41, 7), (41, 11), (41, 18), (41, 19)], [44, 45, 47, 48, 49, 50, 51], [46])
theorem K_M_order (a : Int32) (σ : gS) (r0 : gQ × gS) (h : F_M_order a σ = some r0) : gd_fm W_M_order σ r0.2 := by
  unfold F_M_order at h
  have hf0 := gd_fm0 W_M_order σ
  refine gd_kt h (fun v2 h => ?_)
  refine gd_ks (C := gd_fm W_M_order σ) (gd_fmI hf0 rfl) h (fun s3 hfs3 h => ?_)
  refine gd_ki h (fun h => ?_) (fun h => ?_)
  · refine gd_ki h (fun h => ?_) (fun h => ?_)
    · refine gd_kci hfs3 (K_M_resolve _) rfl h (fun r13 s14 hfs14 h => ?_)
      exact gd_ke hfs14 h
    · refine gd_ki h (fun h => ?_) (fun h => ?_)
      · refine gd_ki h (fun h => ?_) (fun h => ?_)
        · exact gd_ke hfs3 h
        · refine gd_kqi hfs3 h (fun r4 h => ?_)
          refine gd_ki h (fun h => ?_) (fun h => ?_)
          · refine gd_ki h (fun h => ?_) (fun h => ?_)
            · refine gd_kqi hfs3 h (fun r5 h => ?_)
              refine gd_ki h (fun h => ?_) (fun h => ?_)
              · exact gd_ke hfs3 h
              · refine gd_ki h (fun h => ?_) (fun h => ?_)
                · exact gd_ke hfs3 h
                · refine gd_jC (fun J6 => J6 = some r0 → gd_fm W_M_order σ r0.2) h (fun  h => ?_) (fun J6 hJ6 h => ?_)
                  · refine gd_kc0 hfs3 (K_M_runOne _) rfl h (fun s7 hfs7 h => ?_)
                    refine gd_ks (C := gd_fm W_M_order σ) (gd_fmI hfs7 rfl) h (fun s8 hfs8 h => ?_)
                    exact gd_ke hfs8 h
                  · refine gd_ki h (fun h => ?_) (fun h => ?_)
                    · refine gd_ki h (fun h => ?_) (fun h => ?_)
                      · exact hJ6 h
                      · exact gd_ke hfs3 h
                    · exact hJ6 h
            · exact gd_ke hfs3 h
          · exact gd_ke hfs3 h
      · refine gd_kt h (fun v10 h => ?_)
        refine gd_kci hfs3 (K_M_guess _ _) rfl h (fun r11 s12 hfs12 h => ?_)
        exact gd_ke hfs12 h
  · exact gd_ke hfs3 h
abbrev W_M_window : gW := ([(41, 0), (41, 12)], [], [])
theorem K_M_window (a : Int32) (σ : gS) (r0 : gQ × gS) (h : F_M_window a σ = some r0) : gd_fm W_M_window σ r0.2 := by
  unfold F_M_window at h
  have hf0 := gd_fm0 W_M_window σ
  refine gd_kt h (fun v2 h => ?_)
  refine gd_ks (C := gd_fm W_M_window σ) (gd_fmI hf0 rfl) h (fun s3 hfs3 h => ?_)
  refine gd_ki h (fun h => ?_) (fun h => ?_)
  · refine gd_ks (C := gd_fm W_M_window σ) (gd_fmI hfs3 rfl) h (fun s4 hfs4 h => ?_)
    exact gd_ke hfs4 h
  · exact gd_ke hfs3 h
abbrev W_M_state : gW := ([(41, 0)], [], [])
theorem K_M_state (a : Int32) (σ : gS) (r0 : gQ × gS) (h : F_M_state a σ = some r0) : gd_fm W_M_state σ r0.2 := by
  unfold F_M_state at h
  have hf0 := gd_fm0 W_M_state σ
  refine gd_kt h (fun v2 h => ?_)
  refine gd_ks (C := gd_fm W_M_state σ) (gd_fmI hf0 rfl) h (fun s3 hfs3 h => ?_)
  refine gd_ki h (fun h => ?_) (fun h => ?_)
  · refine gd_ki h (fun h => ?_) (fun h => ?_)
    · exact gd_ke hfs3 h
    · refine gd_ki h (fun h => ?_) (fun h => ?_)
      · exact gd_ke hfs3 h
      · refine gd_ki h (fun h => ?_) (fun h => ?_)
        · refine gd_kqi hfs3 h (fun r4 h => ?_)
          exact gd_ke hfs3 h
        · exact gd_ke hfs3 h
  · exact gd_ke hfs3 h
abbrev W_M_leak : gW := ([(41, 0)], [], [])
theorem K_M_leak (a : Int32) (σ : gS) (r0 : gQ × gS) (h : F_M_leak a σ = some r0) : gd_fm W_M_leak σ r0.2 := by
  unfold F_M_leak at h
  have hf0 := gd_fm0 W_M_leak σ
  refine gd_ks (C := gd_fm W_M_leak σ) (gd_fmI hf0 rfl) h (fun s1 hfs1 h => ?_)
  refine gd_ki h (fun h => ?_) (fun h => ?_)
  · exact gd_ke hfs1 h
  · refine gd_ki h (fun h => ?_) (fun h => ?_)
    · exact gd_ke hfs1 h
    · refine gd_ki h (fun h => ?_) (fun h => ?_)
      · obtain ⟨-, h⟩ := gd_gE h
        exact gd_ke hfs1 h
      · exact gd_ke hfs1 h
abbrev W_M_forget : gW := ([(41, 0), (41, 11)], [], [])
theorem K_M_forget (σ : gS) (r0 : gQ × gS) (h : F_M_forget σ = some r0) : gd_fm W_M_forget σ r0.2 := by
  unfold F_M_forget at h
  have hf0 := gd_fm0 W_M_forget σ
  refine gd_kt h (fun v2 h => ?_)
  refine gd_ks (C := gd_fm W_M_forget σ) (gd_fmI hf0 rfl) h (fun s3 hfs3 h => ?_)
  refine gd_ki h (fun h => ?_) (fun h => ?_)
  · refine gd_ks (C := gd_fm W_M_forget σ) (gd_fmI hfs3 rfl) h (fun s4 hfs4 h => ?_)
    exact gd_ke hfs4 h
  · exact gd_ke hfs3 h
abbrev W_M_visit : gW := ([(41, 37)], [62, 63], [])
theorem K_M_visit (a : Int32) (σ : gS) (r0 : gQ × gS) (h : F_M_visit a σ = some r0) : gd_fm W_M_visit σ r0.2 := by
  unfold F_M_visit at h
  have hf0 := gd_fm0 W_M_visit σ
  refine gd_ki h (fun h => ?_) (fun h => ?_)
  · exact gd_ke hf0 h
  · obtain ⟨-, h⟩ := gd_gE h
    refine gd_ki h (fun h => ?_) (fun h => ?_)
    · obtain ⟨-, h⟩ := gd_gE h
      refine gd_ks (C := gd_fm W_M_visit σ) (gd_fmA hf0 rfl) h (fun s1 hfs1 h => ?_)
      obtain ⟨-, h⟩ := gd_gE h
      refine gd_ks (C := gd_fm W_M_visit σ) (gd_fmA hfs1 rfl) h (fun s2 hfs2 h => ?_)
      refine gd_ks (C := gd_fm W_M_visit σ) (gd_fmI hfs2 rfl) h (fun s3 hfs3 h => ?_)
      exact gd_ke hfs3 h
    · exact gd_ke hf0 h
abbrev W_M_goOn : gW := ([(41, 37)], [62, 63], [])
theorem K_M_goOn (a : Int32) (σ : gS) (r0 : gQ × gS) (h : F_M_goOn a σ = some r0) : gd_fm W_M_goOn σ r0.2 := by
  unfold F_M_goOn at h
  have hf0 := gd_fm0 W_M_goOn σ
  refine gd_kqi hf0 h (fun r1 h => ?_)
  refine gd_jC (fun J2 => ∀ (s4 : gS), gd_fm W_M_goOn σ s4 → J2 s4 = some r0 → gd_fm W_M_goOn σ r0.2) h (fun s4 hfs4 h => ?_) (fun J2 hJ2 h => ?_)
  · refine gd_jC (fun J5 => J5 = some r0 → gd_fm W_M_goOn σ r0.2) h (fun  h => ?_) (fun J5 hJ5 h => ?_)
    · refine gd_kqi hfs4 h (fun r6 h => ?_)
      refine gd_kc0 hfs4 (K_M_visit _ _) rfl h (fun s7 hfs7 h => ?_)
      exact gd_ke hfs7 h
    · refine gd_ki h (fun h => ?_) (fun h => ?_)
      · exact hJ5 h
      · refine gd_ki h (fun h => ?_) (fun h => ?_)
        · exact hJ5 h
        · exact gd_ke hfs4 h
  · refine gd_ki h (fun h => ?_) (fun h => ?_)
    · exact hJ2 _ hf0 h
    · refine gd_ki h (fun h => ?_) (fun h => ?_)
      · exact hJ2 _ hf0 h
      · refine gd_kc0 hf0 (K_M_visit _ _) rfl h (fun s3 hfs3 h => ?_)
        exact hJ2 _ hfs3 h
abbrev W_M_findGuessed : gW := ([(41, 37)], [52, 62, 63], [])
theorem KL_M_findGuessed_2 (k4 : gS → gR) (σ : gS) (r0 : gQ × gS) (hk4 : ∀ (s6 : gS), gd_fm W_M_findGuessed σ s6 → k4 s6 = some r0 → gd_fm W_M_findGuessed σ r0.2) (n : Nat) : ∀ (n_1_1 : Int32) (s2 : gS), gd_fm W_M_findGuessed σ s2 → gd_lp (fun _ _ => none) (B_M_findGuessed_2 k4) n n_1_1 s2 = some r0 → gd_fm W_M_findGuessed σ r0.2 := by
  refine gd_lpC (fun (ag3 : Int32 → gS → gR) => ∀ (n_1_1 : Int32) (s2 : gS), gd_fm W_M_findGuessed σ s2 → ag3 n_1_1 s2 = some r0 → gd_fm W_M_findGuessed σ r0.2) (fun n_1_1 s2 _ h => by cases h) (fun ag3 ih n_1_1 s2 hfs2 h => ?_) n
  unfold B_M_findGuessed_2 at h
  refine gd_ki h (fun h => ?_) (fun h => ?_)
  · exact hk4 _ hfs2 h
  · obtain ⟨-, h⟩ := gd_gE h
    refine gd_ks (C := gd_fm W_M_findGuessed σ) (gd_fmA hfs2 rfl) h (fun s5 hfs5 h => ?_)
    exact ih _ _ hfs5 h
theorem KL_M_findGuessed_30 (k11 : gS → gR) (σ : gS) (r0 : gQ × gS) (hk11 : ∀ (s16 : gS), gd_fm W_M_findGuessed σ s16 → k11 s16 = some r0 → gd_fm W_M_findGuessed σ r0.2) (n : Nat) : ∀ (n_1_8 : Int32) (s9 : gS), gd_fm W_M_findGuessed σ s9 → gd_lp (fun _ _ => none) (B_M_findGuessed_30 k11) n n_1_8 s9 = some r0 → gd_fm W_M_findGuessed σ r0.2 := by
  refine gd_lpC (fun (ag10 : Int32 → gS → gR) => ∀ (n_1_8 : Int32) (s9 : gS), gd_fm W_M_findGuessed σ s9 → ag10 n_1_8 s9 = some r0 → gd_fm W_M_findGuessed σ r0.2) (fun n_1_8 s9 _ h => by cases h) (fun ag10 ih n_1_8 s9 hfs9 h => ?_) n
  unfold B_M_findGuessed_30 at h
  refine gd_ki h (fun h => ?_) (fun h => ?_)
  · exact hk11 _ hfs9 h
  · refine gd_kqi hfs9 h (fun r12 h => ?_)
    refine gd_jC (fun J13 => ∀ (s15 : gS), gd_fm W_M_findGuessed σ s15 → J13 s15 = some r0 → gd_fm W_M_findGuessed σ r0.2) h (fun s15 hfs15 h => ?_) (fun J13 hJ13 h => ?_)
    · exact ih _ _ hfs15 h
    · refine gd_ki h (fun h => ?_) (fun h => ?_)
      · refine gd_kc0 hfs9 (K_M_goOn _ _) rfl h (fun s14 hfs14 h => ?_)
        exact hJ13 _ hfs14 h
      · exact hJ13 _ hfs9 h
theorem KL_M_findGuessed_60 (k20 : gS → gR) (σ : gS) (r0 : gQ × gS) (hk20 : ∀ (s25 : gS), gd_fm W_M_findGuessed σ s25 → k20 s25 = some r0 → gd_fm W_M_findGuessed σ r0.2) (n : Nat) : ∀ (n_1_17 : Int32) (s18 : gS), gd_fm W_M_findGuessed σ s18 → gd_lp (fun _ _ => none) (B_M_findGuessed_60 k20) n n_1_17 s18 = some r0 → gd_fm W_M_findGuessed σ r0.2 := by
  refine gd_lpC (fun (ag19 : Int32 → gS → gR) => ∀ (n_1_17 : Int32) (s18 : gS), gd_fm W_M_findGuessed σ s18 → ag19 n_1_17 s18 = some r0 → gd_fm W_M_findGuessed σ r0.2) (fun n_1_17 s18 _ h => by cases h) (fun ag19 ih n_1_17 s18 hfs18 h => ?_) n
  unfold B_M_findGuessed_60 at h
  refine gd_ki h (fun h => ?_) (fun h => ?_)
  · exact hk20 _ hfs18 h
  · obtain ⟨-, h⟩ := gd_gE h
    refine gd_kqi hfs18 h (fun r21 h => ?_)
    refine gd_jC (fun J22 => ∀ (s24 : gS), gd_fm W_M_findGuessed σ s24 → J22 s24 = some r0 → gd_fm W_M_findGuessed σ r0.2) h (fun s24 hfs24 h => ?_) (fun J22 hJ22 h => ?_)
    · exact ih _ _ hfs24 h
    · refine gd_ki h (fun h => ?_) (fun h => ?_)
      · exact hJ22 _ hfs18 h
      · obtain ⟨-, h⟩ := gd_gE h
        refine gd_kc0 hfs18 (K_M_goOn _ _) rfl h (fun s23 hfs23 h => ?_)
        exact hJ22 _ hfs23 h
theorem KL_M_findGuessed_101 (σ : gS) (r0 : gQ × gS) (n : Nat) : ∀ (n_1_26 : Int32) (s27 : gS), gd_fm W_M_findGuessed σ s27 → gd_lp (fun _ _ => none) (B_M_findGuessed_101) n n_1_26 s27 = some r0 → gd_fm W_M_findGuessed σ r0.2 := by
  refine gd_lpC (fun (ag28 : Int32 → gS → gR) => ∀ (n_1_26 : Int32) (s27 : gS), gd_fm W_M_findGuessed σ s27 → ag28 n_1_26 s27 = some r0 → gd_fm W_M_findGuessed σ r0.2) (fun n_1_26 s27 _ h => by cases h) (fun ag28 ih n_1_26 s27 hfs27 h => ?_) n
  unfold B_M_findGuessed_101 at h
  refine gd_ki h (fun h => ?_) (fun h => ?_)
  · exact gd_ke hfs27 h
  · obtain ⟨-, h⟩ := gd_gE h
    obtain ⟨-, h⟩ := gd_gE h
    refine gd_ks (C := gd_fm W_M_findGuessed σ) (gd_fmA hfs27 rfl) h (fun s29 hfs29 h => ?_)
    exact ih _ _ hfs29 h
theorem K_M_findGuessed (σ : gS) (r0 : gQ × gS) (h : F_M_findGuessed σ = some r0) : gd_fm W_M_findGuessed σ r0.2 := by
  unfold F_M_findGuessed at h
  have hf0 := gd_fm0 W_M_findGuessed σ
  refine gd_jC (fun k4 => ∀ (s6 : gS), gd_fm W_M_findGuessed σ s6 → k4 s6 = some r0 → gd_fm W_M_findGuessed σ r0.2) h (fun s6 hfs6 h => ?_) (fun k4 hk4 h => ?_)
  · refine gd_ks (C := gd_fm W_M_findGuessed σ) (gd_fmI hfs6 rfl) h (fun s7 hfs7 h => ?_)
    refine gd_jC (fun k11 => ∀ (s16 : gS), gd_fm W_M_findGuessed σ s16 → k11 s16 = some r0 → gd_fm W_M_findGuessed σ r0.2) h (fun s16 hfs16 h => ?_) (fun k11 hk11 h => ?_)
    · refine gd_jC (fun k20 => ∀ (s25 : gS), gd_fm W_M_findGuessed σ s25 → k20 s25 = some r0 → gd_fm W_M_findGuessed σ r0.2) h (fun s25 hfs25 h => ?_) (fun k20 hk20 h => ?_)
      · exact KL_M_findGuessed_101 σ r0 _ _ _ hfs25 h
      exact KL_M_findGuessed_60 _ σ r0 hk20 _ _ _ hfs16 h
    exact KL_M_findGuessed_30 _ σ r0 hk11 _ _ _ hfs7 h
  exact KL_M_findGuessed_2 _ σ r0 hk4 _ _ _ hf0 h
abbrev W_M_turn_57 : gW := ([], [57], [])
theorem K_M_turn_57 (a : Int32) (b : Int32) (σ : gS) (r0 : gQ × gS) (h : F_M_turn_57 a b σ = some r0) : gd_fm W_M_turn_57 σ r0.2 := by
  unfold F_M_turn_57 at h
  have hf0 := gd_fm0 W_M_turn_57 σ
  obtain ⟨-, h⟩ := gd_gE h
  obtain ⟨-, h⟩ := gd_gE h
  refine gd_ks (C := gd_fm W_M_turn_57 σ) (gd_fmA hf0 rfl) h (fun s1 hfs1 h => ?_)
  exact gd_ke hfs1 h
abbrev W_M_findReach : gW := ([(41, 37)], [57, 62, 63], [])
theorem KL_M_findReach_2 (k5 : gS → gR) (x_1_1 : Int32) (σ : gS) (r0 : gQ × gS) (hk5 : ∀ (s7 : gS), gd_fm W_M_findReach σ s7 → k5 s7 = some r0 → gd_fm W_M_findReach σ r0.2) (n : Nat) : ∀ (n_2_2 : Int32) (s3 : gS), gd_fm W_M_findReach σ s3 → gd_lp (fun _ _ => none) (B_M_findReach_2 k5 x_1_1) n n_2_2 s3 = some r0 → gd_fm W_M_findReach σ r0.2 := by
  refine gd_lpC (fun (ag4 : Int32 → gS → gR) => ∀ (n_2_2 : Int32) (s3 : gS), gd_fm W_M_findReach σ s3 → ag4 n_2_2 s3 = some r0 → gd_fm W_M_findReach σ r0.2) (fun n_2_2 s3 _ h => by cases h) (fun ag4 ih n_2_2 s3 hfs3 h => ?_) n
  unfold B_M_findReach_2 at h
  refine gd_ki h (fun h => ?_) (fun h => ?_)
  · exact hk5 _ hfs3 h
  · obtain ⟨-, h⟩ := gd_gE h
    refine gd_ks (C := gd_fm W_M_findReach σ) (gd_fmA hfs3 rfl) h (fun s6 hfs6 h => ?_)
    exact ih _ _ hfs6 h
theorem KL_M_findReach_39 (k14 : gS → gR) (x_1_9 : Int32) (x_2_10 : Int32) (σ : gS) (r0 : gQ × gS) (hk14 : ∀ (s16 : gS), gd_fm W_M_findReach σ s16 → k14 s16 = some r0 → gd_fm W_M_findReach σ r0.2) (n : Nat) : ∀ (n_3_11 : Int32) (s12 : gS), gd_fm W_M_findReach σ s12 → gd_lp (fun _ _ => none) (B_M_findReach_39 k14 x_1_9 x_2_10) n n_3_11 s12 = some r0 → gd_fm W_M_findReach σ r0.2 := by
  refine gd_lpC (fun (ag13 : Int32 → gS → gR) => ∀ (n_3_11 : Int32) (s12 : gS), gd_fm W_M_findReach σ s12 → ag13 n_3_11 s12 = some r0 → gd_fm W_M_findReach σ r0.2) (fun n_3_11 s12 _ h => by cases h) (fun ag13 ih n_3_11 s12 hfs12 h => ?_) n
  unfold B_M_findReach_39 at h
  refine gd_ki h (fun h => ?_) (fun h => ?_)
  · exact hk14 _ hfs12 h
  · obtain ⟨-, h⟩ := gd_gE h
    refine gd_ks (C := gd_fm W_M_findReach σ) (gd_fmA hfs12 rfl) h (fun s15 hfs15 h => ?_)
    exact ih _ _ hfs15 h
theorem KL_M_findReach_72 (x_1_19 : Int32) (x_2_20 : Int32) (σ : gS) (r0 : gQ × gS) (n : Nat) : ∀ (n_3_21 : Int32) (s22 : gS), gd_fm W_M_findReach σ s22 → gd_lp (fun _ _ => none) (B_M_findReach_72 x_1_19 x_2_20) n n_3_21 s22 = some r0 → gd_fm W_M_findReach σ r0.2 := by
  refine gd_lpC (fun (ag23 : Int32 → gS → gR) => ∀ (n_3_21 : Int32) (s22 : gS), gd_fm W_M_findReach σ s22 → ag23 n_3_21 s22 = some r0 → gd_fm W_M_findReach σ r0.2) (fun n_3_21 s22 _ h => by cases h) (fun ag23 ih n_3_21 s22 hfs22 h => ?_) n
  unfold B_M_findReach_72 at h
  refine gd_ki h (fun h => ?_) (fun h => ?_)
  · exact gd_ke hfs22 h
  · obtain ⟨-, h⟩ := gd_gE h
    refine gd_kqi hfs22 h (fun r24 h => ?_)
    refine gd_jC (fun J25 => ∀ (s29 : gS), gd_fm W_M_findReach σ s29 → J25 s29 = some r0 → gd_fm W_M_findReach σ r0.2) h (fun s29 hfs29 h => ?_) (fun J25 hJ25 h => ?_)
    · refine gd_kqi hfs29 h (fun r30 h => ?_)
      refine gd_jC (fun J31 => ∀ (s34 : gS), gd_fm W_M_findReach σ s34 → J31 s34 = some r0 → gd_fm W_M_findReach σ r0.2) h (fun s34 hfs34 h => ?_) (fun J31 hJ31 h => ?_)
      · exact ih _ _ hfs34 h
      · refine gd_ki h (fun h => ?_) (fun h => ?_)
        · exact hJ31 _ hfs29 h
        · refine gd_kqi hfs29 h (fun r32 h => ?_)
          refine gd_ki h (fun h => ?_) (fun h => ?_)
          · exact hJ31 _ hfs29 h
          · refine gd_kc0 hfs29 (K_M_goOn _ _) rfl h (fun s33 hfs33 h => ?_)
            exact hJ31 _ hfs33 h
    · refine gd_jC (fun J26 => J26 = some r0 → gd_fm W_M_findReach σ r0.2) h (fun  h => ?_) (fun J26 hJ26 h => ?_)
      · refine gd_kc0 hfs22 (K_M_turn_57 _ _ _) rfl h (fun s28 hfs28 h => ?_)
        exact hJ25 _ hfs28 h
      · refine gd_ki h (fun h => ?_) (fun h => ?_)
        · exact hJ26 h
        · refine gd_kqi hfs22 h (fun r27 h => ?_)
          refine gd_ki h (fun h => ?_) (fun h => ?_)
          · exact hJ26 h
          · exact hJ25 _ hfs22 h
theorem K_M_findReach (a : Int32) (σ : gS) (r0 : gQ × gS) (h : F_M_findReach a σ = some r0) : gd_fm W_M_findReach σ r0.2 := by
  unfold F_M_findReach at h
  have hf0 := gd_fm0 W_M_findReach σ
  refine gd_jC (fun k5 => ∀ (s7 : gS), gd_fm W_M_findReach σ s7 → k5 s7 = some r0 → gd_fm W_M_findReach σ r0.2) h (fun s7 hfs7 h => ?_) (fun k5 hk5 h => ?_)
  · refine gd_kqi hfs7 h (fun r8 h => ?_)
    refine gd_ki h (fun h => ?_) (fun h => ?_)
    · refine gd_jC (fun k14 => ∀ (s16 : gS), gd_fm W_M_findReach σ s16 → k14 s16 = some r0 → gd_fm W_M_findReach σ r0.2) h (fun s16 hfs16 h => ?_) (fun k14 hk14 h => ?_)
      · refine gd_ks (C := gd_fm W_M_findReach σ) (gd_fmI hfs16 rfl) h (fun s17 hfs17 h => ?_)
        refine gd_kc0 hfs17 (K_M_goOn _ _) rfl h (fun s18 hfs18 h => ?_)
        exact KL_M_findReach_72 _ _ σ r0 _ _ _ hfs18 h
      exact KL_M_findReach_39 _ _ _ σ r0 hk14 _ _ _ hfs7 h
    · exact gd_ke hfs7 h
  exact KL_M_findReach_2 _ _ σ r0 hk5 _ _ _ hf0 h
abbrev W_M_findTaint : gW := ([(41, 37)], [53, 62], [])
theorem KL_M_findTaint_7 (k5 : gS → gR) (σ : gS) (r0 : gQ × gS) (hk5 : ∀ (s15 : gS), gd_fm W_M_findTaint σ s15 → k5 s15 = some r0 → gd_fm W_M_findTaint σ r0.2) (n : Nat) : ∀ (n_1_2 : Int32) (s3 : gS), gd_fm W_M_findTaint σ s3 → gd_lp (fun _ _ => none) (B_M_findTaint_7 k5) n n_1_2 s3 = some r0 → gd_fm W_M_findTaint σ r0.2 := by
  refine gd_lpC (fun (ag4 : Int32 → gS → gR) => ∀ (n_1_2 : Int32) (s3 : gS), gd_fm W_M_findTaint σ s3 → ag4 n_1_2 s3 = some r0 → gd_fm W_M_findTaint σ r0.2) (fun n_1_2 s3 _ h => by cases h) (fun ag4 ih n_1_2 s3 hfs3 h => ?_) n
  unfold B_M_findTaint_7 at h
  refine gd_ki h (fun h => ?_) (fun h => ?_)
  · exact hk5 _ hfs3 h
  · refine gd_kqi hfs3 h (fun r6 h => ?_)
    refine gd_jC (fun J7 => ∀ (v9 : Int32), J7 v9 = some r0 → gd_fm W_M_findTaint σ r0.2) h (fun v9 h => ?_) (fun J7 hJ7 h => ?_)
    · obtain ⟨-, h⟩ := gd_gE h
      refine gd_ks (C := gd_fm W_M_findTaint σ) (gd_fmA hfs3 rfl) h (fun s10 hfs10 h => ?_)
      obtain ⟨-, h⟩ := gd_gE h
      refine gd_jC (fun J11 => ∀ (s14 : gS), gd_fm W_M_findTaint σ s14 → J11 s14 = some r0 → gd_fm W_M_findTaint σ r0.2) h (fun s14 hfs14 h => ?_) (fun J11 hJ11 h => ?_)
      · exact ih _ _ hfs14 h
      · refine gd_ki h (fun h => ?_) (fun h => ?_)
        · exact hJ11 _ hfs10 h
        · obtain ⟨-, h⟩ := gd_gE h
          refine gd_ks (C := gd_fm W_M_findTaint σ) (gd_fmA hfs10 rfl) h (fun s12 hfs12 h => ?_)
          refine gd_ks (C := gd_fm W_M_findTaint σ) (gd_fmI hfs12 rfl) h (fun s13 hfs13 h => ?_)
          exact hJ11 _ hfs13 h
    · refine gd_ki h (fun h => ?_) (fun h => ?_)
      · obtain ⟨-, h⟩ := gd_gE h
        refine gd_ki h (fun h => ?_) (fun h => ?_)
        · exact hJ7 _ h
        · refine gd_kqi hfs3 h (fun r8 h => ?_)
          refine gd_ki h (fun h => ?_) (fun h => ?_)
          · exact hJ7 _ h
          · exact hJ7 _ h
      · exact hJ7 _ h
theorem KL_M_findTaint_99 (k23 : gS → gR) (x_1_19 : Int32) (σ : gS) (r0 : gQ × gS) (hk23 : ∀ (s32 : gS), gd_fm W_M_findTaint σ s32 → k23 s32 = some r0 → gd_fm W_M_findTaint σ r0.2) (n : Nat) : ∀ (n_2_20 : Int32) (s21 : gS), gd_fm W_M_findTaint σ s21 → gd_lp (fun _ _ => none) (B_M_findTaint_99 k23 x_1_19) n n_2_20 s21 = some r0 → gd_fm W_M_findTaint σ r0.2 := by
  refine gd_lpC (fun (ag22 : Int32 → gS → gR) => ∀ (n_2_20 : Int32) (s21 : gS), gd_fm W_M_findTaint σ s21 → ag22 n_2_20 s21 = some r0 → gd_fm W_M_findTaint σ r0.2) (fun n_2_20 s21 _ h => by cases h) (fun ag22 ih n_2_20 s21 hfs21 h => ?_) n
  unfold B_M_findTaint_99 at h
  refine gd_ki h (fun h => ?_) (fun h => ?_)
  · exact hk23 _ hfs21 h
  · refine gd_kqi hfs21 h (fun r24 h => ?_)
    refine gd_jC (fun J25 => ∀ (s31 : gS), gd_fm W_M_findTaint σ s31 → J25 s31 = some r0 → gd_fm W_M_findTaint σ r0.2) h (fun s31 hfs31 h => ?_) (fun J25 hJ25 h => ?_)
    · exact ih _ _ hfs31 h
    · refine gd_ki h (fun h => ?_) (fun h => ?_)
      · exact hJ25 _ hfs21 h
      · refine gd_kqi hfs21 h (fun r26 h => ?_)
        refine gd_ki h (fun h => ?_) (fun h => ?_)
        · exact hJ25 _ hfs21 h
        · obtain ⟨-, h⟩ := gd_gE h
          refine gd_ki h (fun h => ?_) (fun h => ?_)
          · obtain ⟨-, h⟩ := gd_gE h
            refine gd_kqi hfs21 h (fun r27 h => ?_)
            refine gd_ki h (fun h => ?_) (fun h => ?_)
            · exact hJ25 _ hfs21 h
            · obtain ⟨-, h⟩ := gd_gE h
              refine gd_ks (C := gd_fm W_M_findTaint σ) (gd_fmA hfs21 rfl) h (fun s28 hfs28 h => ?_)
              obtain ⟨-, h⟩ := gd_gE h
              refine gd_ks (C := gd_fm W_M_findTaint σ) (gd_fmA hfs28 rfl) h (fun s29 hfs29 h => ?_)
              refine gd_ks (C := gd_fm W_M_findTaint σ) (gd_fmI hfs29 rfl) h (fun s30 hfs30 h => ?_)
              exact hJ25 _ hfs30 h
          · exact hJ25 _ hfs21 h
theorem KL_M_findTaint_89 (σ : gS) (r0 : gQ × gS) (n : Nat) : ∀ (n_1_16 : Int32) (s17 : gS), gd_fm W_M_findTaint σ s17 → gd_lp (fun _ _ => none) (B_M_findTaint_89) n n_1_16 s17 = some r0 → gd_fm W_M_findTaint σ r0.2 := by
  refine gd_lpC (fun (ag18 : Int32 → gS → gR) => ∀ (n_1_16 : Int32) (s17 : gS), gd_fm W_M_findTaint σ s17 → ag18 n_1_16 s17 = some r0 → gd_fm W_M_findTaint σ r0.2) (fun n_1_16 s17 _ h => by cases h) (fun ag18 ih n_1_16 s17 hfs17 h => ?_) n
  unfold B_M_findTaint_89 at h
  refine gd_ki h (fun h => ?_) (fun h => ?_)
  · exact gd_ke hfs17 h
  · refine gd_jC (fun k23 => ∀ (s32 : gS), gd_fm W_M_findTaint σ s32 → k23 s32 = some r0 → gd_fm W_M_findTaint σ r0.2) h (fun s32 hfs32 h => ?_) (fun k23 hk23 h => ?_)
    · exact ih _ _ hfs32 h
    exact KL_M_findTaint_99 _ _ σ r0 hk23 _ _ _ hfs17 h
theorem K_M_findTaint (σ : gS) (r0 : gQ × gS) (h : F_M_findTaint σ = some r0) : gd_fm W_M_findTaint σ r0.2 := by
  unfold F_M_findTaint at h
  have hf0 := gd_fm0 W_M_findTaint σ
  refine gd_ks (C := gd_fm W_M_findTaint σ) (gd_fmI hf0 rfl) h (fun s1 hfs1 h => ?_)
  refine gd_jC (fun k5 => ∀ (s15 : gS), gd_fm W_M_findTaint σ s15 → k5 s15 = some r0 → gd_fm W_M_findTaint σ r0.2) h (fun s15 hfs15 h => ?_) (fun k5 hk5 h => ?_)
  · exact KL_M_findTaint_89 σ r0 _ _ _ hfs15 h
  exact KL_M_findTaint_7 _ σ r0 hk5 _ _ _ hfs1 h
