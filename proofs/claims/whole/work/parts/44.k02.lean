abbrev W_M_findExposed : gW := ([(41, 27)], [54, 55], [])
theorem KL_M_findExposed_7 (k5 : gS → gR) (σ : gS) (r0 : gQ × gS) (hk5 : ∀ (s8 : gS), gd_fm W_M_findExposed σ s8 → k5 s8 = some r0 → gd_fm W_M_findExposed σ r0.2) (n : Nat) : ∀ (n_1_2 : Int32) (s3 : gS), gd_fm W_M_findExposed σ s3 → gd_lp (fun _ _ => none) (B_M_findExposed_7 k5) n n_1_2 s3 = some r0 → gd_fm W_M_findExposed σ r0.2 := by
  refine gd_lpC (fun (ag4 : Int32 → gS → gR) => ∀ (n_1_2 : Int32) (s3 : gS), gd_fm W_M_findExposed σ s3 → ag4 n_1_2 s3 = some r0 → gd_fm W_M_findExposed σ r0.2) (fun n_1_2 s3 _ h => by cases h) (fun ag4 ih n_1_2 s3 hfs3 h => ?_) n
  unfold B_M_findExposed_7 at h
  refine gd_ki h (fun h => ?_) (fun h => ?_)
  · exact hk5 _ hfs3 h
  · obtain ⟨-, h⟩ := gd_gE h
    refine gd_ks (C := gd_fm W_M_findExposed σ) (gd_fmA hfs3 rfl) h (fun s6 hfs6 h => ?_)
    obtain ⟨-, h⟩ := gd_gE h
    refine gd_ks (C := gd_fm W_M_findExposed σ) (gd_fmA hfs6 rfl) h (fun s7 hfs7 h => ?_)
    exact ih _ _ hfs7 h
theorem KL_M_findExposed_47 (k16 : gS → gR) (x_1_12 : Int32) (σ : gS) (r0 : gQ × gS) (hk16 : ∀ (s27 : gS), gd_fm W_M_findExposed σ s27 → k16 s27 = some r0 → gd_fm W_M_findExposed σ r0.2) (n : Nat) : ∀ (n_2_13 : Int32) (s14 : gS), gd_fm W_M_findExposed σ s14 → gd_lp (fun _ _ => none) (B_M_findExposed_47 k16 x_1_12) n n_2_13 s14 = some r0 → gd_fm W_M_findExposed σ r0.2 := by
  refine gd_lpC (fun (ag15 : Int32 → gS → gR) => ∀ (n_2_13 : Int32) (s14 : gS), gd_fm W_M_findExposed σ s14 → ag15 n_2_13 s14 = some r0 → gd_fm W_M_findExposed σ r0.2) (fun n_2_13 s14 _ h => by cases h) (fun ag15 ih n_2_13 s14 hfs14 h => ?_) n
  unfold B_M_findExposed_47 at h
  refine gd_ki h (fun h => ?_) (fun h => ?_)
  · exact hk16 _ hfs14 h
  · obtain ⟨-, h⟩ := gd_gE h
    refine gd_ki h (fun h => ?_) (fun h => ?_)
    · exact hk16 _ hfs14 h
    · refine gd_kqi hfs14 h (fun r17 h => ?_)
      refine gd_jC (fun J18 => ∀ (s26 : gS), gd_fm W_M_findExposed σ s26 → J18 s26 = some r0 → gd_fm W_M_findExposed σ r0.2) h (fun s26 hfs26 h => ?_) (fun J18 hJ18 h => ?_)
      · exact ih _ _ hfs26 h
      · refine gd_ki h (fun h => ?_) (fun h => ?_)
        · exact hJ18 _ hfs14 h
        · refine gd_kqi hfs14 h (fun r19 h => ?_)
          refine gd_kqi hfs14 h (fun r20 h => ?_)
          refine gd_ki h (fun h => ?_) (fun h => ?_)
          · exact hJ18 _ hfs14 h
          · obtain ⟨-, h⟩ := gd_gE h
            refine gd_ks (C := gd_fm W_M_findExposed σ) (gd_fmA hfs14 rfl) h (fun s21 hfs21 h => ?_)
            obtain ⟨-, h⟩ := gd_gE h
            refine gd_kt h (fun v23 h => ?_)
            refine gd_ks (C := gd_fm W_M_findExposed σ) (gd_fmI hfs21 rfl) h (fun s24 hfs24 h => ?_)
            obtain ⟨-, h⟩ := gd_gE h
            refine gd_ks (C := gd_fm W_M_findExposed σ) (gd_fmA hfs24 rfl) h (fun s25 hfs25 h => ?_)
            exact hJ18 _ hfs25 h
theorem KL_M_findExposed_37 (σ : gS) (r0 : gQ × gS) (n : Nat) : ∀ (n_1_9 : Int32) (s10 : gS), gd_fm W_M_findExposed σ s10 → gd_lp (fun _ _ => none) (B_M_findExposed_37) n n_1_9 s10 = some r0 → gd_fm W_M_findExposed σ r0.2 := by
  refine gd_lpC (fun (ag11 : Int32 → gS → gR) => ∀ (n_1_9 : Int32) (s10 : gS), gd_fm W_M_findExposed σ s10 → ag11 n_1_9 s10 = some r0 → gd_fm W_M_findExposed σ r0.2) (fun n_1_9 s10 _ h => by cases h) (fun ag11 ih n_1_9 s10 hfs10 h => ?_) n
  unfold B_M_findExposed_37 at h
  refine gd_ki h (fun h => ?_) (fun h => ?_)
  · exact gd_ke hfs10 h
  · refine gd_jC (fun k16 => ∀ (s27 : gS), gd_fm W_M_findExposed σ s27 → k16 s27 = some r0 → gd_fm W_M_findExposed σ r0.2) h (fun s27 hfs27 h => ?_) (fun k16 hk16 h => ?_)
    · exact ih _ _ hfs27 h
    exact KL_M_findExposed_47 _ _ σ r0 hk16 _ _ _ hfs10 h
theorem K_M_findExposed (σ : gS) (r0 : gQ × gS) (h : F_M_findExposed σ = some r0) : gd_fm W_M_findExposed σ r0.2 := by
  unfold F_M_findExposed at h
  have hf0 := gd_fm0 W_M_findExposed σ
  refine gd_ks (C := gd_fm W_M_findExposed σ) (gd_fmI hf0 rfl) h (fun s1 hfs1 h => ?_)
  refine gd_jC (fun k5 => ∀ (s8 : gS), gd_fm W_M_findExposed σ s8 → k5 s8 = some r0 → gd_fm W_M_findExposed σ r0.2) h (fun s8 hfs8 h => ?_) (fun k5 hk5 h => ?_)
  · exact KL_M_findExposed_37 σ r0 _ _ _ hfs8 h
  exact KL_M_findExposed_7 _ σ r0 hk5 _ _ _ hfs1 h
abbrev W_M_find : gW := ([(41, 37)], [61, 62], [])
theorem K_M_find (a : Int32) (b : Int32) (σ : gS) (r0 : gQ × gS) (h : F_M_find a b σ = some r0) : gd_fm W_M_find σ r0.2 := by
  unfold F_M_find at h
  have hf0 := gd_fm0 W_M_find σ
  obtain ⟨-, h⟩ := gd_gE h
  refine gd_ki h (fun h => ?_) (fun h => ?_)
  · obtain ⟨-, h⟩ := gd_gE h
    refine gd_ks (C := gd_fm W_M_find σ) (gd_fmA hf0 rfl) h (fun s1 hfs1 h => ?_)
    obtain ⟨-, h⟩ := gd_gE h
    refine gd_ks (C := gd_fm W_M_find σ) (gd_fmA hfs1 rfl) h (fun s2 hfs2 h => ?_)
    refine gd_ks (C := gd_fm W_M_find σ) (gd_fmI hfs2 rfl) h (fun s3 hfs3 h => ?_)
    exact gd_ke hfs3 h
  · exact gd_ke hf0 h
abbrev W_M_findFromExit : gW := ([(41, 37)], [61, 62], [])
theorem KL_M_findFromExit_2 (k5 : gS → gR) (x_1_1 : Int32) (σ : gS) (r0 : gQ × gS) (hk5 : ∀ (s12 : gS), gd_fm W_M_findFromExit σ s12 → k5 s12 = some r0 → gd_fm W_M_findFromExit σ r0.2) (n : Nat) : ∀ (n_2_2 : Int32) (s3 : gS), gd_fm W_M_findFromExit σ s3 → gd_lp (fun _ _ => none) (B_M_findFromExit_2 k5 x_1_1) n n_2_2 s3 = some r0 → gd_fm W_M_findFromExit σ r0.2 := by
  refine gd_lpC (fun (ag4 : Int32 → gS → gR) => ∀ (n_2_2 : Int32) (s3 : gS), gd_fm W_M_findFromExit σ s3 → ag4 n_2_2 s3 = some r0 → gd_fm W_M_findFromExit σ r0.2) (fun n_2_2 s3 _ h => by cases h) (fun ag4 ih n_2_2 s3 hfs3 h => ?_) n
  unfold B_M_findFromExit_2 at h
  refine gd_ki h (fun h => ?_) (fun h => ?_)
  · exact hk5 _ hfs3 h
  · obtain ⟨-, h⟩ := gd_gE h
    refine gd_jC (fun J6 => ∀ (s11 : gS), gd_fm W_M_findFromExit σ s11 → J6 s11 = some r0 → gd_fm W_M_findFromExit σ r0.2) h (fun s11 hfs11 h => ?_) (fun J6 hJ6 h => ?_)
    · exact ih _ _ hfs11 h
    · refine gd_ki h (fun h => ?_) (fun h => ?_)
      · exact hJ6 _ hfs3 h
      · refine gd_kqi hfs3 h (fun r7 h => ?_)
        refine gd_ki h (fun h => ?_) (fun h => ?_)
        · exact hJ6 _ hfs3 h
        · refine gd_kqi hfs3 h (fun r8 h => ?_)
          refine gd_ki h (fun h => ?_) (fun h => ?_)
          · exact hJ6 _ hfs3 h
          · refine gd_kqi hfs3 h (fun r9 h => ?_)
            refine gd_ki h (fun h => ?_) (fun h => ?_)
            · refine gd_kc0 hfs3 (K_M_find _ _ _) rfl h (fun s10 hfs10 h => ?_)
              exact hJ6 _ hfs10 h
            · exact hJ6 _ hfs3 h
theorem K_M_findFromExit (a : Int32) (σ : gS) (r0 : gQ × gS) (h : F_M_findFromExit a σ = some r0) : gd_fm W_M_findFromExit σ r0.2 := by
  unfold F_M_findFromExit at h
  have hf0 := gd_fm0 W_M_findFromExit σ
  refine gd_jC (fun k5 => ∀ (s12 : gS), gd_fm W_M_findFromExit σ s12 → k5 s12 = some r0 → gd_fm W_M_findFromExit σ r0.2) h (fun s12 hfs12 h => ?_) (fun k5 hk5 h => ?_)
  · obtain ⟨-, h⟩ := gd_gE h
    refine gd_ki h (fun h => ?_) (fun h => ?_)
    · exact gd_ke hfs12 h
    · refine gd_kc0 hfs12 (K_M_find _ _ _) rfl h (fun s13 hfs13 h => ?_)
      exact gd_ke hfs13 h
  exact KL_M_findFromExit_2 _ _ σ r0 hk5 _ _ _ hf0 h
abbrev W_M_findFromEntry : gW := ([(41, 37)], [61, 62], [])
theorem KL_M_findFromEntry_23 (x_1_4 : Int32) (σ : gS) (r0 : gQ × gS) (n : Nat) : ∀ (n_2_5 : Int32) (s6 : gS), gd_fm W_M_findFromEntry σ s6 → gd_lp (fun _ _ => none) (B_M_findFromEntry_23 x_1_4) n n_2_5 s6 = some r0 → gd_fm W_M_findFromEntry σ r0.2 := by
  refine gd_lpC (fun (ag7 : Int32 → gS → gR) => ∀ (n_2_5 : Int32) (s6 : gS), gd_fm W_M_findFromEntry σ s6 → ag7 n_2_5 s6 = some r0 → gd_fm W_M_findFromEntry σ r0.2) (fun n_2_5 s6 _ h => by cases h) (fun ag7 ih n_2_5 s6 hfs6 h => ?_) n
  unfold B_M_findFromEntry_23 at h
  refine gd_ki h (fun h => ?_) (fun h => ?_)
  · exact gd_ke hfs6 h
  · obtain ⟨-, h⟩ := gd_gE h
    refine gd_jC (fun J8 => ∀ (s11 : gS), gd_fm W_M_findFromEntry σ s11 → J8 s11 = some r0 → gd_fm W_M_findFromEntry σ r0.2) h (fun s11 hfs11 h => ?_) (fun J8 hJ8 h => ?_)
    · exact ih _ _ hfs11 h
    · refine gd_ki h (fun h => ?_) (fun h => ?_)
      · exact hJ8 _ hfs6 h
      · refine gd_kqi hfs6 h (fun r9 h => ?_)
        refine gd_ki h (fun h => ?_) (fun h => ?_)
        · exact hJ8 _ hfs6 h
        · refine gd_kc0 hfs6 (K_M_find _ _ _) rfl h (fun s10 hfs10 h => ?_)
          exact hJ8 _ hfs10 h
theorem K_M_findFromEntry (a : Int32) (σ : gS) (r0 : gQ × gS) (h : F_M_findFromEntry a σ = some r0) : gd_fm W_M_findFromEntry σ r0.2 := by
  unfold F_M_findFromEntry at h
  have hf0 := gd_fm0 W_M_findFromEntry σ
  obtain ⟨-, h⟩ := gd_gE h
  refine gd_jC (fun J1 => ∀ (s3 : gS), gd_fm W_M_findFromEntry σ s3 → J1 s3 = some r0 → gd_fm W_M_findFromEntry σ r0.2) h (fun s3 hfs3 h => ?_) (fun J1 hJ1 h => ?_)
  · exact KL_M_findFromEntry_23 _ σ r0 _ _ _ hfs3 h
  · refine gd_ki h (fun h => ?_) (fun h => ?_)
    · refine gd_kc0 hf0 (K_M_find _ _ _) rfl h (fun s2 hfs2 h => ?_)
      exact hJ1 _ hfs2 h
    · exact hJ1 _ hf0 h
abbrev W_M_search : gW := ([(41, 37)], [61, 62], [])
theorem KL_M_search_2 (k4 : gS → gR) (σ : gS) (r0 : gQ × gS) (hk4 : ∀ (s6 : gS), gd_fm W_M_search σ s6 → k4 s6 = some r0 → gd_fm W_M_search σ r0.2) (n : Nat) : ∀ (n_1_1 : Int32) (s2 : gS), gd_fm W_M_search σ s2 → gd_lp (fun _ _ => none) (B_M_search_2 k4) n n_1_1 s2 = some r0 → gd_fm W_M_search σ r0.2 := by
  refine gd_lpC (fun (ag3 : Int32 → gS → gR) => ∀ (n_1_1 : Int32) (s2 : gS), gd_fm W_M_search σ s2 → ag3 n_1_1 s2 = some r0 → gd_fm W_M_search σ r0.2) (fun n_1_1 s2 _ h => by cases h) (fun ag3 ih n_1_1 s2 hfs2 h => ?_) n
  unfold B_M_search_2 at h
  refine gd_ki h (fun h => ?_) (fun h => ?_)
  · exact hk4 _ hfs2 h
  · obtain ⟨-, h⟩ := gd_gE h
    refine gd_ks (C := gd_fm W_M_search σ) (gd_fmA hfs2 rfl) h (fun s5 hfs5 h => ?_)
    exact ih _ _ hfs5 h
theorem KL_M_search_32 (k11 : gS → gR) (σ : gS) (r0 : gQ × gS) (hk11 : ∀ (s16 : gS), gd_fm W_M_search σ s16 → k11 s16 = some r0 → gd_fm W_M_search σ r0.2) (n : Nat) : ∀ (n_1_8 : Int32) (s9 : gS), gd_fm W_M_search σ s9 → gd_lp (fun _ _ => none) (B_M_search_32 k11) n n_1_8 s9 = some r0 → gd_fm W_M_search σ r0.2 := by
  refine gd_lpC (fun (ag10 : Int32 → gS → gR) => ∀ (n_1_8 : Int32) (s9 : gS), gd_fm W_M_search σ s9 → ag10 n_1_8 s9 = some r0 → gd_fm W_M_search σ r0.2) (fun n_1_8 s9 _ h => by cases h) (fun ag10 ih n_1_8 s9 hfs9 h => ?_) n
  unfold B_M_search_32 at h
  refine gd_ki h (fun h => ?_) (fun h => ?_)
  · exact hk11 _ hfs9 h
  · obtain ⟨-, h⟩ := gd_gE h
    refine gd_jC (fun J12 => ∀ (s15 : gS), gd_fm W_M_search σ s15 → J12 s15 = some r0 → gd_fm W_M_search σ r0.2) h (fun s15 hfs15 h => ?_) (fun J12 hJ12 h => ?_)
    · exact ih _ _ hfs15 h
    · refine gd_ki h (fun h => ?_) (fun h => ?_)
      · exact hJ12 _ hfs9 h
      · refine gd_kqi hfs9 h (fun r13 h => ?_)
        refine gd_ki h (fun h => ?_) (fun h => ?_)
        · refine gd_kc0 hfs9 (K_M_find _ _ _) rfl h (fun s14 hfs14 h => ?_)
          exact hJ12 _ hfs14 h
        · exact hJ12 _ hfs9 h
theorem KL_M_search_76 (k20 : Int32 → gS → gR) (σ : gS) (r0 : gQ × gS) (hk20 : ∀ (v27 : Int32) (s26 : gS), gd_fm W_M_search σ s26 → k20 v27 s26 = some r0 → gd_fm W_M_search σ r0.2) (n : Nat) : ∀ (n_1_17 : Int32) (s18 : gS), gd_fm W_M_search σ s18 → gd_lp (fun _ _ => none) (B_M_search_76 k20) n n_1_17 s18 = some r0 → gd_fm W_M_search σ r0.2 := by
  refine gd_lpC (fun (ag19 : Int32 → gS → gR) => ∀ (n_1_17 : Int32) (s18 : gS), gd_fm W_M_search σ s18 → ag19 n_1_17 s18 = some r0 → gd_fm W_M_search σ r0.2) (fun n_1_17 s18 _ h => by cases h) (fun ag19 ih n_1_17 s18 hfs18 h => ?_) n
  unfold B_M_search_76 at h
  refine gd_ki h (fun h => ?_) (fun h => ?_)
  · exact gd_ke hfs18 h
  · obtain ⟨-, h⟩ := gd_gE h
    obtain ⟨-, h⟩ := gd_gE h
    refine gd_jC (fun J21 => ∀ (s25 : gS), gd_fm W_M_search σ s25 → J21 s25 = some r0 → gd_fm W_M_search σ r0.2) h (fun s25 hfs25 h => ?_) (fun J21 hJ21 h => ?_)
    · exact ih _ _ hfs25 h
    · refine gd_ki h (fun h => ?_) (fun h => ?_)
      · refine gd_kc0 hfs18 (K_M_findFromEntry _ _) rfl h (fun s24 hfs24 h => ?_)
        exact hJ21 _ hfs24 h
      · obtain ⟨-, h⟩ := gd_gE h
        refine gd_jC (fun J22 => J22 = some r0 → gd_fm W_M_search σ r0.2) h (fun  h => ?_) (fun J22 hJ22 h => ?_)
        · refine gd_kc0 hfs18 (K_M_findFromExit _ _) rfl h (fun s23 hfs23 h => ?_)
          exact hJ21 _ hfs23 h
        · refine gd_ki h (fun h => ?_) (fun h => ?_)
          · exact hJ22 h
          · obtain ⟨-, h⟩ := gd_gE h
            refine gd_ki h (fun h => ?_) (fun h => ?_)
            · exact hk20 _ _ hfs18 h
            · exact hJ22 h
theorem K_M_search (σ : gS) (r0 : gQ × gS) (h : F_M_search σ = some r0) : gd_fm W_M_search σ r0.2 := by
  unfold F_M_search at h
  have hf0 := gd_fm0 W_M_search σ
  refine gd_jC (fun k4 => ∀ (s6 : gS), gd_fm W_M_search σ s6 → k4 s6 = some r0 → gd_fm W_M_search σ r0.2) h (fun s6 hfs6 h => ?_) (fun k4 hk4 h => ?_)
  · refine gd_ks (C := gd_fm W_M_search σ) (gd_fmI hfs6 rfl) h (fun s7 hfs7 h => ?_)
    refine gd_jC (fun k11 => ∀ (s16 : gS), gd_fm W_M_search σ s16 → k11 s16 = some r0 → gd_fm W_M_search σ r0.2) h (fun s16 hfs16 h => ?_) (fun k11 hk11 h => ?_)
    · refine gd_jC (fun k20 => ∀ (v27 : Int32) (s26 : gS), gd_fm W_M_search σ s26 → k20 v27 s26 = some r0 → gd_fm W_M_search σ r0.2) h (fun v27 s26 hfs26 h => ?_) (fun k20 hk20 h => ?_)
      · obtain ⟨-, h⟩ := gd_gE h
        exact gd_ke hfs26 h
      exact KL_M_search_76 _ σ r0 hk20 _ _ _ hfs16 h
    exact KL_M_search_32 _ σ r0 hk11 _ _ _ hfs7 h
  exact KL_M_search_2 _ σ r0 hk4 _ _ _ hf0 h
abbrev W_M_turn_58 : gW := ([], [58], [])
theorem K_M_turn_58 (a : Int32) (b : Int32) (σ : gS) (r0 : gQ × gS) (h : F_M_turn_58 a b σ = some r0) : gd_fm W_M_turn_58 σ r0.2 := by
  unfold F_M_turn_58 at h
  have hf0 := gd_fm0 W_M_turn_58 σ
  obtain ⟨-, h⟩ := gd_gE h
  obtain ⟨-, h⟩ := gd_gE h
  refine gd_ks (C := gd_fm W_M_turn_58 σ) (gd_fmA hf0 rfl) h (fun s1 hfs1 h => ?_)
  exact gd_ke hfs1 h
abbrev W_M_carry : gW := ([], [58, 59, 60], [])
theorem KL_M_carry_11 (σ : gS) (r0 : gQ × gS) (n : Nat) : ∀ (n_2_2 : Int32) (s3 : gS), gd_fm W_M_carry σ s3 → gd_lp (fun _ _ => none) (B_M_carry_11) n n_2_2 s3 = some r0 → gd_fm W_M_carry σ r0.2 := by
  refine gd_lpC (fun (ag4 : Int32 → gS → gR) => ∀ (n_2_2 : Int32) (s3 : gS), gd_fm W_M_carry σ s3 → ag4 n_2_2 s3 = some r0 → gd_fm W_M_carry σ r0.2) (fun n_2_2 s3 _ h => by cases h) (fun ag4 ih n_2_2 s3 hfs3 h => ?_) n
  unfold B_M_carry_11 at h
  obtain ⟨-, h⟩ := gd_gE h
  refine gd_ki h (fun h => ?_) (fun h => ?_)
  · exact gd_ke hfs3 h
  · obtain ⟨-, h⟩ := gd_gE h
    refine gd_jC (fun J5 => ∀ (s11 : gS), gd_fm W_M_carry σ s11 → J5 s11 = some r0 → gd_fm W_M_carry σ r0.2) h (fun s11 hfs11 h => ?_) (fun J5 hJ5 h => ?_)
    · exact ih _ _ hfs11 h
    · refine gd_ki h (fun h => ?_) (fun h => ?_)
      · refine gd_kt h (fun v9 h => ?_)
        obtain ⟨-, h⟩ := gd_gE h
        refine gd_ks (C := gd_fm W_M_carry σ) (gd_fmA hfs3 rfl) h (fun s10 hfs10 h => ?_)
        exact hJ5 _ hfs10 h
      · refine gd_ki h (fun h => ?_) (fun h => ?_)
        · refine gd_kc0 hfs3 (K_M_turn_58 _ _ _) rfl h (fun s7 hfs7 h => ?_)
          exact hJ5 _ hfs7 h
        · refine gd_kc0 hfs3 (K_M_turn_58 _ _ _) rfl h (fun s6 hfs6 h => ?_)
          exact hJ5 _ hfs6 h
theorem K_M_carry (a : Int32) (σ : gS) (r0 : gQ × gS) (h : F_M_carry a σ = some r0) : gd_fm W_M_carry σ r0.2 := by
  unfold F_M_carry at h
  have hf0 := gd_fm0 W_M_carry σ
  obtain ⟨-, h⟩ := gd_gE h
  refine gd_ks (C := gd_fm W_M_carry σ) (gd_fmA hf0 rfl) h (fun s1 hfs1 h => ?_)
  exact KL_M_carry_11 σ r0 _ _ _ hfs1 h
abbrev W_M_findCut : gW := ([(41, 26), (41, 37)], [56, 58, 59, 60, 61, 62], [])
theorem KL_M_findCut_26 (k11 : gS → gR) (x_1_7 : Int32) (σ : gS) (r0 : gQ × gS) (hk11 : ∀ (s13 : gS), gd_fm W_M_findCut σ s13 → k11 s13 = some r0 → gd_fm W_M_findCut σ r0.2) (n : Nat) : ∀ (n_2_8 : Int32) (s9 : gS), gd_fm W_M_findCut σ s9 → gd_lp (fun _ _ => none) (B_M_findCut_26 k11 x_1_7) n n_2_8 s9 = some r0 → gd_fm W_M_findCut σ r0.2 := by
  refine gd_lpC (fun (ag10 : Int32 → gS → gR) => ∀ (n_2_8 : Int32) (s9 : gS), gd_fm W_M_findCut σ s9 → ag10 n_2_8 s9 = some r0 → gd_fm W_M_findCut σ r0.2) (fun n_2_8 s9 _ h => by cases h) (fun ag10 ih n_2_8 s9 hfs9 h => ?_) n
  unfold B_M_findCut_26 at h
  refine gd_ki h (fun h => ?_) (fun h => ?_)
  · exact hk11 _ hfs9 h
  · obtain ⟨-, h⟩ := gd_gE h
    refine gd_ks (C := gd_fm W_M_findCut σ) (gd_fmA hfs9 rfl) h (fun s12 hfs12 h => ?_)
    exact ih _ _ hfs12 h
theorem KL_M_findCut_2 (k4 : gS → gR) (σ : gS) (r0 : gQ × gS) (hk4 : ∀ (s14 : gS), gd_fm W_M_findCut σ s14 → k4 s14 = some r0 → gd_fm W_M_findCut σ r0.2) (n : Nat) : ∀ (n_1_1 : Int32) (s2 : gS), gd_fm W_M_findCut σ s2 → gd_lp (fun _ _ => none) (B_M_findCut_2 k4) n n_1_1 s2 = some r0 → gd_fm W_M_findCut σ r0.2 := by
  refine gd_lpC (fun (ag3 : Int32 → gS → gR) => ∀ (n_1_1 : Int32) (s2 : gS), gd_fm W_M_findCut σ s2 → ag3 n_1_1 s2 = some r0 → gd_fm W_M_findCut σ r0.2) (fun n_1_1 s2 _ h => by cases h) (fun ag3 ih n_1_1 s2 hfs2 h => ?_) n
  unfold B_M_findCut_2 at h
  refine gd_ki h (fun h => ?_) (fun h => ?_)
  · exact hk4 _ hfs2 h
  · obtain ⟨-, h⟩ := gd_gE h
    refine gd_ks (C := gd_fm W_M_findCut σ) (gd_fmA hfs2 rfl) h (fun s5 hfs5 h => ?_)
    obtain ⟨-, h⟩ := gd_gE h
    refine gd_ks (C := gd_fm W_M_findCut σ) (gd_fmA hfs5 rfl) h (fun s6 hfs6 h => ?_)
    refine gd_jC (fun k11 => ∀ (s13 : gS), gd_fm W_M_findCut σ s13 → k11 s13 = some r0 → gd_fm W_M_findCut σ r0.2) h (fun s13 hfs13 h => ?_) (fun k11 hk11 h => ?_)
    · exact ih _ _ hfs13 h
    exact KL_M_findCut_26 _ _ σ r0 hk11 _ _ _ hfs6 h
theorem KL_M_findCut_61 (k20 : gS → gR) (σ : gS) (r0 : gQ × gS) (hk20 : ∀ (s24 : gS), gd_fm W_M_findCut σ s24 → k20 s24 = some r0 → gd_fm W_M_findCut σ r0.2) (n : Nat) : ∀ (n_1_17 : Int32) (s18 : gS), gd_fm W_M_findCut σ s18 → gd_lp (fun _ _ => none) (B_M_findCut_61 k20) n n_1_17 s18 = some r0 → gd_fm W_M_findCut σ r0.2 := by
  refine gd_lpC (fun (ag19 : Int32 → gS → gR) => ∀ (n_1_17 : Int32) (s18 : gS), gd_fm W_M_findCut σ s18 → ag19 n_1_17 s18 = some r0 → gd_fm W_M_findCut σ r0.2) (fun n_1_17 s18 _ h => by cases h) (fun ag19 ih n_1_17 s18 hfs18 h => ?_) n
  unfold B_M_findCut_61 at h
  refine gd_ki h (fun h => ?_) (fun h => ?_)
  · exact hk20 _ hfs18 h
  · refine gd_kc0 hfs18 (K_M_carry _ _) rfl h (fun s21 hfs21 h => ?_)
    refine gd_kci hfs21 (K_M_search _) rfl h (fun r22 s23 hfs23 h => ?_)
    exact ih _ _ hfs23 h
theorem KL_M_findCut_86 (σ : gS) (r0 : gQ × gS) (n : Nat) : ∀ (n_2_26 : Int32) (s27 : gS), gd_fm W_M_findCut σ s27 → gd_lp (fun _ _ => none) (B_M_findCut_86) n n_2_26 s27 = some r0 → gd_fm W_M_findCut σ r0.2 := by
  refine gd_lpC (fun (ag28 : Int32 → gS → gR) => ∀ (n_2_26 : Int32) (s27 : gS), gd_fm W_M_findCut σ s27 → ag28 n_2_26 s27 = some r0 → gd_fm W_M_findCut σ r0.2) (fun n_2_26 s27 _ h => by cases h) (fun ag28 ih n_2_26 s27 hfs27 h => ?_) n
  unfold B_M_findCut_86 at h
  refine gd_ki h (fun h => ?_) (fun h => ?_)
  · exact gd_ke hfs27 h
  · obtain ⟨-, h⟩ := gd_gE h
    refine gd_jC (fun J29 => ∀ (v30 : Int32), J29 v30 = some r0 → gd_fm W_M_findCut σ r0.2) h (fun v30 h => ?_) (fun J29 hJ29 h => ?_)
    · obtain ⟨-, h⟩ := gd_gE h
      refine gd_ks (C := gd_fm W_M_findCut σ) (gd_fmA hfs27 rfl) h (fun s31 hfs31 h => ?_)
      obtain ⟨-, h⟩ := gd_gE h
      refine gd_kt h (fun v33 h => ?_)
      refine gd_ks (C := gd_fm W_M_findCut σ) (gd_fmI hfs31 rfl) h (fun s34 hfs34 h => ?_)
      exact ih _ _ hfs34 h
    · refine gd_ki h (fun h => ?_) (fun h => ?_)
      · exact hJ29 _ h
      · obtain ⟨-, h⟩ := gd_gE h
        refine gd_ki h (fun h => ?_) (fun h => ?_)
        · exact hJ29 _ h
        · exact hJ29 _ h
theorem K_M_findCut (σ : gS) (r0 : gQ × gS) (h : F_M_findCut σ = some r0) : gd_fm W_M_findCut σ r0.2 := by
  unfold F_M_findCut at h
  have hf0 := gd_fm0 W_M_findCut σ
  refine gd_jC (fun k4 => ∀ (s14 : gS), gd_fm W_M_findCut σ s14 → k4 s14 = some r0 → gd_fm W_M_findCut σ r0.2) h (fun s14 hfs14 h => ?_) (fun k4 hk4 h => ?_)
  · refine gd_kci hfs14 (K_M_search _) rfl h (fun r15 s16 hfs16 h => ?_)
    refine gd_jC (fun k20 => ∀ (s24 : gS), gd_fm W_M_findCut σ s24 → k20 s24 = some r0 → gd_fm W_M_findCut σ r0.2) h (fun s24 hfs24 h => ?_) (fun k20 hk20 h => ?_)
    · refine gd_ks (C := gd_fm W_M_findCut σ) (gd_fmI hfs24 rfl) h (fun s25 hfs25 h => ?_)
      exact KL_M_findCut_86 σ r0 _ _ _ hfs25 h
    exact KL_M_findCut_61 _ σ r0 hk20 _ _ _ hfs16 h
  exact KL_M_findCut_2 _ σ r0 hk4 _ _ _ hf0 h
abbrev W_M_know : gW := ([(41, 20), (41, 26), (41, 27), (41, 37)], [52, 53, 54, 55, 56, 57, 58, 59, 60, 61, 62, 63], [])
theorem KL_M_know_14 (k5 : gS → gR) (σ : gS) (r0 : gQ × gS) (hk5 : ∀ (s7 : gS), gd_fm W_M_know σ s7 → k5 s7 = some r0 → gd_fm W_M_know σ r0.2) (n : Nat) : ∀ (n_1_2 : Int32) (s3 : gS), gd_fm W_M_know σ s3 → gd_lp (fun _ _ => none) (B_M_know_14 k5) n n_1_2 s3 = some r0 → gd_fm W_M_know σ r0.2 := by
  refine gd_lpC (fun (ag4 : Int32 → gS → gR) => ∀ (n_1_2 : Int32) (s3 : gS), gd_fm W_M_know σ s3 → ag4 n_1_2 s3 = some r0 → gd_fm W_M_know σ r0.2) (fun n_1_2 s3 _ h => by cases h) (fun ag4 ih n_1_2 s3 hfs3 h => ?_) n
  unfold B_M_know_14 at h
  refine gd_ki h (fun h => ?_) (fun h => ?_)
  · exact hk5 _ hfs3 h
  · refine gd_kc0 hfs3 (K_M_findReach _ _) rfl h (fun s6 hfs6 h => ?_)
    exact ih _ _ hfs6 h
theorem K_M_know (σ : gS) (r0 : gQ × gS) (h : F_M_know σ = some r0) : gd_fm W_M_know σ r0.2 := by
  unfold F_M_know at h
  have hf0 := gd_fm0 W_M_know σ
  refine gd_ki h (fun h => ?_) (fun h => ?_)
  · refine gd_kc0 hf0 (K_M_findGuessed _) rfl h (fun s1 hfs1 h => ?_)
    refine gd_jC (fun k5 => ∀ (s7 : gS), gd_fm W_M_know σ s7 → k5 s7 = some r0 → gd_fm W_M_know σ r0.2) h (fun s7 hfs7 h => ?_) (fun k5 hk5 h => ?_)
    · refine gd_kc0 hfs7 (K_M_findTaint _) rfl h (fun s8 hfs8 h => ?_)
      refine gd_kc0 hfs8 (K_M_findExposed _) rfl h (fun s9 hfs9 h => ?_)
      refine gd_kc0 hfs9 (K_M_findCut _) rfl h (fun s10 hfs10 h => ?_)
      refine gd_ks (C := gd_fm W_M_know σ) (gd_fmI hfs10 rfl) h (fun s11 hfs11 h => ?_)
      exact gd_ke hfs11 h
    exact KL_M_know_14 _ σ r0 hk5 _ _ _ hfs1 h
  · exact gd_ke hf0 h
abbrev W_M_check : gW := ([(41, 0), (41, 20), (41, 26), (41, 27), (41, 37)], [52, 53, 54, 55, 56, 57, 58, 59, 60, 61, 62, 63], [])
theorem K_M_check (σ : gS) (r0 : gQ × gS) (h : F_M_check σ = some r0) : gd_fm W_M_check σ r0.2 := by
  unfold F_M_check at h
  have hf0 := gd_fm0 W_M_check σ
  refine gd_kt h (fun v2 h => ?_)
  refine gd_ks (C := gd_fm W_M_check σ) (gd_fmI hf0 rfl) h (fun s3 hfs3 h => ?_)
  refine gd_ki h (fun h => ?_) (fun h => ?_)
  · refine gd_kc0 hfs3 (K_M_know _) rfl h (fun s4 hfs4 h => ?_)
    exact gd_ke hfs4 h
  · exact gd_ke hfs3 h
abbrev W_M_reaches : gW := ([(41, 0), (41, 20), (41, 26), (41, 27), (41, 37)], [52, 53, 54, 55, 56, 57, 58, 59, 60, 61, 62, 63], [])
theorem K_M_reaches (a : Int32) (b : Int32) (σ : gS) (r0 : gQ × gS) (h : F_M_reaches a b σ = some r0) : gd_fm W_M_reaches σ r0.2 := by
  unfold F_M_reaches at h
  have hf0 := gd_fm0 W_M_reaches σ
  refine gd_jC (fun J1 => ∀ (v4 : Int32), J1 v4 = some r0 → gd_fm W_M_reaches σ r0.2) h (fun v4 h => ?_) (fun J1 hJ1 h => ?_)
  · refine gd_ks (C := gd_fm W_M_reaches σ) (gd_fmI hf0 rfl) h (fun s5 hfs5 h => ?_)
    refine gd_ki h (fun h => ?_) (fun h => ?_)
    · refine gd_kc0 hfs5 (K_M_know _) rfl h (fun s6 hfs6 h => ?_)
      refine gd_kqi hfs6 h (fun r7 h => ?_)
      obtain ⟨-, h⟩ := gd_gE h
      exact gd_ke hfs6 h
    · exact gd_ke hfs5 h
  · refine gd_ki h (fun h => ?_) (fun h => ?_)
    · exact hJ1 _ h
    · refine gd_kqi hf0 h (fun r2 h => ?_)
      refine gd_ki h (fun h => ?_) (fun h => ?_)
      · exact hJ1 _ h
      · refine gd_kqi hf0 h (fun r3 h => ?_)
        refine gd_ki h (fun h => ?_) (fun h => ?_)
        · exact hJ1 _ h
        · exact hJ1 _ h
abbrev W_M_mark : gW := ([(41, 0), (41, 20), (41, 26), (41, 27), (41, 37)], [52, 53, 54, 55, 56, 57, 58, 59, 60, 61, 62, 63], [])
theorem K_M_mark (a : Int32) (σ : gS) (r0 : gQ × gS) (h : F_M_mark a σ = some r0) : gd_fm W_M_mark σ r0.2 := by
  unfold F_M_mark at h
  have hf0 := gd_fm0 W_M_mark σ
  refine gd_jC (fun J1 => ∀ (v3 : Int32), J1 v3 = some r0 → gd_fm W_M_mark σ r0.2) h (fun v3 h => ?_) (fun J1 hJ1 h => ?_)
  · refine gd_ks (C := gd_fm W_M_mark σ) (gd_fmI hf0 rfl) h (fun s4 hfs4 h => ?_)
    refine gd_ki h (fun h => ?_) (fun h => ?_)
    · refine gd_kc0 hfs4 (K_M_know _) rfl h (fun s5 hfs5 h => ?_)
      obtain ⟨-, h⟩ := gd_gE h
      refine gd_kt h (fun v7 h => ?_)
      obtain ⟨-, h⟩ := gd_gE h
      refine gd_kt h (fun v9 h => ?_)
      obtain ⟨-, h⟩ := gd_gE h
      refine gd_kt h (fun v11 h => ?_)
      obtain ⟨-, h⟩ := gd_gE h
      refine gd_kt h (fun v13 h => ?_)
      exact gd_ke hfs5 h
    · exact gd_ke hfs4 h
  · refine gd_ki h (fun h => ?_) (fun h => ?_)
    · exact hJ1 _ h
    · refine gd_kqi hf0 h (fun r2 h => ?_)
      refine gd_ki h (fun h => ?_) (fun h => ?_)
      · exact hJ1 _ h
      · exact hJ1 _ h
abbrev W_M_cut : gW := ([(41, 0), (41, 20), (41, 26), (41, 27), (41, 37)], [52, 53, 54, 55, 56, 57, 58, 59, 60, 61, 62, 63], [])
theorem K_M_cut (σ : gS) (r0 : gQ × gS) (h : F_M_cut σ = some r0) : gd_fm W_M_cut σ r0.2 := by
  unfold F_M_cut at h
  have hf0 := gd_fm0 W_M_cut σ
  refine gd_kt h (fun v2 h => ?_)
  refine gd_ks (C := gd_fm W_M_cut σ) (gd_fmI hf0 rfl) h (fun s3 hfs3 h => ?_)
  refine gd_ki h (fun h => ?_) (fun h => ?_)
  · refine gd_kc0 hfs3 (K_M_know _) rfl h (fun s4 hfs4 h => ?_)
    exact gd_ke hfs4 h
  · exact gd_ke hfs3 h
abbrev W_M_rewrite : gW := ([(41, 0), (41, 2), (41, 4), (41, 5), (41, 7), (41, 11), (41, 18), (41, 19), (41, 20), (41, 26), (41, 27), (41, 37)], [42, 43, 44, 45, 52, 53, 54, 55, 56, 57, 58, 59, 60, 61, 62, 63, 64, 65], [])
theorem KL_M_rewrite_33 (k9 : Int32 → gS → gR) (σ : gS) (r0 : gQ × gS) (hk9 : ∀ (v14 : Int32) (s13 : gS), gd_fm W_M_rewrite σ s13 → k9 v14 s13 = some r0 → gd_fm W_M_rewrite σ r0.2) (n : Nat) : ∀ (n_1_5 : Int32) (n_2_6 : Int32) (s7 : gS), gd_fm W_M_rewrite σ s7 → gd_lp (fun _ _ _ => none) (B_M_rewrite_33 k9) n n_1_5 n_2_6 s7 = some r0 → gd_fm W_M_rewrite σ r0.2 := by
  refine gd_lpC (fun (ag8 : Int32 → Int32 → gS → gR) => ∀ (n_1_5 : Int32) (n_2_6 : Int32) (s7 : gS), gd_fm W_M_rewrite σ s7 → ag8 n_1_5 n_2_6 s7 = some r0 → gd_fm W_M_rewrite σ r0.2) (fun n_1_5 n_2_6 s7 _ h => by cases h) (fun ag8 ih n_1_5 n_2_6 s7 hfs7 h => ?_) n
  unfold B_M_rewrite_33 at h
  refine gd_ki h (fun h => ?_) (fun h => ?_)
  · exact hk9 _ _ hfs7 h
  · obtain ⟨-, h⟩ := gd_gE h
    refine gd_ks (C := gd_fm W_M_rewrite σ) (gd_fmA hfs7 rfl) h (fun s10 hfs10 h => ?_)
    obtain ⟨-, h⟩ := gd_gE h
    refine gd_kt h (fun v12 h => ?_)
    exact ih _ _ _ hfs10 h
theorem KL_M_rewrite_85 (k20 : gS → gR) (x_1_16 : Int32) (σ : gS) (r0 : gQ × gS) (hk20 : ∀ (s33 : gS), gd_fm W_M_rewrite σ s33 → k20 s33 = some r0 → gd_fm W_M_rewrite σ r0.2) (n : Nat) : ∀ (n_2_17 : Int32) (s18 : gS), gd_fm W_M_rewrite σ s18 → gd_lp (fun _ _ => none) (B_M_rewrite_85 k20 x_1_16) n n_2_17 s18 = some r0 → gd_fm W_M_rewrite σ r0.2 := by
  refine gd_lpC (fun (ag19 : Int32 → gS → gR) => ∀ (n_2_17 : Int32) (s18 : gS), gd_fm W_M_rewrite σ s18 → ag19 n_2_17 s18 = some r0 → gd_fm W_M_rewrite σ r0.2) (fun n_2_17 s18 _ h => by cases h) (fun ag19 ih n_2_17 s18 hfs18 h => ?_) n
  unfold B_M_rewrite_85 at h
  refine gd_ki h (fun h => ?_) (fun h => ?_)
  · exact hk20 _ hfs18 h
  · obtain ⟨-, h⟩ := gd_gE h
    refine gd_kqi hfs18 h (fun r21 h => ?_)
    refine gd_jC (fun J22 => ∀ (v25 : Int32), J22 v25 = some r0 → gd_fm W_M_rewrite σ r0.2) h (fun v25 h => ?_) (fun J22 hJ22 h => ?_)
    · refine gd_jC (fun J26 => J26 = some r0 → gd_fm W_M_rewrite σ r0.2) h (fun  h => ?_) (fun J26 hJ26 h => ?_)
      · obtain ⟨-, h⟩ := gd_gE h
        refine gd_kt h (fun v28 h => ?_)
        obtain ⟨-, h⟩ := gd_gE h
        refine gd_ks (C := gd_fm W_M_rewrite σ) (gd_fmA hfs18 rfl) h (fun s29 hfs29 h => ?_)
        obtain ⟨-, h⟩ := gd_gE h
        refine gd_jC (fun J30 => ∀ (s32 : gS), gd_fm W_M_rewrite σ s32 → J30 s32 = some r0 → gd_fm W_M_rewrite σ r0.2) h (fun s32 hfs32 h => ?_) (fun J30 hJ30 h => ?_)
        · exact ih _ _ hfs32 h
        · refine gd_ki h (fun h => ?_) (fun h => ?_)
          · exact hJ30 _ hfs29 h
          · obtain ⟨-, h⟩ := gd_gE h
            obtain ⟨-, h⟩ := gd_gE h
            refine gd_ks (C := gd_fm W_M_rewrite σ) (gd_fmA hfs29 rfl) h (fun s31 hfs31 h => ?_)
            exact hJ30 _ hfs31 h
      · refine gd_ki h (fun h => ?_) (fun h => ?_)
        · refine gd_ki h (fun h => ?_) (fun h => ?_)
          · exact gd_ke hfs18 h
          · refine gd_ki h (fun h => ?_) (fun h => ?_)
            · exact hJ26 h
            · exact gd_ke hfs18 h
        · exact hJ26 h
    · refine gd_jC (fun J23 => J23 = some r0 → gd_fm W_M_rewrite σ r0.2) h (fun  h => ?_) (fun J23 hJ23 h => ?_)
      · refine gd_kqi hfs18 h (fun r24 h => ?_)
        obtain ⟨-, h⟩ := gd_gE h
        obtain ⟨-, h⟩ := gd_gE h
        exact hJ22 _ h
      · refine gd_ki h (fun h => ?_) (fun h => ?_)
        · exact hJ23 h
        · refine gd_ki h (fun h => ?_) (fun h => ?_)
          · exact hJ23 h
          · exact hJ22 _ h
theorem KL_M_rewrite_245 (k38 : gS → gR) (x_1_34 : Int32) (σ : gS) (r0 : gQ × gS) (hk38 : ∀ (s41 : gS), gd_fm W_M_rewrite σ s41 → k38 s41 = some r0 → gd_fm W_M_rewrite σ r0.2) (n : Nat) : ∀ (n_2_35 : Int32) (s36 : gS), gd_fm W_M_rewrite σ s36 → gd_lp (fun _ _ => none) (B_M_rewrite_245 k38 x_1_34) n n_2_35 s36 = some r0 → gd_fm W_M_rewrite σ r0.2 := by
  refine gd_lpC (fun (ag37 : Int32 → gS → gR) => ∀ (n_2_35 : Int32) (s36 : gS), gd_fm W_M_rewrite σ s36 → ag37 n_2_35 s36 = some r0 → gd_fm W_M_rewrite σ r0.2) (fun n_2_35 s36 _ h => by cases h) (fun ag37 ih n_2_35 s36 hfs36 h => ?_) n
  unfold B_M_rewrite_245 at h
  refine gd_ki h (fun h => ?_) (fun h => ?_)
  · exact hk38 _ hfs36 h
  · obtain ⟨-, h⟩ := gd_gE h
    obtain ⟨-, h⟩ := gd_gE h
    refine gd_ks (C := gd_fm W_M_rewrite σ) (gd_fmA hfs36 rfl) h (fun s39 hfs39 h => ?_)
    obtain ⟨-, h⟩ := gd_gE h
    refine gd_ks (C := gd_fm W_M_rewrite σ) (gd_fmA hfs39 rfl) h (fun s40 hfs40 h => ?_)
    exact ih _ _ hfs40 h
theorem KL_M_rewrite_277 (k46 : gS → gR) (x_1_42 : Int32) (σ : gS) (r0 : gQ × gS) (hk46 : ∀ (s48 : gS), gd_fm W_M_rewrite σ s48 → k46 s48 = some r0 → gd_fm W_M_rewrite σ r0.2) (n : Nat) : ∀ (n_2_43 : Int32) (s44 : gS), gd_fm W_M_rewrite σ s44 → gd_lp (fun _ _ => none) (B_M_rewrite_277 k46 x_1_42) n n_2_43 s44 = some r0 → gd_fm W_M_rewrite σ r0.2 := by
  refine gd_lpC (fun (ag45 : Int32 → gS → gR) => ∀ (n_2_43 : Int32) (s44 : gS), gd_fm W_M_rewrite σ s44 → ag45 n_2_43 s44 = some r0 → gd_fm W_M_rewrite σ r0.2) (fun n_2_43 s44 _ h => by cases h) (fun ag45 ih n_2_43 s44 hfs44 h => ?_) n
  unfold B_M_rewrite_277 at h
  refine gd_ki h (fun h => ?_) (fun h => ?_)
  · exact hk46 _ hfs44 h
  · obtain ⟨-, h⟩ := gd_gE h
    obtain ⟨-, h⟩ := gd_gE h
    refine gd_ks (C := gd_fm W_M_rewrite σ) (gd_fmA hfs44 rfl) h (fun s47 hfs47 h => ?_)
    exact ih _ _ hfs47 h
theorem K_M_rewrite (σ : gS) (r0 : gQ × gS) (h : F_M_rewrite σ = some r0) : gd_fm W_M_rewrite σ r0.2 := by
  unfold F_M_rewrite at h
  have hf0 := gd_fm0 W_M_rewrite σ
  refine gd_kt h (fun v2 h => ?_)
  refine gd_ks (C := gd_fm W_M_rewrite σ) (gd_fmI hf0 rfl) h (fun s3 hfs3 h => ?_)
  refine gd_ki h (fun h => ?_) (fun h => ?_)
  · refine gd_kc0 hfs3 (K_M_know _) rfl h (fun s4 hfs4 h => ?_)
    refine gd_jC (fun k9 => ∀ (v14 : Int32) (s13 : gS), gd_fm W_M_rewrite σ s13 → k9 v14 s13 = some r0 → gd_fm W_M_rewrite σ r0.2) h (fun v14 s13 hfs13 h => ?_) (fun k9 hk9 h => ?_)
    · obtain ⟨-, h⟩ := gd_gE h
      refine gd_ks (C := gd_fm W_M_rewrite σ) (gd_fmA hfs13 rfl) h (fun s15 hfs15 h => ?_)
      refine gd_jC (fun k20 => ∀ (s33 : gS), gd_fm W_M_rewrite σ s33 → k20 s33 = some r0 → gd_fm W_M_rewrite σ r0.2) h (fun s33 hfs33 h => ?_) (fun k20 hk20 h => ?_)
      · refine gd_jC (fun k38 => ∀ (s41 : gS), gd_fm W_M_rewrite σ s41 → k38 s41 = some r0 → gd_fm W_M_rewrite σ r0.2) h (fun s41 hfs41 h => ?_) (fun k38 hk38 h => ?_)
        · refine gd_jC (fun k46 => ∀ (s48 : gS), gd_fm W_M_rewrite σ s48 → k46 s48 = some r0 → gd_fm W_M_rewrite σ r0.2) h (fun s48 hfs48 h => ?_) (fun k46 hk46 h => ?_)
          · refine gd_ks (C := gd_fm W_M_rewrite σ) (gd_fmI hfs48 rfl) h (fun s49 hfs49 h => ?_)
            refine gd_ks (C := gd_fm W_M_rewrite σ) (gd_fmI hfs49 rfl) h (fun s50 hfs50 h => ?_)
            refine gd_kc0 hfs50 (K_M_begin _) rfl h (fun s51 hfs51 h => ?_)
            exact gd_ke hfs51 h
          exact KL_M_rewrite_277 _ _ σ r0 hk46 _ _ _ hfs41 h
        exact KL_M_rewrite_245 _ _ σ r0 hk38 _ _ _ hfs33 h
      exact KL_M_rewrite_85 _ _ σ r0 hk20 _ _ _ hfs15 h
    exact KL_M_rewrite_33 _ σ r0 hk9 _ _ _ _ hfs4 h
  · exact gd_ke hfs3 h
abbrev W_M_home : gW := ([(41, 0)], [], [])
theorem K_M_home (a : Int32) (σ : gS) (r0 : gQ × gS) (h : F_M_home a σ = some r0) : gd_fm W_M_home σ r0.2 := by
  unfold F_M_home at h
  have hf0 := gd_fm0 W_M_home σ
  refine gd_kqi hf0 h (fun r1 h => ?_)
  refine gd_kt h (fun v3 h => ?_)
  refine gd_ks (C := gd_fm W_M_home σ) (gd_fmI hf0 rfl) h (fun s4 hfs4 h => ?_)
  refine gd_ki h (fun h => ?_) (fun h => ?_)
  · refine gd_ki h (fun h => ?_) (fun h => ?_)
    · exact gd_ke hfs4 h
    · obtain ⟨-, h⟩ := gd_gE h
      exact gd_ke hfs4 h
  · exact gd_ke hfs4 h
