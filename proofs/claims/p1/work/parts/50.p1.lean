set_option maxRecDepth 20000 in
theorem e_G_takeUp (σ : gS) (h : gI σ 0 7 = 0) : gv_K m_G_takeUp [.ref 0] σ (gv_is (.inl (some (.int 0))) (gs_I (gs_I (z_row (z_row (gs_I (gs_I (gs_I (gs_I (gs_I (z_row (z_row (gs_I (gs_I (gs_I σ 0 9 0) 0 8 (-1)) 2 7 (gI σ 0 7)) 11 32) 12 256) 13 1 0) 15 5 0) 15 6 0) 15 7 0) 10 5 0) 23 1040) 24 1040) 0 10 0) 0 9 1)) := by
  refine gv_aload_n (n := 0) (pc' := 1) (by decide +kernel) rfl rfl ?_
  refine gv_iconst (n := 0) (v := 0) (pc' := 2) (by decide +kernel) (by decide) rfl ?_
  refine gv_putj lp_0_70 (by decide +kernel) rfl rfl rfl rfl (pc' := 5) rfl ?_
  refine gv_aload_n (n := 0) (pc' := 6) (by decide +kernel) rfl rfl ?_
  refine gv_iconst (n := (-1)) (v := (-1)) (pc' := 7) (by decide +kernel) (by decide) rfl ?_
  refine gv_putj lp_0_67 (by decide +kernel) rfl rfl rfl rfl (pc' := 10) rfl ?_
  refine gv_iconst (n := 0) (v := 0) (pc' := 11) (by decide +kernel) (by decide) rfl ?_
  refine gv_istore_n (n := 1) (pc' := 12) (by decide +kernel) (by decide) rfl ?_
  refine gv_iload_n (n := 1) (pc' := 13) (by decide +kernel) rfl rfl ?_
  refine gv_aload_n (n := 0) (pc' := 14) (by decide +kernel) rfl rfl ?_
  refine gv_getj lk_0_63 (by decide +kernel) rfl rfl (pc' := 17) rfl ?_
  refine gv_icmp_ge (off := 49) (tgt := 66) (pc' := 20) (by decide +kernel) (by decide) rfl (fun _ => ?_) (fun z => by first | exact absurd z (show gI σ 0 7 ≤ 0 from by rw [h]; decide) | exact absurd (show gI σ 0 7 ≤ 0 from by rw [h]; decide) z)
  refine gv_aload_n (n := 0) (pc' := 67) (by decide +kernel) rfl rfl ?_
  refine gv_getr lk_0_16 (by decide +kernel) rfl rfl (pc' := 70) rfl ?_
  refine gv_aload_n (n := 0) (pc' := 71) (by decide +kernel) rfl rfl ?_
  refine gv_getj lk_0_63 (by decide +kernel) rfl rfl (pc' := 74) rfl ?_
  refine gv_putj lp_0_205 (by decide +kernel) rfl rfl rfl rfl (pc' := 77) rfl ?_
  refine gv_aload_n (n := 0) (pc' := 78) (by decide +kernel) rfl rfl ?_
  refine gv_getr lk_0_25 (by decide +kernel) rfl rfl (pc' := 81) rfl ?_
  refine gv_cv0 (w' := false) (pc' := 84) (c_Machine_begin _) md_Machine_begin vd_Machine_begin (Or.inl ml_0_206) (by decide +kernel) (by decide) rfl rfl rfl (Nat.le_of_ble_eq_true rfl) (Nat.le_of_ble_eq_true rfl) (by decide) rfl (fun z => by cases z) (by decide) rfl ?_
  refine gv_aload_n (n := 0) (pc' := 85) (by decide +kernel) rfl rfl ?_
  refine gv_getr lk_0_32 (by decide +kernel) rfl rfl (pc' := 88) rfl ?_
  refine gv_cv0 (w' := false) (pc' := 91) (c_Reach_dropRows _) md_Reach_dropRows vd_Reach_dropRows (Or.inl ml_0_209) (by decide +kernel) (by decide) rfl rfl rfl (Nat.le_of_ble_eq_true rfl) (Nat.le_of_ble_eq_true rfl) (by decide) rfl (fun z => by cases z) (by decide) rfl ?_
  refine gv_aload_n (n := 0) (pc' := 92) (by decide +kernel) rfl rfl ?_
  refine gv_iconst (n := 0) (v := 0) (pc' := 93) (by decide +kernel) (by decide) rfl ?_
  refine gv_putj lp_0_74 (by decide +kernel) rfl rfl rfl rfl (pc' := 96) rfl ?_
  refine gv_aload_n (n := 0) (pc' := 97) (by decide +kernel) rfl rfl ?_
  refine gv_iconst (n := 1) (v := 1) (pc' := 98) (by decide +kernel) (by decide) rfl ?_
  refine gv_putj lp_0_70 (by decide +kernel) rfl rfl rfl rfl (pc' := 101) rfl ?_
  refine gv_iconst (n := 0) (v := 0) (pc' := 102) (by decide +kernel) (by decide) rfl ?_
  exact gv_iret .int (by decide +kernel) rfl rfl (by decide) (by decide) (gv_isr _ _)

set_option maxRecDepth 20000 in
theorem e_M_load (σ : gS) (h : gI σ 41 2 = 0) : gv_K m_M_load [.ref 41] σ (gv_is (.inl (some (.int 0))) (z_row (z_row (gs_I (gs_I (gs_I (gs_I (gs_I (gs_I (gs_I (gs_I σ 41 0 0) 41 6 (-1)) 41 5 1) 41 20 0) 41 7 0) 41 11 0) 41 18 0) 41 19 0) 44 32) 45 256)) := by
  refine gv_aload_n (n := 0) (pc' := 1) (by decide +kernel) rfl rfl ?_
  refine gv_iconst (n := 0) (v := 0) (pc' := 2) (by decide +kernel) (by decide) rfl ?_
  refine gv_putj lp_9_92 (by decide +kernel) rfl rfl rfl rfl (pc' := 5) rfl ?_
  refine gv_iconst (n := 0) (v := 0) (pc' := 6) (by decide +kernel) (by decide) rfl ?_
  refine gv_istore_n (n := 1) (pc' := 7) (by decide +kernel) (by decide) rfl ?_
  refine gv_iload_n (n := 1) (pc' := 8) (by decide +kernel) rfl rfl ?_
  refine gv_aload_n (n := 0) (pc' := 9) (by decide +kernel) rfl rfl ?_
  refine gv_getj lk_9_102 (by decide +kernel) rfl rfl (pc' := 12) rfl ?_
  refine gv_icmp_ge (off := 31) (tgt := 43) (pc' := 15) (by decide +kernel) (by decide) rfl (fun _ => ?_) (fun z => by first | exact absurd z (show gI σ 41 2 ≤ 0 from by rw [h]; decide) | exact absurd (show gI σ 41 2 ≤ 0 from by rw [h]; decide) z)
  refine gv_aload_n (n := 0) (pc' := 44) (by decide +kernel) rfl rfl ?_
  refine gv_iconst (n := (-1)) (v := (-1)) (pc' := 45) (by decide +kernel) (by decide) rfl ?_
  refine gv_putj lp_9_16 (by decide +kernel) rfl rfl rfl rfl (pc' := 48) rfl ?_
  refine gv_aload_n (n := 0) (pc' := 49) (by decide +kernel) rfl rfl ?_
  refine gv_cv0 (w' := false) (pc' := 52) (c_M_begin _) md_M_begin vd_M_begin (Or.inl ml_9_160) (by decide +kernel) (by decide) rfl rfl rfl (Nat.le_of_ble_eq_true rfl) (Nat.le_of_ble_eq_true rfl) (by decide) rfl (fun z => by cases z) (by decide) rfl ?_
  refine gv_iconst (n := 0) (v := 0) (pc' := 53) (by decide +kernel) (by decide) rfl ?_
  exact gv_iret .int (by decide +kernel) rfl rfl (by decide) (by decide) (gv_isr _ _)

theorem p1_in : vp_in 0 1040 := by unfold vp_in; decide
theorem p1_has (i : Int32) : f_has 0 i = 0 := by
  unfold f_has
  by_cases h : i < 0
  · rw [if_pos h]
  · rw [if_neg h, if_pos (Int32.not_lt.mp h)]
theorem p1_pos {i : Int32} (h : ¬ i < 1) : 0 < i := by
  rw [Int32.lt_iff_toInt_lt] at h ⊢
  have h0 : (0 : Int32).toInt = 0 := by decide
  have h1 : (1 : Int32).toInt = 1 := by decide
  omega
def p1_P (X : List Int32) (σ : gS) : Prop := σ.2.2.2 = X
theorem p1_word (X : List Int32) (a b : Int32) : lc_ok 0 X a b (gv_s0 X) (p1_P X) := ⟨_, _, _, c_G_word a _ (show (0 : Int32) < 520 by decide) (show vp_in 0 1040 from p1_in), rfl, c_M_word a _ (show (0 : Int32) < 520 by decide) (show vp_in 0 1040 from p1_in), rfl⟩
theorem p1_again (X : List Int32) (a b : Int32) : lc_ok 1 X a b (gv_s0 X) (p1_P X) := ⟨1, 0, _, _, ht_again_3 a b (n_G_again a b _ (fun h1 h2 => absurd (p1_pos h1) h2)), rfl, n_M_again a b _ (fun h1 h2 => absurd (p1_pos h1) h2), rfl, fun z => absurd z (by decide), rfl⟩
theorem p1_clear (X : List Int32) (a b : Int32) : lc_ok 2 X a b (gv_s0 X) (p1_P X) := ⟨_, _, _, c_G_clear _, rfl, c_M_clear _, rfl⟩
theorem p1_wordAt (X : List Int32) (a b : Int32) : lc_ok 3 X a b (gv_s0 X) (p1_P X) := ⟨_, _, _, n_G_wordAt a _ (p1_has a), rfl, n_M_wordAt a _ (fun h1 h2 => h1 h2), rfl⟩
theorem p1_load (X : List Int32) (a b : Int32) : lc_ok 4 X a b (gv_s0 X) (p1_P X) := ⟨_, _, _, c_G_load_of 0 _ _ (e_G_takeUp _ rfl), rfl, e_M_load _ rfl, rfl⟩
theorem p1_faultAt (X : List Int32) (a b : Int32) : lc_ok 5 X a b (gv_s0 X) (p1_P X) := ⟨_, _, _, c_G_faultAt _, rfl, c_M_faultAt _, rfl⟩
theorem p1_decoded (X : List Int32) (a b : Int32) : lc_ok 6 X a b (gv_s0 X) (p1_P X) := ⟨1, 0, _, _, ht_decoded_1 a b (n_G_decoded a b _ rfl), rfl, n_M_decoded a b _ rfl, rfl, fun z => absurd z (by decide), rfl⟩
theorem p1_set (X : List Int32) (a b : Int32) : lc_ok 7 X a b (gv_s0 X) (p1_P X) := ⟨1, _, _, ht_set_1 a b (n_G_set a b _ rfl), rfl, n_M_set a b _ rfl, rfl, rfl⟩
theorem p1_register (X : List Int32) (a b : Int32) : lc_ok 8 X a b (gv_s0 X) (p1_P X) := ⟨1, 0, _, _, ht_register_1 a (n_G_register a _ rfl), rfl, n_M_register a _ rfl, rfl, fun z => absurd z (by decide), rfl⟩
theorem p1_poke (X : List Int32) (a b : Int32) : lc_ok 9 X a b (gv_s0 X) (p1_P X) := ⟨1, _, _, ht_poke_1 a b (n_G_poke a b _ rfl), rfl, n_M_poke a b _ rfl, rfl, rfl⟩
theorem p1_peek (X : List Int32) (a b : Int32) : lc_ok 10 X a b (gv_s0 X) (p1_P X) := ⟨1, 0, _, _, ht_peek_1 a (n_G_peek a _ rfl), rfl, n_M_peek a _ rfl, rfl, fun z => absurd z (by decide), rfl⟩
theorem p1_run (X : List Int32) (a b : Int32) : lc_ok 11 X a b (gv_s0 X) (p1_P X) := ⟨1, 0, _, _, ht_run_1 a (n_G_run a _ rfl), rfl, n_M_run a _ rfl, rfl, fun z => absurd z (by decide), rfl⟩
theorem p1_order (X : List Int32) (a b : Int32) : lc_ok 12 X a b (gv_s0 X) (p1_P X) := ⟨1, 0, _, _, ht_order_1 a (n_G_order a _ rfl), rfl, n_M_order a _ rfl, rfl, fun z => absurd z (by decide), rfl⟩
theorem p1_window (X : List Int32) (a b : Int32) : lc_ok 13 X a b (gv_s0 X) (p1_P X) := by
  by_cases h1 : a < 1
  · exact ⟨1, 0, _, _, ht_window_3 a (n_G_window a _ (fun h => absurd h1 h)), rfl, n_M_window a _ (fun h => absurd h1 h), rfl, fun z => absurd z (by decide), rfl⟩
  · by_cases h2 : a ≤ 64
    · exact ⟨0, _, _, _, hr_window a _ (c_G_window a _ h1 h2), rfl, c_M_window a _ h1 h2, rfl, fun _ => rfl, rfl⟩
    · exact ⟨1, 0, _, _, ht_window_3 a (n_G_window a _ (fun _ => h2)), rfl, n_M_window a _ (fun _ => h2), rfl, fun z => absurd z (by decide), rfl⟩
theorem p1_state (X : List Int32) (a b : Int32) : lc_ok 14 X a b (gv_s0 X) (p1_P X) := ⟨1, 0, _, _, ht_state_1 a (n_G_state a _ rfl), rfl, n_M_state a _ rfl, rfl, fun z => absurd z (by decide), rfl⟩
theorem p1_leak (X : List Int32) (a b : Int32) : lc_ok 15 X a b (gv_s0 X) (p1_P X) := ⟨_, _, _, n_G_leak a _ rfl, rfl, n_M_leak a _ rfl, rfl⟩
theorem p1_forget (X : List Int32) (a b : Int32) : lc_ok 16 X a b (gv_s0 X) (p1_P X) := ⟨1, 0, _, _, ht_forget_1  (n_G_forget  _ rfl), rfl, n_M_forget  _ rfl, rfl, fun z => absurd z (by decide), rfl⟩
theorem p1_check (X : List Int32) (a b : Int32) : lc_ok 17 X a b (gv_s0 X) (p1_P X) := ⟨1, 0, _, _, ht_check_1  (n_G_check  _ rfl), rfl, n_M_check  _ rfl, rfl, fun z => absurd z (by decide), rfl⟩
theorem p1_reaches (X : List Int32) (a b : Int32) : lc_ok 18 X a b (gv_s0 X) (p1_P X) := ⟨1, 0, _, _, ht_reaches_1 a b (n_G_reaches a b _ rfl), rfl, n_M_reaches a b _ rfl, rfl, fun z => absurd z (by decide), rfl⟩
theorem p1_mark (X : List Int32) (a b : Int32) : lc_ok 19 X a b (gv_s0 X) (p1_P X) := ⟨1, 0, _, _, ht_mark_1 a (n_G_mark a _ rfl), rfl, n_M_mark a _ rfl, rfl, fun z => absurd z (by decide), rfl⟩
theorem p1_cut (X : List Int32) (a b : Int32) : lc_ok 20 X a b (gv_s0 X) (p1_P X) := ⟨1, 0, _, _, ht_cut_1  (n_G_cut  _ rfl), rfl, n_M_cut  _ rfl, rfl, fun z => absurd z (by decide), rfl⟩
theorem p1_rewrite (X : List Int32) (a b : Int32) : lc_ok 21 X a b (gv_s0 X) (p1_P X) := ⟨1, 0, _, _, ht_rewrite_1  (n_G_rewrite  _ rfl), rfl, n_M_rewrite  _ rfl, rfl, fun z => absurd z (by decide), rfl⟩
theorem p1_home (X : List Int32) (a b : Int32) : lc_ok 22 X a b (gv_s0 X) (p1_P X) := ⟨1, 0, _, _, ht_home_2 a (n_G_home a _ (p1_has a)), rfl, n_M_home a _ (p1_has a), rfl, fun z => absurd z (by decide), rfl⟩
theorem p1_ok (X : List Int32) (a b : Int32) (d : Nat) : lc_ok d X a b (gv_s0 X) (p1_P X) := by
  match d with
  | 0 => exact p1_word X a b
  | 1 => exact p1_again X a b
  | 2 => exact p1_clear X a b
  | 3 => exact p1_wordAt X a b
  | 4 => exact p1_load X a b
  | 5 => exact p1_faultAt X a b
  | 6 => exact p1_decoded X a b
  | 7 => exact p1_set X a b
  | 8 => exact p1_register X a b
  | 9 => exact p1_poke X a b
  | 10 => exact p1_peek X a b
  | 11 => exact p1_run X a b
  | 12 => exact p1_order X a b
  | 13 => exact p1_window X a b
  | 14 => exact p1_state X a b
  | 15 => exact p1_leak X a b
  | 16 => exact p1_forget X a b
  | 17 => exact p1_check X a b
  | 18 => exact p1_reaches X a b
  | 19 => exact p1_mark X a b
  | 20 => exact p1_cut X a b
  | 21 => exact p1_rewrite X a b
  | 22 => exact p1_home X a b
  | d + 23 => exact rfl
theorem lc_okm {d : Nat} {X : List Int32} {a b : Int32} {σ : gS} {P P' : gS → Prop} (hp : ∀ σ, P σ → P' σ) (h : lc_ok d X a b σ P) : lc_ok d X a b σ P' := by
  match d, h with
  | 0, ⟨r, s1, s2, h1, h2, h3, h4⟩ => exact ⟨r, s1, s2, h1, h2, h3, hp _ h4⟩
  | 1, ⟨v, r, s1, s2, h1, h2, h3, h4, h5, h6⟩ => exact ⟨v, r, s1, s2, h1, h2, h3, h4, h5, hp _ h6⟩
  | 2, ⟨r, s1, s2, h1, h2, h3, h4⟩ => exact ⟨r, s1, s2, h1, h2, h3, hp _ h4⟩
  | 3, ⟨r, s1, s2, h1, h2, h3, h4⟩ => exact ⟨r, s1, s2, h1, h2, h3, hp _ h4⟩
  | 4, ⟨r, s1, s2, h1, h2, h3, h4⟩ => exact ⟨r, s1, s2, h1, h2, h3, hp _ h4⟩
  | 5, ⟨r, s1, s2, h1, h2, h3, h4⟩ => exact ⟨r, s1, s2, h1, h2, h3, hp _ h4⟩
  | 6, ⟨v, r, s1, s2, h1, h2, h3, h4, h5, h6⟩ => exact ⟨v, r, s1, s2, h1, h2, h3, h4, h5, hp _ h6⟩
  | 7, ⟨v, s1, s2, h1, h2, h3, h4, h5⟩ => exact ⟨v, s1, s2, h1, h2, h3, h4, hp _ h5⟩
  | 8, ⟨v, r, s1, s2, h1, h2, h3, h4, h5, h6⟩ => exact ⟨v, r, s1, s2, h1, h2, h3, h4, h5, hp _ h6⟩
  | 9, ⟨v, s1, s2, h1, h2, h3, h4, h5⟩ => exact ⟨v, s1, s2, h1, h2, h3, h4, hp _ h5⟩
  | 10, ⟨v, r, s1, s2, h1, h2, h3, h4, h5, h6⟩ => exact ⟨v, r, s1, s2, h1, h2, h3, h4, h5, hp _ h6⟩
  | 11, ⟨v, r, s1, s2, h1, h2, h3, h4, h5, h6⟩ => exact ⟨v, r, s1, s2, h1, h2, h3, h4, h5, hp _ h6⟩
  | 12, ⟨v, r, s1, s2, h1, h2, h3, h4, h5, h6⟩ => exact ⟨v, r, s1, s2, h1, h2, h3, h4, h5, hp _ h6⟩
  | 13, ⟨v, r, s1, s2, h1, h2, h3, h4, h5, h6⟩ => exact ⟨v, r, s1, s2, h1, h2, h3, h4, h5, hp _ h6⟩
  | 14, ⟨v, r, s1, s2, h1, h2, h3, h4, h5, h6⟩ => exact ⟨v, r, s1, s2, h1, h2, h3, h4, h5, hp _ h6⟩
  | 15, ⟨r, s1, s2, h1, h2, h3, h4⟩ => exact ⟨r, s1, s2, h1, h2, h3, hp _ h4⟩
  | 16, ⟨v, r, s1, s2, h1, h2, h3, h4, h5, h6⟩ => exact ⟨v, r, s1, s2, h1, h2, h3, h4, h5, hp _ h6⟩
  | 17, ⟨v, r, s1, s2, h1, h2, h3, h4, h5, h6⟩ => exact ⟨v, r, s1, s2, h1, h2, h3, h4, h5, hp _ h6⟩
  | 18, ⟨v, r, s1, s2, h1, h2, h3, h4, h5, h6⟩ => exact ⟨v, r, s1, s2, h1, h2, h3, h4, h5, hp _ h6⟩
  | 19, ⟨v, r, s1, s2, h1, h2, h3, h4, h5, h6⟩ => exact ⟨v, r, s1, s2, h1, h2, h3, h4, h5, hp _ h6⟩
  | 20, ⟨v, r, s1, s2, h1, h2, h3, h4, h5, h6⟩ => exact ⟨v, r, s1, s2, h1, h2, h3, h4, h5, hp _ h6⟩
  | 21, ⟨v, r, s1, s2, h1, h2, h3, h4, h5, h6⟩ => exact ⟨v, r, s1, s2, h1, h2, h3, h4, h5, hp _ h6⟩
  | 22, ⟨v, r, s1, s2, h1, h2, h3, h4, h5, h6⟩ => exact ⟨v, r, s1, s2, h1, h2, h3, h4, h5, hp _ h6⟩
  | d + 23, h => exact hp _ h
theorem law_p1 (X : List Int32) (hX : X.length ≤ 3) : gv_V m_L_law 600 false 23 [some (.ref 900), some (.ref 0), some (.ref 41), some (.ref 66), some (.int 0), none, none] [] (gv_s0 X) (fun o _ => o = .inl (some (.int 1))) := by
  refine lc_loop X (by omega) (fun i σ => σ.2.2.2 = X ∧ (i = 0 → σ = gv_s0 X)) (fun i σ h => h.1) ?_ 1 0 598 (gv_s0 X) (by omega) (Nat.zero_le _) ⟨rfl, fun _ => rfl⟩
  intro i σ h hi d _
  have h0 : i = 0 := by omega
  subst h0
  obtain ⟨-, h2⟩ := h
  rw [h2 rfl]
  exact lc_okm (fun σ h => ⟨h, fun z => absurd z (by decide)⟩) (p1_ok X _ _ d)
