set_option maxRecDepth 20000 in
theorem c_G_noteNewWords (σ : gS) : gv_K m_G_noteNewWords [.ref 0] σ (gv_is (.inl none) (gs_I (gs_I σ 0 9 0) 0 11 0)) := by
  refine gv_aload_n (n := 0) (pc' := 1) (by decide +kernel) rfl rfl ?_
  refine gv_iconst (n := 0) (v := 0) (pc' := 2) (by decide +kernel) (by decide) rfl ?_
  refine gv_putj lp_0_70 (by decide +kernel) rfl rfl rfl rfl (pc' := 5) rfl ?_
  refine gv_aload_n (n := 0) (pc' := 6) (by decide +kernel) rfl rfl ?_
  refine gv_iconst (n := 0) (v := 0) (pc' := 7) (by decide +kernel) (by decide) rfl ?_
  refine gv_putj lp_0_77 (by decide +kernel) rfl rfl rfl rfl (pc' := 10) rfl ?_
  exact gv_ret (by decide +kernel) rfl (by decide) (by decide) (gv_isr _ _)

set_option maxRecDepth 20000 in
theorem c_M_changed (σ : gS) : gv_K m_M_changed [.ref 41] σ (gv_is (.inl none) (gs_I (gs_I σ 41 5 0) 41 4 0)) := by
  refine gv_aload_n (n := 0) (pc' := 1) (by decide +kernel) rfl rfl ?_
  refine gv_iconst (n := 0) (v := 0) (pc' := 2) (by decide +kernel) (by decide) rfl ?_
  refine gv_putj lp_9_95 (by decide +kernel) rfl rfl rfl rfl (pc' := 5) rfl ?_
  refine gv_aload_n (n := 0) (pc' := 6) (by decide +kernel) rfl rfl ?_
  refine gv_iconst (n := 0) (v := 0) (pc' := 7) (by decide +kernel) (by decide) rfl ?_
  refine gv_putj lp_9_99 (by decide +kernel) rfl rfl rfl rfl (pc' := 10) rfl ?_
  exact gv_ret (by decide +kernel) rfl (by decide) (by decide) (gv_isr _ _)

set_option maxRecDepth 20000 in
theorem c_G_faultAt (σ : gS) : gv_K m_G_faultAt [.ref 0] σ (gv_is (.inl (some (.int (gI σ 0 8)))) σ) := by
  refine gv_aload_n (n := 0) (pc' := 1) (by decide +kernel) rfl rfl ?_
  refine gv_getj lk_0_67 (by decide +kernel) rfl rfl (pc' := 4) rfl ?_
  exact gv_iret .int (by decide +kernel) rfl rfl (by decide) (by decide) (gv_isr _ _)

set_option maxRecDepth 20000 in
theorem c_M_thrown (σ : gS) : gv_K m_M_thrown [.ref 41] σ (gv_is (.inl (some (.int (gI σ 41 0)))) σ) := by
  refine gv_aload_n (n := 0) (pc' := 1) (by decide +kernel) rfl rfl ?_
  refine gv_getj lk_9_92 (by decide +kernel) rfl rfl (pc' := 4) rfl ?_
  exact gv_iret .int (by decide +kernel) rfl rfl (by decide) (by decide) (gv_isr _ _)

set_option maxRecDepth 20000 in
theorem c_M_faultAt (σ : gS) : gv_K m_M_faultAt [.ref 41] σ (gv_is (.inl (some (.int (gI σ 41 6)))) (gs_I σ 41 0 0)) := by
  refine gv_aload_n (n := 0) (pc' := 1) (by decide +kernel) rfl rfl ?_
  refine gv_iconst (n := 0) (v := 0) (pc' := 2) (by decide +kernel) (by decide) rfl ?_
  refine gv_putj lp_9_92 (by decide +kernel) rfl rfl rfl rfl (pc' := 5) rfl ?_
  refine gv_aload_n (n := 0) (pc' := 6) (by decide +kernel) rfl rfl ?_
  refine gv_getj lk_9_16 (by decide +kernel) rfl rfl (pc' := 9) rfl ?_
  exact gv_iret .int (by decide +kernel) rfl rfl (by decide) (by decide) (gv_isr _ _)

def f_has (s i : Int32) : Int32 := if i < 0 then 0 else if s ≤ i then 0 else 1
set_option maxRecDepth 20000 in
theorem c_G_hasWord (i : Int32) (σ : gS) : gv_K m_G_hasWord [.ref 0, .int i] σ (gv_is (.inl (some (.int (f_has (gI σ 0 7) i)))) σ) := by
  refine gv_iload_n (n := 1) (pc' := 1) (by decide +kernel) rfl rfl ?_
  refine gv_if_lt (off := 15) (tgt := 16) (pc' := 4) (by decide +kernel) (by decide) rfl (fun h1 => ?_) (fun h1 => ?_)
  · refine gv_iconst (n := 0) (v := 0) (pc' := 17) (by decide +kernel) (by decide) rfl ?_
    exact gv_iret .boolean (by decide +kernel) rfl rfl (by decide) (by decide) (gv_isv (by simp [f_has, h1]) rfl)
  · refine gv_iload_n (n := 1) (pc' := 5) (by decide +kernel) rfl rfl ?_
    refine gv_aload_n (n := 0) (pc' := 6) (by decide +kernel) rfl rfl ?_
    refine gv_getj lk_0_63 (by decide +kernel) rfl rfl (pc' := 9) rfl ?_
    refine gv_icmp_ge (off := 7) (tgt := 16) (pc' := 12) (by decide +kernel) (by decide) rfl (fun h9 => ?_) (fun h9 => ?_)
    · refine gv_iconst (n := 0) (v := 0) (pc' := 17) (by decide +kernel) (by decide) rfl ?_
      exact gv_iret .boolean (by decide +kernel) rfl rfl (by decide) (by decide) (gv_isv (by simp [f_has, h1, h9]) rfl)
    · refine gv_iconst (n := 1) (v := 1) (pc' := 13) (by decide +kernel) (by decide) rfl ?_
      refine gv_goto (off := 4) (tgt := 17) (by decide +kernel) (by decide) ?_
      exact gv_iret .boolean (by decide +kernel) rfl rfl (by decide) (by decide) (gv_isv (by simp [f_has, h1, h9]) rfl)

set_option maxRecDepth 20000 in
theorem c_M_isAt (i : Int32) (σ : gS) : gv_K m_M_isAt [.ref 41, .int i] σ (gv_is (.inl (some (.int (f_has (gI σ 41 2) i)))) σ) := by
  refine gv_iload_n (n := 1) (pc' := 1) (by decide +kernel) rfl rfl ?_
  refine gv_if_lt (off := 15) (tgt := 16) (pc' := 4) (by decide +kernel) (by decide) rfl (fun h1 => ?_) (fun h1 => ?_)
  · refine gv_iconst (n := 0) (v := 0) (pc' := 17) (by decide +kernel) (by decide) rfl ?_
    exact gv_iret .boolean (by decide +kernel) rfl rfl (by decide) (by decide) (gv_isv (by simp [f_has, h1]) rfl)
  · refine gv_iload_n (n := 1) (pc' := 5) (by decide +kernel) rfl rfl ?_
    refine gv_aload_n (n := 0) (pc' := 6) (by decide +kernel) rfl rfl ?_
    refine gv_getj lk_9_102 (by decide +kernel) rfl rfl (pc' := 9) rfl ?_
    refine gv_icmp_ge (off := 7) (tgt := 16) (pc' := 12) (by decide +kernel) (by decide) rfl (fun h9 => ?_) (fun h9 => ?_)
    · refine gv_iconst (n := 0) (v := 0) (pc' := 17) (by decide +kernel) (by decide) rfl ?_
      exact gv_iret .boolean (by decide +kernel) rfl rfl (by decide) (by decide) (gv_isv (by simp [f_has, h1, h9]) rfl)
    · refine gv_iconst (n := 1) (v := 1) (pc' := 13) (by decide +kernel) (by decide) rfl ?_
      refine gv_goto (off := 4) (tgt := 17) (by decide +kernel) (by decide) ?_
      exact gv_iret .boolean (by decide +kernel) rfl rfl (by decide) (by decide) (gv_isv (by simp [f_has, h1, h9]) rfl)

set_option maxRecDepth 20000 in
theorem c_G_needLoaded (σ : gS) (h : ¬ gI σ 0 9 = 0) : gv_K m_G_needLoaded [.ref 0] σ (gv_is (.inl none) σ) := by
  refine gv_aload_n (n := 0) (pc' := 1) (by decide +kernel) rfl rfl ?_
  refine gv_getj lk_0_70 (by decide +kernel) rfl rfl (pc' := 4) rfl ?_
  refine gv_if_ne (off := 11) (tgt := 15) (pc' := 7) (by decide +kernel) (by decide) rfl (fun _ => ?_) (fun z => by first | exact absurd z h | exact absurd h z)
  exact gv_ret (by decide +kernel) rfl (by decide) (by decide) (gv_isr _ _)

set_option maxRecDepth 20000 in
theorem t_G_needLoaded (σ : gS) (h : gI σ 0 9 = 0) : gv_K m_G_needLoaded [.ref 0] σ (gv_is (.inr 1) σ) := by
  refine gv_aload_n (n := 0) (pc' := 1) (by decide +kernel) rfl rfl ?_
  refine gv_getj lk_0_70 (by decide +kernel) rfl rfl (pc' := 4) rfl ?_
  refine gv_if_ne (off := 11) (tgt := 15) (pc' := 7) (by decide +kernel) (by decide) rfl (fun z => by first | exact absurd z (not_not_intro h) | exact absurd (not_not_intro h) z) (fun _ => ?_)
  exact gv_throw th_0_186 (by decide +kernel) (by decide +kernel) (by decide +kernel) (by decide +kernel) (by decide) (by decide) (by decide) (by decide) (gv_isr _ _)

set_option maxRecDepth 20000 in
theorem c_G_needAllResolved (σ : gS) (h : gI σ 15 6 ≤ 0) : gv_K m_G_needAllResolved [.ref 0] σ (gv_is (.inl none) σ) := by
  refine gv_aload_n (n := 0) (pc' := 1) (by decide +kernel) rfl rfl ?_
  refine gv_getr lk_0_25 (by decide +kernel) rfl rfl (pc' := 4) rfl ?_
  refine gv_getr lk_0_189 (by decide +kernel) rfl rfl (pc' := 7) rfl ?_
  refine gv_getj lk_0_193 (by decide +kernel) rfl rfl (pc' := 10) rfl ?_
  refine gv_if_le (off := 11) (tgt := 21) (pc' := 13) (by decide +kernel) (by decide) rfl (fun _ => ?_) (fun z => by first | exact absurd z h | exact absurd h z)
  exact gv_ret (by decide +kernel) rfl (by decide) (by decide) (gv_isr _ _)

set_option maxRecDepth 20000 in
theorem t_G_needAllResolved (σ : gS) (h : ¬ gI σ 15 6 ≤ 0) : gv_K m_G_needAllResolved [.ref 0] σ (gv_is (.inr 1) σ) := by
  refine gv_aload_n (n := 0) (pc' := 1) (by decide +kernel) rfl rfl ?_
  refine gv_getr lk_0_25 (by decide +kernel) rfl rfl (pc' := 4) rfl ?_
  refine gv_getr lk_0_189 (by decide +kernel) rfl rfl (pc' := 7) rfl ?_
  refine gv_getj lk_0_193 (by decide +kernel) rfl rfl (pc' := 10) rfl ?_
  refine gv_if_le (off := 11) (tgt := 21) (pc' := 13) (by decide +kernel) (by decide) rfl (fun z => by first | exact absurd z h | exact absurd h z) (fun _ => ?_)
  exact gv_throw th_0_186 (by decide +kernel) (by decide +kernel) (by decide +kernel) (by decide +kernel) (by decide) (by decide) (by decide) (by decide) (gv_isr _ _)

set_option maxRecDepth 20000 in
theorem c_G_needWord (i : Int32) (σ : gS) (h : ¬ f_has (gI σ 0 7) i = 0) : gv_K m_G_needWord [.ref 0, .int i] σ (gv_is (.inl none) σ) := by
  refine gv_aload_n (n := 0) (pc' := 1) (by decide +kernel) rfl rfl ?_
  refine gv_iload_n (n := 1) (pc' := 2) (by decide +kernel) rfl rfl ?_
  refine gv_cvi (w' := _) (pc' := 5) (c_G_hasWord i σ) md_G_hasWord vd_G_hasWord (Or.inl ml_0_88) (by decide +kernel) (by decide) rfl rfl rfl (Nat.le_of_ble_eq_true rfl) (Nat.le_of_ble_eq_true rfl) (by decide) rfl (fun z => ⟨rfl, z⟩) (by decide) rfl ?_
  refine gv_if_ne (off := 11) (tgt := 16) (pc' := 8) (by decide +kernel) (by decide) rfl (fun _ => ?_) (fun z => by first | exact absurd z h | exact absurd h z)
  exact gv_ret (by decide +kernel) rfl (by decide) (by decide) (gv_isr _ _)

set_option maxRecDepth 20000 in
theorem t_G_needWord (i : Int32) (σ : gS) (h : f_has (gI σ 0 7) i = 0) : gv_K m_G_needWord [.ref 0, .int i] σ (gv_is (.inr 2) σ) := by
  refine gv_aload_n (n := 0) (pc' := 1) (by decide +kernel) rfl rfl ?_
  refine gv_iload_n (n := 1) (pc' := 2) (by decide +kernel) rfl rfl ?_
  refine gv_cvi (w' := _) (pc' := 5) (c_G_hasWord i σ) md_G_hasWord vd_G_hasWord (Or.inl ml_0_88) (by decide +kernel) (by decide) rfl rfl rfl (Nat.le_of_ble_eq_true rfl) (Nat.le_of_ble_eq_true rfl) (by decide) rfl (fun z => ⟨rfl, z⟩) (by decide) rfl ?_
  refine gv_if_ne (off := 11) (tgt := 16) (pc' := 8) (by decide +kernel) (by decide) rfl (fun z => by first | exact absurd z (not_not_intro h) | exact absurd (not_not_intro h) z) (fun _ => ?_)
  exact gv_throw th_0_183 (by decide +kernel) (by decide +kernel) (by decide +kernel) (by decide +kernel) (by decide) (by decide) (by decide) (by decide) (gv_isr _ _)

set_option maxRecDepth 20000 in
theorem c_G_load_of (r : Int32) (σ1 : gS) (σ : gS) (h : gv_K m_G_takeUp [.ref 0] σ (gv_is (.inl (some (.int r))) σ1)) : gv_K m_G_load [.ref 0] σ (gv_is (.inl (some (.int r))) σ1) := by
  refine gv_aload_n (n := 0) (pc' := 1) (by decide +kernel) rfl rfl ?_
  refine gv_cvi (w' := false) (pc' := 4) (h) md_G_takeUp vd_G_takeUp (Or.inl ml_0_96) (by decide +kernel) (by decide) rfl rfl rfl (Nat.le_of_ble_eq_true rfl) (Nat.le_of_ble_eq_true rfl) (by decide) rfl (fun z => by cases z) (by decide) rfl ?_
  exact gv_iret .int (by decide +kernel) rfl rfl (by decide) (by decide) (gv_isr _ _)

set_option maxRecDepth 20000 in
theorem c_G_clear (σ : gS) : gv_K m_G_clear [.ref 0] σ (gv_is (.inl (some (.int (gI σ 0 7)))) (gs_I (gs_I (gs_I σ 0 7 0) 0 9 0) 0 11 0)) := by
  refine gv_aload_n (n := 0) (pc' := 1) (by decide +kernel) rfl rfl ?_
  refine gv_getj lk_0_63 (by decide +kernel) rfl rfl (pc' := 4) rfl ?_
  refine gv_istore_n (n := 1) (pc' := 5) (by decide +kernel) (by decide) rfl ?_
  refine gv_aload_n (n := 0) (pc' := 6) (by decide +kernel) rfl rfl ?_
  refine gv_iconst (n := 0) (v := 0) (pc' := 7) (by decide +kernel) (by decide) rfl ?_
  refine gv_putj lp_0_63 (by decide +kernel) rfl rfl rfl rfl (pc' := 10) rfl ?_
  refine gv_aload_n (n := 0) (pc' := 11) (by decide +kernel) rfl rfl ?_
  refine gv_cv0 (w' := false) (pc' := 14) (c_G_noteNewWords _) md_G_noteNewWords vd_G_noteNewWords (Or.inl ml_0_80) (by decide +kernel) (by decide) rfl rfl rfl (Nat.le_of_ble_eq_true rfl) (Nat.le_of_ble_eq_true rfl) (by decide) rfl (fun z => by cases z) (by decide) rfl ?_
  refine gv_iload_n (n := 1) (pc' := 15) (by decide +kernel) rfl rfl ?_
  exact gv_iret .int (by decide +kernel) rfl rfl (by decide) (by decide) (gv_isr _ _)

set_option maxRecDepth 20000 in
theorem n_M_decoded (i j : Int32) (σ : gS) (h : gI σ 41 5 = 0) : gv_K m_M_decoded [.ref 41, .int i, .int j] σ (gv_is (.inl (some (.int 0))) (gs_I σ 41 0 1)) := by
  refine gv_aload_n (n := 0) (pc' := 1) (by decide +kernel) rfl rfl ?_
  refine gv_aload_n (n := 0) (pc' := 2) (by decide +kernel) rfl rfl ?_
  refine gv_getj lk_9_95 (by decide +kernel) rfl rfl (pc' := 5) rfl ?_
  refine gv_if_ne (off := 7) (tgt := 12) (pc' := 8) (by decide +kernel) (by decide) rfl (fun z => by first | exact absurd z (not_not_intro h) | exact absurd (not_not_intro h) z) (fun _ => ?_)
  refine gv_iconst (n := 1) (v := 1) (pc' := 9) (by decide +kernel) (by decide) rfl ?_
  refine gv_goto (off := 29) (tgt := 38) (by decide +kernel) (by decide) ?_
  refine gv_putj lp_9_92 (by decide +kernel) rfl rfl rfl rfl (pc' := 41) rfl ?_
  refine gv_aload_n (n := 0) (pc' := 42) (by decide +kernel) rfl rfl ?_
  refine gv_getj lk_9_92 (by decide +kernel) rfl rfl (pc' := 45) rfl ?_
  refine gv_if_le (off := 5) (tgt := 50) (pc' := 48) (by decide +kernel) (by decide) rfl (fun z => by first | exact absurd z (show ¬ (1 : Int32) ≤ 0 by decide) | exact absurd (show ¬ (1 : Int32) ≤ 0 by decide) z) (fun _ => ?_)
  refine gv_iconst (n := 0) (v := 0) (pc' := 49) (by decide +kernel) (by decide) rfl ?_
  exact gv_iret .int (by decide +kernel) rfl rfl (by decide) (by decide) (gv_isr _ _)

set_option maxRecDepth 20000 in
theorem n_M_set (i j : Int32) (σ : gS) (h : gI σ 41 5 = 0) : gv_K m_M_set [.ref 41, .int i, .int j] σ (gv_is (.inl none) (gs_I σ 41 0 1)) := by
  refine gv_aload_n (n := 0) (pc' := 1) (by decide +kernel) rfl rfl ?_
  refine gv_aload_n (n := 0) (pc' := 2) (by decide +kernel) rfl rfl ?_
  refine gv_getj lk_9_95 (by decide +kernel) rfl rfl (pc' := 5) rfl ?_
  refine gv_if_eq (off := 10) (tgt := 15) (pc' := 8) (by decide +kernel) (by decide) rfl (fun _ => ?_) (fun z => by first | exact absurd z h | exact absurd h z)
  refine gv_iconst (n := 1) (v := 1) (pc' := 16) (by decide +kernel) (by decide) rfl ?_
  refine gv_goto (off := 19) (tgt := 35) (by decide +kernel) (by decide) ?_
  refine gv_putj lp_9_92 (by decide +kernel) rfl rfl rfl rfl (pc' := 38) rfl ?_
  refine gv_aload_n (n := 0) (pc' := 39) (by decide +kernel) rfl rfl ?_
  refine gv_getj lk_9_92 (by decide +kernel) rfl rfl (pc' := 42) rfl ?_
  refine gv_if_ne (off := 10) (tgt := 52) (pc' := 45) (by decide +kernel) (by decide) rfl (fun _ => ?_) (fun z => by first | exact absurd z (show ¬ (1 : Int32) = 0 by decide) | exact absurd (show ¬ (1 : Int32) = 0 by decide) z)
  exact gv_ret (by decide +kernel) rfl (by decide) (by decide) (gv_isr _ _)

set_option maxRecDepth 20000 in
theorem n_M_register (i : Int32) (σ : gS) (h : gI σ 41 5 = 0) : gv_K m_M_register [.ref 41, .int i] σ (gv_is (.inl (some (.int 0))) (gs_I σ 41 0 1)) := by
  refine gv_aload_n (n := 0) (pc' := 1) (by decide +kernel) rfl rfl ?_
  refine gv_aload_n (n := 0) (pc' := 2) (by decide +kernel) rfl rfl ?_
  refine gv_getj lk_9_95 (by decide +kernel) rfl rfl (pc' := 5) rfl ?_
  refine gv_if_ne (off := 7) (tgt := 12) (pc' := 8) (by decide +kernel) (by decide) rfl (fun z => by first | exact absurd z (not_not_intro h) | exact absurd (not_not_intro h) z) (fun _ => ?_)
  refine gv_iconst (n := 1) (v := 1) (pc' := 9) (by decide +kernel) (by decide) rfl ?_
  refine gv_goto (off := 18) (tgt := 27) (by decide +kernel) (by decide) ?_
  refine gv_putj lp_9_92 (by decide +kernel) rfl rfl rfl rfl (pc' := 30) rfl ?_
  refine gv_aload_n (n := 0) (pc' := 31) (by decide +kernel) rfl rfl ?_
  refine gv_getj lk_9_92 (by decide +kernel) rfl rfl (pc' := 34) rfl ?_
  refine gv_if_le (off := 7) (tgt := 41) (pc' := 37) (by decide +kernel) (by decide) rfl (fun z => by first | exact absurd z (show ¬ (1 : Int32) ≤ 0 by decide) | exact absurd (show ¬ (1 : Int32) ≤ 0 by decide) z) (fun _ => ?_)
  refine gv_iconst (n := 0) (v := 0) (pc' := 38) (by decide +kernel) (by decide) rfl ?_
  refine gv_goto (off := 9) (tgt := 47) (by decide +kernel) (by decide) ?_
  exact gv_iret .int (by decide +kernel) rfl rfl (by decide) (by decide) (gv_isr _ _)

set_option maxRecDepth 20000 in
theorem n_M_poke (i j : Int32) (σ : gS) (h : gI σ 41 5 = 0) : gv_K m_M_poke [.ref 41, .int i, .int j] σ (gv_is (.inl none) (gs_I σ 41 0 1)) := by
  refine gv_aload_n (n := 0) (pc' := 1) (by decide +kernel) rfl rfl ?_
  refine gv_aload_n (n := 0) (pc' := 2) (by decide +kernel) rfl rfl ?_
  refine gv_getj lk_9_95 (by decide +kernel) rfl rfl (pc' := 5) rfl ?_
  refine gv_if_eq (off := 10) (tgt := 15) (pc' := 8) (by decide +kernel) (by decide) rfl (fun _ => ?_) (fun z => by first | exact absurd z h | exact absurd h z)
  refine gv_iconst (n := 1) (v := 1) (pc' := 16) (by decide +kernel) (by decide) rfl ?_
  refine gv_goto (off := 4) (tgt := 20) (by decide +kernel) (by decide) ?_
  refine gv_putj lp_9_92 (by decide +kernel) rfl rfl rfl rfl (pc' := 23) rfl ?_
  refine gv_aload_n (n := 0) (pc' := 24) (by decide +kernel) rfl rfl ?_
  refine gv_getj lk_9_92 (by decide +kernel) rfl rfl (pc' := 27) rfl ?_
  refine gv_if_ne (off := 10) (tgt := 37) (pc' := 30) (by decide +kernel) (by decide) rfl (fun _ => ?_) (fun z => by first | exact absurd z (show ¬ (1 : Int32) = 0 by decide) | exact absurd (show ¬ (1 : Int32) = 0 by decide) z)
  exact gv_ret (by decide +kernel) rfl (by decide) (by decide) (gv_isr _ _)

set_option maxRecDepth 20000 in
theorem n_M_peek (i : Int32) (σ : gS) (h : gI σ 41 5 = 0) : gv_K m_M_peek [.ref 41, .int i] σ (gv_is (.inl (some (.int 0))) (gs_I σ 41 0 1)) := by
  refine gv_aload_n (n := 0) (pc' := 1) (by decide +kernel) rfl rfl ?_
  refine gv_aload_n (n := 0) (pc' := 2) (by decide +kernel) rfl rfl ?_
  refine gv_getj lk_9_95 (by decide +kernel) rfl rfl (pc' := 5) rfl ?_
  refine gv_if_eq (off := 7) (tgt := 12) (pc' := 8) (by decide +kernel) (by decide) rfl (fun _ => ?_) (fun z => by first | exact absurd z h | exact absurd h z)
  refine gv_iconst (n := 1) (v := 1) (pc' := 13) (by decide +kernel) (by decide) rfl ?_
  refine gv_putj lp_9_92 (by decide +kernel) rfl rfl rfl rfl (pc' := 16) rfl ?_
  refine gv_aload_n (n := 0) (pc' := 17) (by decide +kernel) rfl rfl ?_
  refine gv_getj lk_9_92 (by decide +kernel) rfl rfl (pc' := 20) rfl ?_
  refine gv_if_le (off := 7) (tgt := 27) (pc' := 23) (by decide +kernel) (by decide) rfl (fun z => by first | exact absurd z (show ¬ (1 : Int32) ≤ 0 by decide) | exact absurd (show ¬ (1 : Int32) ≤ 0 by decide) z) (fun _ => ?_)
  refine gv_iconst (n := 0) (v := 0) (pc' := 24) (by decide +kernel) (by decide) rfl ?_
  refine gv_goto (off := 9) (tgt := 33) (by decide +kernel) (by decide) ?_
  exact gv_iret .int (by decide +kernel) rfl rfl (by decide) (by decide) (gv_isr _ _)

set_option maxRecDepth 20000 in
theorem n_M_run (i : Int32) (σ : gS) (h : gI σ 41 5 = 0) : gv_K m_M_run [.ref 41, .int i] σ (gv_is (.inl (some (.int 0))) (gs_I σ 41 0 1)) := by
  refine gv_aload_n (n := 0) (pc' := 1) (by decide +kernel) rfl rfl ?_
  refine gv_aload_n (n := 0) (pc' := 2) (by decide +kernel) rfl rfl ?_
  refine gv_getj lk_9_95 (by decide +kernel) rfl rfl (pc' := 5) rfl ?_
  refine gv_if_eq (off := 10) (tgt := 15) (pc' := 8) (by decide +kernel) (by decide) rfl (fun _ => ?_) (fun z => by first | exact absurd z h | exact absurd h z)
  refine gv_iconst (n := 1) (v := 1) (pc' := 16) (by decide +kernel) (by decide) rfl ?_
  refine gv_goto (off := 19) (tgt := 35) (by decide +kernel) (by decide) ?_
  refine gv_putj lp_9_92 (by decide +kernel) rfl rfl rfl rfl (pc' := 38) rfl ?_
  refine gv_iconst (n := 0) (v := 0) (pc' := 39) (by decide +kernel) (by decide) rfl ?_
  refine gv_istore_n (n := 2) (pc' := 40) (by decide +kernel) (by decide) rfl ?_
  refine gv_aload_n (n := 0) (pc' := 41) (by decide +kernel) rfl rfl ?_
  refine gv_getj lk_9_92 (by decide +kernel) rfl rfl (pc' := 44) rfl ?_
  refine gv_if_ne (off := 52) (tgt := 96) (pc' := 47) (by decide +kernel) (by decide) rfl (fun _ => ?_) (fun z => by first | exact absurd z (show ¬ (1 : Int32) = 0 by decide) | exact absurd (show ¬ (1 : Int32) = 0 by decide) z)
  refine gv_iload_n (n := 2) (pc' := 97) (by decide +kernel) rfl rfl ?_
  exact gv_iret .int (by decide +kernel) rfl rfl (by decide) (by decide) (gv_isr _ _)

set_option maxRecDepth 20000 in
theorem n_M_order (i : Int32) (σ : gS) (h : gI σ 41 5 = 0) : gv_K m_M_order [.ref 41, .int i] σ (gv_is (.inl (some (.int 0))) (gs_I σ 41 0 1)) := by
  refine gv_aload_n (n := 0) (pc' := 1) (by decide +kernel) rfl rfl ?_
  refine gv_aload_n (n := 0) (pc' := 2) (by decide +kernel) rfl rfl ?_
  refine gv_getj lk_9_95 (by decide +kernel) rfl rfl (pc' := 5) rfl ?_
  refine gv_if_ne (off := 7) (tgt := 12) (pc' := 8) (by decide +kernel) (by decide) rfl (fun z => by first | exact absurd z (not_not_intro h) | exact absurd (not_not_intro h) z) (fun _ => ?_)
  refine gv_iconst (n := 1) (v := 1) (pc' := 9) (by decide +kernel) (by decide) rfl ?_
  refine gv_goto (off := 17) (tgt := 26) (by decide +kernel) (by decide) ?_
  refine gv_putj lp_9_92 (by decide +kernel) rfl rfl rfl rfl (pc' := 29) rfl ?_
  refine gv_aload_n (n := 0) (pc' := 30) (by decide +kernel) rfl rfl ?_
  refine gv_getj lk_9_92 (by decide +kernel) rfl rfl (pc' := 33) rfl ?_
  refine gv_if_le (off := 5) (tgt := 38) (pc' := 36) (by decide +kernel) (by decide) rfl (fun z => by first | exact absurd z (show ¬ (1 : Int32) ≤ 0 by decide) | exact absurd (show ¬ (1 : Int32) ≤ 0 by decide) z) (fun _ => ?_)
  refine gv_iconst (n := 0) (v := 0) (pc' := 37) (by decide +kernel) (by decide) rfl ?_
  exact gv_iret .int (by decide +kernel) rfl rfl (by decide) (by decide) (gv_isr _ _)

set_option maxRecDepth 20000 in
theorem n_M_state (i : Int32) (σ : gS) (h : gI σ 41 5 = 0) : gv_K m_M_state [.ref 41, .int i] σ (gv_is (.inl (some (.int 0))) (gs_I σ 41 0 1)) := by
  refine gv_aload_n (n := 0) (pc' := 1) (by decide +kernel) rfl rfl ?_
  refine gv_aload_n (n := 0) (pc' := 2) (by decide +kernel) rfl rfl ?_
  refine gv_getj lk_9_95 (by decide +kernel) rfl rfl (pc' := 5) rfl ?_
  refine gv_if_ne (off := 7) (tgt := 12) (pc' := 8) (by decide +kernel) (by decide) rfl (fun z => by first | exact absurd z (not_not_intro h) | exact absurd (not_not_intro h) z) (fun _ => ?_)
  refine gv_iconst (n := 1) (v := 1) (pc' := 9) (by decide +kernel) (by decide) rfl ?_
  refine gv_goto (off := 17) (tgt := 26) (by decide +kernel) (by decide) ?_
  refine gv_putj lp_9_92 (by decide +kernel) rfl rfl rfl rfl (pc' := 29) rfl ?_
  refine gv_aload_n (n := 0) (pc' := 30) (by decide +kernel) rfl rfl ?_
  refine gv_getj lk_9_92 (by decide +kernel) rfl rfl (pc' := 33) rfl ?_
  refine gv_if_le (off := 7) (tgt := 40) (pc' := 36) (by decide +kernel) (by decide) rfl (fun z => by first | exact absurd z (show ¬ (1 : Int32) ≤ 0 by decide) | exact absurd (show ¬ (1 : Int32) ≤ 0 by decide) z) (fun _ => ?_)
  refine gv_iconst (n := 0) (v := 0) (pc' := 37) (by decide +kernel) (by decide) rfl ?_
  refine gv_goto (off := 42) (tgt := 79) (by decide +kernel) (by decide) ?_
  exact gv_iret .int (by decide +kernel) rfl rfl (by decide) (by decide) (gv_isr _ _)

set_option maxRecDepth 20000 in
theorem n_M_forget (σ : gS) (h : gI σ 41 5 = 0) : gv_K m_M_forget [.ref 41] σ (gv_is (.inl (some (.int 0))) (gs_I σ 41 0 1)) := by
  refine gv_aload_n (n := 0) (pc' := 1) (by decide +kernel) rfl rfl ?_
  refine gv_aload_n (n := 0) (pc' := 2) (by decide +kernel) rfl rfl ?_
  refine gv_getj lk_9_95 (by decide +kernel) rfl rfl (pc' := 5) rfl ?_
  refine gv_if_eq (off := 7) (tgt := 12) (pc' := 8) (by decide +kernel) (by decide) rfl (fun _ => ?_) (fun z => by first | exact absurd z h | exact absurd h z)
  refine gv_iconst (n := 1) (v := 1) (pc' := 13) (by decide +kernel) (by decide) rfl ?_
  refine gv_putj lp_9_92 (by decide +kernel) rfl rfl rfl rfl (pc' := 16) rfl ?_
  refine gv_aload_n (n := 0) (pc' := 17) (by decide +kernel) rfl rfl ?_
  refine gv_getj lk_9_92 (by decide +kernel) rfl rfl (pc' := 20) rfl ?_
  refine gv_if_le (off := 5) (tgt := 25) (pc' := 23) (by decide +kernel) (by decide) rfl (fun z => by first | exact absurd z (show ¬ (1 : Int32) ≤ 0 by decide) | exact absurd (show ¬ (1 : Int32) ≤ 0 by decide) z) (fun _ => ?_)
  refine gv_iconst (n := 0) (v := 0) (pc' := 24) (by decide +kernel) (by decide) rfl ?_
  exact gv_iret .int (by decide +kernel) rfl rfl (by decide) (by decide) (gv_isr _ _)

set_option maxRecDepth 20000 in
theorem n_M_check (σ : gS) (h : gI σ 41 5 = 0) : gv_K m_M_check [.ref 41] σ (gv_is (.inl (some (.int 0))) (gs_I σ 41 0 1)) := by
  refine gv_aload_n (n := 0) (pc' := 1) (by decide +kernel) rfl rfl ?_
  refine gv_aload_n (n := 0) (pc' := 2) (by decide +kernel) rfl rfl ?_
  refine gv_getj lk_9_95 (by decide +kernel) rfl rfl (pc' := 5) rfl ?_
  refine gv_if_eq (off := 7) (tgt := 12) (pc' := 8) (by decide +kernel) (by decide) rfl (fun _ => ?_) (fun z => by first | exact absurd z h | exact absurd h z)
  refine gv_iconst (n := 1) (v := 1) (pc' := 13) (by decide +kernel) (by decide) rfl ?_
  refine gv_putj lp_9_92 (by decide +kernel) rfl rfl rfl rfl (pc' := 16) rfl ?_
  refine gv_aload_n (n := 0) (pc' := 17) (by decide +kernel) rfl rfl ?_
  refine gv_getj lk_9_92 (by decide +kernel) rfl rfl (pc' := 20) rfl ?_
  refine gv_if_le (off := 5) (tgt := 25) (pc' := 23) (by decide +kernel) (by decide) rfl (fun z => by first | exact absurd z (show ¬ (1 : Int32) ≤ 0 by decide) | exact absurd (show ¬ (1 : Int32) ≤ 0 by decide) z) (fun _ => ?_)
  refine gv_iconst (n := 0) (v := 0) (pc' := 24) (by decide +kernel) (by decide) rfl ?_
  exact gv_iret .int (by decide +kernel) rfl rfl (by decide) (by decide) (gv_isr _ _)

set_option maxRecDepth 20000 in
theorem n_M_reaches (i j : Int32) (σ : gS) (h : gI σ 41 5 = 0) : gv_K m_M_reaches [.ref 41, .int i, .int j] σ (gv_is (.inl (some (.int 0))) (gs_I σ 41 0 1)) := by
  refine gv_aload_n (n := 0) (pc' := 1) (by decide +kernel) rfl rfl ?_
  refine gv_aload_n (n := 0) (pc' := 2) (by decide +kernel) rfl rfl ?_
  refine gv_getj lk_9_95 (by decide +kernel) rfl rfl (pc' := 5) rfl ?_
  refine gv_if_ne (off := 7) (tgt := 12) (pc' := 8) (by decide +kernel) (by decide) rfl (fun z => by first | exact absurd z (not_not_intro h) | exact absurd (not_not_intro h) z) (fun _ => ?_)
  refine gv_iconst (n := 1) (v := 1) (pc' := 9) (by decide +kernel) (by decide) rfl ?_
  refine gv_goto (off := 24) (tgt := 33) (by decide +kernel) (by decide) ?_
  refine gv_putj lp_9_92 (by decide +kernel) rfl rfl rfl rfl (pc' := 36) rfl ?_
  refine gv_aload_n (n := 0) (pc' := 37) (by decide +kernel) rfl rfl ?_
  refine gv_getj lk_9_92 (by decide +kernel) rfl rfl (pc' := 40) rfl ?_
  refine gv_if_le (off := 5) (tgt := 45) (pc' := 43) (by decide +kernel) (by decide) rfl (fun z => by first | exact absurd z (show ¬ (1 : Int32) ≤ 0 by decide) | exact absurd (show ¬ (1 : Int32) ≤ 0 by decide) z) (fun _ => ?_)
  refine gv_iconst (n := 0) (v := 0) (pc' := 44) (by decide +kernel) (by decide) rfl ?_
  exact gv_iret .boolean (by decide +kernel) rfl rfl (by decide) (by decide) (gv_isr _ _)

set_option maxRecDepth 20000 in
theorem n_M_mark (i : Int32) (σ : gS) (h : gI σ 41 5 = 0) : gv_K m_M_mark [.ref 41, .int i] σ (gv_is (.inl (some (.int 0))) (gs_I σ 41 0 1)) := by
  refine gv_aload_n (n := 0) (pc' := 1) (by decide +kernel) rfl rfl ?_
  refine gv_aload_n (n := 0) (pc' := 2) (by decide +kernel) rfl rfl ?_
  refine gv_getj lk_9_95 (by decide +kernel) rfl rfl (pc' := 5) rfl ?_
  refine gv_if_ne (off := 7) (tgt := 12) (pc' := 8) (by decide +kernel) (by decide) rfl (fun z => by first | exact absurd z (not_not_intro h) | exact absurd (not_not_intro h) z) (fun _ => ?_)
  refine gv_iconst (n := 1) (v := 1) (pc' := 9) (by decide +kernel) (by decide) rfl ?_
  refine gv_goto (off := 16) (tgt := 25) (by decide +kernel) (by decide) ?_
  refine gv_putj lp_9_92 (by decide +kernel) rfl rfl rfl rfl (pc' := 28) rfl ?_
  refine gv_aload_n (n := 0) (pc' := 29) (by decide +kernel) rfl rfl ?_
  refine gv_getj lk_9_92 (by decide +kernel) rfl rfl (pc' := 32) rfl ?_
  refine gv_if_le (off := 5) (tgt := 37) (pc' := 35) (by decide +kernel) (by decide) rfl (fun z => by first | exact absurd z (show ¬ (1 : Int32) ≤ 0 by decide) | exact absurd (show ¬ (1 : Int32) ≤ 0 by decide) z) (fun _ => ?_)
  refine gv_iconst (n := 0) (v := 0) (pc' := 36) (by decide +kernel) (by decide) rfl ?_
  exact gv_iret .int (by decide +kernel) rfl rfl (by decide) (by decide) (gv_isr _ _)

set_option maxRecDepth 20000 in
theorem n_M_cut (σ : gS) (h : gI σ 41 5 = 0) : gv_K m_M_cut [.ref 41] σ (gv_is (.inl (some (.int 0))) (gs_I σ 41 0 1)) := by
  refine gv_aload_n (n := 0) (pc' := 1) (by decide +kernel) rfl rfl ?_
  refine gv_aload_n (n := 0) (pc' := 2) (by decide +kernel) rfl rfl ?_
  refine gv_getj lk_9_95 (by decide +kernel) rfl rfl (pc' := 5) rfl ?_
  refine gv_if_eq (off := 7) (tgt := 12) (pc' := 8) (by decide +kernel) (by decide) rfl (fun _ => ?_) (fun z => by first | exact absurd z h | exact absurd h z)
  refine gv_iconst (n := 1) (v := 1) (pc' := 13) (by decide +kernel) (by decide) rfl ?_
  refine gv_putj lp_9_92 (by decide +kernel) rfl rfl rfl rfl (pc' := 16) rfl ?_
  refine gv_aload_n (n := 0) (pc' := 17) (by decide +kernel) rfl rfl ?_
  refine gv_getj lk_9_92 (by decide +kernel) rfl rfl (pc' := 20) rfl ?_
  refine gv_if_le (off := 5) (tgt := 25) (pc' := 23) (by decide +kernel) (by decide) rfl (fun z => by first | exact absurd z (show ¬ (1 : Int32) ≤ 0 by decide) | exact absurd (show ¬ (1 : Int32) ≤ 0 by decide) z) (fun _ => ?_)
  refine gv_iconst (n := 0) (v := 0) (pc' := 24) (by decide +kernel) (by decide) rfl ?_
  exact gv_iret .int (by decide +kernel) rfl rfl (by decide) (by decide) (gv_isr _ _)

set_option maxRecDepth 20000 in
theorem n_M_rewrite (σ : gS) (h : gI σ 41 5 = 0) : gv_K m_M_rewrite [.ref 41] σ (gv_is (.inl (some (.int 0))) (gs_I σ 41 0 1)) := by
  refine gv_aload_n (n := 0) (pc' := 1) (by decide +kernel) rfl rfl ?_
  refine gv_aload_n (n := 0) (pc' := 2) (by decide +kernel) rfl rfl ?_
  refine gv_getj lk_9_95 (by decide +kernel) rfl rfl (pc' := 5) rfl ?_
  refine gv_if_eq (off := 7) (tgt := 12) (pc' := 8) (by decide +kernel) (by decide) rfl (fun _ => ?_) (fun z => by first | exact absurd z h | exact absurd h z)
  refine gv_iconst (n := 1) (v := 1) (pc' := 13) (by decide +kernel) (by decide) rfl ?_
  refine gv_putj lp_9_92 (by decide +kernel) rfl rfl rfl rfl (pc' := 16) rfl ?_
  refine gv_aload_n (n := 0) (pc' := 17) (by decide +kernel) rfl rfl ?_
  refine gv_getj lk_9_92 (by decide +kernel) rfl rfl (pc' := 20) rfl ?_
  refine gv_if_le (off := 5) (tgt := 25) (pc' := 23) (by decide +kernel) (by decide) rfl (fun z => by first | exact absurd z (show ¬ (1 : Int32) ≤ 0 by decide) | exact absurd (show ¬ (1 : Int32) ≤ 0 by decide) z) (fun _ => ?_)
  refine gv_iconst (n := 0) (v := 0) (pc' := 24) (by decide +kernel) (by decide) rfl ?_
  exact gv_iret .int (by decide +kernel) rfl rfl (by decide) (by decide) (gv_isr _ _)

set_option maxRecDepth 20000 in
theorem n_M_home (i : Int32) (σ : gS) (h : f_has (gI σ 41 2) i = 0) : gv_K m_M_home [.ref 41, .int i] σ (gv_is (.inl (some (.int 0))) (gs_I σ 41 0 1)) := by
  refine gv_aload_n (n := 0) (pc' := 1) (by decide +kernel) rfl rfl ?_
  refine gv_aload_n (n := 0) (pc' := 2) (by decide +kernel) rfl rfl ?_
  refine gv_iload_n (n := 1) (pc' := 3) (by decide +kernel) rfl rfl ?_
  refine gv_cvi (w' := _) (pc' := 6) (c_M_isAt i σ) md_M_isAt vd_M_isAt (Or.inl ml_9_163) (by decide +kernel) (by decide) rfl rfl rfl (Nat.le_of_ble_eq_true rfl) (Nat.le_of_ble_eq_true rfl) (by decide) rfl (fun z => ⟨rfl, z⟩) (by decide) rfl ?_
  refine gv_if_eq (off := 7) (tgt := 13) (pc' := 9) (by decide +kernel) (by decide) rfl (fun _ => ?_) (fun z => by first | exact absurd z h | exact absurd h z)
  refine gv_iconst (n := 1) (v := 1) (pc' := 14) (by decide +kernel) (by decide) rfl ?_
  refine gv_putj lp_9_92 (by decide +kernel) rfl rfl rfl rfl (pc' := 17) rfl ?_
  refine gv_aload_n (n := 0) (pc' := 18) (by decide +kernel) rfl rfl ?_
  refine gv_getj lk_9_92 (by decide +kernel) rfl rfl (pc' := 21) rfl ?_
  refine gv_if_le (off := 7) (tgt := 28) (pc' := 24) (by decide +kernel) (by decide) rfl (fun z => by first | exact absurd z (show ¬ (1 : Int32) ≤ 0 by decide) | exact absurd (show ¬ (1 : Int32) ≤ 0 by decide) z) (fun _ => ?_)
  refine gv_iconst (n := 0) (v := 0) (pc' := 25) (by decide +kernel) (by decide) rfl ?_
  refine gv_goto (off := 20) (tgt := 45) (by decide +kernel) (by decide) ?_
  exact gv_iret .int (by decide +kernel) rfl rfl (by decide) (by decide) (gv_isr _ _)

set_option maxRecDepth 20000 in
theorem n_M_leak (i : Int32) (σ : gS) (h : gI σ 41 5 = 0) : gv_K m_M_leak [.ref 41, .int i] σ (gv_is (.inl (some (.long (-1)))) (gs_I σ 41 0 0)) := by
  refine gv_aload_n (n := 0) (pc' := 1) (by decide +kernel) rfl rfl ?_
  refine gv_iconst (n := 0) (v := 0) (pc' := 2) (by decide +kernel) (by decide) rfl ?_
  refine gv_putj lp_9_92 (by decide +kernel) rfl rfl rfl rfl (pc' := 5) rfl ?_
  refine gv_aload_n (n := 0) (pc' := 6) (by decide +kernel) rfl rfl ?_
  refine gv_getj lk_9_95 (by decide +kernel) rfl rfl (pc' := 9) rfl ?_
  refine gv_if_eq (off := 15) (tgt := 24) (pc' := 12) (by decide +kernel) (by decide) rfl (fun _ => ?_) (fun z => by first | exact absurd z h | exact absurd h z)
  refine gv_ldc2 (pc' := 27) (by decide +kernel) cn_9_110 rfl ?_
  refine gv_goto (off := 9) (tgt := 36) (by decide +kernel) (by decide) ?_
  exact gv_lret (by decide +kernel) rfl (by decide) (by decide) (gv_isr _ _)

set_option maxRecDepth 20000 in
theorem n_G_decoded (i j : Int32) (σ : gS) (h : gI σ 0 9 = 0) : gv_K m_G_decoded [.ref 0, .int i, .int j] σ (gv_is (.inr 1) σ) := by
  refine gv_aload_n (n := 0) (pc' := 1) (by decide +kernel) rfl rfl ?_
  exact gv_cvt (t_G_needLoaded σ h) md_G_needLoaded vd_G_needLoaded (Or.inl ml_0_100) (by decide +kernel) (by decide) rfl rfl rfl (Nat.le_of_ble_eq_true rfl) (Nat.le_of_ble_eq_true rfl) (by decide) rfl (by decide) (gv_isr _ _)

set_option maxRecDepth 20000 in
theorem n_G_set (i j : Int32) (σ : gS) (h : gI σ 0 9 = 0) : gv_K m_G_set [.ref 0, .int i, .int j] σ (gv_is (.inr 1) σ) := by
  refine gv_aload_n (n := 0) (pc' := 1) (by decide +kernel) rfl rfl ?_
  exact gv_cvt (t_G_needLoaded σ h) md_G_needLoaded vd_G_needLoaded (Or.inl ml_0_100) (by decide +kernel) (by decide) rfl rfl rfl (Nat.le_of_ble_eq_true rfl) (Nat.le_of_ble_eq_true rfl) (by decide) rfl (by decide) (gv_isr _ _)

set_option maxRecDepth 20000 in
theorem n_G_register (i : Int32) (σ : gS) (h : gI σ 0 9 = 0) : gv_K m_G_register [.ref 0, .int i] σ (gv_is (.inr 1) σ) := by
  refine gv_aload_n (n := 0) (pc' := 1) (by decide +kernel) rfl rfl ?_
  exact gv_cvt (t_G_needLoaded σ h) md_G_needLoaded vd_G_needLoaded (Or.inl ml_0_100) (by decide +kernel) (by decide) rfl rfl rfl (Nat.le_of_ble_eq_true rfl) (Nat.le_of_ble_eq_true rfl) (by decide) rfl (by decide) (gv_isr _ _)

set_option maxRecDepth 20000 in
theorem n_G_poke (i j : Int32) (σ : gS) (h : gI σ 0 9 = 0) : gv_K m_G_poke [.ref 0, .int i, .int j] σ (gv_is (.inr 1) σ) := by
  refine gv_aload_n (n := 0) (pc' := 1) (by decide +kernel) rfl rfl ?_
  exact gv_cvt (t_G_needLoaded σ h) md_G_needLoaded vd_G_needLoaded (Or.inl ml_0_100) (by decide +kernel) (by decide) rfl rfl rfl (Nat.le_of_ble_eq_true rfl) (Nat.le_of_ble_eq_true rfl) (by decide) rfl (by decide) (gv_isr _ _)

set_option maxRecDepth 20000 in
theorem n_G_peek (i : Int32) (σ : gS) (h : gI σ 0 9 = 0) : gv_K m_G_peek [.ref 0, .int i] σ (gv_is (.inr 1) σ) := by
  refine gv_aload_n (n := 0) (pc' := 1) (by decide +kernel) rfl rfl ?_
  exact gv_cvt (t_G_needLoaded σ h) md_G_needLoaded vd_G_needLoaded (Or.inl ml_0_100) (by decide +kernel) (by decide) rfl rfl rfl (Nat.le_of_ble_eq_true rfl) (Nat.le_of_ble_eq_true rfl) (by decide) rfl (by decide) (gv_isr _ _)

set_option maxRecDepth 20000 in
theorem n_G_run (i : Int32) (σ : gS) (h : gI σ 0 9 = 0) : gv_K m_G_run [.ref 0, .int i] σ (gv_is (.inr 1) σ) := by
  refine gv_aload_n (n := 0) (pc' := 1) (by decide +kernel) rfl rfl ?_
  exact gv_cvt (t_G_needLoaded σ h) md_G_needLoaded vd_G_needLoaded (Or.inl ml_0_100) (by decide +kernel) (by decide) rfl rfl rfl (Nat.le_of_ble_eq_true rfl) (Nat.le_of_ble_eq_true rfl) (by decide) rfl (by decide) (gv_isr _ _)

set_option maxRecDepth 20000 in
theorem n_G_order (i : Int32) (σ : gS) (h : gI σ 0 9 = 0) : gv_K m_G_order [.ref 0, .int i] σ (gv_is (.inr 1) σ) := by
  refine gv_aload_n (n := 0) (pc' := 1) (by decide +kernel) rfl rfl ?_
  exact gv_cvt (t_G_needLoaded σ h) md_G_needLoaded vd_G_needLoaded (Or.inl ml_0_100) (by decide +kernel) (by decide) rfl rfl rfl (Nat.le_of_ble_eq_true rfl) (Nat.le_of_ble_eq_true rfl) (by decide) rfl (by decide) (gv_isr _ _)

set_option maxRecDepth 20000 in
theorem n_G_state (i : Int32) (σ : gS) (h : gI σ 0 9 = 0) : gv_K m_G_state [.ref 0, .int i] σ (gv_is (.inr 1) σ) := by
  refine gv_aload_n (n := 0) (pc' := 1) (by decide +kernel) rfl rfl ?_
  exact gv_cvt (t_G_needLoaded σ h) md_G_needLoaded vd_G_needLoaded (Or.inl ml_0_100) (by decide +kernel) (by decide) rfl rfl rfl (Nat.le_of_ble_eq_true rfl) (Nat.le_of_ble_eq_true rfl) (by decide) rfl (by decide) (gv_isr _ _)

set_option maxRecDepth 20000 in
theorem n_G_forget (σ : gS) (h : gI σ 0 9 = 0) : gv_K m_G_forget [.ref 0] σ (gv_is (.inr 1) σ) := by
  refine gv_aload_n (n := 0) (pc' := 1) (by decide +kernel) rfl rfl ?_
  exact gv_cvt (t_G_needLoaded σ h) md_G_needLoaded vd_G_needLoaded (Or.inl ml_0_100) (by decide +kernel) (by decide) rfl rfl rfl (Nat.le_of_ble_eq_true rfl) (Nat.le_of_ble_eq_true rfl) (by decide) rfl (by decide) (gv_isr _ _)

set_option maxRecDepth 20000 in
theorem n_G_check (σ : gS) (h : gI σ 0 9 = 0) : gv_K m_G_check [.ref 0] σ (gv_is (.inr 1) σ) := by
  refine gv_aload_n (n := 0) (pc' := 1) (by decide +kernel) rfl rfl ?_
  exact gv_cvt (t_G_needLoaded σ h) md_G_needLoaded vd_G_needLoaded (Or.inl ml_0_100) (by decide +kernel) (by decide) rfl rfl rfl (Nat.le_of_ble_eq_true rfl) (Nat.le_of_ble_eq_true rfl) (by decide) rfl (by decide) (gv_isr _ _)

set_option maxRecDepth 20000 in
theorem n_G_reaches (i j : Int32) (σ : gS) (h : gI σ 0 9 = 0) : gv_K m_G_reaches [.ref 0, .int i, .int j] σ (gv_is (.inr 1) σ) := by
  refine gv_aload_n (n := 0) (pc' := 1) (by decide +kernel) rfl rfl ?_
  exact gv_cvt (t_G_needLoaded σ h) md_G_needLoaded vd_G_needLoaded (Or.inl ml_0_100) (by decide +kernel) (by decide) rfl rfl rfl (Nat.le_of_ble_eq_true rfl) (Nat.le_of_ble_eq_true rfl) (by decide) rfl (by decide) (gv_isr _ _)

set_option maxRecDepth 20000 in
theorem n_G_mark (i : Int32) (σ : gS) (h : gI σ 0 9 = 0) : gv_K m_G_mark [.ref 0, .int i] σ (gv_is (.inr 1) σ) := by
  refine gv_aload_n (n := 0) (pc' := 1) (by decide +kernel) rfl rfl ?_
  exact gv_cvt (t_G_needLoaded σ h) md_G_needLoaded vd_G_needLoaded (Or.inl ml_0_100) (by decide +kernel) (by decide) rfl rfl rfl (Nat.le_of_ble_eq_true rfl) (Nat.le_of_ble_eq_true rfl) (by decide) rfl (by decide) (gv_isr _ _)

set_option maxRecDepth 20000 in
theorem n_G_cut (σ : gS) (h : gI σ 0 9 = 0) : gv_K m_G_cut [.ref 0] σ (gv_is (.inr 1) σ) := by
  refine gv_aload_n (n := 0) (pc' := 1) (by decide +kernel) rfl rfl ?_
  exact gv_cvt (t_G_needLoaded σ h) md_G_needLoaded vd_G_needLoaded (Or.inl ml_0_100) (by decide +kernel) (by decide) rfl rfl rfl (Nat.le_of_ble_eq_true rfl) (Nat.le_of_ble_eq_true rfl) (by decide) rfl (by decide) (gv_isr _ _)

set_option maxRecDepth 20000 in
theorem n_G_rewrite (σ : gS) (h : gI σ 0 9 = 0) : gv_K m_G_rewrite [.ref 0] σ (gv_is (.inr 1) σ) := by
  refine gv_aload_n (n := 0) (pc' := 1) (by decide +kernel) rfl rfl ?_
  exact gv_cvt (t_G_needLoaded σ h) md_G_needLoaded vd_G_needLoaded (Or.inl ml_0_100) (by decide +kernel) (by decide) rfl rfl rfl (Nat.le_of_ble_eq_true rfl) (Nat.le_of_ble_eq_true rfl) (by decide) rfl (by decide) (gv_isr _ _)

set_option maxRecDepth 20000 in
theorem n_G_home (i : Int32) (σ : gS) (h : f_has (gI σ 0 7) i = 0) : gv_K m_G_home [.ref 0, .int i] σ (gv_is (.inr 2) σ) := by
  refine gv_aload_n (n := 0) (pc' := 1) (by decide +kernel) rfl rfl ?_
  refine gv_iload_n (n := 1) (pc' := 2) (by decide +kernel) rfl rfl ?_
  exact gv_cvt (t_G_needWord i σ h) md_G_needWord vd_G_needWord (Or.inl ml_0_103) (by decide +kernel) (by decide) rfl rfl rfl (Nat.le_of_ble_eq_true rfl) (Nat.le_of_ble_eq_true rfl) (by decide) rfl (by decide) (gv_isr _ _)

set_option maxRecDepth 20000 in
theorem n_G_leak (i : Int32) (σ : gS) (h : gI σ 0 9 = 0) : gv_K m_G_leak [.ref 0, .int i] σ (gv_is (.inl (some (.long (-1)))) σ) := by
  refine gv_aload_n (n := 0) (pc' := 1) (by decide +kernel) rfl rfl ?_
  refine gv_getj lk_0_70 (by decide +kernel) rfl rfl (pc' := 4) rfl ?_
  refine gv_if_eq (off := 17) (tgt := 21) (pc' := 7) (by decide +kernel) (by decide) rfl (fun _ => ?_) (fun z => by first | exact absurd z h | exact absurd h z)
  refine gv_ldc2 (pc' := 24) (by decide +kernel) cn_0_94 rfl ?_
  exact gv_lret (by decide +kernel) rfl (by decide) (by decide) (gv_isr _ _)

set_option maxRecDepth 20000 in
theorem c_G_word (w : Int32) (σ : gS) (h : gI σ 0 7 < 520) (hi : vp_in (gI σ 0 7) 1040) : gv_K m_G_word [.ref 0, .int w] σ (gv_is (.inl (some (.int (gI σ 0 7 + 1)))) (gs_I (gs_I (gs_I (gs_A σ 1 (gI σ 0 7).toNatClampNeg w) 0 7 (gI σ 0 7 + 1)) 0 9 0) 0 11 0)) := by
  refine gv_aload_n (n := 0) (pc' := 1) (by decide +kernel) rfl rfl ?_
  refine gv_getj lk_0_63 (by decide +kernel) rfl rfl (pc' := 4) rfl ?_
  refine gv_sipush (n := 520) (v := 520) (pc' := 7) (by decide +kernel) (by decide) rfl ?_
  refine gv_icmp_lt (off := 5) (tgt := 12) (pc' := 10) (by decide +kernel) (by decide) rfl (fun _ => ?_) (fun z => by first | exact absurd z h | exact absurd h z)
  refine gv_aload_n (n := 0) (pc' := 13) (by decide +kernel) rfl rfl ?_
  refine gv_getr lk_0_9 (by decide +kernel) rfl rfl (pc' := 16) rfl ?_
  refine gv_aload_n (n := 0) (pc' := 17) (by decide +kernel) rfl rfl ?_
  refine gv_getj lk_0_63 (by decide +kernel) rfl rfl (pc' := 20) rfl ?_
  refine gv_iload_n (n := 1) (pc' := 21) (by decide +kernel) rfl rfl ?_
  refine gj_iast (_) (pc' := 22) (by decide +kernel) rfl hi rfl rfl ?_
  refine gv_aload_n (n := 0) (pc' := 23) (by decide +kernel) rfl rfl ?_
  refine gv_dup (pc' := 24) (by decide +kernel) rfl rfl ?_
  refine gv_getj lk_0_63 (by decide +kernel) rfl rfl (pc' := 27) rfl ?_
  refine gv_iconst (n := 1) (v := 1) (pc' := 28) (by decide +kernel) (by decide) rfl ?_
  refine gv_iadd (pc' := 29) (by decide +kernel) rfl ?_
  refine gv_putj lp_0_63 (by decide +kernel) rfl rfl rfl rfl (pc' := 32) rfl ?_
  refine gv_aload_n (n := 0) (pc' := 33) (by decide +kernel) rfl rfl ?_
  refine gv_cv0 (w' := false) (pc' := 36) (c_G_noteNewWords _) md_G_noteNewWords vd_G_noteNewWords (Or.inl ml_0_80) (by decide +kernel) (by decide) rfl rfl rfl (Nat.le_of_ble_eq_true rfl) (Nat.le_of_ble_eq_true rfl) (by decide) rfl (fun z => by cases z) (by decide) rfl ?_
  refine gv_aload_n (n := 0) (pc' := 37) (by decide +kernel) rfl rfl ?_
  refine gv_getj lk_0_63 (by decide +kernel) rfl rfl (pc' := 40) rfl ?_
  exact gv_iret .int (by decide +kernel) rfl rfl (by decide) (by decide) (gv_isr _ _)

set_option maxRecDepth 20000 in
theorem n_G_word (w : Int32) (σ : gS) (h : ¬ gI σ 0 7 < 520) : gv_K m_G_word [.ref 0, .int w] σ (gv_is (.inl (some (.int (-1)))) σ) := by
  refine gv_aload_n (n := 0) (pc' := 1) (by decide +kernel) rfl rfl ?_
  refine gv_getj lk_0_63 (by decide +kernel) rfl rfl (pc' := 4) rfl ?_
  refine gv_sipush (n := 520) (v := 520) (pc' := 7) (by decide +kernel) (by decide) rfl ?_
  refine gv_icmp_lt (off := 5) (tgt := 12) (pc' := 10) (by decide +kernel) (by decide) rfl (fun z => by first | exact absurd z h | exact absurd h z) (fun _ => ?_)
  refine gv_iconst (n := (-1)) (v := (-1)) (pc' := 11) (by decide +kernel) (by decide) rfl ?_
  exact gv_iret .int (by decide +kernel) rfl rfl (by decide) (by decide) (gv_isr _ _)

set_option maxRecDepth 20000 in
theorem c_M_word (w : Int32) (σ : gS) (h : gI σ 41 2 < 520) (hi : vp_in (gI σ 41 2) 1040) : gv_K m_M_word [.ref 41, .int w] σ (gv_is (.inl (some (.int (gI σ 41 2 + 1)))) (gs_I (gs_I (gs_I (gs_A (gs_I σ 41 0 0) 42 (gI σ 41 2).toNatClampNeg w) 41 2 (gI σ 41 2 + 1)) 41 5 0) 41 4 0)) := by
  refine gv_aload_n (n := 0) (pc' := 1) (by decide +kernel) rfl rfl ?_
  refine gv_iconst (n := 0) (v := 0) (pc' := 2) (by decide +kernel) (by decide) rfl ?_
  refine gv_putj lp_9_92 (by decide +kernel) rfl rfl rfl rfl (pc' := 5) rfl ?_
  refine gv_aload_n (n := 0) (pc' := 6) (by decide +kernel) rfl rfl ?_
  refine gv_getj lk_9_102 (by decide +kernel) rfl rfl (pc' := 9) rfl ?_
  refine gv_sipush (n := 520) (v := 520) (pc' := 12) (by decide +kernel) (by decide) rfl ?_
  refine gv_icmp_lt (off := 5) (tgt := 17) (pc' := 15) (by decide +kernel) (by decide) rfl (fun _ => ?_) (fun z => by first | exact absurd z h | exact absurd h z)
  refine gv_aload_n (n := 0) (pc' := 18) (by decide +kernel) rfl rfl ?_
  refine gv_getr lk_9_7 (by decide +kernel) rfl rfl (pc' := 21) rfl ?_
  refine gv_aload_n (n := 0) (pc' := 22) (by decide +kernel) rfl rfl ?_
  refine gv_getj lk_9_102 (by decide +kernel) rfl rfl (pc' := 25) rfl ?_
  refine gv_iload_n (n := 1) (pc' := 26) (by decide +kernel) rfl rfl ?_
  refine gj_iast (_) (pc' := 27) (by decide +kernel) rfl hi rfl rfl ?_
  refine gv_aload_n (n := 0) (pc' := 28) (by decide +kernel) rfl rfl ?_
  refine gv_dup (pc' := 29) (by decide +kernel) rfl rfl ?_
  refine gv_getj lk_9_102 (by decide +kernel) rfl rfl (pc' := 32) rfl ?_
  refine gv_iconst (n := 1) (v := 1) (pc' := 33) (by decide +kernel) (by decide) rfl ?_
  refine gv_iadd (pc' := 34) (by decide +kernel) rfl ?_
  refine gv_putj lp_9_102 (by decide +kernel) rfl rfl rfl rfl (pc' := 37) rfl ?_
  refine gv_aload_n (n := 0) (pc' := 38) (by decide +kernel) rfl rfl ?_
  refine gv_cv0 (w' := false) (pc' := 41) (c_M_changed _) md_M_changed vd_M_changed (Or.inl ml_9_105) (by decide +kernel) (by decide) rfl rfl rfl (Nat.le_of_ble_eq_true rfl) (Nat.le_of_ble_eq_true rfl) (by decide) rfl (fun z => by cases z) (by decide) rfl ?_
  refine gv_aload_n (n := 0) (pc' := 42) (by decide +kernel) rfl rfl ?_
  refine gv_getj lk_9_102 (by decide +kernel) rfl rfl (pc' := 45) rfl ?_
  exact gv_iret .int (by decide +kernel) rfl rfl (by decide) (by decide) (gv_isr _ _)

set_option maxRecDepth 20000 in
theorem n_M_word (w : Int32) (σ : gS) (h : ¬ gI σ 41 2 < 520) : gv_K m_M_word [.ref 41, .int w] σ (gv_is (.inl (some (.int (-1)))) (gs_I σ 41 0 0)) := by
  refine gv_aload_n (n := 0) (pc' := 1) (by decide +kernel) rfl rfl ?_
  refine gv_iconst (n := 0) (v := 0) (pc' := 2) (by decide +kernel) (by decide) rfl ?_
  refine gv_putj lp_9_92 (by decide +kernel) rfl rfl rfl rfl (pc' := 5) rfl ?_
  refine gv_aload_n (n := 0) (pc' := 6) (by decide +kernel) rfl rfl ?_
  refine gv_getj lk_9_102 (by decide +kernel) rfl rfl (pc' := 9) rfl ?_
  refine gv_sipush (n := 520) (v := 520) (pc' := 12) (by decide +kernel) (by decide) rfl ?_
  refine gv_icmp_lt (off := 5) (tgt := 17) (pc' := 15) (by decide +kernel) (by decide) rfl (fun z => by first | exact absurd z h | exact absurd h z) (fun _ => ?_)
  refine gv_iconst (n := (-1)) (v := (-1)) (pc' := 16) (by decide +kernel) (by decide) rfl ?_
  exact gv_iret .int (by decide +kernel) rfl rfl (by decide) (by decide) (gv_isr _ _)

set_option maxRecDepth 20000 in
theorem c_M_clear (σ : gS) : gv_K m_M_clear [.ref 41] σ (gv_is (.inl (some (.int (gI σ 41 2)))) (gs_I (gs_I (gs_I (gs_I σ 41 0 0) 41 2 0) 41 5 0) 41 4 0)) := by
  refine gv_aload_n (n := 0) (pc' := 1) (by decide +kernel) rfl rfl ?_
  refine gv_iconst (n := 0) (v := 0) (pc' := 2) (by decide +kernel) (by decide) rfl ?_
  refine gv_putj lp_9_92 (by decide +kernel) rfl rfl rfl rfl (pc' := 5) rfl ?_
  refine gv_aload_n (n := 0) (pc' := 6) (by decide +kernel) rfl rfl ?_
  refine gv_getj lk_9_102 (by decide +kernel) rfl rfl (pc' := 9) rfl ?_
  refine gv_istore_n (n := 1) (pc' := 10) (by decide +kernel) (by decide) rfl ?_
  refine gv_aload_n (n := 0) (pc' := 11) (by decide +kernel) rfl rfl ?_
  refine gv_iconst (n := 0) (v := 0) (pc' := 12) (by decide +kernel) (by decide) rfl ?_
  refine gv_putj lp_9_102 (by decide +kernel) rfl rfl rfl rfl (pc' := 15) rfl ?_
  refine gv_aload_n (n := 0) (pc' := 16) (by decide +kernel) rfl rfl ?_
  refine gv_cv0 (w' := false) (pc' := 19) (c_M_changed _) md_M_changed vd_M_changed (Or.inl ml_9_105) (by decide +kernel) (by decide) rfl rfl rfl (Nat.le_of_ble_eq_true rfl) (Nat.le_of_ble_eq_true rfl) (by decide) rfl (fun z => by cases z) (by decide) rfl ?_
  refine gv_iload_n (n := 1) (pc' := 20) (by decide +kernel) rfl rfl ?_
  exact gv_iret .int (by decide +kernel) rfl rfl (by decide) (by decide) (gv_isr _ _)

set_option maxRecDepth 20000 in
theorem n_G_wordAt (i : Int32) (σ : gS) (h : f_has (gI σ 0 7) i = 0) : gv_K m_G_wordAt [.ref 0, .int i] σ (gv_is (.inl (some (.long (-1)))) σ) := by
  refine gv_aload_n (n := 0) (pc' := 1) (by decide +kernel) rfl rfl ?_
  refine gv_iload_n (n := 1) (pc' := 2) (by decide +kernel) rfl rfl ?_
  refine gv_cvi (w' := _) (pc' := 5) (c_G_hasWord i σ) md_G_hasWord vd_G_hasWord (Or.inl ml_0_88) (by decide +kernel) (by decide) rfl rfl rfl (Nat.le_of_ble_eq_true rfl) (Nat.le_of_ble_eq_true rfl) (by decide) rfl (fun z => ⟨rfl, z⟩) (by decide) rfl ?_
  refine gv_if_eq (off := 17) (tgt := 22) (pc' := 8) (by decide +kernel) (by decide) rfl (fun _ => ?_) (fun z => by first | exact absurd z h | exact absurd h z)
  refine gv_ldc2 (pc' := 25) (by decide +kernel) cn_0_94 rfl ?_
  exact gv_lret (by decide +kernel) rfl (by decide) (by decide) (gv_isr _ _)

set_option maxRecDepth 20000 in
theorem c_G_wordAt (i : Int32) (σ : gS) (h : ¬ f_has (gI σ 0 7) i = 0) (hi : vp_in i 1040) : gv_K m_G_wordAt [.ref 0, .int i] σ (gv_is (.inl (some (.long ((gA σ 1 i.toNatClampNeg).toInt64 &&& 4294967295)))) σ) := by
  refine gv_aload_n (n := 0) (pc' := 1) (by decide +kernel) rfl rfl ?_
  refine gv_iload_n (n := 1) (pc' := 2) (by decide +kernel) rfl rfl ?_
  refine gv_cvi (w' := _) (pc' := 5) (c_G_hasWord i σ) md_G_hasWord vd_G_hasWord (Or.inl ml_0_88) (by decide +kernel) (by decide) rfl rfl rfl (Nat.le_of_ble_eq_true rfl) (Nat.le_of_ble_eq_true rfl) (by decide) rfl (fun z => ⟨rfl, z⟩) (by decide) rfl ?_
  refine gv_if_eq (off := 17) (tgt := 22) (pc' := 8) (by decide +kernel) (by decide) rfl (fun z => by first | exact absurd z h | exact absurd h z) (fun _ => ?_)
  refine gv_aload_n (n := 0) (pc' := 9) (by decide +kernel) rfl rfl ?_
  refine gv_getr lk_0_9 (by decide +kernel) rfl rfl (pc' := 12) rfl ?_
  refine gv_iload_n (n := 1) (pc' := 13) (by decide +kernel) rfl rfl ?_
  refine gj_iald (_) (pc' := 14) (by decide +kernel) rfl hi rfl rfl ?_
  refine gv_i2l (pc' := 15) (by decide +kernel) rfl ?_
  refine gv_ldc2 (pc' := 18) (by decide +kernel) cn_0_92 rfl ?_
  refine gv_land (pc' := 19) (by decide +kernel) rfl ?_
  refine gv_goto (off := 6) (tgt := 25) (by decide +kernel) (by decide) ?_
  exact gv_lret (by decide +kernel) rfl (by decide) (by decide) (gv_isr _ _)

set_option maxRecDepth 20000 in
theorem n_M_wordAt (i : Int32) (σ : gS) (h : ¬ i < 0 → ¬ i < gI σ 41 2) : gv_K m_M_wordAt [.ref 41, .int i] σ (gv_is (.inl (some (.long (-1)))) (gs_I σ 41 0 0)) := by
  refine gv_aload_n (n := 0) (pc' := 1) (by decide +kernel) rfl rfl ?_
  refine gv_iconst (n := 0) (v := 0) (pc' := 2) (by decide +kernel) (by decide) rfl ?_
  refine gv_putj lp_9_92 (by decide +kernel) rfl rfl rfl rfl (pc' := 5) rfl ?_
  refine gv_iload_n (n := 1) (pc' := 6) (by decide +kernel) rfl rfl ?_
  refine gv_if_lt (off := 11) (tgt := 17) (pc' := 9) (by decide +kernel) (by decide) rfl (fun h6 => ?_) (fun h6 => ?_)
  · refine gv_ldc2 (pc' := 20) (by decide +kernel) cn_9_110 rfl ?_
    refine gv_goto (off := 14) (tgt := 34) (by decide +kernel) (by decide) ?_
    exact gv_lret (by decide +kernel) rfl (by decide) (by decide) (gv_isr _ _)
  · refine gv_iload_n (n := 1) (pc' := 10) (by decide +kernel) rfl rfl ?_
    refine gv_aload_n (n := 0) (pc' := 11) (by decide +kernel) rfl rfl ?_
    refine gv_getj lk_9_102 (by decide +kernel) rfl rfl (pc' := 14) rfl ?_
    refine gv_icmp_lt (off := 9) (tgt := 23) (pc' := 17) (by decide +kernel) (by decide) rfl (fun z => by first | exact absurd z (h h6) | exact absurd (h h6) z) (fun _ => ?_)
    refine gv_ldc2 (pc' := 20) (by decide +kernel) cn_9_110 rfl ?_
    refine gv_goto (off := 14) (tgt := 34) (by decide +kernel) (by decide) ?_
    exact gv_lret (by decide +kernel) rfl (by decide) (by decide) (gv_isr _ _)

set_option maxRecDepth 20000 in
theorem c_M_wordAt (i : Int32) (σ : gS) (h : ¬ i < 0) (h2 : i < gI σ 41 2) (hi : vp_in i 1040) : gv_K m_M_wordAt [.ref 41, .int i] σ (gv_is (.inl (some (.long ((gA σ 42 i.toNatClampNeg).toInt64 &&& 4294967295)))) (gs_I σ 41 0 0)) := by
  refine gv_aload_n (n := 0) (pc' := 1) (by decide +kernel) rfl rfl ?_
  refine gv_iconst (n := 0) (v := 0) (pc' := 2) (by decide +kernel) (by decide) rfl ?_
  refine gv_putj lp_9_92 (by decide +kernel) rfl rfl rfl rfl (pc' := 5) rfl ?_
  refine gv_iload_n (n := 1) (pc' := 6) (by decide +kernel) rfl rfl ?_
  refine gv_if_lt (off := 11) (tgt := 17) (pc' := 9) (by decide +kernel) (by decide) rfl (fun z => by first | exact absurd z h | exact absurd h z) (fun _ => ?_)
  refine gv_iload_n (n := 1) (pc' := 10) (by decide +kernel) rfl rfl ?_
  refine gv_aload_n (n := 0) (pc' := 11) (by decide +kernel) rfl rfl ?_
  refine gv_getj lk_9_102 (by decide +kernel) rfl rfl (pc' := 14) rfl ?_
  refine gv_icmp_lt (off := 9) (tgt := 23) (pc' := 17) (by decide +kernel) (by decide) rfl (fun _ => ?_) (fun z => by first | exact absurd z h2 | exact absurd h2 z)
  refine gv_aload_n (n := 0) (pc' := 24) (by decide +kernel) rfl rfl ?_
  refine gv_getr lk_9_7 (by decide +kernel) rfl rfl (pc' := 27) rfl ?_
  refine gv_iload_n (n := 1) (pc' := 28) (by decide +kernel) rfl rfl ?_
  refine gj_iald (_) (pc' := 29) (by decide +kernel) rfl hi rfl rfl ?_
  refine gv_i2l (pc' := 30) (by decide +kernel) rfl ?_
  refine gv_ldc2 (pc' := 33) (by decide +kernel) cn_9_112 rfl ?_
  refine gv_land (pc' := 34) (by decide +kernel) rfl ?_
  exact gv_lret (by decide +kernel) rfl (by decide) (by decide) (gv_isr _ _)

set_option maxRecDepth 20000 in
theorem c_G_window (i : Int32) (σ : gS) (h : ¬ i < 1) (h2 : i ≤ 64) : gv_K m_G_window [.ref 0, .int i] σ (gv_is (.inl (some (.int (gI σ 10 6)))) (gs_I σ 10 6 i)) := by
  refine gv_iload_n (n := 1) (pc' := 1) (by decide +kernel) rfl rfl ?_
  refine gv_iconst (n := 1) (v := 1) (pc' := 2) (by decide +kernel) (by decide) rfl ?_
  refine gv_icmp_lt (off := 9) (tgt := 11) (pc' := 5) (by decide +kernel) (by decide) rfl (fun z => by first | exact absurd z h | exact absurd h z) (fun _ => ?_)
  refine gv_iload_n (n := 1) (pc' := 6) (by decide +kernel) rfl rfl ?_
  refine gv_bipush (n := 64) (v := 64) (pc' := 8) (by decide +kernel) (by decide) rfl ?_
  refine gv_icmp_le (off := 11) (tgt := 19) (pc' := 11) (by decide +kernel) (by decide) rfl (fun _ => ?_) (fun z => by first | exact absurd z h2 | exact absurd h2 z)
  refine gv_aload_n (n := 0) (pc' := 20) (by decide +kernel) rfl rfl ?_
  refine gv_getr lk_0_25 (by decide +kernel) rfl rfl (pc' := 23) rfl ?_
  refine gv_getj lk_0_135 (by decide +kernel) rfl rfl (pc' := 26) rfl ?_
  refine gv_istore_n (n := 2) (pc' := 27) (by decide +kernel) (by decide) rfl ?_
  refine gv_aload_n (n := 0) (pc' := 28) (by decide +kernel) rfl rfl ?_
  refine gv_getr lk_0_25 (by decide +kernel) rfl rfl (pc' := 31) rfl ?_
  refine gv_iload_n (n := 1) (pc' := 32) (by decide +kernel) rfl rfl ?_
  refine gv_putj lp_0_135 (by decide +kernel) rfl rfl rfl rfl (pc' := 35) rfl ?_
  refine gv_iload_n (n := 2) (pc' := 36) (by decide +kernel) rfl rfl ?_
  exact gv_iret .int (by decide +kernel) rfl rfl (by decide) (by decide) (gv_isr _ _)

set_option maxRecDepth 20000 in
theorem n_G_window (i : Int32) (σ : gS) (h : ¬ i < 1 → ¬ i ≤ 64) : gv_K m_G_window [.ref 0, .int i] σ (gv_is (.inr 3) σ) := by
  refine gv_iload_n (n := 1) (pc' := 1) (by decide +kernel) rfl rfl ?_
  refine gv_iconst (n := 1) (v := 1) (pc' := 2) (by decide +kernel) (by decide) rfl ?_
  refine gv_icmp_lt (off := 9) (tgt := 11) (pc' := 5) (by decide +kernel) (by decide) rfl (fun h2 => ?_) (fun h2 => ?_)
  · exact gv_throw th_0_83 (by decide +kernel) (by decide +kernel) (by decide +kernel) (by decide +kernel) (by decide) (by decide) (by decide) (by decide) (gv_isr _ _)
  · refine gv_iload_n (n := 1) (pc' := 6) (by decide +kernel) rfl rfl ?_
    refine gv_bipush (n := 64) (v := 64) (pc' := 8) (by decide +kernel) (by decide) rfl ?_
    refine gv_icmp_le (off := 11) (tgt := 19) (pc' := 11) (by decide +kernel) (by decide) rfl (fun z => by first | exact absurd z (h h2) | exact absurd (h h2) z) (fun _ => ?_)
    exact gv_throw th_0_83 (by decide +kernel) (by decide +kernel) (by decide +kernel) (by decide +kernel) (by decide) (by decide) (by decide) (by decide) (gv_isr _ _)

set_option maxRecDepth 20000 in
theorem c_M_window (i : Int32) (σ : gS) (h : ¬ i < 1) (h2 : i ≤ 64) : gv_K m_M_window [.ref 41, .int i] σ (gv_is (.inl (some (.int (gI σ 41 12)))) (gs_I (gs_I σ 41 0 0) 41 12 i)) := by
  refine gv_aload_n (n := 0) (pc' := 1) (by decide +kernel) rfl rfl ?_
  refine gv_iload_n (n := 1) (pc' := 2) (by decide +kernel) rfl rfl ?_
  refine gv_iconst (n := 1) (v := 1) (pc' := 3) (by decide +kernel) (by decide) rfl ?_
  refine gv_icmp_lt (off := 9) (tgt := 12) (pc' := 6) (by decide +kernel) (by decide) rfl (fun z => by first | exact absurd z h | exact absurd h z) (fun _ => ?_)
  refine gv_iload_n (n := 1) (pc' := 7) (by decide +kernel) rfl rfl ?_
  refine gv_bipush (n := 64) (v := 64) (pc' := 9) (by decide +kernel) (by decide) rfl ?_
  refine gv_icmp_le (off := 7) (tgt := 16) (pc' := 12) (by decide +kernel) (by decide) rfl (fun _ => ?_) (fun z => by first | exact absurd z h2 | exact absurd h2 z)
  refine gv_iconst (n := 0) (v := 0) (pc' := 17) (by decide +kernel) (by decide) rfl ?_
  refine gv_putj lp_9_92 (by decide +kernel) rfl rfl rfl rfl (pc' := 20) rfl ?_
  refine gv_aload_n (n := 0) (pc' := 21) (by decide +kernel) rfl rfl ?_
  refine gv_getj lk_9_92 (by decide +kernel) rfl rfl (pc' := 24) rfl ?_
  refine gv_if_le (off := 5) (tgt := 29) (pc' := 27) (by decide +kernel) (by decide) rfl (fun _ => ?_) (fun z => by first | exact absurd z (show (0 : Int32) ≤ 0 by decide) | exact absurd (show (0 : Int32) ≤ 0 by decide) z)
  refine gv_aload_n (n := 0) (pc' := 30) (by decide +kernel) rfl rfl ?_
  refine gv_getj lk_9_30 (by decide +kernel) rfl rfl (pc' := 33) rfl ?_
  refine gv_istore_n (n := 2) (pc' := 34) (by decide +kernel) (by decide) rfl ?_
  refine gv_aload_n (n := 0) (pc' := 35) (by decide +kernel) rfl rfl ?_
  refine gv_iload_n (n := 1) (pc' := 36) (by decide +kernel) rfl rfl ?_
  refine gv_putj lp_9_30 (by decide +kernel) rfl rfl rfl rfl (pc' := 39) rfl ?_
  refine gv_iload_n (n := 2) (pc' := 40) (by decide +kernel) rfl rfl ?_
  exact gv_iret .int (by decide +kernel) rfl rfl (by decide) (by decide) (gv_isr _ _)

set_option maxRecDepth 20000 in
theorem n_M_window (i : Int32) (σ : gS) (h : ¬ i < 1 → ¬ i ≤ 64) : gv_K m_M_window [.ref 41, .int i] σ (gv_is (.inl (some (.int 0))) (gs_I σ 41 0 1)) := by
  refine gv_aload_n (n := 0) (pc' := 1) (by decide +kernel) rfl rfl ?_
  refine gv_iload_n (n := 1) (pc' := 2) (by decide +kernel) rfl rfl ?_
  refine gv_iconst (n := 1) (v := 1) (pc' := 3) (by decide +kernel) (by decide) rfl ?_
  refine gv_icmp_lt (off := 9) (tgt := 12) (pc' := 6) (by decide +kernel) (by decide) rfl (fun h3 => ?_) (fun h3 => ?_)
  · refine gv_iconst (n := 1) (v := 1) (pc' := 13) (by decide +kernel) (by decide) rfl ?_
    refine gv_goto (off := 4) (tgt := 17) (by decide +kernel) (by decide) ?_
    refine gv_putj lp_9_92 (by decide +kernel) rfl rfl rfl rfl (pc' := 20) rfl ?_
    refine gv_aload_n (n := 0) (pc' := 21) (by decide +kernel) rfl rfl ?_
    refine gv_getj lk_9_92 (by decide +kernel) rfl rfl (pc' := 24) rfl ?_
    refine gv_if_le (off := 5) (tgt := 29) (pc' := 27) (by decide +kernel) (by decide) rfl (fun z => by first | exact absurd z (show ¬ (1 : Int32) ≤ 0 by decide) | exact absurd (show ¬ (1 : Int32) ≤ 0 by decide) z) (fun _ => ?_)
    refine gv_iconst (n := 0) (v := 0) (pc' := 28) (by decide +kernel) (by decide) rfl ?_
    exact gv_iret .int (by decide +kernel) rfl rfl (by decide) (by decide) (gv_isr _ _)
  · refine gv_iload_n (n := 1) (pc' := 7) (by decide +kernel) rfl rfl ?_
    refine gv_bipush (n := 64) (v := 64) (pc' := 9) (by decide +kernel) (by decide) rfl ?_
    refine gv_icmp_le (off := 7) (tgt := 16) (pc' := 12) (by decide +kernel) (by decide) rfl (fun z => by first | exact absurd z (h h3) | exact absurd (h h3) z) (fun _ => ?_)
    refine gv_iconst (n := 1) (v := 1) (pc' := 13) (by decide +kernel) (by decide) rfl ?_
    refine gv_goto (off := 4) (tgt := 17) (by decide +kernel) (by decide) ?_
    refine gv_putj lp_9_92 (by decide +kernel) rfl rfl rfl rfl (pc' := 20) rfl ?_
    refine gv_aload_n (n := 0) (pc' := 21) (by decide +kernel) rfl rfl ?_
    refine gv_getj lk_9_92 (by decide +kernel) rfl rfl (pc' := 24) rfl ?_
    refine gv_if_le (off := 5) (tgt := 29) (pc' := 27) (by decide +kernel) (by decide) rfl (fun z => by first | exact absurd z (show ¬ (1 : Int32) ≤ 0 by decide) | exact absurd (show ¬ (1 : Int32) ≤ 0 by decide) z) (fun _ => ?_)
    refine gv_iconst (n := 0) (v := 0) (pc' := 28) (by decide +kernel) (by decide) rfl ?_
    exact gv_iret .int (by decide +kernel) rfl rfl (by decide) (by decide) (gv_isr _ _)

set_option maxRecDepth 20000 in
theorem n_G_again (i j : Int32) (σ : gS) (h : ¬ i < 1 → ¬ gI σ 0 7 < i → ¬ 1 ≤ j) : gv_K m_G_again [.ref 0, .int i, .int j] σ (gv_is (.inr 3) σ) := by
  refine gv_iload_n (n := 1) (pc' := 1) (by decide +kernel) rfl rfl ?_
  refine gv_iconst (n := 1) (v := 1) (pc' := 2) (by decide +kernel) (by decide) rfl ?_
  refine gv_icmp_lt (off := 16) (tgt := 18) (pc' := 5) (by decide +kernel) (by decide) rfl (fun h2 => ?_) (fun h2 => ?_)
  · exact gv_throw th_0_83 (by decide +kernel) (by decide +kernel) (by decide +kernel) (by decide +kernel) (by decide) (by decide) (by decide) (by decide) (gv_isr _ _)
  · refine gv_iload_n (n := 1) (pc' := 6) (by decide +kernel) rfl rfl ?_
    refine gv_aload_n (n := 0) (pc' := 7) (by decide +kernel) rfl rfl ?_
    refine gv_getj lk_0_63 (by decide +kernel) rfl rfl (pc' := 10) rfl ?_
    refine gv_icmp_gt (off := 8) (tgt := 18) (pc' := 13) (by decide +kernel) (by decide) rfl (fun h10 => ?_) (fun h10 => ?_)
    · exact gv_throw th_0_83 (by decide +kernel) (by decide +kernel) (by decide +kernel) (by decide +kernel) (by decide) (by decide) (by decide) (by decide) (gv_isr _ _)
    · refine gv_iload_n (n := 2) (pc' := 14) (by decide +kernel) rfl rfl ?_
      refine gv_iconst (n := 1) (v := 1) (pc' := 15) (by decide +kernel) (by decide) rfl ?_
      refine gv_icmp_ge (off := 11) (tgt := 26) (pc' := 18) (by decide +kernel) (by decide) rfl (fun z => by first | exact absurd z (h h2 h10) | exact absurd (h h2 h10) z) (fun _ => ?_)
      exact gv_throw th_0_83 (by decide +kernel) (by decide +kernel) (by decide +kernel) (by decide +kernel) (by decide) (by decide) (by decide) (by decide) (gv_isr _ _)

set_option maxRecDepth 20000 in
theorem n_M_again (i j : Int32) (σ : gS) (h : ¬ i < 1 → ¬ gI σ 41 2 < i → ¬ 1 ≤ j) : gv_K m_M_again [.ref 41, .int i, .int j] σ (gv_is (.inl (some (.int 0))) (gs_I σ 41 0 1)) := by
  refine gv_aload_n (n := 0) (pc' := 1) (by decide +kernel) rfl rfl ?_
  refine gv_iload_n (n := 1) (pc' := 2) (by decide +kernel) rfl rfl ?_
  refine gv_iconst (n := 1) (v := 1) (pc' := 3) (by decide +kernel) (by decide) rfl ?_
  refine gv_icmp_lt (off := 16) (tgt := 19) (pc' := 6) (by decide +kernel) (by decide) rfl (fun h3 => ?_) (fun h3 => ?_)
  · refine gv_iconst (n := 1) (v := 1) (pc' := 20) (by decide +kernel) (by decide) rfl ?_
    refine gv_goto (off := 4) (tgt := 24) (by decide +kernel) (by decide) ?_
    refine gv_putj lp_9_92 (by decide +kernel) rfl rfl rfl rfl (pc' := 27) rfl ?_
    refine gv_aload_n (n := 0) (pc' := 28) (by decide +kernel) rfl rfl ?_
    refine gv_getj lk_9_92 (by decide +kernel) rfl rfl (pc' := 31) rfl ?_
    refine gv_if_le (off := 5) (tgt := 36) (pc' := 34) (by decide +kernel) (by decide) rfl (fun z => by first | exact absurd z (show ¬ (1 : Int32) ≤ 0 by decide) | exact absurd (show ¬ (1 : Int32) ≤ 0 by decide) z) (fun _ => ?_)
    refine gv_iconst (n := 0) (v := 0) (pc' := 35) (by decide +kernel) (by decide) rfl ?_
    exact gv_iret .int (by decide +kernel) rfl rfl (by decide) (by decide) (gv_isr _ _)
  · refine gv_iload_n (n := 1) (pc' := 7) (by decide +kernel) rfl rfl ?_
    refine gv_aload_n (n := 0) (pc' := 8) (by decide +kernel) rfl rfl ?_
    refine gv_getj lk_9_102 (by decide +kernel) rfl rfl (pc' := 11) rfl ?_
    refine gv_icmp_gt (off := 8) (tgt := 19) (pc' := 14) (by decide +kernel) (by decide) rfl (fun h11 => ?_) (fun h11 => ?_)
    · refine gv_iconst (n := 1) (v := 1) (pc' := 20) (by decide +kernel) (by decide) rfl ?_
      refine gv_goto (off := 4) (tgt := 24) (by decide +kernel) (by decide) ?_
      refine gv_putj lp_9_92 (by decide +kernel) rfl rfl rfl rfl (pc' := 27) rfl ?_
      refine gv_aload_n (n := 0) (pc' := 28) (by decide +kernel) rfl rfl ?_
      refine gv_getj lk_9_92 (by decide +kernel) rfl rfl (pc' := 31) rfl ?_
      refine gv_if_le (off := 5) (tgt := 36) (pc' := 34) (by decide +kernel) (by decide) rfl (fun z => by first | exact absurd z (show ¬ (1 : Int32) ≤ 0 by decide) | exact absurd (show ¬ (1 : Int32) ≤ 0 by decide) z) (fun _ => ?_)
      refine gv_iconst (n := 0) (v := 0) (pc' := 35) (by decide +kernel) (by decide) rfl ?_
      exact gv_iret .int (by decide +kernel) rfl rfl (by decide) (by decide) (gv_isr _ _)
    · refine gv_iload_n (n := 2) (pc' := 15) (by decide +kernel) rfl rfl ?_
      refine gv_iconst (n := 1) (v := 1) (pc' := 16) (by decide +kernel) (by decide) rfl ?_
      refine gv_icmp_ge (off := 7) (tgt := 23) (pc' := 19) (by decide +kernel) (by decide) rfl (fun z => by first | exact absurd z (h h3 h11) | exact absurd (h h3 h11) z) (fun _ => ?_)
      refine gv_iconst (n := 1) (v := 1) (pc' := 20) (by decide +kernel) (by decide) rfl ?_
      refine gv_goto (off := 4) (tgt := 24) (by decide +kernel) (by decide) ?_
      refine gv_putj lp_9_92 (by decide +kernel) rfl rfl rfl rfl (pc' := 27) rfl ?_
      refine gv_aload_n (n := 0) (pc' := 28) (by decide +kernel) rfl rfl ?_
      refine gv_getj lk_9_92 (by decide +kernel) rfl rfl (pc' := 31) rfl ?_
      refine gv_if_le (off := 5) (tgt := 36) (pc' := 34) (by decide +kernel) (by decide) rfl (fun z => by first | exact absurd z (show ¬ (1 : Int32) ≤ 0 by decide) | exact absurd (show ¬ (1 : Int32) ≤ 0 by decide) z) (fun _ => ?_)
      refine gv_iconst (n := 0) (v := 0) (pc' := 35) (by decide +kernel) (by decide) rfl ?_
      exact gv_iret .int (by decide +kernel) rfl rfl (by decide) (by decide) (gv_isr _ _)

set_option maxRecDepth 20000 in
theorem c_Leaks_drop (σ : gS) : gv_K m_Leaks_drop [.ref 13] σ (gv_is (.inl (some (.int (gI σ 13 1)))) (gs_I σ 13 1 0)) := by
  refine gv_aload_n (n := 0) (pc' := 1) (by decide +kernel) rfl rfl ?_
  refine gv_getj lk_3_15 (by decide +kernel) rfl rfl (pc' := 4) rfl ?_
  refine gv_istore_n (n := 1) (pc' := 5) (by decide +kernel) (by decide) rfl ?_
  refine gv_aload_n (n := 0) (pc' := 6) (by decide +kernel) rfl rfl ?_
  refine gv_iconst (n := 0) (v := 0) (pc' := 7) (by decide +kernel) (by decide) rfl ?_
  refine gv_putj lp_3_15 (by decide +kernel) rfl rfl rfl rfl (pc' := 10) rfl ?_
  refine gv_iload_n (n := 1) (pc' := 11) (by decide +kernel) rfl rfl ?_
  exact gv_iret .int (by decide +kernel) rfl rfl (by decide) (by decide) (gv_isr _ _)

set_option maxRecDepth 20000 in
theorem c_G_forget (σ : gS) (h : ¬ gI σ 0 9 = 0) : gv_K m_G_forget [.ref 0] σ (gv_is (.inl (some (.int (gI σ 13 1)))) (gs_I σ 13 1 0)) := by
  refine gv_aload_n (n := 0) (pc' := 1) (by decide +kernel) rfl rfl ?_
  refine gv_cv0 (w' := _) (pc' := 4) (c_G_needLoaded σ h) md_G_needLoaded vd_G_needLoaded (Or.inl ml_0_100) (by decide +kernel) (by decide) rfl rfl rfl (Nat.le_of_ble_eq_true rfl) (Nat.le_of_ble_eq_true rfl) (by decide) rfl (fun z => ⟨rfl, z⟩) (by decide) rfl ?_
  refine gv_aload_n (n := 0) (pc' := 5) (by decide +kernel) rfl rfl ?_
  refine gv_getr lk_0_25 (by decide +kernel) rfl rfl (pc' := 8) rfl ?_
  refine gv_getr lk_0_141 (by decide +kernel) rfl rfl (pc' := 11) rfl ?_
  refine gv_cvi (w' := false) (pc' := 14) (c_Leaks_drop σ) md_Leaks_drop vd_Leaks_drop (Or.inl ml_0_151) (by decide +kernel) (by decide) rfl rfl rfl (Nat.le_of_ble_eq_true rfl) (Nat.le_of_ble_eq_true rfl) (by decide) rfl (fun z => by cases z) (by decide) rfl ?_
  exact gv_iret .int (by decide +kernel) rfl rfl (by decide) (by decide) (gv_isr _ _)

set_option maxRecDepth 20000 in
theorem c_M_forget (σ : gS) (h : ¬ gI σ 41 5 = 0) : gv_K m_M_forget [.ref 41] σ (gv_is (.inl (some (.int (gI σ 41 11)))) (gs_I (gs_I σ 41 0 0) 41 11 0)) := by
  refine gv_aload_n (n := 0) (pc' := 1) (by decide +kernel) rfl rfl ?_
  refine gv_aload_n (n := 0) (pc' := 2) (by decide +kernel) rfl rfl ?_
  refine gv_getj lk_9_95 (by decide +kernel) rfl rfl (pc' := 5) rfl ?_
  refine gv_if_eq (off := 7) (tgt := 12) (pc' := 8) (by decide +kernel) (by decide) rfl (fun z => by first | exact absurd z h | exact absurd h z) (fun _ => ?_)
  refine gv_iconst (n := 0) (v := 0) (pc' := 9) (by decide +kernel) (by decide) rfl ?_
  refine gv_goto (off := 4) (tgt := 13) (by decide +kernel) (by decide) ?_
  refine gv_putj lp_9_92 (by decide +kernel) rfl rfl rfl rfl (pc' := 16) rfl ?_
  refine gv_aload_n (n := 0) (pc' := 17) (by decide +kernel) rfl rfl ?_
  refine gv_getj lk_9_92 (by decide +kernel) rfl rfl (pc' := 20) rfl ?_
  refine gv_if_le (off := 5) (tgt := 25) (pc' := 23) (by decide +kernel) (by decide) rfl (fun _ => ?_) (fun z => by first | exact absurd z (show (0 : Int32) ≤ 0 by decide) | exact absurd (show (0 : Int32) ≤ 0 by decide) z)
  refine gv_aload_n (n := 0) (pc' := 26) (by decide +kernel) rfl rfl ?_
  refine gv_getj lk_9_148 (by decide +kernel) rfl rfl (pc' := 29) rfl ?_
  refine gv_istore_n (n := 1) (pc' := 30) (by decide +kernel) (by decide) rfl ?_
  refine gv_aload_n (n := 0) (pc' := 31) (by decide +kernel) rfl rfl ?_
  refine gv_iconst (n := 0) (v := 0) (pc' := 32) (by decide +kernel) (by decide) rfl ?_
  refine gv_putj lp_9_148 (by decide +kernel) rfl rfl rfl rfl (pc' := 35) rfl ?_
  refine gv_iload_n (n := 1) (pc' := 36) (by decide +kernel) rfl rfl ?_
  exact gv_iret .int (by decide +kernel) rfl rfl (by decide) (by decide) (gv_isr _ _)

