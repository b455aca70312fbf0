def R_G_needAllResolved (σ : gS) : gP :=
 if (gI σ 15 6) ≤ 0 then
  some (.inl none)
 else
  some (.inr 1)
set_option maxRecDepth 20000 in
theorem X_G_needAllResolved (σ : gS) (r0 : gQ) (h : R_G_needAllResolved σ = some r0) : gv_K m_G_needAllResolved [.ref 0] σ (gv_is r0 σ) := by
  unfold R_G_needAllResolved at h
  show gv_V m_G_needAllResolved 1 true 0 [some (.ref 0)] [] σ (gv_is r0 σ)
  refine gv_aload_n (n := 0) (pc' := 1) (by decide +kernel) rfl rfl ?_
  refine gv_getr lk_0_25 (by decide +kernel) rfl rfl (pc' := 4) rfl ?_
  refine gv_getr lk_0_189 (by decide +kernel) rfl rfl (pc' := 7) rfl ?_
  refine gv_getj lk_0_193 (by decide +kernel) rfl rfl (pc' := 10) rfl ?_
  refine gv_if_le (off := 11) (tgt := 21) (pc' := 13) (by decide +kernel) (by decide) rfl (fun c10 => ?_) (fun c10 => ?_)
  · replace h := gd_T c10 h
    exact gv_ret (by decide +kernel) rfl (by decide) (by decide) (gd_pE h)
  · replace h := gd_F c10 h
    exact gv_throw th_0_186 (by decide +kernel) (by decide +kernel) (by decide +kernel) (by decide +kernel) (by decide) (by decide) (by decide) (by decide) (gd_pE h)
def F_Machine_put (a : Int32) (b : Int32) (σ : gS) : gR :=
 if a ≤ 0 then
  some (.inl none, σ)
 else
  if 32 ≤ a then
   some (.inl none, σ)
  else
   gd_g (gd_in a 32) <|
   gd_s (gs_A σ 11 a.toNatClampNeg b) fun s1 =>
   some (.inl none, s1)
set_option maxRecDepth 20000 in
theorem X_Machine_put (a : Int32) (b : Int32) (σ : gS) (r0 : gQ × gS) (h : F_Machine_put a b σ = some r0) : gv_K m_Machine_put [.ref 10, .int a, .int b] σ (gv_is r0.1 r0.2) := by
  unfold F_Machine_put at h
  show gv_V m_Machine_put 1 true 0 [some (.ref 10), some (.int a), some (.int b)] [] σ (gv_is r0.1 r0.2)
  refine gv_iload_n (n := 1) (pc' := 1) (by decide +kernel) rfl rfl ?_
  refine gv_if_le (off := 16) (tgt := 17) (pc' := 4) (by decide +kernel) (by decide) rfl (fun c1 => ?_) (fun c1 => ?_)
  · replace h := gd_T c1 h
    exact gv_ret (by decide +kernel) rfl (by decide) (by decide) (gd_rE h)
  · replace h := gd_F c1 h
    refine gv_iload_n (n := 1) (pc' := 5) (by decide +kernel) rfl rfl ?_
    refine gv_bipush (n := 32) (v := 32) (pc' := 7) (by decide +kernel) (by decide) rfl ?_
    refine gv_icmp_ge (off := 10) (tgt := 17) (pc' := 10) (by decide +kernel) (by decide) rfl (fun c7 => ?_) (fun c7 => ?_)
    · replace h := gd_T c7 h
      exact gv_ret (by decide +kernel) rfl (by decide) (by decide) (gd_rE h)
    · replace h := gd_F c7 h
      refine gv_aload_n (n := 0) (pc' := 11) (by decide +kernel) rfl rfl ?_
      refine gv_getr lk_2_9 (by decide +kernel) rfl rfl (pc' := 14) rfl ?_
      refine gv_iload_n (n := 1) (pc' := 15) (by decide +kernel) rfl rfl ?_
      refine gv_iload_n (n := 2) (pc' := 16) (by decide +kernel) rfl rfl ?_
      obtain ⟨g16, h⟩ := gd_gE h
      refine gd_iast (pc' := 17) (by decide +kernel) rfl (gd_inv g16) rfl h (fun s1 h => ?_)
      exact gv_ret (by decide +kernel) rfl (by decide) (by decide) (gd_rE h)
def F_G_set (a : Int32) (b : Int32) (σ : gS) : gR :=
 gd_q0 (R_G_needLoaded σ) σ <|
 gd_q0 (R_G_needAllResolved σ) σ <|
 if a < 1 then
  some (.inr 3, σ)
 else
  if a < 32 then
   gd_0 (F_Machine_put a b σ) fun s1 =>
   some (.inl none, s1)
  else
   some (.inr 3, σ)
set_option maxRecDepth 20000 in
theorem X_G_set (a : Int32) (b : Int32) (σ : gS) (r0 : gQ × gS) (h : F_G_set a b σ = some r0) : gv_K m_G_set [.ref 0, .int a, .int b] σ (gv_is r0.1 r0.2) := by
  unfold F_G_set at h
  show gv_V m_G_set 1 true 0 [some (.ref 0), some (.int a), some (.int b)] [] σ (gv_is r0.1 r0.2)
  refine gv_aload_n (n := 0) (pc' := 1) (by decide +kernel) rfl rfl ?_
  refine gd_dv0 (w' := true) (pc' := 4) (X_G_needLoaded _) h md_G_needLoaded vd_G_needLoaded (Or.inl ml_0_100) (by decide +kernel) (by decide) rfl rfl rfl (Nat.le_of_ble_eq_true rfl) (Nat.le_of_ble_eq_true rfl) (by decide) rfl (fun z => ⟨rfl, z⟩) (by decide) rfl (fun h => ?_)
  refine gv_aload_n (n := 0) (pc' := 5) (by decide +kernel) rfl rfl ?_
  refine gd_dv0 (w' := true) (pc' := 8) (X_G_needAllResolved _) h md_G_needAllResolved vd_G_needAllResolved (Or.inl ml_0_111) (by decide +kernel) (by decide) rfl rfl rfl (Nat.le_of_ble_eq_true rfl) (Nat.le_of_ble_eq_true rfl) (by decide) rfl (fun z => ⟨rfl, z⟩) (by decide) rfl (fun h => ?_)
  refine gv_iload_n (n := 1) (pc' := 9) (by decide +kernel) rfl rfl ?_
  refine gv_iconst (n := 1) (v := 1) (pc' := 10) (by decide +kernel) (by decide) rfl ?_
  refine gv_icmp_lt (off := 9) (tgt := 19) (pc' := 13) (by decide +kernel) (by decide) rfl (fun c10 => ?_) (fun c10 => ?_)
  · replace h := gd_T c10 h
    exact gv_throw th_0_83 (by decide +kernel) (by decide +kernel) (by decide +kernel) (by decide +kernel) (by decide) (by decide) (by decide) (by decide) (gd_rE h)
  · replace h := gd_F c10 h
    refine gv_iload_n (n := 1) (pc' := 14) (by decide +kernel) rfl rfl ?_
    refine gv_bipush (n := 32) (v := 32) (pc' := 16) (by decide +kernel) (by decide) rfl ?_
    refine gv_icmp_lt (off := 11) (tgt := 27) (pc' := 19) (by decide +kernel) (by decide) rfl (fun c16 => ?_) (fun c16 => ?_)
    · replace h := gd_T c16 h
      refine gv_aload_n (n := 0) (pc' := 28) (by decide +kernel) rfl rfl ?_
      refine gv_getr lk_0_25 (by decide +kernel) rfl rfl (pc' := 31) rfl ?_
      refine gv_iload_n (n := 1) (pc' := 32) (by decide +kernel) rfl rfl ?_
      refine gv_iload_n (n := 2) (pc' := 33) (by decide +kernel) rfl rfl ?_
      refine gd_cv0 (w' := false) (pc' := 36) (X_Machine_put _ _ _) h md_Machine_put vd_Machine_put (Or.inl ml_0_114) (by decide +kernel) (by decide) rfl rfl rfl (Nat.le_of_ble_eq_true rfl) (Nat.le_of_ble_eq_true rfl) (by decide) rfl (fun z => by cases z) (by decide) rfl (fun s1 h => ?_)
      exact gv_ret (by decide +kernel) rfl (by decide) (by decide) (gd_rE h)
    · replace h := gd_F c16 h
      exact gv_throw th_0_83 (by decide +kernel) (by decide +kernel) (by decide +kernel) (by decide +kernel) (by decide) (by decide) (by decide) (by decide) (gd_rE h)
def R_Machine_value (a : Int32) (σ : gS) : gP :=
 if a ≤ 0 then
  some (.inl (some (.int 0)))
 else
  if 32 ≤ a then
   some (.inl (some (.int 0)))
  else
   gd_g (gd_in a 32) <|
   some (.inl (some (.int (gA σ 11 a.toNatClampNeg))))
set_option maxRecDepth 20000 in
theorem X_Machine_value (a : Int32) (σ : gS) (r0 : gQ) (h : R_Machine_value a σ = some r0) : gv_K m_Machine_value [.ref 10, .int a] σ (gv_is r0 σ) := by
  unfold R_Machine_value at h
  show gv_V m_Machine_value 1 true 0 [some (.ref 10), some (.int a)] [] σ (gv_is r0 σ)
  refine gv_iload_n (n := 1) (pc' := 1) (by decide +kernel) rfl rfl ?_
  refine gv_if_le (off := 18) (tgt := 19) (pc' := 4) (by decide +kernel) (by decide) rfl (fun c1 => ?_) (fun c1 => ?_)
  · replace h := gd_T c1 h
    refine gv_iconst (n := 0) (v := 0) (pc' := 20) (by decide +kernel) (by decide) rfl ?_
    exact gv_iret .int (by decide +kernel) rfl rfl (by decide) (by decide) (gd_pE h)
  · replace h := gd_F c1 h
    refine gv_iload_n (n := 1) (pc' := 5) (by decide +kernel) rfl rfl ?_
    refine gv_bipush (n := 32) (v := 32) (pc' := 7) (by decide +kernel) (by decide) rfl ?_
    refine gv_icmp_ge (off := 12) (tgt := 19) (pc' := 10) (by decide +kernel) (by decide) rfl (fun c7 => ?_) (fun c7 => ?_)
    · replace h := gd_T c7 h
      refine gv_iconst (n := 0) (v := 0) (pc' := 20) (by decide +kernel) (by decide) rfl ?_
      exact gv_iret .int (by decide +kernel) rfl rfl (by decide) (by decide) (gd_pE h)
    · replace h := gd_F c7 h
      refine gv_aload_n (n := 0) (pc' := 11) (by decide +kernel) rfl rfl ?_
      refine gv_getr lk_2_9 (by decide +kernel) rfl rfl (pc' := 14) rfl ?_
      refine gv_iload_n (n := 1) (pc' := 15) (by decide +kernel) rfl rfl ?_
      obtain ⟨g15, h⟩ := gd_gE h
      refine gj_iald _ (pc' := 16) (by decide +kernel) rfl (gd_inv g15) rfl rfl ?_
      refine gv_goto (off := 4) (tgt := 20) (by decide +kernel) (by decide) ?_
      exact gv_iret .int (by decide +kernel) rfl rfl (by decide) (by decide) (gd_pE h)
def R_G_register (a : Int32) (σ : gS) : gP :=
 gd_p0 (R_G_needLoaded σ) <|
 if a < 0 then
  some (.inr 3)
 else
  if a < 32 then
   gd_pi (R_Machine_value a σ) fun r1 =>
   some (.inl (some (.int r1)))
  else
   some (.inr 3)
set_option maxRecDepth 20000 in
theorem X_G_register (a : Int32) (σ : gS) (r0 : gQ) (h : R_G_register a σ = some r0) : gv_K m_G_register [.ref 0, .int a] σ (gv_is r0 σ) := by
  unfold R_G_register at h
  show gv_V m_G_register 1 true 0 [some (.ref 0), some (.int a)] [] σ (gv_is r0 σ)
  refine gv_aload_n (n := 0) (pc' := 1) (by decide +kernel) rfl rfl ?_
  refine gd_ev0 (w' := true) (pc' := 4) (X_G_needLoaded _) h md_G_needLoaded vd_G_needLoaded (Or.inl ml_0_100) (by decide +kernel) (by decide) rfl rfl rfl (Nat.le_of_ble_eq_true rfl) (Nat.le_of_ble_eq_true rfl) (by decide) rfl (fun z => ⟨rfl, z⟩) (by decide) rfl (fun h => ?_)
  refine gv_iload_n (n := 1) (pc' := 5) (by decide +kernel) rfl rfl ?_
  refine gv_if_lt (off := 9) (tgt := 14) (pc' := 8) (by decide +kernel) (by decide) rfl (fun c5 => ?_) (fun c5 => ?_)
  · replace h := gd_T c5 h
    exact gv_throw th_0_83 (by decide +kernel) (by decide +kernel) (by decide +kernel) (by decide +kernel) (by decide) (by decide) (by decide) (by decide) (gd_pE h)
  · replace h := gd_F c5 h
    refine gv_iload_n (n := 1) (pc' := 9) (by decide +kernel) rfl rfl ?_
    refine gv_bipush (n := 32) (v := 32) (pc' := 11) (by decide +kernel) (by decide) rfl ?_
    refine gv_icmp_lt (off := 11) (tgt := 22) (pc' := 14) (by decide +kernel) (by decide) rfl (fun c11 => ?_) (fun c11 => ?_)
    · replace h := gd_T c11 h
      refine gv_aload_n (n := 0) (pc' := 23) (by decide +kernel) rfl rfl ?_
      refine gv_getr lk_0_25 (by decide +kernel) rfl rfl (pc' := 26) rfl ?_
      refine gv_iload_n (n := 1) (pc' := 27) (by decide +kernel) rfl rfl ?_
      refine gd_evi (w' := true) (pc' := 30) (X_Machine_value _ _) h md_Machine_value vd_Machine_value (Or.inl ml_0_118) (by decide +kernel) (by decide) rfl rfl rfl (Nat.le_of_ble_eq_true rfl) (Nat.le_of_ble_eq_true rfl) (by decide) rfl (fun z => ⟨rfl, z⟩) (by decide) rfl (fun r1 h => ?_)
      exact gv_iret .int (by decide +kernel) rfl rfl (by decide) (by decide) (gd_pE h)
    · replace h := gd_F c11 h
      exact gv_throw th_0_83 (by decide +kernel) (by decide +kernel) (by decide +kernel) (by decide +kernel) (by decide) (by decide) (by decide) (by decide) (gd_pE h)
def B_Machine_write_12 (x_2_1 : Int32) (x_3_2 : Int32) (x_4_3 : Int32) (ag6 : Int32 → gS → gR) (n_5_4 : Int32) (s5 : gS) : gR :=
 if x_2_1 ≤ n_5_4 then
  some (.inl none, s5)
 else
  gd_g (gd_in (x_4_3 + n_5_4) 256) <|
  gd_s (gs_A s5 12 (x_4_3 + n_5_4).toNatClampNeg (vp_nar .byte ((Int32.toInt8 ((Int32.toUInt32 x_3_2 >>> (Int32.toUInt32 ((8 : Int32) * n_5_4) &&& Int32.toUInt32 31)).toInt32)).toInt32))) fun s7 =>
  ag6 (n_5_4 + 1) s7
set_option maxRecDepth 20000 in
theorem L_Machine_write_12 (x_2_1 : Int32) (x_3_2 : Int32) (x_4_3 : Int32) (r0 : gQ × gS) (n : Nat) : ∀ (n_5_4 : Int32) (s5 : gS), gd_lp (fun _ _ => none) (B_Machine_write_12 x_2_1 x_3_2 x_4_3) n n_5_4 s5 = some r0 → gv_V m_Machine_write 1 false 12 [some (.ref 10), none, some (.int x_2_1), some (.int x_3_2), some (.int x_4_3), some (.int n_5_4)] [] s5 (gv_is r0.1 r0.2) := by
  refine gd_lpC (fun (ag6 : Int32 → gS → gR) => ∀ (n_5_4 : Int32) (s5 : gS), ag6 n_5_4 s5 = some r0 → gv_V m_Machine_write 1 false 12 [some (.ref 10), none, some (.int x_2_1), some (.int x_3_2), some (.int x_4_3), some (.int n_5_4)] [] s5 (gv_is r0.1 r0.2)) (fun n_5_4 s5 h => by cases h) (fun ag6 ih n_5_4 s5 h => ?_) n
  unfold B_Machine_write_12 at h
  refine gv_iload (n := 5) (pc' := 14) (by decide +kernel) rfl rfl ?_
  refine gv_iload_n (n := 2) (pc' := 15) (by decide +kernel) rfl rfl ?_
  refine gv_icmp_ge (off := 27) (tgt := 42) (pc' := 18) (by decide +kernel) (by decide) rfl (fun c15 => ?_) (fun c15 => ?_)
  · replace h := gd_T c15 h
    exact gv_ret (by decide +kernel) rfl (by decide) (by decide) (gd_rE h)
  · replace h := gd_F c15 h
    refine gv_aload_n (n := 0) (pc' := 19) (by decide +kernel) rfl rfl ?_
    refine gv_getr lk_2_15 (by decide +kernel) rfl rfl (pc' := 22) rfl ?_
    refine gv_iload (n := 4) (pc' := 24) (by decide +kernel) rfl rfl ?_
    refine gv_iload (n := 5) (pc' := 26) (by decide +kernel) rfl rfl ?_
    refine gv_iadd (pc' := 27) (by decide +kernel) rfl ?_
    refine gv_iload_n (n := 3) (pc' := 28) (by decide +kernel) rfl rfl ?_
    refine gv_bipush (n := 8) (v := 8) (pc' := 30) (by decide +kernel) (by decide) rfl ?_
    refine gv_iload (n := 5) (pc' := 32) (by decide +kernel) rfl rfl ?_
    refine gv_imul (pc' := 33) (by decide +kernel) rfl ?_
    refine gv_iushr (pc' := 34) (by decide +kernel) rfl ?_
    refine gv_i2b (pc' := 35) (by decide +kernel) rfl ?_
    obtain ⟨g35, h⟩ := gd_gE h
    refine gd_bast (pc' := 36) (by decide +kernel) rfl (gd_inv g35) rfl h (fun s7 h => ?_)
    refine gv_iincc (i := 5) (n := 1) (c := 1) (pc' := 39) (by decide +kernel) rfl (by decide) (by decide) rfl ?_
    refine gv_goto (off := -27) (tgt := 12) (by decide +kernel) (by decide) ?_
    exact gd_ar (gl_s (gl_n (gl_s (gl_s (gl_s (gl_s gl_z)))))) (fun z => by cases z) (ih _ _ h)
def F_Machine_write (a : Int32) (b : Int32) (c : Int32) (σ : gS) : gR :=
 gd_lp (fun _ _ => none) (B_Machine_write_12 b c (a &&& ((256 : Int32) - b))) gd_N 0 σ
set_option maxRecDepth 20000 in
theorem X_Machine_write (a : Int32) (b : Int32) (c : Int32) (σ : gS) (r0 : gQ × gS) (h : F_Machine_write a b c σ = some r0) : gv_K m_Machine_write [.ref 10, .int a, .int b, .int c] σ (gv_is r0.1 r0.2) := by
  unfold F_Machine_write at h
  show gv_V m_Machine_write 1 true 0 [some (.ref 10), some (.int a), some (.int b), some (.int c), none, none] [] σ (gv_is r0.1 r0.2)
  refine gv_iload_n (n := 1) (pc' := 1) (by decide +kernel) rfl rfl ?_
  refine gv_sipush (n := 256) (v := 256) (pc' := 4) (by decide +kernel) (by decide) rfl ?_
  refine gv_iload_n (n := 2) (pc' := 5) (by decide +kernel) rfl rfl ?_
  refine gv_isub (pc' := 6) (by decide +kernel) rfl ?_
  refine gv_iand (pc' := 7) (by decide +kernel) rfl ?_
  refine gv_istore (n := 4) (pc' := 9) (by decide +kernel) (by decide) rfl ?_
  refine gv_iconst (n := 0) (v := 0) (pc' := 10) (by decide +kernel) (by decide) rfl ?_
  refine gv_istore (n := 5) (pc' := 12) (by decide +kernel) (by decide) rfl ?_
  exact gd_ar (gl_s (gl_n (gl_s (gl_s (gl_s (gl_s gl_z)))))) (fun z => by cases z) (L_Machine_write_12 _ _ _ r0 _ _ _ h)
def F_G_poke (a : Int32) (b : Int32) (σ : gS) : gR :=
 gd_q0 (R_G_needLoaded σ) σ <|
 gd_q0 (R_G_needAllResolved σ) σ <|
 gd_0 (F_Machine_write a 4 b σ) fun s1 =>
 some (.inl none, s1)
set_option maxRecDepth 20000 in
theorem X_G_poke (a : Int32) (b : Int32) (σ : gS) (r0 : gQ × gS) (h : F_G_poke a b σ = some r0) : gv_K m_G_poke [.ref 0, .int a, .int b] σ (gv_is r0.1 r0.2) := by
  unfold F_G_poke at h
  show gv_V m_G_poke 1 true 0 [some (.ref 0), some (.int a), some (.int b)] [] σ (gv_is r0.1 r0.2)
  refine gv_aload_n (n := 0) (pc' := 1) (by decide +kernel) rfl rfl ?_
  refine gd_dv0 (w' := true) (pc' := 4) (X_G_needLoaded _) h md_G_needLoaded vd_G_needLoaded (Or.inl ml_0_100) (by decide +kernel) (by decide) rfl rfl rfl (Nat.le_of_ble_eq_true rfl) (Nat.le_of_ble_eq_true rfl) (by decide) rfl (fun z => ⟨rfl, z⟩) (by decide) rfl (fun h => ?_)
  refine gv_aload_n (n := 0) (pc' := 5) (by decide +kernel) rfl rfl ?_
  refine gd_dv0 (w' := true) (pc' := 8) (X_G_needAllResolved _) h md_G_needAllResolved vd_G_needAllResolved (Or.inl ml_0_111) (by decide +kernel) (by decide) rfl rfl rfl (Nat.le_of_ble_eq_true rfl) (Nat.le_of_ble_eq_true rfl) (by decide) rfl (fun z => ⟨rfl, z⟩) (by decide) rfl (fun h => ?_)
  refine gv_aload_n (n := 0) (pc' := 9) (by decide +kernel) rfl rfl ?_
  refine gv_getr lk_0_25 (by decide +kernel) rfl rfl (pc' := 12) rfl ?_
  refine gv_iload_n (n := 1) (pc' := 13) (by decide +kernel) rfl rfl ?_
  refine gv_iconst (n := 4) (v := 4) (pc' := 14) (by decide +kernel) (by decide) rfl ?_
  refine gv_iload_n (n := 2) (pc' := 15) (by decide +kernel) rfl rfl ?_
  refine gd_cv0 (w' := false) (pc' := 18) (X_Machine_write _ _ _ _) h md_Machine_write vd_Machine_write (Or.inl ml_0_122) (by decide +kernel) (by decide) rfl rfl rfl (Nat.le_of_ble_eq_true rfl) (Nat.le_of_ble_eq_true rfl) (by decide) rfl (fun z => by cases z) (by decide) rfl (fun s1 h => ?_)
  exact gv_ret (by decide +kernel) rfl (by decide) (by decide) (gd_rE h)
def B_Machine_read_16 (σ : gS) (x_3_1 : Int32) (ag4 : Int32 → Int32 → gP) (n_4_2 : Int32) (n_5_3 : Int32) : gP :=
 if n_5_3 < 0 then
  some (.inl (some (.int n_4_2)))
 else
  gd_g (gd_in (x_3_1 + n_5_3) 256) <|
  ag4 ((n_4_2 <<< ((8 : Int32) &&& 31)) ||| ((gA σ 12 (x_3_1 + n_5_3).toNatClampNeg) &&& (255 : Int32))) (n_5_3 + (-1))
set_option maxRecDepth 20000 in
theorem L_Machine_read_16 (σ : gS) (x_3_1 : Int32) (r0 : gQ) (n : Nat) : ∀ (n_4_2 : Int32) (n_5_3 : Int32), gd_lp (fun _ _ => none) (B_Machine_read_16 σ x_3_1) n n_4_2 n_5_3 = some r0 → gv_V m_Machine_read 1 true 16 [some (.ref 10), none, none, some (.int x_3_1), some (.int n_4_2), some (.int n_5_3)] [] σ (gv_is r0 σ) := by
  refine gd_lpC (fun (ag4 : Int32 → Int32 → gP) => ∀ (n_4_2 : Int32) (n_5_3 : Int32), ag4 n_4_2 n_5_3 = some r0 → gv_V m_Machine_read 1 true 16 [some (.ref 10), none, none, some (.int x_3_1), some (.int n_4_2), some (.int n_5_3)] [] σ (gv_is r0 σ)) (fun n_4_2 n_5_3 h => by cases h) (fun ag4 ih n_4_2 n_5_3 h => ?_) n
  unfold B_Machine_read_16 at h
  refine gv_iload (n := 5) (pc' := 18) (by decide +kernel) rfl rfl ?_
  refine gv_if_lt (off := 30) (tgt := 48) (pc' := 21) (by decide +kernel) (by decide) rfl (fun c18 => ?_) (fun c18 => ?_)
  · replace h := gd_T c18 h
    refine gv_iload (n := 4) (pc' := 50) (by decide +kernel) rfl rfl ?_
    exact gv_iret .int (by decide +kernel) rfl rfl (by decide) (by decide) (gd_pE h)
  · replace h := gd_F c18 h
    refine gv_iload (n := 4) (pc' := 23) (by decide +kernel) rfl rfl ?_
    refine gv_bipush (n := 8) (v := 8) (pc' := 25) (by decide +kernel) (by decide) rfl ?_
    refine gv_ishl (pc' := 26) (by decide +kernel) rfl ?_
    refine gv_aload_n (n := 0) (pc' := 27) (by decide +kernel) rfl rfl ?_
    refine gv_getr lk_2_15 (by decide +kernel) rfl rfl (pc' := 30) rfl ?_
    refine gv_iload_n (n := 3) (pc' := 31) (by decide +kernel) rfl rfl ?_
    refine gv_iload (n := 5) (pc' := 33) (by decide +kernel) rfl rfl ?_
    refine gv_iadd (pc' := 34) (by decide +kernel) rfl ?_
    obtain ⟨g34, h⟩ := gd_gE h
    refine gj_bald _ (pc' := 35) (by decide +kernel) rfl (gd_inv g34) rfl rfl ?_
    refine gv_sipush (n := 255) (v := 255) (pc' := 38) (by decide +kernel) (by decide) rfl ?_
    refine gv_iand (pc' := 39) (by decide +kernel) rfl ?_
    refine gv_ior (pc' := 40) (by decide +kernel) rfl ?_
    refine gv_istore (n := 4) (pc' := 42) (by decide +kernel) (by decide) rfl ?_
    refine gv_iincc (i := 5) (n := (-1)) (c := (-1)) (pc' := 45) (by decide +kernel) rfl (by decide) (by decide) rfl ?_
    refine gv_goto (off := -29) (tgt := 16) (by decide +kernel) (by decide) ?_
    exact gd_ar (gl_s (gl_n (gl_n (gl_s (gl_s (gl_s gl_z)))))) (fun _ => rfl) (ih _ _ h)
def R_Machine_read (a : Int32) (b : Int32) (σ : gS) : gP :=
 gd_lp (fun _ _ => none) (B_Machine_read_16 σ (a &&& ((256 : Int32) - b))) gd_N 0 (b - (1 : Int32))
set_option maxRecDepth 20000 in
theorem X_Machine_read (a : Int32) (b : Int32) (σ : gS) (r0 : gQ) (h : R_Machine_read a b σ = some r0) : gv_K m_Machine_read [.ref 10, .int a, .int b] σ (gv_is r0 σ) := by
  unfold R_Machine_read at h
  show gv_V m_Machine_read 1 true 0 [some (.ref 10), some (.int a), some (.int b), none, none, none] [] σ (gv_is r0 σ)
  refine gv_iload_n (n := 1) (pc' := 1) (by decide +kernel) rfl rfl ?_
  refine gv_sipush (n := 256) (v := 256) (pc' := 4) (by decide +kernel) (by decide) rfl ?_
  refine gv_iload_n (n := 2) (pc' := 5) (by decide +kernel) rfl rfl ?_
  refine gv_isub (pc' := 6) (by decide +kernel) rfl ?_
  refine gv_iand (pc' := 7) (by decide +kernel) rfl ?_
  refine gv_istore_n (n := 3) (pc' := 8) (by decide +kernel) (by decide) rfl ?_
  refine gv_iconst (n := 0) (v := 0) (pc' := 9) (by decide +kernel) (by decide) rfl ?_
  refine gv_istore (n := 4) (pc' := 11) (by decide +kernel) (by decide) rfl ?_
  refine gv_iload_n (n := 2) (pc' := 12) (by decide +kernel) rfl rfl ?_
  refine gv_iconst (n := 1) (v := 1) (pc' := 13) (by decide +kernel) (by decide) rfl ?_
  refine gv_isub (pc' := 14) (by decide +kernel) rfl ?_
  refine gv_istore (n := 5) (pc' := 16) (by decide +kernel) (by decide) rfl ?_
  exact gd_ar (gl_s (gl_n (gl_n (gl_s (gl_s (gl_s gl_z)))))) (fun _ => rfl) (L_Machine_read_16 _ _ r0 _ _ _ h)
def R_G_peek (a : Int32) (σ : gS) : gP :=
 gd_p0 (R_G_needLoaded σ) <|
 gd_pi (R_Machine_read a 4 σ) fun r1 =>
 some (.inl (some (.int r1)))
set_option maxRecDepth 20000 in
theorem X_G_peek (a : Int32) (σ : gS) (r0 : gQ) (h : R_G_peek a σ = some r0) : gv_K m_G_peek [.ref 0, .int a] σ (gv_is r0 σ) := by
  unfold R_G_peek at h
  show gv_V m_G_peek 1 true 0 [some (.ref 0), some (.int a)] [] σ (gv_is r0 σ)
  refine gv_aload_n (n := 0) (pc' := 1) (by decide +kernel) rfl rfl ?_
  refine gd_ev0 (w' := true) (pc' := 4) (X_G_needLoaded _) h md_G_needLoaded vd_G_needLoaded (Or.inl ml_0_100) (by decide +kernel) (by decide) rfl rfl rfl (Nat.le_of_ble_eq_true rfl) (Nat.le_of_ble_eq_true rfl) (by decide) rfl (fun z => ⟨rfl, z⟩) (by decide) rfl (fun h => ?_)
  refine gv_aload_n (n := 0) (pc' := 5) (by decide +kernel) rfl rfl ?_
  refine gv_getr lk_0_25 (by decide +kernel) rfl rfl (pc' := 8) rfl ?_
  refine gv_iload_n (n := 1) (pc' := 9) (by decide +kernel) rfl rfl ?_
  refine gv_iconst (n := 4) (v := 4) (pc' := 10) (by decide +kernel) (by decide) rfl ?_
  refine gd_evi (w' := true) (pc' := 13) (X_Machine_read _ _ _) h md_Machine_read vd_Machine_read (Or.inl ml_0_126) (by decide +kernel) (by decide) rfl rfl rfl (Nat.le_of_ble_eq_true rfl) (Nat.le_of_ble_eq_true rfl) (by decide) rfl (fun z => ⟨rfl, z⟩) (by decide) rfl (fun r1 h => ?_)
  exact gv_iret .int (by decide +kernel) rfl rfl (by decide) (by decide) (gd_pE h)
def R_Leaks_hasRoom (σ : gS) : gP :=
 if 2046 < (gI σ 13 1) then
  some (.inl (some (.int 0)))
 else
  some (.inl (some (.int 1)))
set_option maxRecDepth 20000 in
theorem X_Leaks_hasRoom (σ : gS) (r0 : gQ) (h : R_Leaks_hasRoom σ = some r0) : gv_K m_Leaks_hasRoom [.ref 13] σ (gv_is r0 σ) := by
  unfold R_Leaks_hasRoom at h
  show gv_V m_Leaks_hasRoom 1 true 0 [some (.ref 13)] [] σ (gv_is r0 σ)
  refine gv_aload_n (n := 0) (pc' := 1) (by decide +kernel) rfl rfl ?_
  refine gv_getj lk_3_15 (by decide +kernel) rfl rfl (pc' := 4) rfl ?_
  refine gv_sipush (n := 2046) (v := 2046) (pc' := 7) (by decide +kernel) (by decide) rfl ?_
  refine gv_icmp_gt (off := 7) (tgt := 14) (pc' := 10) (by decide +kernel) (by decide) rfl (fun c7 => ?_) (fun c7 => ?_)
  · replace h := gd_T c7 h
    refine gv_iconst (n := 0) (v := 0) (pc' := 15) (by decide +kernel) (by decide) rfl ?_
    exact gv_iret .boolean (by decide +kernel) rfl rfl (by decide) (by decide) (gd_pE h)
  · replace h := gd_F c7 h
    refine gv_iconst (n := 1) (v := 1) (pc' := 11) (by decide +kernel) (by decide) rfl ?_
    refine gv_goto (off := 4) (tgt := 15) (by decide +kernel) (by decide) ?_
    exact gv_iret .boolean (by decide +kernel) rfl rfl (by decide) (by decide) (gd_pE h)
def R_Machine_canRun (σ : gS) : gP :=
 if (gI σ 10 5) < 0 then
  some (.inl (some (.int 0)))
 else
  if (gI σ 2 7) ≤ (gI σ 10 5) then
   some (.inl (some (.int 0)))
  else
   gd_g (gd_in (gI σ 10 5) 1040) <|
   if (gA σ 3 (gI σ 10 5).toNatClampNeg) = 8 then
    some (.inl (some (.int 0)))
   else
    gd_pi (R_Leaks_hasRoom σ) fun r1 =>
    if r1 = 0 then
     some (.inl (some (.int 0)))
    else
     some (.inl (some (.int 1)))
set_option maxRecDepth 20000 in
theorem X_Machine_canRun (σ : gS) (r0 : gQ) (h : R_Machine_canRun σ = some r0) : gv_K m_Machine_canRun [.ref 10] σ (gv_is r0 σ) := by
  unfold R_Machine_canRun at h
  show gv_V m_Machine_canRun 1 true 0 [some (.ref 10)] [] σ (gv_is r0 σ)
  refine gv_aload_n (n := 0) (pc' := 1) (by decide +kernel) rfl rfl ?_
  refine gv_getj lk_2_33 (by decide +kernel) rfl rfl (pc' := 4) rfl ?_
  refine gv_if_lt (off := 48) (tgt := 52) (pc' := 7) (by decide +kernel) (by decide) rfl (fun c4 => ?_) (fun c4 => ?_)
  · replace h := gd_T c4 h
    refine gv_iconst (n := 0) (v := 0) (pc' := 53) (by decide +kernel) (by decide) rfl ?_
    exact gv_iret .boolean (by decide +kernel) rfl rfl (by decide) (by decide) (gd_pE h)
  · replace h := gd_F c4 h
    refine gv_aload_n (n := 0) (pc' := 8) (by decide +kernel) rfl rfl ?_
    refine gv_getj lk_2_33 (by decide +kernel) rfl rfl (pc' := 11) rfl ?_
    refine gv_aload_n (n := 0) (pc' := 12) (by decide +kernel) rfl rfl ?_
    refine gv_getr lk_2_40 (by decide +kernel) rfl rfl (pc' := 15) rfl ?_
    refine gv_getj lk_2_85 (by decide +kernel) rfl rfl (pc' := 18) rfl ?_
    refine gv_icmp_ge (off := 34) (tgt := 52) (pc' := 21) (by decide +kernel) (by decide) rfl (fun c18 => ?_) (fun c18 => ?_)
    · replace h := gd_T c18 h
      refine gv_iconst (n := 0) (v := 0) (pc' := 53) (by decide +kernel) (by decide) rfl ?_
      exact gv_iret .boolean (by decide +kernel) rfl rfl (by decide) (by decide) (gd_pE h)
    · replace h := gd_F c18 h
      refine gv_aload_n (n := 0) (pc' := 22) (by decide +kernel) rfl rfl ?_
      refine gv_getr lk_2_40 (by decide +kernel) rfl rfl (pc' := 25) rfl ?_
      refine gv_getr lk_2_90 (by decide +kernel) rfl rfl (pc' := 28) rfl ?_
      refine gv_aload_n (n := 0) (pc' := 29) (by decide +kernel) rfl rfl ?_
      refine gv_getj lk_2_33 (by decide +kernel) rfl rfl (pc' := 32) rfl ?_
      obtain ⟨g32, h⟩ := gd_gE h
      refine gj_iald _ (pc' := 33) (by decide +kernel) rfl (gd_inv g32) rfl rfl ?_
      refine gv_bipush (n := 8) (v := 8) (pc' := 35) (by decide +kernel) (by decide) rfl ?_
      refine gv_icmp_eq (off := 17) (tgt := 52) (pc' := 38) (by decide +kernel) (by decide) rfl (fun c35 => ?_) (fun c35 => ?_)
      · replace h := gd_T c35 h
        refine gv_iconst (n := 0) (v := 0) (pc' := 53) (by decide +kernel) (by decide) rfl ?_
        exact gv_iret .boolean (by decide +kernel) rfl rfl (by decide) (by decide) (gd_pE h)
      · replace h := gd_F c35 h
        refine gv_aload_n (n := 0) (pc' := 39) (by decide +kernel) rfl rfl ?_
        refine gv_getr lk_2_22 (by decide +kernel) rfl rfl (pc' := 42) rfl ?_
        refine gd_evi (w' := true) (pc' := 45) (X_Leaks_hasRoom _) h md_Leaks_hasRoom vd_Leaks_hasRoom (Or.inl ml_2_93) (by decide +kernel) (by decide) rfl rfl rfl (Nat.le_of_ble_eq_true rfl) (Nat.le_of_ble_eq_true rfl) (by decide) rfl (fun z => ⟨rfl, z⟩) (by decide) rfl (fun r1 h => ?_)
        refine gv_if_eq (off := 7) (tgt := 52) (pc' := 48) (by decide +kernel) (by decide) rfl (fun c45 => ?_) (fun c45 => ?_)
        · replace h := gd_T c45 h
          refine gv_iconst (n := 0) (v := 0) (pc' := 53) (by decide +kernel) (by decide) rfl ?_
          exact gv_iret .boolean (by decide +kernel) rfl rfl (by decide) (by decide) (gd_pE h)
        · replace h := gd_F c45 h
          refine gv_iconst (n := 1) (v := 1) (pc' := 49) (by decide +kernel) (by decide) rfl ?_
          refine gv_goto (off := 4) (tgt := 53) (by decide +kernel) (by decide) ?_
          exact gv_iret .boolean (by decide +kernel) rfl rfl (by decide) (by decide) (gd_pE h)
def f_Arithmetic_divides (a : Int32) : Int32 :=
 if a < 12 then
  0
 else
  if 15 < a then
   0
  else
   1
set_option maxRecDepth 20000 in
theorem y_Arithmetic_divides (a : Int32) (σ : gS) : gv_K m_Arithmetic_divides [.int a] σ (gv_is (.inl (some (.int (f_Arithmetic_divides a)))) σ) := by
  generalize h : f_Arithmetic_divides a = r0
  unfold f_Arithmetic_divides at h
  show gv_V m_Arithmetic_divides 1 true 0 [some (.int a)] [] σ (gv_is (.inl (some (.int r0))) σ)
  refine gv_iload_n (n := 0) (pc' := 1) (by decide +kernel) rfl rfl ?_
  refine gv_bipush (n := 12) (v := 12) (pc' := 3) (by decide +kernel) (by decide) rfl ?_
  refine gv_icmp_lt (off := 13) (tgt := 16) (pc' := 6) (by decide +kernel) (by decide) rfl (fun c3 => ?_) (fun c3 => ?_)
  · replace h := gd_T c3 h
    refine gv_iconst (n := 0) (v := 0) (pc' := 17) (by decide +kernel) (by decide) rfl ?_
    exact gv_iret .boolean (by decide +kernel) rfl rfl (by decide) (by decide) (gd_vE h)
  · replace h := gd_F c3 h
    refine gv_iload_n (n := 0) (pc' := 7) (by decide +kernel) rfl rfl ?_
    refine gv_bipush (n := 15) (v := 15) (pc' := 9) (by decide +kernel) (by decide) rfl ?_
    refine gv_icmp_gt (off := 7) (tgt := 16) (pc' := 12) (by decide +kernel) (by decide) rfl (fun c9 => ?_) (fun c9 => ?_)
    · replace h := gd_T c9 h
      refine gv_iconst (n := 0) (v := 0) (pc' := 17) (by decide +kernel) (by decide) rfl ?_
      exact gv_iret .boolean (by decide +kernel) rfl rfl (by decide) (by decide) (gd_vE h)
    · replace h := gd_F c9 h
      refine gv_iconst (n := 1) (v := 1) (pc' := 13) (by decide +kernel) (by decide) rfl ?_
      refine gv_goto (off := 4) (tgt := 17) (by decide +kernel) (by decide) ?_
      exact gv_iret .boolean (by decide +kernel) rfl rfl (by decide) (by decide) (gd_vE h)
theorem z_Arithmetic_divides (a : Int32) : f_Arithmetic_divides a = 0 ∨ f_Arithmetic_divides a = 1 := by
  unfold f_Arithmetic_divides
  repeat' split
  all_goals first | exact Or.inl rfl | exact Or.inr rfl
def R_Listing_isDivision (a : Int32) (σ : gS) : gP :=
 gd_g (gd_in a 1040) <|
 if (gA σ 3 a.toNatClampNeg) = 0 then
  gd_g (gd_in a 1040) <|
  if (f_Arithmetic_divides (gA σ 4 a.toNatClampNeg)) = 0 then
   some (.inl (some (.int 0)))
  else
   some (.inl (some (.int 1)))
 else
  some (.inl (some (.int 0)))
set_option maxRecDepth 20000 in
theorem X_Listing_isDivision (a : Int32) (σ : gS) (r0 : gQ) (h : R_Listing_isDivision a σ = some r0) : gv_K m_Listing_isDivision [.ref 2, .int a] σ (gv_is r0 σ) := by
  unfold R_Listing_isDivision at h
  show gv_V m_Listing_isDivision 1 true 0 [some (.ref 2), some (.int a)] [] σ (gv_is r0 σ)
  refine gv_aload_n (n := 0) (pc' := 1) (by decide +kernel) rfl rfl ?_
  refine gv_getr lk_1_9 (by decide +kernel) rfl rfl (pc' := 4) rfl ?_
  refine gv_iload_n (n := 1) (pc' := 5) (by decide +kernel) rfl rfl ?_
  obtain ⟨g5, h⟩ := gd_gE h
  refine gj_iald _ (pc' := 6) (by decide +kernel) rfl (gd_inv g5) rfl rfl ?_
  refine gv_if_ne (off := 19) (tgt := 25) (pc' := 9) (by decide +kernel) (by decide) rfl (fun c6 => ?_) (fun c6 => ?_)
  · replace h := gd_F c6 h
    refine gv_iconst (n := 0) (v := 0) (pc' := 26) (by decide +kernel) (by decide) rfl ?_
    exact gv_iret .boolean (by decide +kernel) rfl rfl (by decide) (by decide) (gd_pE h)
  · replace h := gd_T c6 h
    refine gv_aload_n (n := 0) (pc' := 10) (by decide +kernel) rfl rfl ?_
    refine gv_getr lk_1_15 (by decide +kernel) rfl rfl (pc' := 13) rfl ?_
    refine gv_iload_n (n := 1) (pc' := 14) (by decide +kernel) rfl rfl ?_
    obtain ⟨g14, h⟩ := gd_gE h
    refine gj_iald _ (pc' := 15) (by decide +kernel) rfl (gd_inv g14) rfl rfl ?_
    refine gv_csi (w' := true) (pc' := 18) (y_Arithmetic_divides _ _) md_Arithmetic_divides sd_Arithmetic_divides (Or.inl ml_1_75) (by decide +kernel) (by decide) rfl (Nat.le_of_ble_eq_true rfl) (Nat.le_of_ble_eq_true rfl) (by decide) rfl (fun z => ⟨rfl, z⟩) (by decide) rfl ?_
    refine gv_if_eq (off := 7) (tgt := 25) (pc' := 21) (by decide +kernel) (by decide) rfl (fun c18 => ?_) (fun c18 => ?_)
    · replace h := gd_T c18 h
      refine gv_iconst (n := 0) (v := 0) (pc' := 26) (by decide +kernel) (by decide) rfl ?_
      exact gv_iret .boolean (by decide +kernel) rfl rfl (by decide) (by decide) (gd_pE h)
    · replace h := gd_F c18 h
      refine gv_iconst (n := 1) (v := 1) (pc' := 22) (by decide +kernel) (by decide) rfl ?_
      refine gv_goto (off := 4) (tgt := 26) (by decide +kernel) (by decide) ?_
      exact gv_iret .boolean (by decide +kernel) rfl rfl (by decide) (by decide) (gd_pE h)
def F_Leaks_add (a : Int32) (b : Int32) (σ : gS) : gR :=
 if 2048 ≤ (gI σ 13 1) then
  some (.inl none, σ)
 else
  gd_g (gd_in (gI σ 13 1) 2048) <|
  gd_s (gs_L σ 14 (gI σ 13 1).toNatClampNeg (((Int32.toInt64 a) <<< (Int32.toInt64 (32 : Int32) &&& 63)) ||| ((Int32.toInt64 b) &&& (4294967295 : Int64)))) fun s1 =>
  gd_s (gs_I s1 13 1 ((gI s1 13 1) + (1 : Int32))) fun s2 =>
  some (.inl none, s2)
set_option maxRecDepth 20000 in
theorem X_Leaks_add (a : Int32) (b : Int32) (σ : gS) (r0 : gQ × gS) (h : F_Leaks_add a b σ = some r0) : gv_K m_Leaks_add [.ref 13, .int a, .int b] σ (gv_is r0.1 r0.2) := by
  unfold F_Leaks_add at h
  show gv_V m_Leaks_add 1 true 0 [some (.ref 13), some (.int a), some (.int b)] [] σ (gv_is r0.1 r0.2)
  refine gv_aload_n (n := 0) (pc' := 1) (by decide +kernel) rfl rfl ?_
  refine gv_getj lk_3_15 (by decide +kernel) rfl rfl (pc' := 4) rfl ?_
  refine gv_sipush (n := 2048) (v := 2048) (pc' := 7) (by decide +kernel) (by decide) rfl ?_
  refine gv_icmp_ge (off := 34) (tgt := 41) (pc' := 10) (by decide +kernel) (by decide) rfl (fun c7 => ?_) (fun c7 => ?_)
  · replace h := gd_T c7 h
    exact gv_ret (by decide +kernel) rfl (by decide) (by decide) (gd_rE h)
  · replace h := gd_F c7 h
    refine gv_aload_n (n := 0) (pc' := 11) (by decide +kernel) rfl rfl ?_
    refine gv_getr lk_3_11 (by decide +kernel) rfl rfl (pc' := 14) rfl ?_
    refine gv_aload_n (n := 0) (pc' := 15) (by decide +kernel) rfl rfl ?_
    refine gv_getj lk_3_15 (by decide +kernel) rfl rfl (pc' := 18) rfl ?_
    refine gv_iload_n (n := 1) (pc' := 19) (by decide +kernel) rfl rfl ?_
    refine gv_i2l (pc' := 20) (by decide +kernel) rfl ?_
    refine gv_bipush (n := 32) (v := 32) (pc' := 22) (by decide +kernel) (by decide) rfl ?_
    refine gv_lshl (pc' := 23) (by decide +kernel) rfl ?_
    refine gv_iload_n (n := 2) (pc' := 24) (by decide +kernel) rfl rfl ?_
    refine gv_i2l (pc' := 25) (by decide +kernel) rfl ?_
    refine gv_ldc2 (v := 4294967295) (pc' := 28) (by decide +kernel) cn_3_19 rfl ?_
    refine gv_land (pc' := 29) (by decide +kernel) rfl ?_
    refine gv_lor (pc' := 30) (by decide +kernel) rfl ?_
    obtain ⟨g30, h⟩ := gd_gE h
    refine gd_last (pc' := 31) (by decide +kernel) rfl (gd_inv g30) rfl h (fun s1 h => ?_)
    refine gv_aload_n (n := 0) (pc' := 32) (by decide +kernel) rfl rfl ?_
    refine gv_dup (pc' := 33) (by decide +kernel) rfl rfl ?_
    refine gv_getj lk_3_15 (by decide +kernel) rfl rfl (pc' := 36) rfl ?_
    refine gv_iconst (n := 1) (v := 1) (pc' := 37) (by decide +kernel) (by decide) rfl ?_
    refine gv_iadd (pc' := 38) (by decide +kernel) rfl ?_
    refine gd_puti lp_3_15 (by decide +kernel) rfl rfl rfl rfl (pc' := 41) rfl h (fun s2 h => ?_)
    exact gv_ret (by decide +kernel) rfl (by decide) (by decide) (gd_rE h)
def f_Arithmetic_product (a : Int32) (b : Int32) (c : Int32) : Int32 :=
 if a = 9 then
  Int64.toInt32 (((Int32.toInt64 b) * (Int32.toInt64 c)) >>> (Int32.toInt64 (32 : Int32) &&& 63))
 else if a = 10 then
  Int64.toInt32 (((Int32.toInt64 b) * ((Int32.toInt64 c) &&& (4294967295 : Int64))) >>> (Int32.toInt64 (32 : Int32) &&& 63))
 else if a = 11 then
  Int64.toInt32 ((((Int32.toInt64 b) &&& (4294967295 : Int64)) * ((Int32.toInt64 c) &&& (4294967295 : Int64))) >>> (Int32.toInt64 (32 : Int32) &&& 63))
 else 
  b * c
set_option maxRecDepth 20000 in
theorem y_Arithmetic_product (a : Int32) (b : Int32) (c : Int32) (σ : gS) : gv_K m_Arithmetic_product [.int a, .int b, .int c] σ (gv_is (.inl (some (.int (f_Arithmetic_product a b c)))) σ) := by
  generalize h : f_Arithmetic_product a b c = r0
  unfold f_Arithmetic_product at h
  show gv_V m_Arithmetic_product 1 true 0 [some (.int a), some (.int b), some (.int c)] [] σ (gv_is (.inl (some (.int r0))) σ)
  refine gv_iload_n (n := 0) (pc' := 1) (by decide +kernel) rfl rfl ?_
  by_cases q1_0 : a = 9
  · replace h := gd_T q1_0 h
    refine gd_tbT (dflt := 69) (lo := 9) (hi := 11) (offs := #[27, 37, 51]) (len := 27) (off := 27) (tgt := 28) q1_0 (by decide +kernel) (by decide) (by decide) rfl (by decide) ?_
    refine gv_iload_n (n := 1) (pc' := 29) (by decide +kernel) rfl rfl ?_
    refine gv_i2l (pc' := 30) (by decide +kernel) rfl ?_
    refine gv_iload_n (n := 2) (pc' := 31) (by decide +kernel) rfl rfl ?_
    refine gv_i2l (pc' := 32) (by decide +kernel) rfl ?_
    refine gv_lmul (pc' := 33) (by decide +kernel) rfl ?_
    refine gv_bipush (n := 32) (v := 32) (pc' := 35) (by decide +kernel) (by decide) rfl ?_
    refine gv_lshr (pc' := 36) (by decide +kernel) rfl ?_
    refine gv_l2i (pc' := 37) (by decide +kernel) rfl ?_
    exact gv_iret .int (by decide +kernel) rfl rfl (by decide) (by decide) (gd_vE h)
  replace h := gd_F q1_0 h
  by_cases q1_1 : a = 10
  · replace h := gd_T q1_1 h
    refine gd_tbT (dflt := 69) (lo := 9) (hi := 11) (offs := #[27, 37, 51]) (len := 27) (off := 37) (tgt := 38) q1_1 (by decide +kernel) (by decide) (by decide) rfl (by decide) ?_
    refine gv_iload_n (n := 1) (pc' := 39) (by decide +kernel) rfl rfl ?_
    refine gv_i2l (pc' := 40) (by decide +kernel) rfl ?_
    refine gv_iload_n (n := 2) (pc' := 41) (by decide +kernel) rfl rfl ?_
    refine gv_i2l (pc' := 42) (by decide +kernel) rfl ?_
    refine gv_ldc2 (v := 4294967295) (pc' := 45) (by decide +kernel) cn_11_26 rfl ?_
    refine gv_land (pc' := 46) (by decide +kernel) rfl ?_
    refine gv_lmul (pc' := 47) (by decide +kernel) rfl ?_
    refine gv_bipush (n := 32) (v := 32) (pc' := 49) (by decide +kernel) (by decide) rfl ?_
    refine gv_lshr (pc' := 50) (by decide +kernel) rfl ?_
    refine gv_l2i (pc' := 51) (by decide +kernel) rfl ?_
    exact gv_iret .int (by decide +kernel) rfl rfl (by decide) (by decide) (gd_vE h)
  replace h := gd_F q1_1 h
  by_cases q1_2 : a = 11
  · replace h := gd_T q1_2 h
    refine gd_tbT (dflt := 69) (lo := 9) (hi := 11) (offs := #[27, 37, 51]) (len := 27) (off := 51) (tgt := 52) q1_2 (by decide +kernel) (by decide) (by decide) rfl (by decide) ?_
    refine gv_iload_n (n := 1) (pc' := 53) (by decide +kernel) rfl rfl ?_
    refine gv_i2l (pc' := 54) (by decide +kernel) rfl ?_
    refine gv_ldc2 (v := 4294967295) (pc' := 57) (by decide +kernel) cn_11_26 rfl ?_
    refine gv_land (pc' := 58) (by decide +kernel) rfl ?_
    refine gv_iload_n (n := 2) (pc' := 59) (by decide +kernel) rfl rfl ?_
    refine gv_i2l (pc' := 60) (by decide +kernel) rfl ?_
    refine gv_ldc2 (v := 4294967295) (pc' := 63) (by decide +kernel) cn_11_26 rfl ?_
    refine gv_land (pc' := 64) (by decide +kernel) rfl ?_
    refine gv_lmul (pc' := 65) (by decide +kernel) rfl ?_
    refine gv_bipush (n := 32) (v := 32) (pc' := 67) (by decide +kernel) (by decide) rfl ?_
    refine gv_lshr (pc' := 68) (by decide +kernel) rfl ?_
    refine gv_l2i (pc' := 69) (by decide +kernel) rfl ?_
    exact gv_iret .int (by decide +kernel) rfl rfl (by decide) (by decide) (gd_vE h)
  replace h := gd_F q1_2 h
  refine gv_tableOut (dflt := 69) (lo := 9) (hi := 11) (offs := #[27, 37, 51]) (len := 27) (tgt := 70) (by decide +kernel) (gd_tbs (a := 11) (gd_tbs (a := 10) (gd_tbs (a := 9) (gd_tb0 (lo := 9)) q1_0 (by decide) (by decide)) q1_1 (by decide) (by decide)) q1_2 (by decide) (by decide)) (by decide) ?_
  refine gv_iload_n (n := 1) (pc' := 71) (by decide +kernel) rfl rfl ?_
  refine gv_iload_n (n := 2) (pc' := 72) (by decide +kernel) rfl rfl ?_
  refine gv_imul (pc' := 73) (by decide +kernel) rfl ?_
  exact gv_iret .int (by decide +kernel) rfl rfl (by decide) (by decide) (gd_vE h)
def f_Arithmetic_lessUnsigned (a : Int32) (b : Int32) : Int32 :=
 if 0 ≤ (lg_cmp ((Int32.toInt64 a) &&& (4294967295 : Int64)) ((Int32.toInt64 b) &&& (4294967295 : Int64))) then
  0
 else
  1
set_option maxRecDepth 20000 in
theorem y_Arithmetic_lessUnsigned (a : Int32) (b : Int32) (σ : gS) : gv_K m_Arithmetic_lessUnsigned [.int a, .int b] σ (gv_is (.inl (some (.int (f_Arithmetic_lessUnsigned a b)))) σ) := by
  generalize h : f_Arithmetic_lessUnsigned a b = r0
  unfold f_Arithmetic_lessUnsigned at h
  show gv_V m_Arithmetic_lessUnsigned 1 true 0 [some (.int a), some (.int b)] [] σ (gv_is (.inl (some (.int r0))) σ)
  refine gv_iload_n (n := 0) (pc' := 1) (by decide +kernel) rfl rfl ?_
  refine gv_i2l (pc' := 2) (by decide +kernel) rfl ?_
  refine gv_ldc2 (v := 4294967295) (pc' := 5) (by decide +kernel) cn_11_26 rfl ?_
  refine gv_land (pc' := 6) (by decide +kernel) rfl ?_
  refine gv_iload_n (n := 1) (pc' := 7) (by decide +kernel) rfl rfl ?_
  refine gv_i2l (pc' := 8) (by decide +kernel) rfl ?_
  refine gv_ldc2 (v := 4294967295) (pc' := 11) (by decide +kernel) cn_11_26 rfl ?_
  refine gv_land (pc' := 12) (by decide +kernel) rfl ?_
  refine gv_lcmp (pc' := 13) (by decide +kernel) rfl ?_
  refine gv_if_ge (off := 7) (tgt := 20) (pc' := 16) (by decide +kernel) (by decide) rfl (fun c13 => ?_) (fun c13 => ?_)
  · replace h := gd_T c13 h
    refine gv_iconst (n := 0) (v := 0) (pc' := 21) (by decide +kernel) (by decide) rfl ?_
    exact gv_iret .boolean (by decide +kernel) rfl rfl (by decide) (by decide) (gd_vE h)
  · replace h := gd_F c13 h
    refine gv_iconst (n := 1) (v := 1) (pc' := 17) (by decide +kernel) (by decide) rfl ?_
    refine gv_goto (off := 4) (tgt := 21) (by decide +kernel) (by decide) ?_
    exact gv_iret .boolean (by decide +kernel) rfl rfl (by decide) (by decide) (gd_vE h)
theorem z_Arithmetic_lessUnsigned (a : Int32) (b : Int32) : f_Arithmetic_lessUnsigned a b = 0 ∨ f_Arithmetic_lessUnsigned a b = 1 := by
  unfold f_Arithmetic_lessUnsigned
  repeat' split
  all_goals first | exact Or.inl rfl | exact Or.inr rfl
def R_Arithmetic_quotient (a : Int32) (b : Int32) (c : Int32) (σ : gS) : gP :=
 gd_t (α := Int32) (if a = 13 then
   0
  else
   if a = 15 then
    0
   else
    1) fun v2 =>
 gd_t (α := Int64) (if v2 = 0 then
   ((Int32.toInt64 b) &&& (4294967295 : Int64))
  else
   (Int32.toInt64 b)) fun v4 =>
 gd_t (α := Int64) (if v2 = 0 then
   ((Int32.toInt64 c) &&& (4294967295 : Int64))
  else
   (Int32.toInt64 c)) fun v6 =>
 gd_t (α := Int32) (if a = 14 then
   1
  else
   if a = 15 then
    1
   else
    0) fun v8 =>
 if (lg_cmp v6 (0 : Int64)) = 0 then
  if v8 = 0 then
   some (.inl (some (.int (-1))))
  else
   some (.inl (some (.int b)))
 else
  gd_j (α := Int64 → gP) (fun (v10 : Int64) =>
   some (.inl (some (.int (Int64.toInt32 v10))))) fun J9 =>
  if v8 = 0 then
   gd_g (¬ v6 = 0) <|
   J9 (v4 / v6)
  else
   gd_g (¬ v6 = 0) <|
   J9 (v4 - v4 / v6 * v6)
set_option maxRecDepth 20000 in
theorem X_Arithmetic_quotient (a : Int32) (b : Int32) (c : Int32) (σ : gS) (r0 : gQ) (h : R_Arithmetic_quotient a b c σ = some r0) : gv_K m_Arithmetic_quotient [.int a, .int b, .int c] σ (gv_is r0 σ) := by
  unfold R_Arithmetic_quotient at h
  show gv_V m_Arithmetic_quotient 1 true 0 [some (.int a), some (.int b), some (.int c), none, none, none, none, none, none] [] σ (gv_is r0 σ)
  refine gv_iload_n (n := 0) (pc' := 1) (by decide +kernel) rfl rfl ?_
  refine gv_bipush (n := 13) (v := 13) (pc' := 3) (by decide +kernel) (by decide) rfl ?_
  refine gd_tC (fun (v2 : Int32) => gv_V m_Arithmetic_quotient 1 true 17 [some (.int a), some (.int b), some (.int c), none, none, none, none, none, none] [.int v2] σ (gv_is r0 σ)) h (fun v2 h => ?_) (fun KJ1 hJ1 h => ?_)
  · refine gv_istore_n (n := 3) (pc' := 18) (by decide +kernel) (by decide) rfl ?_
    refine gv_iload_n (n := 3) (pc' := 19) (by decide +kernel) rfl rfl ?_
    refine gd_tC (fun (v4 : Int64) => gv_V m_Arithmetic_quotient 1 true 33 [some (.int a), some (.int b), some (.int c), some (.int v2), none, none, none, none, none] [.long v4] σ (gv_is r0 σ)) h (fun v4 h => ?_) (fun KJ3 hJ3 h => ?_)
    · refine gv_lstore (n := 4) (pc' := 35) (by decide +kernel) (by decide) rfl ?_
      refine gv_iload_n (n := 3) (pc' := 36) (by decide +kernel) rfl rfl ?_
      refine gd_tC (fun (v6 : Int64) => gv_V m_Arithmetic_quotient 1 true 50 [some (.int a), some (.int b), none, none, some (.long v4), none, none, none, none] [.long v6] σ (gv_is r0 σ)) h (fun v6 h => ?_) (fun KJ5 hJ5 h => ?_)
      · refine gv_lstore (n := 6) (pc' := 52) (by decide +kernel) (by decide) rfl ?_
        refine gv_iload_n (n := 0) (pc' := 53) (by decide +kernel) rfl rfl ?_
        refine gv_bipush (n := 14) (v := 14) (pc' := 55) (by decide +kernel) (by decide) rfl ?_
        refine gd_tC (fun (v8 : Int32) => gv_V m_Arithmetic_quotient 1 true 69 [none, some (.int b), none, none, some (.long v4), none, some (.long v6), none, none] [.int v8] σ (gv_is r0 σ)) h (fun v8 h => ?_) (fun KJ7 hJ7 h => ?_)
        · refine gv_istore (n := 8) (pc' := 71) (by decide +kernel) (by decide) rfl ?_
          refine gv_lload (n := 6) (pc' := 73) (by decide +kernel) rfl rfl ?_
          refine gv_lconst (n := 0) (v := 0) (pc' := 74) (by decide +kernel) (by decide) rfl ?_
          refine gv_lcmp (pc' := 75) (by decide +kernel) rfl ?_
          refine gv_if_ne (off := 14) (tgt := 89) (pc' := 78) (by decide +kernel) (by decide) rfl (fun c75 => ?_) (fun c75 => ?_)
          · replace h := gd_F c75 h
            refine gv_iload (n := 8) (pc' := 91) (by decide +kernel) rfl rfl ?_
            refine gd_jC (fun J9 => ∀ (v10 : Int64), J9 v10 = some r0 → gv_V m_Arithmetic_quotient 1 true 107 [none, none, none, none, none, none, none, none, none] [.long v10] σ (gv_is r0 σ)) h (fun v10 h => ?_) (fun J9 hJ9 h => ?_)
            · refine gv_l2i (pc' := 108) (by decide +kernel) rfl ?_
              exact gv_iret .int (by decide +kernel) rfl rfl (by decide) (by decide) (gd_pE h)
            · refine gv_if_eq (off := 11) (tgt := 102) (pc' := 94) (by decide +kernel) (by decide) rfl (fun c91 => ?_) (fun c91 => ?_)
              · replace h := gd_T c91 h
                refine gv_lload (n := 4) (pc' := 104) (by decide +kernel) rfl rfl ?_
                refine gv_lload (n := 6) (pc' := 106) (by decide +kernel) rfl rfl ?_
                obtain ⟨g106, h⟩ := gd_gE h
                refine gv_ldiv (pc' := 107) (by decide +kernel) g106 rfl ?_
                exact gd_ar (gl_n (gl_n (gl_n (gl_n (gl_n (gl_n (gl_n (gl_n (gl_n gl_z))))))))) (fun _ => rfl) (hJ9 _ h)
              · replace h := gd_F c91 h
                refine gv_lload (n := 4) (pc' := 96) (by decide +kernel) rfl rfl ?_
                refine gv_lload (n := 6) (pc' := 98) (by decide +kernel) rfl rfl ?_
                obtain ⟨g98, h⟩ := gd_gE h
                refine gv_lrem (pc' := 99) (by decide +kernel) g98 rfl ?_
                refine gv_goto (off := 8) (tgt := 107) (by decide +kernel) (by decide) ?_
                exact gd_ar (gl_n (gl_n (gl_n (gl_n (gl_n (gl_n (gl_n (gl_n (gl_n gl_z))))))))) (fun _ => rfl) (hJ9 _ h)
          · replace h := gd_T c75 h
            refine gv_iload (n := 8) (pc' := 80) (by decide +kernel) rfl rfl ?_
            refine gv_if_eq (off := 7) (tgt := 87) (pc' := 83) (by decide +kernel) (by decide) rfl (fun c80 => ?_) (fun c80 => ?_)
            · replace h := gd_T c80 h
              refine gv_iconst (n := (-1)) (v := (-1)) (pc' := 88) (by decide +kernel) (by decide) rfl ?_
              exact gv_iret .int (by decide +kernel) rfl rfl (by decide) (by decide) (gd_pE h)
            · replace h := gd_F c80 h
              refine gv_iload_n (n := 1) (pc' := 84) (by decide +kernel) rfl rfl ?_
              refine gv_goto (off := 4) (tgt := 88) (by decide +kernel) (by decide) ?_
              exact gv_iret .int (by decide +kernel) rfl rfl (by decide) (by decide) (gd_pE h)
        · refine gv_icmp_eq (off := 9) (tgt := 64) (pc' := 58) (by decide +kernel) (by decide) rfl (fun c55 => ?_) (fun c55 => ?_)
          · replace h := gd_tT c55 h
            refine gv_iconst (n := 1) (v := 1) (pc' := 65) (by decide +kernel) (by decide) rfl ?_
            refine gv_goto (off := 4) (tgt := 69) (by decide +kernel) (by decide) ?_
            exact gd_ar (gl_n (gl_s (gl_n (gl_n (gl_s (gl_n (gl_s (gl_n (gl_n gl_z))))))))) (fun _ => rfl) (hJ7 _ h)
          · replace h := gd_tF c55 h
            refine gv_iload_n (n := 0) (pc' := 59) (by decide +kernel) rfl rfl ?_
            refine gv_bipush (n := 15) (v := 15) (pc' := 61) (by decide +kernel) (by decide) rfl ?_
            refine gv_icmp_ne (off := 7) (tgt := 68) (pc' := 64) (by decide +kernel) (by decide) rfl (fun c61 => ?_) (fun c61 => ?_)
            · replace h := gd_tF c61 h
              refine gv_iconst (n := 0) (v := 0) (pc' := 69) (by decide +kernel) (by decide) rfl ?_
              exact gd_ar (gl_n (gl_s (gl_n (gl_n (gl_s (gl_n (gl_s (gl_n (gl_n gl_z))))))))) (fun _ => rfl) (hJ7 _ h)
            · replace h := gd_tT c61 h
              refine gv_iconst (n := 1) (v := 1) (pc' := 65) (by decide +kernel) (by decide) rfl ?_
              refine gv_goto (off := 4) (tgt := 69) (by decide +kernel) (by decide) ?_
              exact gd_ar (gl_n (gl_s (gl_n (gl_n (gl_s (gl_n (gl_s (gl_n (gl_n gl_z))))))))) (fun _ => rfl) (hJ7 _ h)
      · refine gv_if_eq (off := 8) (tgt := 44) (pc' := 39) (by decide +kernel) (by decide) rfl (fun c36 => ?_) (fun c36 => ?_)
        · replace h := gd_tT c36 h
          refine gv_iload_n (n := 2) (pc' := 45) (by decide +kernel) rfl rfl ?_
          refine gv_i2l (pc' := 46) (by decide +kernel) rfl ?_
          refine gv_ldc2 (v := 4294967295) (pc' := 49) (by decide +kernel) cn_11_26 rfl ?_
          refine gv_land (pc' := 50) (by decide +kernel) rfl ?_
          exact gd_ar (gl_s (gl_s (gl_n (gl_n (gl_s (gl_n (gl_n (gl_n (gl_n gl_z))))))))) (fun _ => rfl) (hJ5 _ h)
        · replace h := gd_tF c36 h
          refine gv_iload_n (n := 2) (pc' := 40) (by decide +kernel) rfl rfl ?_
          refine gv_i2l (pc' := 41) (by decide +kernel) rfl ?_
          refine gv_goto (off := 9) (tgt := 50) (by decide +kernel) (by decide) ?_
          exact gd_ar (gl_s (gl_s (gl_n (gl_n (gl_s (gl_n (gl_n (gl_n (gl_n gl_z))))))))) (fun _ => rfl) (hJ5 _ h)
    · refine gv_if_eq (off := 8) (tgt := 27) (pc' := 22) (by decide +kernel) (by decide) rfl (fun c19 => ?_) (fun c19 => ?_)
      · replace h := gd_tT c19 h
        refine gv_iload_n (n := 1) (pc' := 28) (by decide +kernel) rfl rfl ?_
        refine gv_i2l (pc' := 29) (by decide +kernel) rfl ?_
        refine gv_ldc2 (v := 4294967295) (pc' := 32) (by decide +kernel) cn_11_26 rfl ?_
        refine gv_land (pc' := 33) (by decide +kernel) rfl ?_
        exact gd_ar (gl_s (gl_s (gl_s (gl_s (gl_n (gl_n (gl_n (gl_n (gl_n gl_z))))))))) (fun _ => rfl) (hJ3 _ h)
      · replace h := gd_tF c19 h
        refine gv_iload_n (n := 1) (pc' := 23) (by decide +kernel) rfl rfl ?_
        refine gv_i2l (pc' := 24) (by decide +kernel) rfl ?_
        refine gv_goto (off := 9) (tgt := 33) (by decide +kernel) (by decide) ?_
        exact gd_ar (gl_s (gl_s (gl_s (gl_s (gl_n (gl_n (gl_n (gl_n (gl_n gl_z))))))))) (fun _ => rfl) (hJ3 _ h)
  · refine gv_icmp_eq (off := 13) (tgt := 16) (pc' := 6) (by decide +kernel) (by decide) rfl (fun c3 => ?_) (fun c3 => ?_)
    · replace h := gd_tT c3 h
      refine gv_iconst (n := 0) (v := 0) (pc' := 17) (by decide +kernel) (by decide) rfl ?_
      exact gd_ar (gl_s (gl_s (gl_s (gl_n (gl_n (gl_n (gl_n (gl_n (gl_n gl_z))))))))) (fun _ => rfl) (hJ1 _ h)
    · replace h := gd_tF c3 h
      refine gv_iload_n (n := 0) (pc' := 7) (by decide +kernel) rfl rfl ?_
      refine gv_bipush (n := 15) (v := 15) (pc' := 9) (by decide +kernel) (by decide) rfl ?_
      refine gv_icmp_eq (off := 7) (tgt := 16) (pc' := 12) (by decide +kernel) (by decide) rfl (fun c9 => ?_) (fun c9 => ?_)
      · replace h := gd_tT c9 h
        refine gv_iconst (n := 0) (v := 0) (pc' := 17) (by decide +kernel) (by decide) rfl ?_
        exact gd_ar (gl_s (gl_s (gl_s (gl_n (gl_n (gl_n (gl_n (gl_n (gl_n gl_z))))))))) (fun _ => rfl) (hJ1 _ h)
      · replace h := gd_tF c9 h
        refine gv_iconst (n := 1) (v := 1) (pc' := 13) (by decide +kernel) (by decide) rfl ?_
        refine gv_goto (off := 4) (tgt := 17) (by decide +kernel) (by decide) ?_
        exact gd_ar (gl_s (gl_s (gl_s (gl_n (gl_n (gl_n (gl_n (gl_n (gl_n gl_z))))))))) (fun _ => rfl) (hJ1 _ h)
def R_Arithmetic_answer (a : Int32) (b : Int32) (c : Int32) (σ : gS) : gP :=
 gd_j (α := gP) (
  if (f_Arithmetic_divides a) = 0 then
   if a = 0 then
    some (.inl (some (.int (b + c))))
   else if a = 1 then
    some (.inl (some (.int (b <<< ((c &&& (31 : Int32)) &&& 31)))))
   else if a = 2 then
    if c ≤ b then
     some (.inl (some (.int 0)))
    else
     some (.inl (some (.int 1)))
   else if a = 3 then
    if (f_Arithmetic_lessUnsigned b c) = 0 then
     some (.inl (some (.int 0)))
    else
     some (.inl (some (.int 1)))
   else if a = 4 then
    some (.inl (some (.int (b ^^^ c))))
   else if a = 5 then
    some (.inl (some (.int ((Int32.toUInt32 b >>> (Int32.toUInt32 (c &&& (31 : Int32)) &&& Int32.toUInt32 31)).toInt32))))
   else if a = 6 then
    some (.inl (some (.int (b ||| c))))
   else if a = 7 then
    some (.inl (some (.int (b &&& c))))
   else if a = 8 then
    some (.inl (some (.int 0)))
   else if a = 9 then
    some (.inl (some (.int 0)))
   else if a = 10 then
    some (.inl (some (.int 0)))
   else if a = 11 then
    some (.inl (some (.int 0)))
   else if a = 12 then
    some (.inl (some (.int 0)))
   else if a = 13 then
    some (.inl (some (.int 0)))
   else if a = 14 then
    some (.inl (some (.int 0)))
   else if a = 15 then
    some (.inl (some (.int 0)))
   else if a = 16 then
    some (.inl (some (.int (b - c))))
   else if a = 17 then
    some (.inl (some (.int (b >>> ((c &&& (31 : Int32)) &&& 31)))))
   else 
    some (.inl (some (.int 0)))
  else
   gd_pi (R_Arithmetic_quotient a b c σ) fun r2 =>
   some (.inl (some (.int r2)))) fun J1 =>
 if a < 8 then
  J1
 else
  if 11 < a then
   J1
  else
   some (.inl (some (.int (f_Arithmetic_product a b c))))
set_option maxRecDepth 20000 in
theorem X_Arithmetic_answer (a : Int32) (b : Int32) (c : Int32) (σ : gS) (r0 : gQ) (h : R_Arithmetic_answer a b c σ = some r0) : gv_K m_Arithmetic_answer [.int a, .int b, .int c] σ (gv_is r0 σ) := by
  unfold R_Arithmetic_answer at h
  show gv_V m_Arithmetic_answer 1 true 0 [some (.int a), some (.int b), some (.int c)] [] σ (gv_is r0 σ)
  refine gv_iload_n (n := 0) (pc' := 1) (by decide +kernel) rfl rfl ?_
  refine gv_bipush (n := 8) (v := 8) (pc' := 3) (by decide +kernel) (by decide) rfl ?_
  refine gd_jC (fun J1 => J1 = some r0 → gv_V m_Arithmetic_answer 1 true 19 [some (.int a), some (.int b), some (.int c)] [] σ (gv_is r0 σ)) h (fun  h => ?_) (fun J1 hJ1 h => ?_)
  · refine gv_iload_n (n := 0) (pc' := 20) (by decide +kernel) rfl rfl ?_
    refine gv_csi (w' := true) (pc' := 23) (y_Arithmetic_divides _ _) md_Arithmetic_divides sd_Arithmetic_divides (Or.inl ml_11_15) (by decide +kernel) (by decide) rfl (Nat.le_of_ble_eq_true rfl) (Nat.le_of_ble_eq_true rfl) (by decide) rfl (fun z => ⟨rfl, z⟩) (by decide) rfl ?_
    refine gv_if_eq (off := 10) (tgt := 33) (pc' := 26) (by decide +kernel) (by decide) rfl (fun c23 => ?_) (fun c23 => ?_)
    · replace h := gd_T c23 h
      refine gv_iload_n (n := 0) (pc' := 34) (by decide +kernel) rfl rfl ?_
      by_cases q34_0 : a = 0
      · replace h := gd_T q34_0 h
        refine gd_tbT (dflt := 152) (lo := 0) (hi := 17) (offs := #[86, 94, 115, 126, 140, 101, 144, 148, 152, 152, 152, 152, 152, 152, 152, 152, 90, 108]) (len := 86) (off := 86) (tgt := 120) q34_0 (by decide +kernel) (by decide) (by decide) rfl (by decide) ?_
        refine gv_iload_n (n := 1) (pc' := 121) (by decide +kernel) rfl rfl ?_
        refine gv_iload_n (n := 2) (pc' := 122) (by decide +kernel) rfl rfl ?_
        refine gv_iadd (pc' := 123) (by decide +kernel) rfl ?_
        exact gv_iret .int (by decide +kernel) rfl rfl (by decide) (by decide) (gd_pE h)
      replace h := gd_F q34_0 h
      by_cases q34_1 : a = 1
      · replace h := gd_T q34_1 h
        refine gd_tbT (dflt := 152) (lo := 0) (hi := 17) (offs := #[86, 94, 115, 126, 140, 101, 144, 148, 152, 152, 152, 152, 152, 152, 152, 152, 90, 108]) (len := 86) (off := 94) (tgt := 128) q34_1 (by decide +kernel) (by decide) (by decide) rfl (by decide) ?_
        refine gv_iload_n (n := 1) (pc' := 129) (by decide +kernel) rfl rfl ?_
        refine gv_iload_n (n := 2) (pc' := 130) (by decide +kernel) rfl rfl ?_
        refine gv_bipush (n := 31) (v := 31) (pc' := 132) (by decide +kernel) (by decide) rfl ?_
        refine gv_iand (pc' := 133) (by decide +kernel) rfl ?_
        refine gv_ishl (pc' := 134) (by decide +kernel) rfl ?_
        exact gv_iret .int (by decide +kernel) rfl rfl (by decide) (by decide) (gd_pE h)
      replace h := gd_F q34_1 h
      by_cases q34_2 : a = 2
      · replace h := gd_T q34_2 h
        refine gd_tbT (dflt := 152) (lo := 0) (hi := 17) (offs := #[86, 94, 115, 126, 140, 101, 144, 148, 152, 152, 152, 152, 152, 152, 152, 152, 90, 108]) (len := 86) (off := 115) (tgt := 149) q34_2 (by decide +kernel) (by decide) (by decide) rfl (by decide) ?_
        refine gv_iload_n (n := 1) (pc' := 150) (by decide +kernel) rfl rfl ?_
        refine gv_iload_n (n := 2) (pc' := 151) (by decide +kernel) rfl rfl ?_
        refine gv_icmp_ge (off := 7) (tgt := 158) (pc' := 154) (by decide +kernel) (by decide) rfl (fun c151 => ?_) (fun c151 => ?_)
        · replace h := gd_T c151 h
          refine gv_iconst (n := 0) (v := 0) (pc' := 159) (by decide +kernel) (by decide) rfl ?_
          exact gv_iret .int (by decide +kernel) rfl rfl (by decide) (by decide) (gd_pE h)
        · replace h := gd_F c151 h
          refine gv_iconst (n := 1) (v := 1) (pc' := 155) (by decide +kernel) (by decide) rfl ?_
          refine gv_goto (off := 4) (tgt := 159) (by decide +kernel) (by decide) ?_
          exact gv_iret .int (by decide +kernel) rfl rfl (by decide) (by decide) (gd_pE h)
      replace h := gd_F q34_2 h
      by_cases q34_3 : a = 3
      · replace h := gd_T q34_3 h
        refine gd_tbT (dflt := 152) (lo := 0) (hi := 17) (offs := #[86, 94, 115, 126, 140, 101, 144, 148, 152, 152, 152, 152, 152, 152, 152, 152, 90, 108]) (len := 86) (off := 126) (tgt := 160) q34_3 (by decide +kernel) (by decide) (by decide) rfl (by decide) ?_
        refine gv_iload_n (n := 1) (pc' := 161) (by decide +kernel) rfl rfl ?_
        refine gv_iload_n (n := 2) (pc' := 162) (by decide +kernel) rfl rfl ?_
        refine gv_csi (w' := true) (pc' := 165) (y_Arithmetic_lessUnsigned _ _ _) md_Arithmetic_lessUnsigned sd_Arithmetic_lessUnsigned (Or.inl ml_11_22) (by decide +kernel) (by decide) rfl (Nat.le_of_ble_eq_true rfl) (Nat.le_of_ble_eq_true rfl) (by decide) rfl (fun z => ⟨rfl, z⟩) (by decide) rfl ?_
        refine gv_if_eq (off := 7) (tgt := 172) (pc' := 168) (by decide +kernel) (by decide) rfl (fun c165 => ?_) (fun c165 => ?_)
        · replace h := gd_T c165 h
          refine gv_iconst (n := 0) (v := 0) (pc' := 173) (by decide +kernel) (by decide) rfl ?_
          exact gv_iret .int (by decide +kernel) rfl rfl (by decide) (by decide) (gd_pE h)
        · replace h := gd_F c165 h
          refine gv_iconst (n := 1) (v := 1) (pc' := 169) (by decide +kernel) (by decide) rfl ?_
          refine gv_goto (off := 4) (tgt := 173) (by decide +kernel) (by decide) ?_
          exact gv_iret .int (by decide +kernel) rfl rfl (by decide) (by decide) (gd_pE h)
      replace h := gd_F q34_3 h
      by_cases q34_4 : a = 4
      · replace h := gd_T q34_4 h
        refine gd_tbT (dflt := 152) (lo := 0) (hi := 17) (offs := #[86, 94, 115, 126, 140, 101, 144, 148, 152, 152, 152, 152, 152, 152, 152, 152, 90, 108]) (len := 86) (off := 140) (tgt := 174) q34_4 (by decide +kernel) (by decide) (by decide) rfl (by decide) ?_
        refine gv_iload_n (n := 1) (pc' := 175) (by decide +kernel) rfl rfl ?_
        refine gv_iload_n (n := 2) (pc' := 176) (by decide +kernel) rfl rfl ?_
        refine gv_ixor (pc' := 177) (by decide +kernel) rfl ?_
        exact gv_iret .int (by decide +kernel) rfl rfl (by decide) (by decide) (gd_pE h)
      replace h := gd_F q34_4 h
      by_cases q34_5 : a = 5
      · replace h := gd_T q34_5 h
        refine gd_tbT (dflt := 152) (lo := 0) (hi := 17) (offs := #[86, 94, 115, 126, 140, 101, 144, 148, 152, 152, 152, 152, 152, 152, 152, 152, 90, 108]) (len := 86) (off := 101) (tgt := 135) q34_5 (by decide +kernel) (by decide) (by decide) rfl (by decide) ?_
        refine gv_iload_n (n := 1) (pc' := 136) (by decide +kernel) rfl rfl ?_
        refine gv_iload_n (n := 2) (pc' := 137) (by decide +kernel) rfl rfl ?_
        refine gv_bipush (n := 31) (v := 31) (pc' := 139) (by decide +kernel) (by decide) rfl ?_
        refine gv_iand (pc' := 140) (by decide +kernel) rfl ?_
        refine gv_iushr (pc' := 141) (by decide +kernel) rfl ?_
        exact gv_iret .int (by decide +kernel) rfl rfl (by decide) (by decide) (gd_pE h)
      replace h := gd_F q34_5 h
      by_cases q34_6 : a = 6
      · replace h := gd_T q34_6 h
        refine gd_tbT (dflt := 152) (lo := 0) (hi := 17) (offs := #[86, 94, 115, 126, 140, 101, 144, 148, 152, 152, 152, 152, 152, 152, 152, 152, 90, 108]) (len := 86) (off := 144) (tgt := 178) q34_6 (by decide +kernel) (by decide) (by decide) rfl (by decide) ?_
        refine gv_iload_n (n := 1) (pc' := 179) (by decide +kernel) rfl rfl ?_
        refine gv_iload_n (n := 2) (pc' := 180) (by decide +kernel) rfl rfl ?_
        refine gv_ior (pc' := 181) (by decide +kernel) rfl ?_
        exact gv_iret .int (by decide +kernel) rfl rfl (by decide) (by decide) (gd_pE h)
      replace h := gd_F q34_6 h
      by_cases q34_7 : a = 7
      · replace h := gd_T q34_7 h
        refine gd_tbT (dflt := 152) (lo := 0) (hi := 17) (offs := #[86, 94, 115, 126, 140, 101, 144, 148, 152, 152, 152, 152, 152, 152, 152, 152, 90, 108]) (len := 86) (off := 148) (tgt := 182) q34_7 (by decide +kernel) (by decide) (by decide) rfl (by decide) ?_
        refine gv_iload_n (n := 1) (pc' := 183) (by decide +kernel) rfl rfl ?_
        refine gv_iload_n (n := 2) (pc' := 184) (by decide +kernel) rfl rfl ?_
        refine gv_iand (pc' := 185) (by decide +kernel) rfl ?_
        exact gv_iret .int (by decide +kernel) rfl rfl (by decide) (by decide) (gd_pE h)
      replace h := gd_F q34_7 h
      by_cases q34_8 : a = 8
      · replace h := gd_T q34_8 h
        refine gd_tbT (dflt := 152) (lo := 0) (hi := 17) (offs := #[86, 94, 115, 126, 140, 101, 144, 148, 152, 152, 152, 152, 152, 152, 152, 152, 90, 108]) (len := 86) (off := 152) (tgt := 186) q34_8 (by decide +kernel) (by decide) (by decide) rfl (by decide) ?_
        refine gv_iconst (n := 0) (v := 0) (pc' := 187) (by decide +kernel) (by decide) rfl ?_
        exact gv_iret .int (by decide +kernel) rfl rfl (by decide) (by decide) (gd_pE h)
      replace h := gd_F q34_8 h
      by_cases q34_9 : a = 9
      · replace h := gd_T q34_9 h
        refine gd_tbT (dflt := 152) (lo := 0) (hi := 17) (offs := #[86, 94, 115, 126, 140, 101, 144, 148, 152, 152, 152, 152, 152, 152, 152, 152, 90, 108]) (len := 86) (off := 152) (tgt := 186) q34_9 (by decide +kernel) (by decide) (by decide) rfl (by decide) ?_
        refine gv_iconst (n := 0) (v := 0) (pc' := 187) (by decide +kernel) (by decide) rfl ?_
        exact gv_iret .int (by decide +kernel) rfl rfl (by decide) (by decide) (gd_pE h)
      replace h := gd_F q34_9 h
      by_cases q34_10 : a = 10
      · replace h := gd_T q34_10 h
        refine gd_tbT (dflt := 152) (lo := 0) (hi := 17) (offs := #[86, 94, 115, 126, 140, 101, 144, 148, 152, 152, 152, 152, 152, 152, 152, 152, 90, 108]) (len := 86) (off := 152) (tgt := 186) q34_10 (by decide +kernel) (by decide) (by decide) rfl (by decide) ?_
        refine gv_iconst (n := 0) (v := 0) (pc' := 187) (by decide +kernel) (by decide) rfl ?_
        exact gv_iret .int (by decide +kernel) rfl rfl (by decide) (by decide) (gd_pE h)
      replace h := gd_F q34_10 h
      by_cases q34_11 : a = 11
      · replace h := gd_T q34_11 h
        refine gd_tbT (dflt := 152) (lo := 0) (hi := 17) (offs := #[86, 94, 115, 126, 140, 101, 144, 148, 152, 152, 152, 152, 152, 152, 152, 152, 90, 108]) (len := 86) (off := 152) (tgt := 186) q34_11 (by decide +kernel) (by decide) (by decide) rfl (by decide) ?_
        refine gv_iconst (n := 0) (v := 0) (pc' := 187) (by decide +kernel) (by decide) rfl ?_
        exact gv_iret .int (by decide +kernel) rfl rfl (by decide) (by decide) (gd_pE h)
      replace h := gd_F q34_11 h
      by_cases q34_12 : a = 12
      · replace h := gd_T q34_12 h
        refine gd_tbT (dflt := 152) (lo := 0) (hi := 17) (offs := #[86, 94, 115, 126, 140, 101, 144, 148, 152, 152, 152, 152, 152, 152, 152, 152, 90, 108]) (len := 86) (off := 152) (tgt := 186) q34_12 (by decide +kernel) (by decide) (by decide) rfl (by decide) ?_
        refine gv_iconst (n := 0) (v := 0) (pc' := 187) (by decide +kernel) (by decide) rfl ?_
        exact gv_iret .int (by decide +kernel) rfl rfl (by decide) (by decide) (gd_pE h)
      replace h := gd_F q34_12 h
      by_cases q34_13 : a = 13
      · replace h := gd_T q34_13 h
        refine gd_tbT (dflt := 152) (lo := 0) (hi := 17) (offs := #[86, 94, 115, 126, 140, 101, 144, 148, 152, 152, 152, 152, 152, 152, 152, 152, 90, 108]) (len := 86) (off := 152) (tgt := 186) q34_13 (by decide +kernel) (by decide) (by decide) rfl (by decide) ?_
        refine gv_iconst (n := 0) (v := 0) (pc' := 187) (by decide +kernel) (by decide) rfl ?_
        exact gv_iret .int (by decide +kernel) rfl rfl (by decide) (by decide) (gd_pE h)
      replace h := gd_F q34_13 h
      by_cases q34_14 : a = 14
      · replace h := gd_T q34_14 h
        refine gd_tbT (dflt := 152) (lo := 0) (hi := 17) (offs := #[86, 94, 115, 126, 140, 101, 144, 148, 152, 152, 152, 152, 152, 152, 152, 152, 90, 108]) (len := 86) (off := 152) (tgt := 186) q34_14 (by decide +kernel) (by decide) (by decide) rfl (by decide) ?_
        refine gv_iconst (n := 0) (v := 0) (pc' := 187) (by decide +kernel) (by decide) rfl ?_
        exact gv_iret .int (by decide +kernel) rfl rfl (by decide) (by decide) (gd_pE h)
      replace h := gd_F q34_14 h
      by_cases q34_15 : a = 15
      · replace h := gd_T q34_15 h
        refine gd_tbT (dflt := 152) (lo := 0) (hi := 17) (offs := #[86, 94, 115, 126, 140, 101, 144, 148, 152, 152, 152, 152, 152, 152, 152, 152, 90, 108]) (len := 86) (off := 152) (tgt := 186) q34_15 (by decide +kernel) (by decide) (by decide) rfl (by decide) ?_
        refine gv_iconst (n := 0) (v := 0) (pc' := 187) (by decide +kernel) (by decide) rfl ?_
        exact gv_iret .int (by decide +kernel) rfl rfl (by decide) (by decide) (gd_pE h)
      replace h := gd_F q34_15 h
      by_cases q34_16 : a = 16
      · replace h := gd_T q34_16 h
        refine gd_tbT (dflt := 152) (lo := 0) (hi := 17) (offs := #[86, 94, 115, 126, 140, 101, 144, 148, 152, 152, 152, 152, 152, 152, 152, 152, 90, 108]) (len := 86) (off := 90) (tgt := 124) q34_16 (by decide +kernel) (by decide) (by decide) rfl (by decide) ?_
        refine gv_iload_n (n := 1) (pc' := 125) (by decide +kernel) rfl rfl ?_
        refine gv_iload_n (n := 2) (pc' := 126) (by decide +kernel) rfl rfl ?_
        refine gv_isub (pc' := 127) (by decide +kernel) rfl ?_
        exact gv_iret .int (by decide +kernel) rfl rfl (by decide) (by decide) (gd_pE h)
      replace h := gd_F q34_16 h
      by_cases q34_17 : a = 17
      · replace h := gd_T q34_17 h
        refine gd_tbT (dflt := 152) (lo := 0) (hi := 17) (offs := #[86, 94, 115, 126, 140, 101, 144, 148, 152, 152, 152, 152, 152, 152, 152, 152, 90, 108]) (len := 86) (off := 108) (tgt := 142) q34_17 (by decide +kernel) (by decide) (by decide) rfl (by decide) ?_
        refine gv_iload_n (n := 1) (pc' := 143) (by decide +kernel) rfl rfl ?_
        refine gv_iload_n (n := 2) (pc' := 144) (by decide +kernel) rfl rfl ?_
        refine gv_bipush (n := 31) (v := 31) (pc' := 146) (by decide +kernel) (by decide) rfl ?_
        refine gv_iand (pc' := 147) (by decide +kernel) rfl ?_
        refine gv_ishr (pc' := 148) (by decide +kernel) rfl ?_
        exact gv_iret .int (by decide +kernel) rfl rfl (by decide) (by decide) (gd_pE h)
      replace h := gd_F q34_17 h
      refine gv_tableOut (dflt := 152) (lo := 0) (hi := 17) (offs := #[86, 94, 115, 126, 140, 101, 144, 148, 152, 152, 152, 152, 152, 152, 152, 152, 90, 108]) (len := 86) (tgt := 186) (by decide +kernel) (gd_tbs (a := 17) (gd_tbs (a := 16) (gd_tbs (a := 15) (gd_tbs (a := 14) (gd_tbs (a := 13) (gd_tbs (a := 12) (gd_tbs (a := 11) (gd_tbs (a := 10) (gd_tbs (a := 9) (gd_tbs (a := 8) (gd_tbs (a := 7) (gd_tbs (a := 6) (gd_tbs (a := 5) (gd_tbs (a := 4) (gd_tbs (a := 3) (gd_tbs (a := 2) (gd_tbs (a := 1) (gd_tbs (a := 0) (gd_tb0 (lo := 0)) q34_0 (by decide) (by decide)) q34_1 (by decide) (by decide)) q34_2 (by decide) (by decide)) q34_3 (by decide) (by decide)) q34_4 (by decide) (by decide)) q34_5 (by decide) (by decide)) q34_6 (by decide) (by decide)) q34_7 (by decide) (by decide)) q34_8 (by decide) (by decide)) q34_9 (by decide) (by decide)) q34_10 (by decide) (by decide)) q34_11 (by decide) (by decide)) q34_12 (by decide) (by decide)) q34_13 (by decide) (by decide)) q34_14 (by decide) (by decide)) q34_15 (by decide) (by decide)) q34_16 (by decide) (by decide)) q34_17 (by decide) (by decide)) (by decide) ?_
      refine gv_iconst (n := 0) (v := 0) (pc' := 187) (by decide +kernel) (by decide) rfl ?_
      exact gv_iret .int (by decide +kernel) rfl rfl (by decide) (by decide) (gd_pE h)
    · replace h := gd_F c23 h
      refine gv_iload_n (n := 0) (pc' := 27) (by decide +kernel) rfl rfl ?_
      refine gv_iload_n (n := 1) (pc' := 28) (by decide +kernel) rfl rfl ?_
      refine gv_iload_n (n := 2) (pc' := 29) (by decide +kernel) rfl rfl ?_
      refine gd_esi (w' := true) (pc' := 32) (X_Arithmetic_quotient _ _ _ _) h md_Arithmetic_quotient sd_Arithmetic_quotient (Or.inl ml_11_19) (by decide +kernel) (by decide) rfl (Nat.le_of_ble_eq_true rfl) (Nat.le_of_ble_eq_true rfl) (by decide) rfl (fun z => ⟨rfl, z⟩) (by decide) rfl (fun r2 h => ?_)
      exact gv_iret .int (by decide +kernel) rfl rfl (by decide) (by decide) (gd_pE h)
  · refine gv_icmp_lt (off := 16) (tgt := 19) (pc' := 6) (by decide +kernel) (by decide) rfl (fun c3 => ?_) (fun c3 => ?_)
    · replace h := gd_T c3 h
      exact gd_ar (gl_s (gl_s (gl_s gl_z))) (fun _ => rfl) (hJ1  h)
    · replace h := gd_F c3 h
      refine gv_iload_n (n := 0) (pc' := 7) (by decide +kernel) rfl rfl ?_
      refine gv_bipush (n := 11) (v := 11) (pc' := 9) (by decide +kernel) (by decide) rfl ?_
      refine gv_icmp_gt (off := 10) (tgt := 19) (pc' := 12) (by decide +kernel) (by decide) rfl (fun c9 => ?_) (fun c9 => ?_)
      · replace h := gd_T c9 h
        exact gd_ar (gl_s (gl_s (gl_s gl_z))) (fun _ => rfl) (hJ1  h)
      · replace h := gd_F c9 h
        refine gv_iload_n (n := 0) (pc' := 13) (by decide +kernel) rfl rfl ?_
        refine gv_iload_n (n := 1) (pc' := 14) (by decide +kernel) rfl rfl ?_
        refine gv_iload_n (n := 2) (pc' := 15) (by decide +kernel) rfl rfl ?_
        refine gv_csi (w' := true) (pc' := 18) (y_Arithmetic_product _ _ _ _) md_Arithmetic_product sd_Arithmetic_product (Or.inl ml_11_11) (by decide +kernel) (by decide) rfl (Nat.le_of_ble_eq_true rfl) (Nat.le_of_ble_eq_true rfl) (by decide) rfl (fun z => ⟨rfl, z⟩) (by decide) rfl ?_
        exact gv_iret .int (by decide +kernel) rfl rfl (by decide) (by decide) (gd_pE h)
def F_Machine_compute (a : Int32) (σ : gS) : gR :=
 gd_g (gd_in a 1040) <|
 gd_qi (R_Machine_value (gA σ 6 a.toNatClampNeg) σ) σ fun r1 =>
 gd_g (gd_in a 1040) <|
 gd_j (α := Int32 → gR) (fun (v4 : Int32) =>
  gd_qi (R_Listing_isDivision a σ) σ fun r5 =>
  gd_j (α := gS → gR) (fun (s9 : gS) =>
   gd_g (gd_in a 1040) <|
   gd_g (gd_in a 1040) <|
   gd_qi (R_Arithmetic_answer (gA s9 4 a.toNatClampNeg) r1 v4 s9) s9 fun r10 =>
   gd_0 (F_Machine_put (gA s9 5 a.toNatClampNeg) r10 s9) fun s11 =>
   some (.inl none, s11)) fun J6 =>
  if r5 = 0 then
   J6 σ
  else
   gd_0 (F_Leaks_add 3 r1 σ) fun s7 =>
   gd_0 (F_Leaks_add 4 v4 s7) fun s8 =>
   J6 s8) fun J2 =>
 if (gA σ 3 a.toNatClampNeg) = 0 then
  gd_g (gd_in a 1040) <|
  gd_qi (R_Machine_value (gA σ 7 a.toNatClampNeg) σ) σ fun r3 =>
  J2 r3
 else
  gd_g (gd_in a 1040) <|
  J2 (gA σ 8 a.toNatClampNeg)
set_option maxRecDepth 20000 in
theorem X_Machine_compute (a : Int32) (σ : gS) (r0 : gQ × gS) (h : F_Machine_compute a σ = some r0) : gv_K m_Machine_compute [.ref 10, .int a] σ (gv_is r0.1 r0.2) := by
  unfold F_Machine_compute at h
  show gv_V m_Machine_compute 1 true 0 [some (.ref 10), some (.int a), none, none] [] σ (gv_is r0.1 r0.2)
  refine gv_aload_n (n := 0) (pc' := 1) (by decide +kernel) rfl rfl ?_
  refine gv_aload_n (n := 0) (pc' := 2) (by decide +kernel) rfl rfl ?_
  refine gv_getr lk_2_40 (by decide +kernel) rfl rfl (pc' := 5) rfl ?_
  refine gv_getr lk_2_158 (by decide +kernel) rfl rfl (pc' := 8) rfl ?_
  refine gv_iload_n (n := 1) (pc' := 9) (by decide +kernel) rfl rfl ?_
  obtain ⟨g9, h⟩ := gd_gE h
  refine gj_iald _ (pc' := 10) (by decide +kernel) rfl (gd_inv g9) rfl rfl ?_
  refine gd_dvi (w' := true) (pc' := 13) (X_Machine_value _ _) h md_Machine_value vd_Machine_value (Or.inl ml_2_161) (by decide +kernel) (by decide) rfl rfl rfl (Nat.le_of_ble_eq_true rfl) (Nat.le_of_ble_eq_true rfl) (by decide) rfl (fun z => ⟨rfl, z⟩) (by decide) rfl (fun r1 h => ?_)
  refine gv_istore_n (n := 2) (pc' := 14) (by decide +kernel) (by decide) rfl ?_
  refine gv_aload_n (n := 0) (pc' := 15) (by decide +kernel) rfl rfl ?_
  refine gv_getr lk_2_40 (by decide +kernel) rfl rfl (pc' := 18) rfl ?_
  refine gv_getr lk_2_90 (by decide +kernel) rfl rfl (pc' := 21) rfl ?_
  refine gv_iload_n (n := 1) (pc' := 22) (by decide +kernel) rfl rfl ?_
  obtain ⟨g22, h⟩ := gd_gE h
  refine gj_iald _ (pc' := 23) (by decide +kernel) rfl (gd_inv g22) rfl rfl ?_
  refine gd_jC (fun J2 => ∀ (v4 : Int32), J2 v4 = some r0 → gv_V m_Machine_compute 1 true 51 [some (.ref 10), some (.int a), some (.int r1), none] [.int v4] σ (gv_is r0.1 r0.2)) h (fun v4 h => ?_) (fun J2 hJ2 h => ?_)
  · refine gv_istore_n (n := 3) (pc' := 52) (by decide +kernel) (by decide) rfl ?_
    refine gv_aload_n (n := 0) (pc' := 53) (by decide +kernel) rfl rfl ?_
    refine gv_getr lk_2_40 (by decide +kernel) rfl rfl (pc' := 56) rfl ?_
    refine gv_iload_n (n := 1) (pc' := 57) (by decide +kernel) rfl rfl ?_
    refine gd_dvi (w' := true) (pc' := 60) (X_Listing_isDivision _ _) h md_Listing_isDivision vd_Listing_isDivision (Or.inl ml_2_167) (by decide +kernel) (by decide) rfl rfl rfl (Nat.le_of_ble_eq_true rfl) (Nat.le_of_ble_eq_true rfl) (by decide) rfl (fun z => ⟨rfl, z⟩) (by decide) rfl (fun r5 h => ?_)
    refine gd_jC (fun J6 => ∀ (s9 : gS), J6 s9 = some r0 → gv_V m_Machine_compute 1 false 81 [some (.ref 10), some (.int a), some (.int r1), some (.int v4)] [] s9 (gv_is r0.1 r0.2)) h (fun s9 h => ?_) (fun J6 hJ6 h => ?_)
    · refine gv_aload_n (n := 0) (pc' := 82) (by decide +kernel) rfl rfl ?_
      refine gv_aload_n (n := 0) (pc' := 83) (by decide +kernel) rfl rfl ?_
      refine gv_getr lk_2_40 (by decide +kernel) rfl rfl (pc' := 86) rfl ?_
      refine gv_getr lk_2_140 (by decide +kernel) rfl rfl (pc' := 89) rfl ?_
      refine gv_iload_n (n := 1) (pc' := 90) (by decide +kernel) rfl rfl ?_
      obtain ⟨g90, h⟩ := gd_gE h
      refine gj_iald _ (pc' := 91) (by decide +kernel) rfl (gd_inv g90) rfl rfl ?_
      refine gv_aload_n (n := 0) (pc' := 92) (by decide +kernel) rfl rfl ?_
      refine gv_getr lk_2_40 (by decide +kernel) rfl rfl (pc' := 95) rfl ?_
      refine gv_getr lk_2_171 (by decide +kernel) rfl rfl (pc' := 98) rfl ?_
      refine gv_iload_n (n := 1) (pc' := 99) (by decide +kernel) rfl rfl ?_
      obtain ⟨g99, h⟩ := gd_gE h
      refine gj_iald _ (pc' := 100) (by decide +kernel) rfl (gd_inv g99) rfl rfl ?_
      refine gv_iload_n (n := 2) (pc' := 101) (by decide +kernel) rfl rfl ?_
      refine gv_iload_n (n := 3) (pc' := 102) (by decide +kernel) rfl rfl ?_
      refine gd_dsi (w' := false) (pc' := 105) (X_Arithmetic_answer _ _ _ _) h md_Arithmetic_answer sd_Arithmetic_answer (Or.inl ml_2_174) (by decide +kernel) (by decide) rfl (Nat.le_of_ble_eq_true rfl) (Nat.le_of_ble_eq_true rfl) (by decide) rfl (fun z => by cases z) (by decide) rfl (fun r10 h => ?_)
      refine gd_cv0 (w' := false) (pc' := 108) (X_Machine_put _ _ _) h md_Machine_put vd_Machine_put (Or.inl ml_2_146) (by decide +kernel) (by decide) rfl rfl rfl (Nat.le_of_ble_eq_true rfl) (Nat.le_of_ble_eq_true rfl) (by decide) rfl (fun z => by cases z) (by decide) rfl (fun s11 h => ?_)
      exact gv_ret (by decide +kernel) rfl (by decide) (by decide) (gd_rE h)
    · refine gv_if_eq (off := 21) (tgt := 81) (pc' := 63) (by decide +kernel) (by decide) rfl (fun c60 => ?_) (fun c60 => ?_)
      · replace h := gd_T c60 h
        exact gd_ar (gl_s (gl_s (gl_s (gl_s gl_z)))) (fun z => by cases z) (hJ6 _ h)
      · replace h := gd_F c60 h
        refine gv_aload_n (n := 0) (pc' := 64) (by decide +kernel) rfl rfl ?_
        refine gv_getr lk_2_22 (by decide +kernel) rfl rfl (pc' := 67) rfl ?_
        refine gv_iconst (n := 3) (v := 3) (pc' := 68) (by decide +kernel) (by decide) rfl ?_
        refine gv_iload_n (n := 2) (pc' := 69) (by decide +kernel) rfl rfl ?_
        refine gd_cv0 (w' := false) (pc' := 72) (X_Leaks_add _ _ _) h md_Leaks_add vd_Leaks_add (Or.inl ml_2_123) (by decide +kernel) (by decide) rfl rfl rfl (Nat.le_of_ble_eq_true rfl) (Nat.le_of_ble_eq_true rfl) (by decide) rfl (fun z => by cases z) (by decide) rfl (fun s7 h => ?_)
        refine gv_aload_n (n := 0) (pc' := 73) (by decide +kernel) rfl rfl ?_
        refine gv_getr lk_2_22 (by decide +kernel) rfl rfl (pc' := 76) rfl ?_
        refine gv_iconst (n := 4) (v := 4) (pc' := 77) (by decide +kernel) (by decide) rfl ?_
        refine gv_iload_n (n := 3) (pc' := 78) (by decide +kernel) rfl rfl ?_
        refine gd_cv0 (w' := false) (pc' := 81) (X_Leaks_add _ _ _) h md_Leaks_add vd_Leaks_add (Or.inl ml_2_123) (by decide +kernel) (by decide) rfl rfl rfl (Nat.le_of_ble_eq_true rfl) (Nat.le_of_ble_eq_true rfl) (by decide) rfl (fun z => by cases z) (by decide) rfl (fun s8 h => ?_)
        exact gd_ar (gl_s (gl_s (gl_s (gl_s gl_z)))) (fun z => by cases z) (hJ6 _ h)
  · refine gv_if_ne (off := 19) (tgt := 42) (pc' := 26) (by decide +kernel) (by decide) rfl (fun c23 => ?_) (fun c23 => ?_)
    · replace h := gd_F c23 h
      refine gv_aload_n (n := 0) (pc' := 43) (by decide +kernel) rfl rfl ?_
      refine gv_getr lk_2_40 (by decide +kernel) rfl rfl (pc' := 46) rfl ?_
      refine gv_getr lk_2_143 (by decide +kernel) rfl rfl (pc' := 49) rfl ?_
      refine gv_iload_n (n := 1) (pc' := 50) (by decide +kernel) rfl rfl ?_
      obtain ⟨g50, h⟩ := gd_gE h
      refine gj_iald _ (pc' := 51) (by decide +kernel) rfl (gd_inv g50) rfl rfl ?_
      exact gd_ar (gl_s (gl_s (gl_s (gl_n gl_z)))) (fun _ => rfl) (hJ2 _ h)
    · replace h := gd_T c23 h
      refine gv_aload_n (n := 0) (pc' := 27) (by decide +kernel) rfl rfl ?_
      refine gv_aload_n (n := 0) (pc' := 28) (by decide +kernel) rfl rfl ?_
      refine gv_getr lk_2_40 (by decide +kernel) rfl rfl (pc' := 31) rfl ?_
      refine gv_getr lk_2_164 (by decide +kernel) rfl rfl (pc' := 34) rfl ?_
      refine gv_iload_n (n := 1) (pc' := 35) (by decide +kernel) rfl rfl ?_
      obtain ⟨g35, h⟩ := gd_gE h
      refine gj_iald _ (pc' := 36) (by decide +kernel) rfl (gd_inv g35) rfl rfl ?_
      refine gd_dvi (w' := true) (pc' := 39) (X_Machine_value _ _) h md_Machine_value vd_Machine_value (Or.inl ml_2_161) (by decide +kernel) (by decide) rfl rfl rfl (Nat.le_of_ble_eq_true rfl) (Nat.le_of_ble_eq_true rfl) (by decide) rfl (fun z => ⟨rfl, z⟩) (by decide) rfl (fun r3 h => ?_)
      refine gv_goto (off := 12) (tgt := 51) (by decide +kernel) (by decide) ?_
      exact gd_ar (gl_s (gl_s (gl_s (gl_n gl_z)))) (fun _ => rfl) (hJ2 _ h)
def R_Machine_addressOf (a : Int32) (σ : gS) : gP :=
 gd_g (gd_in a 1040) <|
 gd_pi (R_Machine_value (gA σ 6 a.toNatClampNeg) σ) fun r1 =>
 gd_g (gd_in a 1040) <|
 some (.inl (some (.int (r1 + (gA σ 8 a.toNatClampNeg)))))
set_option maxRecDepth 20000 in
theorem X_Machine_addressOf (a : Int32) (σ : gS) (r0 : gQ) (h : R_Machine_addressOf a σ = some r0) : gv_K m_Machine_addressOf [.ref 10, .int a] σ (gv_is r0 σ) := by
  unfold R_Machine_addressOf at h
  show gv_V m_Machine_addressOf 1 true 0 [some (.ref 10), some (.int a)] [] σ (gv_is r0 σ)
  refine gv_aload_n (n := 0) (pc' := 1) (by decide +kernel) rfl rfl ?_
  refine gv_aload_n (n := 0) (pc' := 2) (by decide +kernel) rfl rfl ?_
  refine gv_getr lk_2_40 (by decide +kernel) rfl rfl (pc' := 5) rfl ?_
  refine gv_getr lk_2_158 (by decide +kernel) rfl rfl (pc' := 8) rfl ?_
  refine gv_iload_n (n := 1) (pc' := 9) (by decide +kernel) rfl rfl ?_
  obtain ⟨g9, h⟩ := gd_gE h
  refine gj_iald _ (pc' := 10) (by decide +kernel) rfl (gd_inv g9) rfl rfl ?_
  refine gd_evi (w' := true) (pc' := 13) (X_Machine_value _ _) h md_Machine_value vd_Machine_value (Or.inl ml_2_161) (by decide +kernel) (by decide) rfl rfl rfl (Nat.le_of_ble_eq_true rfl) (Nat.le_of_ble_eq_true rfl) (by decide) rfl (fun z => ⟨rfl, z⟩) (by decide) rfl (fun r1 h => ?_)
  refine gv_aload_n (n := 0) (pc' := 14) (by decide +kernel) rfl rfl ?_
  refine gv_getr lk_2_40 (by decide +kernel) rfl rfl (pc' := 17) rfl ?_
  refine gv_getr lk_2_143 (by decide +kernel) rfl rfl (pc' := 20) rfl ?_
  refine gv_iload_n (n := 1) (pc' := 21) (by decide +kernel) rfl rfl ?_
  obtain ⟨g21, h⟩ := gd_gE h
  refine gj_iald _ (pc' := 22) (by decide +kernel) rfl (gd_inv g21) rfl rfl ?_
  refine gv_iadd (pc' := 23) (by decide +kernel) rfl ?_
  exact gv_iret .int (by decide +kernel) rfl rfl (by decide) (by decide) (gd_pE h)
def F_Machine_fetch (a : Int32) (σ : gS) : gR :=
 gd_g (gd_in a 1040) <|
 gd_qi (R_Machine_addressOf a σ) σ fun r1 =>
 gd_qi (R_Machine_read r1 ((1 : Int32) <<< (((gA σ 4 a.toNatClampNeg) &&& (3 : Int32)) &&& 31)) σ) σ fun r2 =>
 gd_t (α := Int32) (if 4 ≤ (gA σ 4 a.toNatClampNeg) then
   0
  else
   ((32 : Int32) - ((8 : Int32) * ((1 : Int32) <<< (((gA σ 4 a.toNatClampNeg) &&& (3 : Int32)) &&& 31))))) fun v4 =>
 gd_0 (F_Leaks_add 1 r1 σ) fun s5 =>
 gd_g (gd_in a 1040) <|
 gd_0 (F_Machine_put (gA s5 5 a.toNatClampNeg) ((r2 <<< (v4 &&& 31)) >>> (v4 &&& 31)) s5) fun s6 =>
 some (.inl none, s6)
set_option maxRecDepth 20000 in
theorem X_Machine_fetch (a : Int32) (σ : gS) (r0 : gQ × gS) (h : F_Machine_fetch a σ = some r0) : gv_K m_Machine_fetch [.ref 10, .int a] σ (gv_is r0.1 r0.2) := by
  unfold F_Machine_fetch at h
  show gv_V m_Machine_fetch 1 true 0 [some (.ref 10), some (.int a), none, none, none, none, none] [] σ (gv_is r0.1 r0.2)
  refine gv_aload_n (n := 0) (pc' := 1) (by decide +kernel) rfl rfl ?_
  refine gv_getr lk_2_40 (by decide +kernel) rfl rfl (pc' := 4) rfl ?_
  refine gv_getr lk_2_171 (by decide +kernel) rfl rfl (pc' := 7) rfl ?_
  refine gv_iload_n (n := 1) (pc' := 8) (by decide +kernel) rfl rfl ?_
  obtain ⟨g8, h⟩ := gd_gE h
  refine gj_iald _ (pc' := 9) (by decide +kernel) rfl (gd_inv g8) rfl rfl ?_
  refine gv_istore_n (n := 2) (pc' := 10) (by decide +kernel) (by decide) rfl ?_
  refine gv_aload_n (n := 0) (pc' := 11) (by decide +kernel) rfl rfl ?_
  refine gv_iload_n (n := 1) (pc' := 12) (by decide +kernel) rfl rfl ?_
  refine gd_dvi (w' := true) (pc' := 15) (X_Machine_addressOf _ _) h md_Machine_addressOf vd_Machine_addressOf (Or.inl ml_2_180) (by decide +kernel) (by decide) rfl rfl rfl (Nat.le_of_ble_eq_true rfl) (Nat.le_of_ble_eq_true rfl) (by decide) rfl (fun z => ⟨rfl, z⟩) (by decide) rfl (fun r1 h => ?_)
  refine gv_istore_n (n := 3) (pc' := 16) (by decide +kernel) (by decide) rfl ?_
  refine gv_iconst (n := 1) (v := 1) (pc' := 17) (by decide +kernel) (by decide) rfl ?_
  refine gv_iload_n (n := 2) (pc' := 18) (by decide +kernel) rfl rfl ?_
  refine gv_iconst (n := 3) (v := 3) (pc' := 19) (by decide +kernel) (by decide) rfl ?_
  refine gv_iand (pc' := 20) (by decide +kernel) rfl ?_
  refine gv_ishl (pc' := 21) (by decide +kernel) rfl ?_
  refine gv_istore (n := 4) (pc' := 23) (by decide +kernel) (by decide) rfl ?_
  refine gv_aload_n (n := 0) (pc' := 24) (by decide +kernel) rfl rfl ?_
  refine gv_iload_n (n := 3) (pc' := 25) (by decide +kernel) rfl rfl ?_
  refine gv_iload (n := 4) (pc' := 27) (by decide +kernel) rfl rfl ?_
  refine gd_dvi (w' := true) (pc' := 30) (X_Machine_read _ _ _) h md_Machine_read vd_Machine_read (Or.inl ml_2_183) (by decide +kernel) (by decide) rfl rfl rfl (Nat.le_of_ble_eq_true rfl) (Nat.le_of_ble_eq_true rfl) (by decide) rfl (fun z => ⟨rfl, z⟩) (by decide) rfl (fun r2 h => ?_)
  refine gv_istore (n := 5) (pc' := 32) (by decide +kernel) (by decide) rfl ?_
  refine gv_iload_n (n := 2) (pc' := 33) (by decide +kernel) rfl rfl ?_
  refine gv_iconst (n := 4) (v := 4) (pc' := 34) (by decide +kernel) (by decide) rfl ?_
  refine gd_tC (fun (v4 : Int32) => gv_V m_Machine_fetch 1 true 49 [some (.ref 10), some (.int a), none, some (.int r1), none, some (.int r2), none] [.int v4] σ (gv_is r0.1 r0.2)) h (fun v4 h => ?_) (fun KJ3 hJ3 h => ?_)
  · refine gv_istore (n := 6) (pc' := 51) (by decide +kernel) (by decide) rfl ?_
    refine gv_aload_n (n := 0) (pc' := 52) (by decide +kernel) rfl rfl ?_
    refine gv_getr lk_2_22 (by decide +kernel) rfl rfl (pc' := 55) rfl ?_
    refine gv_iconst (n := 1) (v := 1) (pc' := 56) (by decide +kernel) (by decide) rfl ?_
    refine gv_iload_n (n := 3) (pc' := 57) (by decide +kernel) rfl rfl ?_
    refine gd_cv0 (w' := false) (pc' := 60) (X_Leaks_add _ _ _) h md_Leaks_add vd_Leaks_add (Or.inl ml_2_123) (by decide +kernel) (by decide) rfl rfl rfl (Nat.le_of_ble_eq_true rfl) (Nat.le_of_ble_eq_true rfl) (by decide) rfl (fun z => by cases z) (by decide) rfl (fun s5 h => ?_)
    refine gv_aload_n (n := 0) (pc' := 61) (by decide +kernel) rfl rfl ?_
    refine gv_aload_n (n := 0) (pc' := 62) (by decide +kernel) rfl rfl ?_
    refine gv_getr lk_2_40 (by decide +kernel) rfl rfl (pc' := 65) rfl ?_
    refine gv_getr lk_2_140 (by decide +kernel) rfl rfl (pc' := 68) rfl ?_
    refine gv_iload_n (n := 1) (pc' := 69) (by decide +kernel) rfl rfl ?_
    obtain ⟨g69, h⟩ := gd_gE h
    refine gj_iald _ (pc' := 70) (by decide +kernel) rfl (gd_inv g69) rfl rfl ?_
    refine gv_iload (n := 5) (pc' := 72) (by decide +kernel) rfl rfl ?_
    refine gv_iload (n := 6) (pc' := 74) (by decide +kernel) rfl rfl ?_
    refine gv_ishl (pc' := 75) (by decide +kernel) rfl ?_
    refine gv_iload (n := 6) (pc' := 77) (by decide +kernel) rfl rfl ?_
    refine gv_ishr (pc' := 78) (by decide +kernel) rfl ?_
    refine gd_cv0 (w' := false) (pc' := 81) (X_Machine_put _ _ _) h md_Machine_put vd_Machine_put (Or.inl ml_2_146) (by decide +kernel) (by decide) rfl rfl rfl (Nat.le_of_ble_eq_true rfl) (Nat.le_of_ble_eq_true rfl) (by decide) rfl (fun z => by cases z) (by decide) rfl (fun s6 h => ?_)
    exact gv_ret (by decide +kernel) rfl (by decide) (by decide) (gd_rE h)
  · refine gv_icmp_ge (off := 14) (tgt := 48) (pc' := 37) (by decide +kernel) (by decide) rfl (fun c34 => ?_) (fun c34 => ?_)
    · replace h := gd_tT c34 h
      refine gv_iconst (n := 0) (v := 0) (pc' := 49) (by decide +kernel) (by decide) rfl ?_
      exact gd_ar (gl_s (gl_s (gl_n (gl_s (gl_n (gl_s (gl_n gl_z))))))) (fun _ => rfl) (hJ3 _ h)
    · replace h := gd_tF c34 h
      refine gv_bipush (n := 32) (v := 32) (pc' := 39) (by decide +kernel) (by decide) rfl ?_
      refine gv_bipush (n := 8) (v := 8) (pc' := 41) (by decide +kernel) (by decide) rfl ?_
      refine gv_iload (n := 4) (pc' := 43) (by decide +kernel) rfl rfl ?_
      refine gv_imul (pc' := 44) (by decide +kernel) rfl ?_
      refine gv_isub (pc' := 45) (by decide +kernel) rfl ?_
      refine gv_goto (off := 4) (tgt := 49) (by decide +kernel) (by decide) ?_
      exact gd_ar (gl_s (gl_s (gl_n (gl_s (gl_n (gl_s (gl_n gl_z))))))) (fun _ => rfl) (hJ3 _ h)
def F_Machine_keep (a : Int32) (σ : gS) : gR :=
 gd_qi (R_Machine_addressOf a σ) σ fun r1 =>
 gd_0 (F_Leaks_add 2 r1 σ) fun s2 =>
 gd_g (gd_in a 1040) <|
 gd_g (gd_in a 1040) <|
 gd_qi (R_Machine_value (gA s2 7 a.toNatClampNeg) s2) s2 fun r3 =>
 gd_0 (F_Machine_write r1 ((1 : Int32) <<< (((gA s2 4 a.toNatClampNeg) &&& (3 : Int32)) &&& 31)) r3 s2) fun s4 =>
 some (.inl none, s4)
set_option maxRecDepth 20000 in
theorem X_Machine_keep (a : Int32) (σ : gS) (r0 : gQ × gS) (h : F_Machine_keep a σ = some r0) : gv_K m_Machine_keep [.ref 10, .int a] σ (gv_is r0.1 r0.2) := by
  unfold F_Machine_keep at h
  show gv_V m_Machine_keep 1 true 0 [some (.ref 10), some (.int a), none] [] σ (gv_is r0.1 r0.2)
  refine gv_aload_n (n := 0) (pc' := 1) (by decide +kernel) rfl rfl ?_
  refine gv_iload_n (n := 1) (pc' := 2) (by decide +kernel) rfl rfl ?_
  refine gd_dvi (w' := true) (pc' := 5) (X_Machine_addressOf _ _) h md_Machine_addressOf vd_Machine_addressOf (Or.inl ml_2_180) (by decide +kernel) (by decide) rfl rfl rfl (Nat.le_of_ble_eq_true rfl) (Nat.le_of_ble_eq_true rfl) (by decide) rfl (fun z => ⟨rfl, z⟩) (by decide) rfl (fun r1 h => ?_)
  refine gv_istore_n (n := 2) (pc' := 6) (by decide +kernel) (by decide) rfl ?_
  refine gv_aload_n (n := 0) (pc' := 7) (by decide +kernel) rfl rfl ?_
  refine gv_getr lk_2_22 (by decide +kernel) rfl rfl (pc' := 10) rfl ?_
  refine gv_iconst (n := 2) (v := 2) (pc' := 11) (by decide +kernel) (by decide) rfl ?_
  refine gv_iload_n (n := 2) (pc' := 12) (by decide +kernel) rfl rfl ?_
  refine gd_cv0 (w' := false) (pc' := 15) (X_Leaks_add _ _ _) h md_Leaks_add vd_Leaks_add (Or.inl ml_2_123) (by decide +kernel) (by decide) rfl rfl rfl (Nat.le_of_ble_eq_true rfl) (Nat.le_of_ble_eq_true rfl) (by decide) rfl (fun z => by cases z) (by decide) rfl (fun s2 h => ?_)
  refine gv_aload_n (n := 0) (pc' := 16) (by decide +kernel) rfl rfl ?_
  refine gv_iload_n (n := 2) (pc' := 17) (by decide +kernel) rfl rfl ?_
  refine gv_iconst (n := 1) (v := 1) (pc' := 18) (by decide +kernel) (by decide) rfl ?_
  refine gv_aload_n (n := 0) (pc' := 19) (by decide +kernel) rfl rfl ?_
  refine gv_getr lk_2_40 (by decide +kernel) rfl rfl (pc' := 22) rfl ?_
  refine gv_getr lk_2_171 (by decide +kernel) rfl rfl (pc' := 25) rfl ?_
  refine gv_iload_n (n := 1) (pc' := 26) (by decide +kernel) rfl rfl ?_
  obtain ⟨g26, h⟩ := gd_gE h
  refine gj_iald _ (pc' := 27) (by decide +kernel) rfl (gd_inv g26) rfl rfl ?_
  refine gv_iconst (n := 3) (v := 3) (pc' := 28) (by decide +kernel) (by decide) rfl ?_
  refine gv_iand (pc' := 29) (by decide +kernel) rfl ?_
  refine gv_ishl (pc' := 30) (by decide +kernel) rfl ?_
  refine gv_aload_n (n := 0) (pc' := 31) (by decide +kernel) rfl rfl ?_
  refine gv_aload_n (n := 0) (pc' := 32) (by decide +kernel) rfl rfl ?_
  refine gv_getr lk_2_40 (by decide +kernel) rfl rfl (pc' := 35) rfl ?_
  refine gv_getr lk_2_164 (by decide +kernel) rfl rfl (pc' := 38) rfl ?_
  refine gv_iload_n (n := 1) (pc' := 39) (by decide +kernel) rfl rfl ?_
  obtain ⟨g39, h⟩ := gd_gE h
  refine gj_iald _ (pc' := 40) (by decide +kernel) rfl (gd_inv g39) rfl rfl ?_
  refine gd_dvi (w' := false) (pc' := 43) (X_Machine_value _ _) h md_Machine_value vd_Machine_value (Or.inl ml_2_161) (by decide +kernel) (by decide) rfl rfl rfl (Nat.le_of_ble_eq_true rfl) (Nat.le_of_ble_eq_true rfl) (by decide) rfl (fun z => by cases z) (by decide) rfl (fun r3 h => ?_)
  refine gd_cv0 (w' := false) (pc' := 46) (X_Machine_write _ _ _ _) h md_Machine_write vd_Machine_write (Or.inl ml_2_187) (by decide +kernel) (by decide) rfl rfl rfl (Nat.le_of_ble_eq_true rfl) (Nat.le_of_ble_eq_true rfl) (by decide) rfl (fun z => by cases z) (by decide) rfl (fun s4 h => ?_)
  exact gv_ret (by decide +kernel) rfl (by decide) (by decide) (gd_rE h)
def f_Arithmetic_holds (a : Int32) (b : Int32) (c : Int32) : Int32 :=
 if a = 0 then
  if b = c then
   1
  else
   0
 else if a = 1 then
  if b = c then
   0
  else
   1
 else if a = 2 then
  if (f_Arithmetic_lessUnsigned b c) = 0 then
   1
  else
   0
 else if a = 3 then
  if (f_Arithmetic_lessUnsigned b c) = 0 then
   1
  else
   0
 else if a = 4 then
  if c ≤ b then
   0
  else
   1
 else if a = 5 then
  if b < c then
   0
  else
   1
 else if a = 6 then
  f_Arithmetic_lessUnsigned b c
 else 
  if (f_Arithmetic_lessUnsigned b c) = 0 then
   1
  else
   0
set_option maxRecDepth 20000 in
theorem y_Arithmetic_holds (a : Int32) (b : Int32) (c : Int32) (σ : gS) : gv_K m_Arithmetic_holds [.int a, .int b, .int c] σ (gv_is (.inl (some (.int (f_Arithmetic_holds a b c)))) σ) := by
  generalize h : f_Arithmetic_holds a b c = r0
  unfold f_Arithmetic_holds at h
  show gv_V m_Arithmetic_holds 1 true 0 [some (.int a), some (.int b), some (.int c)] [] σ (gv_is (.inl (some (.int r0))) σ)
  refine gv_iload_n (n := 0) (pc' := 1) (by decide +kernel) rfl rfl ?_
  by_cases q1_0 : a = 0
  · replace h := gd_T q1_0 h
    refine gd_tbT (dflt := 93) (lo := 0) (hi := 6) (offs := #[43, 54, 93, 93, 65, 76, 87]) (len := 43) (off := 43) (tgt := 44) q1_0 (by decide +kernel) (by decide) (by decide) rfl (by decide) ?_
    refine gv_iload_n (n := 1) (pc' := 45) (by decide +kernel) rfl rfl ?_
    refine gv_iload_n (n := 2) (pc' := 46) (by decide +kernel) rfl rfl ?_
    refine gv_icmp_ne (off := 7) (tgt := 53) (pc' := 49) (by decide +kernel) (by decide) rfl (fun c46 => ?_) (fun c46 => ?_)
    · replace h := gd_F c46 h
      refine gv_iconst (n := 0) (v := 0) (pc' := 54) (by decide +kernel) (by decide) rfl ?_
      exact gv_iret .boolean (by decide +kernel) rfl rfl (by decide) (by decide) (gd_vE h)
    · replace h := gd_T c46 h
      refine gv_iconst (n := 1) (v := 1) (pc' := 50) (by decide +kernel) (by decide) rfl ?_
      refine gv_goto (off := 4) (tgt := 54) (by decide +kernel) (by decide) ?_
      exact gv_iret .boolean (by decide +kernel) rfl rfl (by decide) (by decide) (gd_vE h)
  replace h := gd_F q1_0 h
  by_cases q1_1 : a = 1
  · replace h := gd_T q1_1 h
    refine gd_tbT (dflt := 93) (lo := 0) (hi := 6) (offs := #[43, 54, 93, 93, 65, 76, 87]) (len := 43) (off := 54) (tgt := 55) q1_1 (by decide +kernel) (by decide) (by decide) rfl (by decide) ?_
    refine gv_iload_n (n := 1) (pc' := 56) (by decide +kernel) rfl rfl ?_
    refine gv_iload_n (n := 2) (pc' := 57) (by decide +kernel) rfl rfl ?_
    refine gv_icmp_eq (off := 7) (tgt := 64) (pc' := 60) (by decide +kernel) (by decide) rfl (fun c57 => ?_) (fun c57 => ?_)
    · replace h := gd_T c57 h
      refine gv_iconst (n := 0) (v := 0) (pc' := 65) (by decide +kernel) (by decide) rfl ?_
      exact gv_iret .boolean (by decide +kernel) rfl rfl (by decide) (by decide) (gd_vE h)
    · replace h := gd_F c57 h
      refine gv_iconst (n := 1) (v := 1) (pc' := 61) (by decide +kernel) (by decide) rfl ?_
      refine gv_goto (off := 4) (tgt := 65) (by decide +kernel) (by decide) ?_
      exact gv_iret .boolean (by decide +kernel) rfl rfl (by decide) (by decide) (gd_vE h)
  replace h := gd_F q1_1 h
  by_cases q1_2 : a = 2
  · replace h := gd_T q1_2 h
    refine gd_tbT (dflt := 93) (lo := 0) (hi := 6) (offs := #[43, 54, 93, 93, 65, 76, 87]) (len := 43) (off := 93) (tgt := 94) q1_2 (by decide +kernel) (by decide) (by decide) rfl (by decide) ?_
    refine gv_iload_n (n := 1) (pc' := 95) (by decide +kernel) rfl rfl ?_
    refine gv_iload_n (n := 2) (pc' := 96) (by decide +kernel) rfl rfl ?_
    refine gv_csi (w' := true) (pc' := 99) (y_Arithmetic_lessUnsigned _ _ _) md_Arithmetic_lessUnsigned sd_Arithmetic_lessUnsigned (Or.inl ml_11_22) (by decide +kernel) (by decide) rfl (Nat.le_of_ble_eq_true rfl) (Nat.le_of_ble_eq_true rfl) (by decide) rfl (fun z => ⟨rfl, z⟩) (by decide) rfl ?_
    refine gv_if_ne (off := 7) (tgt := 106) (pc' := 102) (by decide +kernel) (by decide) rfl (fun c99 => ?_) (fun c99 => ?_)
    · replace h := gd_F c99 h
      refine gv_iconst (n := 0) (v := 0) (pc' := 107) (by decide +kernel) (by decide) rfl ?_
      exact gv_iret .boolean (by decide +kernel) rfl rfl (by decide) (by decide) (gd_vE h)
    · replace h := gd_T c99 h
      refine gv_iconst (n := 1) (v := 1) (pc' := 103) (by decide +kernel) (by decide) rfl ?_
      refine gv_goto (off := 4) (tgt := 107) (by decide +kernel) (by decide) ?_
      exact gv_iret .boolean (by decide +kernel) rfl rfl (by decide) (by decide) (gd_vE h)
  replace h := gd_F q1_2 h
  by_cases q1_3 : a = 3
  · replace h := gd_T q1_3 h
    refine gd_tbT (dflt := 93) (lo := 0) (hi := 6) (offs := #[43, 54, 93, 93, 65, 76, 87]) (len := 43) (off := 93) (tgt := 94) q1_3 (by decide +kernel) (by decide) (by decide) rfl (by decide) ?_
    refine gv_iload_n (n := 1) (pc' := 95) (by decide +kernel) rfl rfl ?_
    refine gv_iload_n (n := 2) (pc' := 96) (by decide +kernel) rfl rfl ?_
    refine gv_csi (w' := true) (pc' := 99) (y_Arithmetic_lessUnsigned _ _ _) md_Arithmetic_lessUnsigned sd_Arithmetic_lessUnsigned (Or.inl ml_11_22) (by decide +kernel) (by decide) rfl (Nat.le_of_ble_eq_true rfl) (Nat.le_of_ble_eq_true rfl) (by decide) rfl (fun z => ⟨rfl, z⟩) (by decide) rfl ?_
    refine gv_if_ne (off := 7) (tgt := 106) (pc' := 102) (by decide +kernel) (by decide) rfl (fun c99 => ?_) (fun c99 => ?_)
    · replace h := gd_F c99 h
      refine gv_iconst (n := 0) (v := 0) (pc' := 107) (by decide +kernel) (by decide) rfl ?_
      exact gv_iret .boolean (by decide +kernel) rfl rfl (by decide) (by decide) (gd_vE h)
    · replace h := gd_T c99 h
      refine gv_iconst (n := 1) (v := 1) (pc' := 103) (by decide +kernel) (by decide) rfl ?_
      refine gv_goto (off := 4) (tgt := 107) (by decide +kernel) (by decide) ?_
      exact gv_iret .boolean (by decide +kernel) rfl rfl (by decide) (by decide) (gd_vE h)
  replace h := gd_F q1_3 h
  by_cases q1_4 : a = 4
  · replace h := gd_T q1_4 h
    refine gd_tbT (dflt := 93) (lo := 0) (hi := 6) (offs := #[43, 54, 93, 93, 65, 76, 87]) (len := 43) (off := 65) (tgt := 66) q1_4 (by decide +kernel) (by decide) (by decide) rfl (by decide) ?_
    refine gv_iload_n (n := 1) (pc' := 67) (by decide +kernel) rfl rfl ?_
    refine gv_iload_n (n := 2) (pc' := 68) (by decide +kernel) rfl rfl ?_
    refine gv_icmp_ge (off := 7) (tgt := 75) (pc' := 71) (by decide +kernel) (by decide) rfl (fun c68 => ?_) (fun c68 => ?_)
    · replace h := gd_T c68 h
      refine gv_iconst (n := 0) (v := 0) (pc' := 76) (by decide +kernel) (by decide) rfl ?_
      exact gv_iret .boolean (by decide +kernel) rfl rfl (by decide) (by decide) (gd_vE h)
    · replace h := gd_F c68 h
      refine gv_iconst (n := 1) (v := 1) (pc' := 72) (by decide +kernel) (by decide) rfl ?_
      refine gv_goto (off := 4) (tgt := 76) (by decide +kernel) (by decide) ?_
      exact gv_iret .boolean (by decide +kernel) rfl rfl (by decide) (by decide) (gd_vE h)
  replace h := gd_F q1_4 h
  by_cases q1_5 : a = 5
  · replace h := gd_T q1_5 h
    refine gd_tbT (dflt := 93) (lo := 0) (hi := 6) (offs := #[43, 54, 93, 93, 65, 76, 87]) (len := 43) (off := 76) (tgt := 77) q1_5 (by decide +kernel) (by decide) (by decide) rfl (by decide) ?_
    refine gv_iload_n (n := 1) (pc' := 78) (by decide +kernel) rfl rfl ?_
    refine gv_iload_n (n := 2) (pc' := 79) (by decide +kernel) rfl rfl ?_
    refine gv_icmp_lt (off := 7) (tgt := 86) (pc' := 82) (by decide +kernel) (by decide) rfl (fun c79 => ?_) (fun c79 => ?_)
    · replace h := gd_T c79 h
      refine gv_iconst (n := 0) (v := 0) (pc' := 87) (by decide +kernel) (by decide) rfl ?_
      exact gv_iret .boolean (by decide +kernel) rfl rfl (by decide) (by decide) (gd_vE h)
    · replace h := gd_F c79 h
      refine gv_iconst (n := 1) (v := 1) (pc' := 83) (by decide +kernel) (by decide) rfl ?_
      refine gv_goto (off := 4) (tgt := 87) (by decide +kernel) (by decide) ?_
      exact gv_iret .boolean (by decide +kernel) rfl rfl (by decide) (by decide) (gd_vE h)
  replace h := gd_F q1_5 h
  by_cases q1_6 : a = 6
  · replace h := gd_T q1_6 h
    refine gd_tbT (dflt := 93) (lo := 0) (hi := 6) (offs := #[43, 54, 93, 93, 65, 76, 87]) (len := 43) (off := 87) (tgt := 88) q1_6 (by decide +kernel) (by decide) (by decide) rfl (by decide) ?_
    refine gv_iload_n (n := 1) (pc' := 89) (by decide +kernel) rfl rfl ?_
    refine gv_iload_n (n := 2) (pc' := 90) (by decide +kernel) rfl rfl ?_
    refine gv_csi (w' := true) (pc' := 93) (y_Arithmetic_lessUnsigned _ _ _) md_Arithmetic_lessUnsigned sd_Arithmetic_lessUnsigned (Or.inl ml_11_22) (by decide +kernel) (by decide) rfl (Nat.le_of_ble_eq_true rfl) (Nat.le_of_ble_eq_true rfl) (by decide) rfl (fun z => ⟨rfl, z⟩) (by decide) rfl ?_
    exact gv_iret .boolean (by decide +kernel) rfl (gd_nb (z_Arithmetic_lessUnsigned _ _)) (by decide) (by decide) (gd_vE h)
  replace h := gd_F q1_6 h
  refine gv_tableOut (dflt := 93) (lo := 0) (hi := 6) (offs := #[43, 54, 93, 93, 65, 76, 87]) (len := 43) (tgt := 94) (by decide +kernel) (gd_tbs (a := 6) (gd_tbs (a := 5) (gd_tbs (a := 4) (gd_tbs (a := 3) (gd_tbs (a := 2) (gd_tbs (a := 1) (gd_tbs (a := 0) (gd_tb0 (lo := 0)) q1_0 (by decide) (by decide)) q1_1 (by decide) (by decide)) q1_2 (by decide) (by decide)) q1_3 (by decide) (by decide)) q1_4 (by decide) (by decide)) q1_5 (by decide) (by decide)) q1_6 (by decide) (by decide)) (by decide) ?_
  refine gv_iload_n (n := 1) (pc' := 95) (by decide +kernel) rfl rfl ?_
  refine gv_iload_n (n := 2) (pc' := 96) (by decide +kernel) rfl rfl ?_
  refine gv_csi (w' := true) (pc' := 99) (y_Arithmetic_lessUnsigned _ _ _) md_Arithmetic_lessUnsigned sd_Arithmetic_lessUnsigned (Or.inl ml_11_22) (by decide +kernel) (by decide) rfl (Nat.le_of_ble_eq_true rfl) (Nat.le_of_ble_eq_true rfl) (by decide) rfl (fun z => ⟨rfl, z⟩) (by decide) rfl ?_
  refine gv_if_ne (off := 7) (tgt := 106) (pc' := 102) (by decide +kernel) (by decide) rfl (fun c99 => ?_) (fun c99 => ?_)
  · replace h := gd_F c99 h
    refine gv_iconst (n := 0) (v := 0) (pc' := 107) (by decide +kernel) (by decide) rfl ?_
    exact gv_iret .boolean (by decide +kernel) rfl rfl (by decide) (by decide) (gd_vE h)
  · replace h := gd_T c99 h
    refine gv_iconst (n := 1) (v := 1) (pc' := 103) (by decide +kernel) (by decide) rfl ?_
    refine gv_goto (off := 4) (tgt := 107) (by decide +kernel) (by decide) ?_
    exact gv_iret .boolean (by decide +kernel) rfl rfl (by decide) (by decide) (gd_vE h)
theorem z_Arithmetic_holds (a : Int32) (b : Int32) (c : Int32) : f_Arithmetic_holds a b c = 0 ∨ f_Arithmetic_holds a b c = 1 := by
  unfold f_Arithmetic_holds
  repeat' split
  all_goals first | exact Or.inl rfl | exact Or.inr rfl | exact z_Arithmetic_lessUnsigned _ _
def R_Machine_branchDestination (a : Int32) (σ : gS) : gP :=
 gd_g (gd_in a 1040) <|
 gd_pi (R_Machine_value (gA σ 6 a.toNatClampNeg) σ) fun r1 =>
 gd_g (gd_in a 1040) <|
 gd_pi (R_Machine_value (gA σ 7 a.toNatClampNeg) σ) fun r2 =>
 gd_g (gd_in a 1040) <|
 if (f_Arithmetic_holds (gA σ 4 a.toNatClampNeg) r1 r2) = 0 then
  some (.inl (some (.int (a + (1 : Int32)))))
 else
  gd_g (gd_in a 1040) <|
  some (.inl (some (.int (gA σ 9 a.toNatClampNeg))))
set_option maxRecDepth 20000 in
theorem X_Machine_branchDestination (a : Int32) (σ : gS) (r0 : gQ) (h : R_Machine_branchDestination a σ = some r0) : gv_K m_Machine_branchDestination [.ref 10, .int a] σ (gv_is r0 σ) := by
  unfold R_Machine_branchDestination at h
  show gv_V m_Machine_branchDestination 1 true 0 [some (.ref 10), some (.int a), none, none] [] σ (gv_is r0 σ)
  refine gv_aload_n (n := 0) (pc' := 1) (by decide +kernel) rfl rfl ?_
  refine gv_aload_n (n := 0) (pc' := 2) (by decide +kernel) rfl rfl ?_
  refine gv_getr lk_2_40 (by decide +kernel) rfl rfl (pc' := 5) rfl ?_
  refine gv_getr lk_2_158 (by decide +kernel) rfl rfl (pc' := 8) rfl ?_
  refine gv_iload_n (n := 1) (pc' := 9) (by decide +kernel) rfl rfl ?_
  obtain ⟨g9, h⟩ := gd_gE h
  refine gj_iald _ (pc' := 10) (by decide +kernel) rfl (gd_inv g9) rfl rfl ?_
  refine gd_evi (w' := true) (pc' := 13) (X_Machine_value _ _) h md_Machine_value vd_Machine_value (Or.inl ml_2_161) (by decide +kernel) (by decide) rfl rfl rfl (Nat.le_of_ble_eq_true rfl) (Nat.le_of_ble_eq_true rfl) (by decide) rfl (fun z => ⟨rfl, z⟩) (by decide) rfl (fun r1 h => ?_)
  refine gv_istore_n (n := 2) (pc' := 14) (by decide +kernel) (by decide) rfl ?_
  refine gv_aload_n (n := 0) (pc' := 15) (by decide +kernel) rfl rfl ?_
  refine gv_aload_n (n := 0) (pc' := 16) (by decide +kernel) rfl rfl ?_
  refine gv_getr lk_2_40 (by decide +kernel) rfl rfl (pc' := 19) rfl ?_
  refine gv_getr lk_2_164 (by decide +kernel) rfl rfl (pc' := 22) rfl ?_
  refine gv_iload_n (n := 1) (pc' := 23) (by decide +kernel) rfl rfl ?_
  obtain ⟨g23, h⟩ := gd_gE h
  refine gj_iald _ (pc' := 24) (by decide +kernel) rfl (gd_inv g23) rfl rfl ?_
  refine gd_evi (w' := true) (pc' := 27) (X_Machine_value _ _) h md_Machine_value vd_Machine_value (Or.inl ml_2_161) (by decide +kernel) (by decide) rfl rfl rfl (Nat.le_of_ble_eq_true rfl) (Nat.le_of_ble_eq_true rfl) (by decide) rfl (fun z => ⟨rfl, z⟩) (by decide) rfl (fun r2 h => ?_)
  refine gv_istore_n (n := 3) (pc' := 28) (by decide +kernel) (by decide) rfl ?_
  refine gv_aload_n (n := 0) (pc' := 29) (by decide +kernel) rfl rfl ?_
  refine gv_getr lk_2_40 (by decide +kernel) rfl rfl (pc' := 32) rfl ?_
  refine gv_getr lk_2_171 (by decide +kernel) rfl rfl (pc' := 35) rfl ?_
  refine gv_iload_n (n := 1) (pc' := 36) (by decide +kernel) rfl rfl ?_
  obtain ⟨g36, h⟩ := gd_gE h
  refine gj_iald _ (pc' := 37) (by decide +kernel) rfl (gd_inv g36) rfl rfl ?_
  refine gv_iload_n (n := 2) (pc' := 38) (by decide +kernel) rfl rfl ?_
  refine gv_iload_n (n := 3) (pc' := 39) (by decide +kernel) rfl rfl ?_
  refine gv_csi (w' := true) (pc' := 42) (y_Arithmetic_holds _ _ _ _) md_Arithmetic_holds sd_Arithmetic_holds (Or.inl ml_2_191) (by decide +kernel) (by decide) rfl (Nat.le_of_ble_eq_true rfl) (Nat.le_of_ble_eq_true rfl) (by decide) rfl (fun z => ⟨rfl, z⟩) (by decide) rfl ?_
  refine gv_if_eq (off := 15) (tgt := 57) (pc' := 45) (by decide +kernel) (by decide) rfl (fun c42 => ?_) (fun c42 => ?_)
  · replace h := gd_T c42 h
    refine gv_iload_n (n := 1) (pc' := 58) (by decide +kernel) rfl rfl ?_
    refine gv_iconst (n := 1) (v := 1) (pc' := 59) (by decide +kernel) (by decide) rfl ?_
    refine gv_iadd (pc' := 60) (by decide +kernel) rfl ?_
    exact gv_iret .int (by decide +kernel) rfl rfl (by decide) (by decide) (gd_pE h)
  · replace h := gd_F c42 h
    refine gv_aload_n (n := 0) (pc' := 46) (by decide +kernel) rfl rfl ?_
    refine gv_getr lk_2_40 (by decide +kernel) rfl rfl (pc' := 49) rfl ?_
    refine gv_getr lk_2_109 (by decide +kernel) rfl rfl (pc' := 52) rfl ?_
    refine gv_iload_n (n := 1) (pc' := 53) (by decide +kernel) rfl rfl ?_
    obtain ⟨g53, h⟩ := gd_gE h
    refine gj_iald _ (pc' := 54) (by decide +kernel) rfl (gd_inv g53) rfl rfl ?_
    refine gv_goto (off := 6) (tgt := 60) (by decide +kernel) (by decide) ?_
    exact gv_iret .int (by decide +kernel) rfl rfl (by decide) (by decide) (gd_pE h)
def F_Machine_goTo (a : Int32) (σ : gS) : gR :=
 gd_0 (F_Leaks_add 0 a σ) fun s1 =>
 gd_s (gs_I s1 10 5 a) fun s2 =>
 some (.inl none, s2)
set_option maxRecDepth 20000 in
theorem X_Machine_goTo (a : Int32) (σ : gS) (r0 : gQ × gS) (h : F_Machine_goTo a σ = some r0) : gv_K m_Machine_goTo [.ref 10, .int a] σ (gv_is r0.1 r0.2) := by
  unfold F_Machine_goTo at h
  show gv_V m_Machine_goTo 1 true 0 [some (.ref 10), some (.int a)] [] σ (gv_is r0.1 r0.2)
  refine gv_aload_n (n := 0) (pc' := 1) (by decide +kernel) rfl rfl ?_
  refine gv_getr lk_2_22 (by decide +kernel) rfl rfl (pc' := 4) rfl ?_
  refine gv_iconst (n := 0) (v := 0) (pc' := 5) (by decide +kernel) (by decide) rfl ?_
  refine gv_iload_n (n := 1) (pc' := 6) (by decide +kernel) rfl rfl ?_
  refine gd_cv0 (w' := false) (pc' := 9) (X_Leaks_add _ _ _) h md_Leaks_add vd_Leaks_add (Or.inl ml_2_123) (by decide +kernel) (by decide) rfl rfl rfl (Nat.le_of_ble_eq_true rfl) (Nat.le_of_ble_eq_true rfl) (by decide) rfl (fun z => by cases z) (by decide) rfl (fun s1 h => ?_)
  refine gv_aload_n (n := 0) (pc' := 10) (by decide +kernel) rfl rfl ?_
  refine gv_iload_n (n := 1) (pc' := 11) (by decide +kernel) rfl rfl ?_
  refine gd_puti lp_2_33 (by decide +kernel) rfl rfl rfl rfl (pc' := 14) rfl h (fun s2 h => ?_)
  exact gv_ret (by decide +kernel) rfl (by decide) (by decide) (gd_rE h)
def F_Machine_step (σ : gS) : gR :=
 gd_s (gs_I σ 10 5 ((gI σ 10 5) + (1 : Int32))) fun s1 =>
 gd_g (gd_in (gI σ 10 5) 1040) <|
 if (gA s1 3 (gI σ 10 5).toNatClampNeg) = 0 then
  gd_0 (F_Machine_compute (gI σ 10 5) s1) fun s2 =>
  some (.inl none, s2)
 else if (gA s1 3 (gI σ 10 5).toNatClampNeg) = 1 then
  gd_0 (F_Machine_compute (gI σ 10 5) s1) fun s3 =>
  some (.inl none, s3)
 else if (gA s1 3 (gI σ 10 5).toNatClampNeg) = 2 then
  gd_g (gd_in (gI σ 10 5) 1040) <|
  gd_g (gd_in (gI σ 10 5) 1040) <|
  gd_0 (F_Machine_put (gA s1 5 (gI σ 10 5).toNatClampNeg) (gA s1 8 (gI σ 10 5).toNatClampNeg) s1) fun s4 =>
  some (.inl none, s4)
 else if (gA s1 3 (gI σ 10 5).toNatClampNeg) = 3 then
  gd_0 (F_Machine_fetch (gI σ 10 5) s1) fun s5 =>
  some (.inl none, s5)
 else if (gA s1 3 (gI σ 10 5).toNatClampNeg) = 4 then
  gd_0 (F_Machine_keep (gI σ 10 5) s1) fun s6 =>
  some (.inl none, s6)
 else if (gA s1 3 (gI σ 10 5).toNatClampNeg) = 5 then
  gd_qi (R_Machine_branchDestination (gI σ 10 5) s1) s1 fun r7 =>
  gd_0 (F_Machine_goTo r7 s1) fun s8 =>
  some (.inl none, s8)
 else if (gA s1 3 (gI σ 10 5).toNatClampNeg) = 6 then
  gd_g (gd_in (gI σ 10 5) 1040) <|
  gd_0 (F_Machine_goTo (gA s1 9 (gI σ 10 5).toNatClampNeg) s1) fun s9 =>
  some (.inl none, s9)
 else 
  some (.inl none, s1)
set_option maxRecDepth 20000 in
theorem X_Machine_step (σ : gS) (r0 : gQ × gS) (h : F_Machine_step σ = some r0) : gv_K m_Machine_step [.ref 10] σ (gv_is r0.1 r0.2) := by
  unfold F_Machine_step at h
  show gv_V m_Machine_step 1 true 0 [some (.ref 10), none] [] σ (gv_is r0.1 r0.2)
  refine gv_aload_n (n := 0) (pc' := 1) (by decide +kernel) rfl rfl ?_
  refine gv_getj lk_2_33 (by decide +kernel) rfl rfl (pc' := 4) rfl ?_
  refine gv_istore_n (n := 1) (pc' := 5) (by decide +kernel) (by decide) rfl ?_
  refine gv_aload_n (n := 0) (pc' := 6) (by decide +kernel) rfl rfl ?_
  refine gv_iload_n (n := 1) (pc' := 7) (by decide +kernel) rfl rfl ?_
  refine gv_iconst (n := 1) (v := 1) (pc' := 8) (by decide +kernel) (by decide) rfl ?_
  refine gv_iadd (pc' := 9) (by decide +kernel) rfl ?_
  refine gd_puti lp_2_33 (by decide +kernel) rfl rfl rfl rfl (pc' := 12) rfl h (fun s1 h => ?_)
  refine gv_aload_n (n := 0) (pc' := 13) (by decide +kernel) rfl rfl ?_
  refine gv_getr lk_2_40 (by decide +kernel) rfl rfl (pc' := 16) rfl ?_
  refine gv_getr lk_2_90 (by decide +kernel) rfl rfl (pc' := 19) rfl ?_
  refine gv_iload_n (n := 1) (pc' := 20) (by decide +kernel) rfl rfl ?_
  obtain ⟨g20, h⟩ := gd_gE h
  refine gj_iald _ (pc' := 21) (by decide +kernel) rfl (gd_inv g20) rfl rfl ?_
  by_cases q21_0 : (gA s1 3 (gI σ 10 5).toNatClampNeg) = 0
  · replace h := gd_T q21_0 h
    refine gd_tbT (dflt := 120) (lo := 0) (hi := 6) (offs := #[43, 43, 51, 76, 84, 92, 104]) (len := 43) (off := 43) (tgt := 64) q21_0 (by decide +kernel) (by decide) (by decide) rfl (by decide) ?_
    refine gv_aload_n (n := 0) (pc' := 65) (by decide +kernel) rfl rfl ?_
    refine gv_iload_n (n := 1) (pc' := 66) (by decide +kernel) rfl rfl ?_
    refine gd_cv0 (w' := false) (pc' := 69) (X_Machine_compute _ _) h md_Machine_compute vd_Machine_compute (Or.inl ml_2_136) (by decide +kernel) (by decide) rfl rfl rfl (Nat.le_of_ble_eq_true rfl) (Nat.le_of_ble_eq_true rfl) (by decide) rfl (fun z => by cases z) (by decide) rfl (fun s2 h => ?_)
    refine gv_goto (off := 72) (tgt := 141) (by decide +kernel) (by decide) ?_
    exact gv_ret (by decide +kernel) rfl (by decide) (by decide) (gd_rE h)
  replace h := gd_F q21_0 h
  by_cases q21_1 : (gA s1 3 (gI σ 10 5).toNatClampNeg) = 1
  · replace h := gd_T q21_1 h
    refine gd_tbT (dflt := 120) (lo := 0) (hi := 6) (offs := #[43, 43, 51, 76, 84, 92, 104]) (len := 43) (off := 43) (tgt := 64) q21_1 (by decide +kernel) (by decide) (by decide) rfl (by decide) ?_
    refine gv_aload_n (n := 0) (pc' := 65) (by decide +kernel) rfl rfl ?_
    refine gv_iload_n (n := 1) (pc' := 66) (by decide +kernel) rfl rfl ?_
    refine gd_cv0 (w' := false) (pc' := 69) (X_Machine_compute _ _) h md_Machine_compute vd_Machine_compute (Or.inl ml_2_136) (by decide +kernel) (by decide) rfl rfl rfl (Nat.le_of_ble_eq_true rfl) (Nat.le_of_ble_eq_true rfl) (by decide) rfl (fun z => by cases z) (by decide) rfl (fun s3 h => ?_)
    refine gv_goto (off := 72) (tgt := 141) (by decide +kernel) (by decide) ?_
    exact gv_ret (by decide +kernel) rfl (by decide) (by decide) (gd_rE h)
  replace h := gd_F q21_1 h
  by_cases q21_2 : (gA s1 3 (gI σ 10 5).toNatClampNeg) = 2
  · replace h := gd_T q21_2 h
    refine gd_tbT (dflt := 120) (lo := 0) (hi := 6) (offs := #[43, 43, 51, 76, 84, 92, 104]) (len := 43) (off := 51) (tgt := 72) q21_2 (by decide +kernel) (by decide) (by decide) rfl (by decide) ?_
    refine gv_aload_n (n := 0) (pc' := 73) (by decide +kernel) rfl rfl ?_
    refine gv_aload_n (n := 0) (pc' := 74) (by decide +kernel) rfl rfl ?_
    refine gv_getr lk_2_40 (by decide +kernel) rfl rfl (pc' := 77) rfl ?_
    refine gv_getr lk_2_140 (by decide +kernel) rfl rfl (pc' := 80) rfl ?_
    refine gv_iload_n (n := 1) (pc' := 81) (by decide +kernel) rfl rfl ?_
    obtain ⟨g81, h⟩ := gd_gE h
    refine gj_iald _ (pc' := 82) (by decide +kernel) rfl (gd_inv g81) rfl rfl ?_
    refine gv_aload_n (n := 0) (pc' := 83) (by decide +kernel) rfl rfl ?_
    refine gv_getr lk_2_40 (by decide +kernel) rfl rfl (pc' := 86) rfl ?_
    refine gv_getr lk_2_143 (by decide +kernel) rfl rfl (pc' := 89) rfl ?_
    refine gv_iload_n (n := 1) (pc' := 90) (by decide +kernel) rfl rfl ?_
    obtain ⟨g90, h⟩ := gd_gE h
    refine gj_iald _ (pc' := 91) (by decide +kernel) rfl (gd_inv g90) rfl rfl ?_
    refine gd_cv0 (w' := false) (pc' := 94) (X_Machine_put _ _ _) h md_Machine_put vd_Machine_put (Or.inl ml_2_146) (by decide +kernel) (by decide) rfl rfl rfl (Nat.le_of_ble_eq_true rfl) (Nat.le_of_ble_eq_true rfl) (by decide) rfl (fun z => by cases z) (by decide) rfl (fun s4 h => ?_)
    refine gv_goto (off := 47) (tgt := 141) (by decide +kernel) (by decide) ?_
    exact gv_ret (by decide +kernel) rfl (by decide) (by decide) (gd_rE h)
  replace h := gd_F q21_2 h
  by_cases q21_3 : (gA s1 3 (gI σ 10 5).toNatClampNeg) = 3
  · replace h := gd_T q21_3 h
    refine gd_tbT (dflt := 120) (lo := 0) (hi := 6) (offs := #[43, 43, 51, 76, 84, 92, 104]) (len := 43) (off := 76) (tgt := 97) q21_3 (by decide +kernel) (by decide) (by decide) rfl (by decide) ?_
    refine gv_aload_n (n := 0) (pc' := 98) (by decide +kernel) rfl rfl ?_
    refine gv_iload_n (n := 1) (pc' := 99) (by decide +kernel) rfl rfl ?_
    refine gd_cv0 (w' := false) (pc' := 102) (X_Machine_fetch _ _) h md_Machine_fetch vd_Machine_fetch (Or.inl ml_2_149) (by decide +kernel) (by decide) rfl rfl rfl (Nat.le_of_ble_eq_true rfl) (Nat.le_of_ble_eq_true rfl) (by decide) rfl (fun z => by cases z) (by decide) rfl (fun s5 h => ?_)
    refine gv_goto (off := 39) (tgt := 141) (by decide +kernel) (by decide) ?_
    exact gv_ret (by decide +kernel) rfl (by decide) (by decide) (gd_rE h)
  replace h := gd_F q21_3 h
  by_cases q21_4 : (gA s1 3 (gI σ 10 5).toNatClampNeg) = 4
  · replace h := gd_T q21_4 h
    refine gd_tbT (dflt := 120) (lo := 0) (hi := 6) (offs := #[43, 43, 51, 76, 84, 92, 104]) (len := 43) (off := 84) (tgt := 105) q21_4 (by decide +kernel) (by decide) (by decide) rfl (by decide) ?_
    refine gv_aload_n (n := 0) (pc' := 106) (by decide +kernel) rfl rfl ?_
    refine gv_iload_n (n := 1) (pc' := 107) (by decide +kernel) rfl rfl ?_
    refine gd_cv0 (w' := false) (pc' := 110) (X_Machine_keep _ _) h md_Machine_keep vd_Machine_keep (Or.inl ml_2_152) (by decide +kernel) (by decide) rfl rfl rfl (Nat.le_of_ble_eq_true rfl) (Nat.le_of_ble_eq_true rfl) (by decide) rfl (fun z => by cases z) (by decide) rfl (fun s6 h => ?_)
    refine gv_goto (off := 31) (tgt := 141) (by decide +kernel) (by decide) ?_
    exact gv_ret (by decide +kernel) rfl (by decide) (by decide) (gd_rE h)
  replace h := gd_F q21_4 h
  by_cases q21_5 : (gA s1 3 (gI σ 10 5).toNatClampNeg) = 5
  · replace h := gd_T q21_5 h
    refine gd_tbT (dflt := 120) (lo := 0) (hi := 6) (offs := #[43, 43, 51, 76, 84, 92, 104]) (len := 43) (off := 92) (tgt := 113) q21_5 (by decide +kernel) (by decide) (by decide) rfl (by decide) ?_
    refine gv_aload_n (n := 0) (pc' := 114) (by decide +kernel) rfl rfl ?_
    refine gv_aload_n (n := 0) (pc' := 115) (by decide +kernel) rfl rfl ?_
    refine gv_iload_n (n := 1) (pc' := 116) (by decide +kernel) rfl rfl ?_
    refine gd_dvi (w' := false) (pc' := 119) (X_Machine_branchDestination _ _) h md_Machine_branchDestination vd_Machine_branchDestination (Or.inl ml_2_112) (by decide +kernel) (by decide) rfl rfl rfl (Nat.le_of_ble_eq_true rfl) (Nat.le_of_ble_eq_true rfl) (by decide) rfl (fun z => by cases z) (by decide) rfl (fun r7 h => ?_)
    refine gd_cv0 (w' := false) (pc' := 122) (X_Machine_goTo _ _) h md_Machine_goTo vd_Machine_goTo (Or.inl ml_2_155) (by decide +kernel) (by decide) rfl rfl rfl (Nat.le_of_ble_eq_true rfl) (Nat.le_of_ble_eq_true rfl) (by decide) rfl (fun z => by cases z) (by decide) rfl (fun s8 h => ?_)
    refine gv_goto (off := 19) (tgt := 141) (by decide +kernel) (by decide) ?_
    exact gv_ret (by decide +kernel) rfl (by decide) (by decide) (gd_rE h)
  replace h := gd_F q21_5 h
  by_cases q21_6 : (gA s1 3 (gI σ 10 5).toNatClampNeg) = 6
  · replace h := gd_T q21_6 h
    refine gd_tbT (dflt := 120) (lo := 0) (hi := 6) (offs := #[43, 43, 51, 76, 84, 92, 104]) (len := 43) (off := 104) (tgt := 125) q21_6 (by decide +kernel) (by decide) (by decide) rfl (by decide) ?_
    refine gv_aload_n (n := 0) (pc' := 126) (by decide +kernel) rfl rfl ?_
    refine gv_aload_n (n := 0) (pc' := 127) (by decide +kernel) rfl rfl ?_
    refine gv_getr lk_2_40 (by decide +kernel) rfl rfl (pc' := 130) rfl ?_
    refine gv_getr lk_2_109 (by decide +kernel) rfl rfl (pc' := 133) rfl ?_
    refine gv_iload_n (n := 1) (pc' := 134) (by decide +kernel) rfl rfl ?_
    obtain ⟨g134, h⟩ := gd_gE h
    refine gj_iald _ (pc' := 135) (by decide +kernel) rfl (gd_inv g134) rfl rfl ?_
    refine gd_cv0 (w' := false) (pc' := 138) (X_Machine_goTo _ _) h md_Machine_goTo vd_Machine_goTo (Or.inl ml_2_155) (by decide +kernel) (by decide) rfl rfl rfl (Nat.le_of_ble_eq_true rfl) (Nat.le_of_ble_eq_true rfl) (by decide) rfl (fun z => by cases z) (by decide) rfl (fun s9 h => ?_)
    refine gv_goto (off := 3) (tgt := 141) (by decide +kernel) (by decide) ?_
    exact gv_ret (by decide +kernel) rfl (by decide) (by decide) (gd_rE h)
  replace h := gd_F q21_6 h
  refine gv_tableOut (dflt := 120) (lo := 0) (hi := 6) (offs := #[43, 43, 51, 76, 84, 92, 104]) (len := 43) (tgt := 141) (by decide +kernel) (gd_tbs (a := 6) (gd_tbs (a := 5) (gd_tbs (a := 4) (gd_tbs (a := 3) (gd_tbs (a := 2) (gd_tbs (a := 1) (gd_tbs (a := 0) (gd_tb0 (lo := 0)) q21_0 (by decide) (by decide)) q21_1 (by decide) (by decide)) q21_2 (by decide) (by decide)) q21_3 (by decide) (by decide)) q21_4 (by decide) (by decide)) q21_5 (by decide) (by decide)) q21_6 (by decide) (by decide)) (by decide) ?_
  exact gv_ret (by decide +kernel) rfl (by decide) (by decide) (gd_rE h)
def B_Machine_runInOrder_2 (x_1_1 : Int32) (ag4 : Int32 → gS → gR) (n_2_2 : Int32) (s3 : gS) : gR :=
 if x_1_1 ≤ n_2_2 then
  some (.inl (some (.int n_2_2)), s3)
 else
  gd_qi (R_Machine_canRun s3) s3 fun r5 =>
  if r5 = 0 then
   some (.inl (some (.int n_2_2)), s3)
  else
   gd_0 (F_Machine_step s3) fun s6 =>
   ag4 (n_2_2 + 1) s6
set_option maxRecDepth 20000 in
theorem L_Machine_runInOrder_2 (x_1_1 : Int32) (r0 : gQ × gS) (n : Nat) : ∀ (n_2_2 : Int32) (s3 : gS), gd_lp (fun _ _ => none) (B_Machine_runInOrder_2 x_1_1) n n_2_2 s3 = some r0 → gv_V m_Machine_runInOrder 1 false 2 [some (.ref 10), some (.int x_1_1), some (.int n_2_2)] [] s3 (gv_is r0.1 r0.2) := by
  refine gd_lpC (fun (ag4 : Int32 → gS → gR) => ∀ (n_2_2 : Int32) (s3 : gS), ag4 n_2_2 s3 = some r0 → gv_V m_Machine_runInOrder 1 false 2 [some (.ref 10), some (.int x_1_1), some (.int n_2_2)] [] s3 (gv_is r0.1 r0.2)) (fun n_2_2 s3 h => by cases h) (fun ag4 ih n_2_2 s3 h => ?_) n
  unfold B_Machine_runInOrder_2 at h
  refine gv_iload_n (n := 2) (pc' := 3) (by decide +kernel) rfl rfl ?_
  refine gv_iload_n (n := 1) (pc' := 4) (by decide +kernel) rfl rfl ?_
  refine gv_icmp_ge (off := 20) (tgt := 24) (pc' := 7) (by decide +kernel) (by decide) rfl (fun c4 => ?_) (fun c4 => ?_)
  · replace h := gd_T c4 h
    refine gv_iload_n (n := 2) (pc' := 25) (by decide +kernel) rfl rfl ?_
    exact gv_iret .int (by decide +kernel) rfl rfl (by decide) (by decide) (gd_rE h)
  · replace h := gd_F c4 h
    refine gv_aload_n (n := 0) (pc' := 8) (by decide +kernel) rfl rfl ?_
    refine gd_dvi (w' := false) (pc' := 11) (X_Machine_canRun _) h md_Machine_canRun vd_Machine_canRun (Or.inl ml_2_68) (by decide +kernel) (by decide) rfl rfl rfl (Nat.le_of_ble_eq_true rfl) (Nat.le_of_ble_eq_true rfl) (by decide) rfl (fun z => by cases z) (by decide) rfl (fun r5 h => ?_)
    refine gv_if_eq (off := 13) (tgt := 24) (pc' := 14) (by decide +kernel) (by decide) rfl (fun c11 => ?_) (fun c11 => ?_)
    · replace h := gd_T c11 h
      refine gv_iload_n (n := 2) (pc' := 25) (by decide +kernel) rfl rfl ?_
      exact gv_iret .int (by decide +kernel) rfl rfl (by decide) (by decide) (gd_rE h)
    · replace h := gd_F c11 h
      refine gv_aload_n (n := 0) (pc' := 15) (by decide +kernel) rfl rfl ?_
      refine gd_cv0 (w' := false) (pc' := 18) (X_Machine_step _) h md_Machine_step vd_Machine_step (Or.inl ml_2_72) (by decide +kernel) (by decide) rfl rfl rfl (Nat.le_of_ble_eq_true rfl) (Nat.le_of_ble_eq_true rfl) (by decide) rfl (fun z => by cases z) (by decide) rfl (fun s6 h => ?_)
      refine gv_iincc (i := 2) (n := 1) (c := 1) (pc' := 21) (by decide +kernel) rfl (by decide) (by decide) rfl ?_
      refine gv_goto (off := -19) (tgt := 2) (by decide +kernel) (by decide) ?_
      exact gd_ar (gl_s (gl_s (gl_s gl_z))) (fun z => by cases z) (ih _ _ h)
def F_Machine_runInOrder (a : Int32) (σ : gS) : gR :=
 gd_lp (fun _ _ => none) (B_Machine_runInOrder_2 a) gd_N 0 σ
set_option maxRecDepth 20000 in
theorem X_Machine_runInOrder (a : Int32) (σ : gS) (r0 : gQ × gS) (h : F_Machine_runInOrder a σ = some r0) : gv_K m_Machine_runInOrder [.ref 10, .int a] σ (gv_is r0.1 r0.2) := by
  unfold F_Machine_runInOrder at h
  show gv_V m_Machine_runInOrder 1 true 0 [some (.ref 10), some (.int a), none] [] σ (gv_is r0.1 r0.2)
  refine gv_iconst (n := 0) (v := 0) (pc' := 1) (by decide +kernel) (by decide) rfl ?_
  refine gv_istore_n (n := 2) (pc' := 2) (by decide +kernel) (by decide) rfl ?_
  exact gd_ar (gl_s (gl_s (gl_s gl_z))) (fun z => by cases z) (L_Machine_runInOrder_2 _ r0 _ _ _ h)
def F_G_run (a : Int32) (σ : gS) : gR :=
 gd_q0 (R_G_needLoaded σ) σ <|
 gd_q0 (R_G_needAllResolved σ) σ <|
 if a < 0 then
  some (.inr 3, σ)
 else
  if a ≤ 1000 then
   gd_i (F_Machine_runInOrder a σ) fun r1 s2 =>
   some (.inl (some (.int r1)), s2)
  else
   some (.inr 3, σ)
set_option maxRecDepth 20000 in
theorem X_G_run (a : Int32) (σ : gS) (r0 : gQ × gS) (h : F_G_run a σ = some r0) : gv_K m_G_run [.ref 0, .int a] σ (gv_is r0.1 r0.2) := by
  unfold F_G_run at h
  show gv_V m_G_run 1 true 0 [some (.ref 0), some (.int a)] [] σ (gv_is r0.1 r0.2)
  refine gv_aload_n (n := 0) (pc' := 1) (by decide +kernel) rfl rfl ?_
  refine gd_dv0 (w' := true) (pc' := 4) (X_G_needLoaded _) h md_G_needLoaded vd_G_needLoaded (Or.inl ml_0_100) (by decide +kernel) (by decide) rfl rfl rfl (Nat.le_of_ble_eq_true rfl) (Nat.le_of_ble_eq_true rfl) (by decide) rfl (fun z => ⟨rfl, z⟩) (by decide) rfl (fun h => ?_)
  refine gv_aload_n (n := 0) (pc' := 5) (by decide +kernel) rfl rfl ?_
  refine gd_dv0 (w' := true) (pc' := 8) (X_G_needAllResolved _) h md_G_needAllResolved vd_G_needAllResolved (Or.inl ml_0_111) (by decide +kernel) (by decide) rfl rfl rfl (Nat.le_of_ble_eq_true rfl) (Nat.le_of_ble_eq_true rfl) (by decide) rfl (fun z => ⟨rfl, z⟩) (by decide) rfl (fun h => ?_)
  refine gv_iload_n (n := 1) (pc' := 9) (by decide +kernel) rfl rfl ?_
  refine gv_if_lt (off := 10) (tgt := 19) (pc' := 12) (by decide +kernel) (by decide) rfl (fun c9 => ?_) (fun c9 => ?_)
  · replace h := gd_T c9 h
    exact gv_throw th_0_83 (by decide +kernel) (by decide +kernel) (by decide +kernel) (by decide +kernel) (by decide) (by decide) (by decide) (by decide) (gd_rE h)
  · replace h := gd_F c9 h
    refine gv_iload_n (n := 1) (pc' := 13) (by decide +kernel) rfl rfl ?_
    refine gv_sipush (n := 1000) (v := 1000) (pc' := 16) (by decide +kernel) (by decide) rfl ?_
    refine gv_icmp_le (off := 11) (tgt := 27) (pc' := 19) (by decide +kernel) (by decide) rfl (fun c16 => ?_) (fun c16 => ?_)
    · replace h := gd_T c16 h
      refine gv_aload_n (n := 0) (pc' := 28) (by decide +kernel) rfl rfl ?_
      refine gv_getr lk_0_25 (by decide +kernel) rfl rfl (pc' := 31) rfl ?_
      refine gv_iload_n (n := 1) (pc' := 32) (by decide +kernel) rfl rfl ?_
      refine gd_cvi (w' := false) (pc' := 35) (X_Machine_runInOrder _ _) h md_Machine_runInOrder vd_Machine_runInOrder (Or.inl ml_0_129) (by decide +kernel) (by decide) rfl rfl rfl (Nat.le_of_ble_eq_true rfl) (Nat.le_of_ble_eq_true rfl) (by decide) rfl (fun z => by cases z) (by decide) rfl (fun r1 s2 h => ?_)
      exact gv_iret .int (by decide +kernel) rfl rfl (by decide) (by decide) (gd_rE h)
    · replace h := gd_F c16 h
      exact gv_throw th_0_83 (by decide +kernel) (by decide +kernel) (by decide +kernel) (by decide +kernel) (by decide) (by decide) (by decide) (by decide) (gd_rE h)
def R_Listing_isAt (a : Int32) (b : Int32) (σ : gS) : gP :=
 if a < 0 then
  some (.inl (some (.int 0)))
 else
  if (gI σ 2 7) ≤ a then
   some (.inl (some (.int 0)))
  else
   gd_g (gd_in a 1040) <|
   if (gA σ 3 a.toNatClampNeg) = b then
    some (.inl (some (.int 1)))
   else
    some (.inl (some (.int 0)))
set_option maxRecDepth 20000 in
theorem X_Listing_isAt (a : Int32) (b : Int32) (σ : gS) (r0 : gQ) (h : R_Listing_isAt a b σ = some r0) : gv_K m_Listing_isAt [.ref 2, .int a, .int b] σ (gv_is r0 σ) := by
  unfold R_Listing_isAt at h
  show gv_V m_Listing_isAt 1 true 0 [some (.ref 2), some (.int a), some (.int b)] [] σ (gv_is r0 σ)
  refine gv_iload_n (n := 1) (pc' := 1) (by decide +kernel) rfl rfl ?_
  refine gv_if_lt (off := 25) (tgt := 26) (pc' := 4) (by decide +kernel) (by decide) rfl (fun c1 => ?_) (fun c1 => ?_)
  · replace h := gd_T c1 h
    refine gv_iconst (n := 0) (v := 0) (pc' := 27) (by decide +kernel) (by decide) rfl ?_
    exact gv_iret .boolean (by decide +kernel) rfl rfl (by decide) (by decide) (gd_pE h)
  · replace h := gd_F c1 h
    refine gv_iload_n (n := 1) (pc' := 5) (by decide +kernel) rfl rfl ?_
    refine gv_aload_n (n := 0) (pc' := 6) (by decide +kernel) rfl rfl ?_
    refine gv_getj lk_1_33 (by decide +kernel) rfl rfl (pc' := 9) rfl ?_
    refine gv_icmp_ge (off := 17) (tgt := 26) (pc' := 12) (by decide +kernel) (by decide) rfl (fun c9 => ?_) (fun c9 => ?_)
    · replace h := gd_T c9 h
      refine gv_iconst (n := 0) (v := 0) (pc' := 27) (by decide +kernel) (by decide) rfl ?_
      exact gv_iret .boolean (by decide +kernel) rfl rfl (by decide) (by decide) (gd_pE h)
    · replace h := gd_F c9 h
      refine gv_aload_n (n := 0) (pc' := 13) (by decide +kernel) rfl rfl ?_
      refine gv_getr lk_1_9 (by decide +kernel) rfl rfl (pc' := 16) rfl ?_
      refine gv_iload_n (n := 1) (pc' := 17) (by decide +kernel) rfl rfl ?_
      obtain ⟨g17, h⟩ := gd_gE h
      refine gj_iald _ (pc' := 18) (by decide +kernel) rfl (gd_inv g17) rfl rfl ?_
      refine gv_iload_n (n := 2) (pc' := 19) (by decide +kernel) rfl rfl ?_
      refine gv_icmp_ne (off := 7) (tgt := 26) (pc' := 22) (by decide +kernel) (by decide) rfl (fun c19 => ?_) (fun c19 => ?_)
      · replace h := gd_F c19 h
        refine gv_iconst (n := 0) (v := 0) (pc' := 27) (by decide +kernel) (by decide) rfl ?_
        exact gv_iret .boolean (by decide +kernel) rfl rfl (by decide) (by decide) (gd_pE h)
      · replace h := gd_T c19 h
        refine gv_iconst (n := 1) (v := 1) (pc' := 23) (by decide +kernel) (by decide) rfl ?_
        refine gv_goto (off := 4) (tgt := 27) (by decide +kernel) (by decide) ?_
        exact gv_iret .boolean (by decide +kernel) rfl rfl (by decide) (by decide) (gd_pE h)
def R_Guesses_distance (σ : gS) : gP :=
 if (gI σ 15 6) = 0 then
  some (.inl (some (.int 0)))
 else
  gd_g (gd_in (gI σ 15 5) 16) <|
  some (.inl (some (.int ((gI σ 15 7) - (gA σ 20 (gI σ 15 5).toNatClampNeg)))))
set_option maxRecDepth 20000 in
theorem X_Guesses_distance (σ : gS) (r0 : gQ) (h : R_Guesses_distance σ = some r0) : gv_K m_Guesses_distance [.ref 15] σ (gv_is r0 σ) := by
  unfold R_Guesses_distance at h
  show gv_V m_Guesses_distance 1 true 0 [some (.ref 15)] [] σ (gv_is r0 σ)
  refine gv_aload_n (n := 0) (pc' := 1) (by decide +kernel) rfl rfl ?_
  refine gv_getj lk_4_32 (by decide +kernel) rfl rfl (pc' := 4) rfl ?_
  refine gv_if_ne (off := 7) (tgt := 11) (pc' := 7) (by decide +kernel) (by decide) rfl (fun c4 => ?_) (fun c4 => ?_)
  · replace h := gd_F c4 h
    refine gv_aload_n (n := 0) (pc' := 12) (by decide +kernel) rfl rfl ?_
    refine gv_getj lk_4_35 (by decide +kernel) rfl rfl (pc' := 15) rfl ?_
    refine gv_aload_n (n := 0) (pc' := 16) (by decide +kernel) rfl rfl ?_
    refine gv_getr lk_4_25 (by decide +kernel) rfl rfl (pc' := 19) rfl ?_
    refine gv_aload_n (n := 0) (pc' := 20) (by decide +kernel) rfl rfl ?_
    refine gv_getj lk_4_28 (by decide +kernel) rfl rfl (pc' := 23) rfl ?_
    obtain ⟨g23, h⟩ := gd_gE h
    refine gj_iald _ (pc' := 24) (by decide +kernel) rfl (gd_inv g23) rfl rfl ?_
    refine gv_isub (pc' := 25) (by decide +kernel) rfl ?_
    exact gv_iret .int (by decide +kernel) rfl rfl (by decide) (by decide) (gd_pE h)
  · replace h := gd_T c4 h
    refine gv_iconst (n := 0) (v := 0) (pc' := 8) (by decide +kernel) (by decide) rfl ?_
    refine gv_goto (off := 17) (tgt := 25) (by decide +kernel) (by decide) ?_
    exact gv_iret .int (by decide +kernel) rfl rfl (by decide) (by decide) (gd_pE h)
