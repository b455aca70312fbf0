def B_M_findGuessed_101 (ag28 : Int32 → gS → gR) (n_1_26 : Int32) (s27 : gS) : gR :=
 if (gI s27 41 2) ≤ n_1_26 then
  some (.inl none, s27)
 else
  gd_g (gd_in n_1_26 1040) <|
  gd_g (gd_in n_1_26 1040) <|
  gd_s (gs_A s27 52 n_1_26.toNatClampNeg (vp_nar .boolean (gA s27 63 n_1_26.toNatClampNeg))) fun s29 =>
  ag28 (n_1_26 + 1) s29
set_option maxRecDepth 20000 in
theorem L_M_findGuessed_101 (r0 : gQ × gS) (n : Nat) : ∀ (n_1_26 : Int32) (s27 : gS), gd_lp (fun _ _ => none) (B_M_findGuessed_101) n n_1_26 s27 = some r0 → gv_V m_M_findGuessed 1 false 101 [some (.ref 41), some (.int n_1_26)] [] s27 (gv_is r0.1 r0.2) := by
  refine gd_lpC (fun (ag28 : Int32 → gS → gR) => ∀ (n_1_26 : Int32) (s27 : gS), ag28 n_1_26 s27 = some r0 → gv_V m_M_findGuessed 1 false 101 [some (.ref 41), some (.int n_1_26)] [] s27 (gv_is r0.1 r0.2)) (fun n_1_26 s27 h => by cases h) (fun ag28 ih n_1_26 s27 h => ?_) n
  unfold B_M_findGuessed_101 at h
  refine gv_iload_n (n := 1) (pc' := 102) (by decide +kernel) rfl rfl ?_
  refine gv_aload_n (n := 0) (pc' := 103) (by decide +kernel) rfl rfl ?_
  refine gv_getj lk_9_102 (by decide +kernel) rfl rfl (pc' := 106) rfl ?_
  refine gv_icmp_ge (off := 21) (tgt := 127) (pc' := 109) (by decide +kernel) (by decide) rfl (fun c106 => ?_) (fun c106 => ?_)
  · replace h := gd_T c106 h
    exact gv_ret (by decide +kernel) rfl (by decide) (by decide) (gd_rE h)
  · replace h := gd_F c106 h
    refine gv_aload_n (n := 0) (pc' := 110) (by decide +kernel) rfl rfl ?_
    refine gv_getr lk_9_48 (by decide +kernel) rfl rfl (pc' := 113) rfl ?_
    refine gv_iload_n (n := 1) (pc' := 114) (by decide +kernel) rfl rfl ?_
    refine gv_aload_n (n := 0) (pc' := 115) (by decide +kernel) rfl rfl ?_
    refine gv_getr lk_9_83 (by decide +kernel) rfl rfl (pc' := 118) rfl ?_
    refine gv_iload_n (n := 1) (pc' := 119) (by decide +kernel) rfl rfl ?_
    obtain ⟨g119, h⟩ := gd_gE h
    refine gj_zald _ (pc' := 120) (by decide +kernel) rfl (gd_inv g119) rfl rfl ?_
    obtain ⟨g120, h⟩ := gd_gE h
    refine gd_zast (pc' := 121) (by decide +kernel) rfl (gd_inv g120) rfl h (fun s29 h => ?_)
    refine gv_iincc (i := 1) (n := 1) (c := 1) (pc' := 124) (by decide +kernel) rfl (by decide) (by decide) rfl ?_
    refine gv_goto (off := -23) (tgt := 101) (by decide +kernel) (by decide) ?_
    exact gd_ar (gl_s (gl_s gl_z)) (fun z => by cases z) (ih _ _ h)
def B_M_findGuessed_60 (k20 : gS → gR) (ag19 : Int32 → gS → gR) (n_1_17 : Int32) (s18 : gS) : gR :=
 if (gI s18 41 37) ≤ n_1_17 then
  k20 s18
 else
  gd_g (gd_in n_1_17 2081) <|
  gd_qi (R_M_kind (gA s18 62 n_1_17.toNatClampNeg) s18) s18 fun r21 =>
  gd_j (α := gS → gR) (fun (s24 : gS) =>
   ag19 (n_1_17 + 1) s24) fun J22 =>
  if r21 = 7 then
   J22 s18
  else
   gd_g (gd_in n_1_17 2081) <|
   gd_0 (F_M_goOn (gA s18 62 n_1_17.toNatClampNeg) s18) fun s23 =>
   J22 s23
set_option maxRecDepth 20000 in
theorem L_M_findGuessed_60 (k20 : gS → gR) (r0 : gQ × gS) (hk20 : ∀ (s25 : gS), k20 s25 = some r0 → gv_V m_M_findGuessed 1 false 99 [some (.ref 41), none] [] s25 (gv_is r0.1 r0.2)) (n : Nat) : ∀ (n_1_17 : Int32) (s18 : gS), gd_lp (fun _ _ => none) (B_M_findGuessed_60 k20) n n_1_17 s18 = some r0 → gv_V m_M_findGuessed 1 false 60 [some (.ref 41), some (.int n_1_17)] [] s18 (gv_is r0.1 r0.2) := by
  refine gd_lpC (fun (ag19 : Int32 → gS → gR) => ∀ (n_1_17 : Int32) (s18 : gS), ag19 n_1_17 s18 = some r0 → gv_V m_M_findGuessed 1 false 60 [some (.ref 41), some (.int n_1_17)] [] s18 (gv_is r0.1 r0.2)) (fun n_1_17 s18 h => by cases h) (fun ag19 ih n_1_17 s18 h => ?_) n
  unfold B_M_findGuessed_60 at h
  refine gv_iload_n (n := 1) (pc' := 61) (by decide +kernel) rfl rfl ?_
  refine gv_aload_n (n := 0) (pc' := 62) (by decide +kernel) rfl rfl ?_
  refine gv_getj lk_9_235 (by decide +kernel) rfl rfl (pc' := 65) rfl ?_
  refine gv_icmp_ge (off := 34) (tgt := 99) (pc' := 68) (by decide +kernel) (by decide) rfl (fun c65 => ?_) (fun c65 => ?_)
  · replace h := gd_T c65 h
    exact gd_ar (gl_s (gl_n gl_z)) (fun z => by cases z) (hk20 _ h)
  · replace h := gd_F c65 h
    refine gv_aload_n (n := 0) (pc' := 69) (by decide +kernel) rfl rfl ?_
    refine gv_aload_n (n := 0) (pc' := 70) (by decide +kernel) rfl rfl ?_
    refine gv_getr lk_9_80 (by decide +kernel) rfl rfl (pc' := 73) rfl ?_
    refine gv_iload_n (n := 1) (pc' := 74) (by decide +kernel) rfl rfl ?_
    obtain ⟨g74, h⟩ := gd_gE h
    refine gj_iald _ (pc' := 75) (by decide +kernel) rfl (gd_inv g74) rfl rfl ?_
    refine gd_dvi (w' := false) (pc' := 78) (X_M_kind _ _) h md_M_kind vd_M_kind (Or.inl ml_9_130) (by decide +kernel) (by decide) rfl rfl rfl (Nat.le_of_ble_eq_true rfl) (Nat.le_of_ble_eq_true rfl) (by decide) rfl (fun z => by cases z) (by decide) rfl (fun r21 h => ?_)
    refine gv_bipush (n := 7) (v := 7) (pc' := 80) (by decide +kernel) (by decide) rfl ?_
    refine gd_jC (fun J22 => ∀ (s24 : gS), J22 s24 = some r0 → gv_V m_M_findGuessed 1 false 93 [some (.ref 41), some (.int n_1_17)] [] s24 (gv_is r0.1 r0.2)) h (fun s24 h => ?_) (fun J22 hJ22 h => ?_)
    · refine gv_iincc (i := 1) (n := 1) (c := 1) (pc' := 96) (by decide +kernel) rfl (by decide) (by decide) rfl ?_
      refine gv_goto (off := -36) (tgt := 60) (by decide +kernel) (by decide) ?_
      exact gd_ar (gl_s (gl_s gl_z)) (fun z => by cases z) (ih _ _ h)
    · refine gv_icmp_eq (off := 13) (tgt := 93) (pc' := 83) (by decide +kernel) (by decide) rfl (fun c80 => ?_) (fun c80 => ?_)
      · replace h := gd_T c80 h
        exact gd_ar (gl_s (gl_s gl_z)) (fun z => by cases z) (hJ22 _ h)
      · replace h := gd_F c80 h
        refine gv_aload_n (n := 0) (pc' := 84) (by decide +kernel) rfl rfl ?_
        refine gv_aload_n (n := 0) (pc' := 85) (by decide +kernel) rfl rfl ?_
        refine gv_getr lk_9_80 (by decide +kernel) rfl rfl (pc' := 88) rfl ?_
        refine gv_iload_n (n := 1) (pc' := 89) (by decide +kernel) rfl rfl ?_
        obtain ⟨g89, h⟩ := gd_gE h
        refine gj_iald _ (pc' := 90) (by decide +kernel) rfl (gd_inv g89) rfl rfl ?_
        refine gd_cv0 (w' := false) (pc' := 93) (X_M_goOn _ _) h md_M_goOn vd_M_goOn (Or.inl ml_9_242) (by decide +kernel) (by decide) rfl rfl rfl (Nat.le_of_ble_eq_true rfl) (Nat.le_of_ble_eq_true rfl) (by decide) rfl (fun z => by cases z) (by decide) rfl (fun s23 h => ?_)
        exact gd_ar (gl_s (gl_s gl_z)) (fun z => by cases z) (hJ22 _ h)
def B_M_findGuessed_30 (k11 : gS → gR) (ag10 : Int32 → gS → gR) (n_1_8 : Int32) (s9 : gS) : gR :=
 if (gI s9 41 2) ≤ n_1_8 then
  k11 s9
 else
  gd_qi (R_M_kind n_1_8 s9) s9 fun r12 =>
  gd_j (α := gS → gR) (fun (s15 : gS) =>
   ag10 (n_1_8 + 1) s15) fun J13 =>
  if r12 = 5 then
   gd_0 (F_M_goOn n_1_8 s9) fun s14 =>
   J13 s14
  else
   J13 s9
set_option maxRecDepth 20000 in
theorem L_M_findGuessed_30 (k11 : gS → gR) (r0 : gQ × gS) (hk11 : ∀ (s16 : gS), k11 s16 = some r0 → gv_V m_M_findGuessed 1 false 58 [some (.ref 41), none] [] s16 (gv_is r0.1 r0.2)) (n : Nat) : ∀ (n_1_8 : Int32) (s9 : gS), gd_lp (fun _ _ => none) (B_M_findGuessed_30 k11) n n_1_8 s9 = some r0 → gv_V m_M_findGuessed 1 false 30 [some (.ref 41), some (.int n_1_8)] [] s9 (gv_is r0.1 r0.2) := by
  refine gd_lpC (fun (ag10 : Int32 → gS → gR) => ∀ (n_1_8 : Int32) (s9 : gS), ag10 n_1_8 s9 = some r0 → gv_V m_M_findGuessed 1 false 30 [some (.ref 41), some (.int n_1_8)] [] s9 (gv_is r0.1 r0.2)) (fun n_1_8 s9 h => by cases h) (fun ag10 ih n_1_8 s9 h => ?_) n
  unfold B_M_findGuessed_30 at h
  refine gv_iload_n (n := 1) (pc' := 31) (by decide +kernel) rfl rfl ?_
  refine gv_aload_n (n := 0) (pc' := 32) (by decide +kernel) rfl rfl ?_
  refine gv_getj lk_9_102 (by decide +kernel) rfl rfl (pc' := 35) rfl ?_
  refine gv_icmp_ge (off := 23) (tgt := 58) (pc' := 38) (by decide +kernel) (by decide) rfl (fun c35 => ?_) (fun c35 => ?_)
  · replace h := gd_T c35 h
    exact gd_ar (gl_s (gl_n gl_z)) (fun z => by cases z) (hk11 _ h)
  · replace h := gd_F c35 h
    refine gv_aload_n (n := 0) (pc' := 39) (by decide +kernel) rfl rfl ?_
    refine gv_iload_n (n := 1) (pc' := 40) (by decide +kernel) rfl rfl ?_
    refine gd_dvi (w' := false) (pc' := 43) (X_M_kind _ _) h md_M_kind vd_M_kind (Or.inl ml_9_130) (by decide +kernel) (by decide) rfl rfl rfl (Nat.le_of_ble_eq_true rfl) (Nat.le_of_ble_eq_true rfl) (by decide) rfl (fun z => by cases z) (by decide) rfl (fun r12 h => ?_)
    refine gv_iconst (n := 5) (v := 5) (pc' := 44) (by decide +kernel) (by decide) rfl ?_
    refine gd_jC (fun J13 => ∀ (s15 : gS), J13 s15 = some r0 → gv_V m_M_findGuessed 1 false 52 [some (.ref 41), some (.int n_1_8)] [] s15 (gv_is r0.1 r0.2)) h (fun s15 h => ?_) (fun J13 hJ13 h => ?_)
    · refine gv_iincc (i := 1) (n := 1) (c := 1) (pc' := 55) (by decide +kernel) rfl (by decide) (by decide) rfl ?_
      refine gv_goto (off := -25) (tgt := 30) (by decide +kernel) (by decide) ?_
      exact gd_ar (gl_s (gl_s gl_z)) (fun z => by cases z) (ih _ _ h)
    · refine gv_icmp_ne (off := 8) (tgt := 52) (pc' := 47) (by decide +kernel) (by decide) rfl (fun c44 => ?_) (fun c44 => ?_)
      · replace h := gd_F c44 h
        exact gd_ar (gl_s (gl_s gl_z)) (fun z => by cases z) (hJ13 _ h)
      · replace h := gd_T c44 h
        refine gv_aload_n (n := 0) (pc' := 48) (by decide +kernel) rfl rfl ?_
        refine gv_iload_n (n := 1) (pc' := 49) (by decide +kernel) rfl rfl ?_
        refine gd_cv0 (w' := false) (pc' := 52) (X_M_goOn _ _) h md_M_goOn vd_M_goOn (Or.inl ml_9_242) (by decide +kernel) (by decide) rfl rfl rfl (Nat.le_of_ble_eq_true rfl) (Nat.le_of_ble_eq_true rfl) (by decide) rfl (fun z => by cases z) (by decide) rfl (fun s14 h => ?_)
        exact gd_ar (gl_s (gl_s gl_z)) (fun z => by cases z) (hJ13 _ h)
def B_M_findGuessed_2 (k4 : gS → gR) (ag3 : Int32 → gS → gR) (n_1_1 : Int32) (s2 : gS) : gR :=
 if (gI s2 41 2) ≤ n_1_1 then
  k4 s2
 else
  gd_g (gd_in n_1_1 1040) <|
  gd_s (gs_A s2 63 n_1_1.toNatClampNeg (vp_nar .boolean 0)) fun s5 =>
  ag3 (n_1_1 + 1) s5
set_option maxRecDepth 20000 in
theorem L_M_findGuessed_2 (k4 : gS → gR) (r0 : gQ × gS) (hk4 : ∀ (s6 : gS), k4 s6 = some r0 → gv_V m_M_findGuessed 1 false 23 [some (.ref 41), none] [] s6 (gv_is r0.1 r0.2)) (n : Nat) : ∀ (n_1_1 : Int32) (s2 : gS), gd_lp (fun _ _ => none) (B_M_findGuessed_2 k4) n n_1_1 s2 = some r0 → gv_V m_M_findGuessed 1 false 2 [some (.ref 41), some (.int n_1_1)] [] s2 (gv_is r0.1 r0.2) := by
  refine gd_lpC (fun (ag3 : Int32 → gS → gR) => ∀ (n_1_1 : Int32) (s2 : gS), ag3 n_1_1 s2 = some r0 → gv_V m_M_findGuessed 1 false 2 [some (.ref 41), some (.int n_1_1)] [] s2 (gv_is r0.1 r0.2)) (fun n_1_1 s2 h => by cases h) (fun ag3 ih n_1_1 s2 h => ?_) n
  unfold B_M_findGuessed_2 at h
  refine gv_iload_n (n := 1) (pc' := 3) (by decide +kernel) rfl rfl ?_
  refine gv_aload_n (n := 0) (pc' := 4) (by decide +kernel) rfl rfl ?_
  refine gv_getj lk_9_102 (by decide +kernel) rfl rfl (pc' := 7) rfl ?_
  refine gv_icmp_ge (off := 16) (tgt := 23) (pc' := 10) (by decide +kernel) (by decide) rfl (fun c7 => ?_) (fun c7 => ?_)
  · replace h := gd_T c7 h
    exact gd_ar (gl_s (gl_n gl_z)) (fun z => by cases z) (hk4 _ h)
  · replace h := gd_F c7 h
    refine gv_aload_n (n := 0) (pc' := 11) (by decide +kernel) rfl rfl ?_
    refine gv_getr lk_9_83 (by decide +kernel) rfl rfl (pc' := 14) rfl ?_
    refine gv_iload_n (n := 1) (pc' := 15) (by decide +kernel) rfl rfl ?_
    refine gv_iconst (n := 0) (v := 0) (pc' := 16) (by decide +kernel) (by decide) rfl ?_
    obtain ⟨g16, h⟩ := gd_gE h
    refine gd_zast (pc' := 17) (by decide +kernel) rfl (gd_inv g16) rfl h (fun s5 h => ?_)
    refine gv_iincc (i := 1) (n := 1) (c := 1) (pc' := 20) (by decide +kernel) rfl (by decide) (by decide) rfl ?_
    refine gv_goto (off := -18) (tgt := 2) (by decide +kernel) (by decide) ?_
    exact gd_ar (gl_s (gl_s gl_z)) (fun z => by cases z) (ih _ _ h)
def F_M_findGuessed (σ : gS) : gR :=
 gd_j (α := gS → gR) (fun (s6 : gS) =>
  gd_s (gs_I s6 41 37 0) fun s7 =>
  gd_j (α := gS → gR) (fun (s16 : gS) =>
   gd_j (α := gS → gR) (fun (s25 : gS) =>
    gd_lp (fun _ _ => none) (B_M_findGuessed_101) gd_N 0 s25) fun k20 =>
   gd_lp (fun _ _ => none) (B_M_findGuessed_60 k20) gd_N 0 s16) fun k11 =>
  gd_lp (fun _ _ => none) (B_M_findGuessed_30 k11) gd_N 0 s7) fun k4 =>
 gd_lp (fun _ _ => none) (B_M_findGuessed_2 k4) gd_N 0 σ
set_option maxRecDepth 20000 in
theorem X_M_findGuessed (σ : gS) (r0 : gQ × gS) (h : F_M_findGuessed σ = some r0) : gv_K m_M_findGuessed [.ref 41] σ (gv_is r0.1 r0.2) := by
  unfold F_M_findGuessed at h
  show gv_V m_M_findGuessed 1 true 0 [some (.ref 41), none] [] σ (gv_is r0.1 r0.2)
  refine gv_iconst (n := 0) (v := 0) (pc' := 1) (by decide +kernel) (by decide) rfl ?_
  refine gv_istore_n (n := 1) (pc' := 2) (by decide +kernel) (by decide) rfl ?_
  refine gd_jC (fun k4 => ∀ (s6 : gS), k4 s6 = some r0 → gv_V m_M_findGuessed 1 false 23 [some (.ref 41), none] [] s6 (gv_is r0.1 r0.2)) h (fun s6 h => ?_) (fun k4 hk4 h => ?_)
  · refine gv_aload_n (n := 0) (pc' := 24) (by decide +kernel) rfl rfl ?_
    refine gv_iconst (n := 0) (v := 0) (pc' := 25) (by decide +kernel) (by decide) rfl ?_
    refine gd_puti lp_9_235 (by decide +kernel) rfl rfl rfl rfl (pc' := 28) rfl h (fun s7 h => ?_)
    refine gv_iconst (n := 0) (v := 0) (pc' := 29) (by decide +kernel) (by decide) rfl ?_
    refine gv_istore_n (n := 1) (pc' := 30) (by decide +kernel) (by decide) rfl ?_
    refine gd_jC (fun k11 => ∀ (s16 : gS), k11 s16 = some r0 → gv_V m_M_findGuessed 1 false 58 [some (.ref 41), none] [] s16 (gv_is r0.1 r0.2)) h (fun s16 h => ?_) (fun k11 hk11 h => ?_)
    · refine gv_iconst (n := 0) (v := 0) (pc' := 59) (by decide +kernel) (by decide) rfl ?_
      refine gv_istore_n (n := 1) (pc' := 60) (by decide +kernel) (by decide) rfl ?_
      refine gd_jC (fun k20 => ∀ (s25 : gS), k20 s25 = some r0 → gv_V m_M_findGuessed 1 false 99 [some (.ref 41), none] [] s25 (gv_is r0.1 r0.2)) h (fun s25 h => ?_) (fun k20 hk20 h => ?_)
      · refine gv_iconst (n := 0) (v := 0) (pc' := 100) (by decide +kernel) (by decide) rfl ?_
        refine gv_istore_n (n := 1) (pc' := 101) (by decide +kernel) (by decide) rfl ?_
        exact gd_ar (gl_s (gl_s gl_z)) (fun z => by cases z) (L_M_findGuessed_101 r0 _ _ _ h)
      exact gd_ar (gl_s (gl_s gl_z)) (fun z => by cases z) (L_M_findGuessed_60 _ r0 hk20 _ _ _ h)
    exact gd_ar (gl_s (gl_s gl_z)) (fun z => by cases z) (L_M_findGuessed_30 _ r0 hk11 _ _ _ h)
  exact gd_ar (gl_s (gl_s gl_z)) (fun z => by cases z) (L_M_findGuessed_2 _ r0 hk4 _ _ _ h)
def F_M_turn_57 (a : Int32) (b : Int32) (σ : gS) : gR :=
 gd_g (gd_in (((33 : Int32) * a) + (b / (32 : Int32))) 34320) <|
 gd_g (gd_in (((33 : Int32) * a) + (b / (32 : Int32))) 34320) <|
 gd_s (gs_A σ 57 (((33 : Int32) * a) + (b / (32 : Int32))).toNatClampNeg ((gA σ 57 (((33 : Int32) * a) + (b / (32 : Int32))).toNatClampNeg) ^^^ ((1 : Int32) <<< ((b - b / (32 : Int32) * (32 : Int32)) &&& 31)))) fun s1 =>
 some (.inl none, s1)
set_option maxRecDepth 20000 in
theorem X_M_turn_57 (a : Int32) (b : Int32) (σ : gS) (r0 : gQ × gS) (h : F_M_turn_57 a b σ = some r0) : gv_K m_M_turn [.ref 41, .ref 57, .int a, .int b] σ (gv_is r0.1 r0.2) := by
  unfold F_M_turn_57 at h
  show gv_V m_M_turn 1 true 0 [some (.ref 41), some (.ref 57), some (.int a), some (.int b)] [] σ (gv_is r0.1 r0.2)
  refine gv_aload_n (n := 1) (pc' := 1) (by decide +kernel) rfl rfl ?_
  refine gv_bipush (n := 33) (v := 33) (pc' := 3) (by decide +kernel) (by decide) rfl ?_
  refine gv_iload_n (n := 2) (pc' := 4) (by decide +kernel) rfl rfl ?_
  refine gv_imul (pc' := 5) (by decide +kernel) rfl ?_
  refine gv_iload_n (n := 3) (pc' := 6) (by decide +kernel) rfl rfl ?_
  refine gv_bipush (n := 32) (v := 32) (pc' := 8) (by decide +kernel) (by decide) rfl ?_
  refine gv_idiv (pc' := 9) (by decide +kernel) (by decide) rfl ?_
  refine gv_iadd (pc' := 10) (by decide +kernel) rfl ?_
  refine gv_aload_n (n := 1) (pc' := 11) (by decide +kernel) rfl rfl ?_
  refine gv_bipush (n := 33) (v := 33) (pc' := 13) (by decide +kernel) (by decide) rfl ?_
  refine gv_iload_n (n := 2) (pc' := 14) (by decide +kernel) rfl rfl ?_
  refine gv_imul (pc' := 15) (by decide +kernel) rfl ?_
  refine gv_iload_n (n := 3) (pc' := 16) (by decide +kernel) rfl rfl ?_
  refine gv_bipush (n := 32) (v := 32) (pc' := 18) (by decide +kernel) (by decide) rfl ?_
  refine gv_idiv (pc' := 19) (by decide +kernel) (by decide) rfl ?_
  refine gv_iadd (pc' := 20) (by decide +kernel) rfl ?_
  obtain ⟨g20, h⟩ := gd_gE h
  refine gj_iald _ (pc' := 21) (by decide +kernel) rfl (gd_inv g20) rfl rfl ?_
  refine gv_iconst (n := 1) (v := 1) (pc' := 22) (by decide +kernel) (by decide) rfl ?_
  refine gv_iload_n (n := 3) (pc' := 23) (by decide +kernel) rfl rfl ?_
  refine gv_bipush (n := 32) (v := 32) (pc' := 25) (by decide +kernel) (by decide) rfl ?_
  refine gv_irem (pc' := 26) (by decide +kernel) (by decide) rfl ?_
  refine gv_ishl (pc' := 27) (by decide +kernel) rfl ?_
  refine gv_ixor (pc' := 28) (by decide +kernel) rfl ?_
  obtain ⟨g28, h⟩ := gd_gE h
  refine gd_iast (pc' := 29) (by decide +kernel) rfl (gd_inv g28) rfl h (fun s1 h => ?_)
  exact gv_ret (by decide +kernel) rfl (by decide) (by decide) (gd_rE h)
def B_M_findReach_72 (x_1_19 : Int32) (x_2_20 : Int32) (ag23 : Int32 → gS → gR) (n_3_21 : Int32) (s22 : gS) : gR :=
 if (gI s22 41 37) ≤ n_3_21 then
  some (.inl none, s22)
 else
  gd_g (gd_in n_3_21 2081) <|
  gd_qi (R_M_first (gA s22 62 n_3_21.toNatClampNeg) s22) s22 fun r24 =>
  gd_j (α := gS → gR) (fun (s29 : gS) =>
   gd_qi (R_M_kind (gA s22 62 n_3_21.toNatClampNeg) s29) s29 fun r30 =>
   gd_j (α := gS → gR) (fun (s34 : gS) =>
    ag23 (n_3_21 + 1) s34) fun J31 =>
   if r30 = 7 then
    J31 s29
   else
    gd_qi (R_M_result (gA s22 62 n_3_21.toNatClampNeg) s29) s29 fun r32 =>
    if r32 = x_2_20 then
     J31 s29
    else
     gd_0 (F_M_goOn (gA s22 62 n_3_21.toNatClampNeg) s29) fun s33 =>
     J31 s33) fun J25 =>
  gd_j (α := gR) (
   gd_0 (F_M_turn_57 x_1_19 (gA s22 62 n_3_21.toNatClampNeg) s22) fun s28 =>
   J25 s28) fun J26 =>
  if r24 = x_2_20 then
   J26
  else
   gd_qi (R_M_second (gA s22 62 n_3_21.toNatClampNeg) s22) s22 fun r27 =>
   if r27 = x_2_20 then
    J26
   else
    J25 s22
set_option maxRecDepth 20000 in
theorem L_M_findReach_72 (x_1_19 : Int32) (x_2_20 : Int32) (r0 : gQ × gS) (n : Nat) : ∀ (n_3_21 : Int32) (s22 : gS), gd_lp (fun _ _ => none) (B_M_findReach_72 x_1_19 x_2_20) n n_3_21 s22 = some r0 → gv_V m_M_findReach 1 false 72 [some (.ref 41), some (.int x_1_19), some (.int x_2_20), some (.int n_3_21), none] [] s22 (gv_is r0.1 r0.2) := by
  refine gd_lpC (fun (ag23 : Int32 → gS → gR) => ∀ (n_3_21 : Int32) (s22 : gS), ag23 n_3_21 s22 = some r0 → gv_V m_M_findReach 1 false 72 [some (.ref 41), some (.int x_1_19), some (.int x_2_20), some (.int n_3_21), none] [] s22 (gv_is r0.1 r0.2)) (fun n_3_21 s22 h => by cases h) (fun ag23 ih n_3_21 s22 h => ?_) n
  unfold B_M_findReach_72 at h
  refine gv_iload_n (n := 3) (pc' := 73) (by decide +kernel) rfl rfl ?_
  refine gv_aload_n (n := 0) (pc' := 74) (by decide +kernel) rfl rfl ?_
  refine gv_getj lk_9_235 (by decide +kernel) rfl rfl (pc' := 77) rfl ?_
  refine gv_icmp_ge (off := 75) (tgt := 152) (pc' := 80) (by decide +kernel) (by decide) rfl (fun c77 => ?_) (fun c77 => ?_)
  · replace h := gd_T c77 h
    exact gv_ret (by decide +kernel) rfl (by decide) (by decide) (gd_rE h)
  · replace h := gd_F c77 h
    refine gv_aload_n (n := 0) (pc' := 81) (by decide +kernel) rfl rfl ?_
    refine gv_getr lk_9_80 (by decide +kernel) rfl rfl (pc' := 84) rfl ?_
    refine gv_iload_n (n := 3) (pc' := 85) (by decide +kernel) rfl rfl ?_
    obtain ⟨g85, h⟩ := gd_gE h
    refine gj_iald _ (pc' := 86) (by decide +kernel) rfl (gd_inv g85) rfl rfl ?_
    refine gv_istore (n := 4) (pc' := 88) (by decide +kernel) (by decide) rfl ?_
    refine gv_aload_n (n := 0) (pc' := 89) (by decide +kernel) rfl rfl ?_
    refine gv_iload (n := 4) (pc' := 91) (by decide +kernel) rfl rfl ?_
    refine gd_dvi (w' := false) (pc' := 94) (X_M_first _ _) h md_M_first vd_M_first (Or.inl ml_9_170) (by decide +kernel) (by decide) rfl rfl rfl (Nat.le_of_ble_eq_true rfl) (Nat.le_of_ble_eq_true rfl) (by decide) rfl (fun z => by cases z) (by decide) rfl (fun r24 h => ?_)
    refine gv_iload_n (n := 2) (pc' := 95) (by decide +kernel) rfl rfl ?_
    refine gd_jC (fun J25 => ∀ (s29 : gS), J25 s29 = some r0 → gv_V m_M_findReach 1 false 119 [some (.ref 41), some (.int x_1_19), some (.int x_2_20), some (.int n_3_21), some (.int (gA s22 62 n_3_21.toNatClampNeg))] [] s29 (gv_is r0.1 r0.2)) h (fun s29 h => ?_) (fun J25 hJ25 h => ?_)
    · refine gv_aload_n (n := 0) (pc' := 120) (by decide +kernel) rfl rfl ?_
      refine gv_iload (n := 4) (pc' := 122) (by decide +kernel) rfl rfl ?_
      refine gd_dvi (w' := false) (pc' := 125) (X_M_kind _ _) h md_M_kind vd_M_kind (Or.inl ml_9_130) (by decide +kernel) (by decide) rfl rfl rfl (Nat.le_of_ble_eq_true rfl) (Nat.le_of_ble_eq_true rfl) (by decide) rfl (fun z => by cases z) (by decide) rfl (fun r30 h => ?_)
      refine gv_bipush (n := 7) (v := 7) (pc' := 127) (by decide +kernel) (by decide) rfl ?_
      refine gd_jC (fun J31 => ∀ (s34 : gS), J31 s34 = some r0 → gv_V m_M_findReach 1 false 146 [some (.ref 41), some (.int x_1_19), some (.int x_2_20), some (.int n_3_21), none] [] s34 (gv_is r0.1 r0.2)) h (fun s34 h => ?_) (fun J31 hJ31 h => ?_)
      · refine gv_iincc (i := 3) (n := 1) (c := 1) (pc' := 149) (by decide +kernel) rfl (by decide) (by decide) rfl ?_
        refine gv_goto (off := -77) (tgt := 72) (by decide +kernel) (by decide) ?_
        exact gd_ar (gl_s (gl_s (gl_s (gl_s (gl_n gl_z))))) (fun z => by cases z) (ih _ _ h)
      · refine gv_icmp_eq (off := 19) (tgt := 146) (pc' := 130) (by decide +kernel) (by decide) rfl (fun c127 => ?_) (fun c127 => ?_)
        · replace h := gd_T c127 h
          exact gd_ar (gl_s (gl_s (gl_s (gl_s (gl_n gl_z))))) (fun z => by cases z) (hJ31 _ h)
        · replace h := gd_F c127 h
          refine gv_aload_n (n := 0) (pc' := 131) (by decide +kernel) rfl rfl ?_
          refine gv_iload (n := 4) (pc' := 133) (by decide +kernel) rfl rfl ?_
          refine gd_dvi (w' := false) (pc' := 136) (X_M_result _ _) h md_M_result vd_M_result (Or.inl ml_9_167) (by decide +kernel) (by decide) rfl rfl rfl (Nat.le_of_ble_eq_true rfl) (Nat.le_of_ble_eq_true rfl) (by decide) rfl (fun z => by cases z) (by decide) rfl (fun r32 h => ?_)
          refine gv_iload_n (n := 2) (pc' := 137) (by decide +kernel) rfl rfl ?_
          refine gv_icmp_eq (off := 9) (tgt := 146) (pc' := 140) (by decide +kernel) (by decide) rfl (fun c137 => ?_) (fun c137 => ?_)
          · replace h := gd_T c137 h
            exact gd_ar (gl_s (gl_s (gl_s (gl_s (gl_n gl_z))))) (fun z => by cases z) (hJ31 _ h)
          · replace h := gd_F c137 h
            refine gv_aload_n (n := 0) (pc' := 141) (by decide +kernel) rfl rfl ?_
            refine gv_iload (n := 4) (pc' := 143) (by decide +kernel) rfl rfl ?_
            refine gd_cv0 (w' := false) (pc' := 146) (X_M_goOn _ _) h md_M_goOn vd_M_goOn (Or.inl ml_9_242) (by decide +kernel) (by decide) rfl rfl rfl (Nat.le_of_ble_eq_true rfl) (Nat.le_of_ble_eq_true rfl) (by decide) rfl (fun z => by cases z) (by decide) rfl (fun s33 h => ?_)
            exact gd_ar (gl_s (gl_s (gl_s (gl_s (gl_n gl_z))))) (fun z => by cases z) (hJ31 _ h)
    · refine gd_jC (fun J26 => J26 = some r0 → gv_V m_M_findReach 1 false 108 [some (.ref 41), some (.int x_1_19), some (.int x_2_20), some (.int n_3_21), some (.int (gA s22 62 n_3_21.toNatClampNeg))] [] s22 (gv_is r0.1 r0.2)) h (fun  h => ?_) (fun J26 hJ26 h => ?_)
      · refine gv_aload_n (n := 0) (pc' := 109) (by decide +kernel) rfl rfl ?_
        refine gv_aload_n (n := 0) (pc' := 110) (by decide +kernel) rfl rfl ?_
        refine gv_getr lk_9_65 (by decide +kernel) rfl rfl (pc' := 113) rfl ?_
        refine gv_iload_n (n := 1) (pc' := 114) (by decide +kernel) rfl rfl ?_
        refine gv_iload (n := 4) (pc' := 116) (by decide +kernel) rfl rfl ?_
        refine gd_cv0 (w' := false) (pc' := 119) (X_M_turn_57 _ _ _) h md_M_turn vd_M_turn (Or.inl ml_9_245) (by decide +kernel) (by decide) rfl rfl rfl (Nat.le_of_ble_eq_true rfl) (Nat.le_of_ble_eq_true rfl) (by decide) rfl (fun z => by cases z) (by decide) rfl (fun s28 h => ?_)
        exact gd_ar (gl_s (gl_s (gl_s (gl_s (gl_s gl_z))))) (fun z => by cases z) (hJ25 _ h)
      · refine gv_icmp_eq (off := 13) (tgt := 108) (pc' := 98) (by decide +kernel) (by decide) rfl (fun c95 => ?_) (fun c95 => ?_)
        · replace h := gd_T c95 h
          exact gd_ar (gl_s (gl_s (gl_s (gl_s (gl_s gl_z))))) (fun z => by cases z) (hJ26  h)
        · replace h := gd_F c95 h
          refine gv_aload_n (n := 0) (pc' := 99) (by decide +kernel) rfl rfl ?_
          refine gv_iload (n := 4) (pc' := 101) (by decide +kernel) rfl rfl ?_
          refine gd_dvi (w' := false) (pc' := 104) (X_M_second _ _) h md_M_second vd_M_second (Or.inl ml_9_173) (by decide +kernel) (by decide) rfl rfl rfl (Nat.le_of_ble_eq_true rfl) (Nat.le_of_ble_eq_true rfl) (by decide) rfl (fun z => by cases z) (by decide) rfl (fun r27 h => ?_)
          refine gv_iload_n (n := 2) (pc' := 105) (by decide +kernel) rfl rfl ?_
          refine gv_icmp_ne (off := 14) (tgt := 119) (pc' := 108) (by decide +kernel) (by decide) rfl (fun c105 => ?_) (fun c105 => ?_)
          · replace h := gd_F c105 h
            exact gd_ar (gl_s (gl_s (gl_s (gl_s (gl_s gl_z))))) (fun z => by cases z) (hJ25 _ h)
          · replace h := gd_T c105 h
            exact gd_ar (gl_s (gl_s (gl_s (gl_s (gl_s gl_z))))) (fun z => by cases z) (hJ26  h)
def B_M_findReach_39 (k14 : gS → gR) (x_1_9 : Int32) (x_2_10 : Int32) (ag13 : Int32 → gS → gR) (n_3_11 : Int32) (s12 : gS) : gR :=
 if (gI s12 41 2) ≤ n_3_11 then
  k14 s12
 else
  gd_g (gd_in n_3_11 1040) <|
  gd_s (gs_A s12 63 n_3_11.toNatClampNeg (vp_nar .boolean 0)) fun s15 =>
  ag13 (n_3_11 + 1) s15
set_option maxRecDepth 20000 in
theorem L_M_findReach_39 (k14 : gS → gR) (x_1_9 : Int32) (x_2_10 : Int32) (r0 : gQ × gS) (hk14 : ∀ (s16 : gS), k14 s16 = some r0 → gv_V m_M_findReach 1 false 60 [some (.ref 41), some (.int x_1_9), some (.int x_2_10), none, none] [] s16 (gv_is r0.1 r0.2)) (n : Nat) : ∀ (n_3_11 : Int32) (s12 : gS), gd_lp (fun _ _ => none) (B_M_findReach_39 k14 x_1_9 x_2_10) n n_3_11 s12 = some r0 → gv_V m_M_findReach 1 false 39 [some (.ref 41), some (.int x_1_9), some (.int x_2_10), some (.int n_3_11), none] [] s12 (gv_is r0.1 r0.2) := by
  refine gd_lpC (fun (ag13 : Int32 → gS → gR) => ∀ (n_3_11 : Int32) (s12 : gS), ag13 n_3_11 s12 = some r0 → gv_V m_M_findReach 1 false 39 [some (.ref 41), some (.int x_1_9), some (.int x_2_10), some (.int n_3_11), none] [] s12 (gv_is r0.1 r0.2)) (fun n_3_11 s12 h => by cases h) (fun ag13 ih n_3_11 s12 h => ?_) n
  unfold B_M_findReach_39 at h
  refine gv_iload_n (n := 3) (pc' := 40) (by decide +kernel) rfl rfl ?_
  refine gv_aload_n (n := 0) (pc' := 41) (by decide +kernel) rfl rfl ?_
  refine gv_getj lk_9_102 (by decide +kernel) rfl rfl (pc' := 44) rfl ?_
  refine gv_icmp_ge (off := 16) (tgt := 60) (pc' := 47) (by decide +kernel) (by decide) rfl (fun c44 => ?_) (fun c44 => ?_)
  · replace h := gd_T c44 h
    exact gd_ar (gl_s (gl_s (gl_s (gl_n (gl_n gl_z))))) (fun z => by cases z) (hk14 _ h)
  · replace h := gd_F c44 h
    refine gv_aload_n (n := 0) (pc' := 48) (by decide +kernel) rfl rfl ?_
    refine gv_getr lk_9_83 (by decide +kernel) rfl rfl (pc' := 51) rfl ?_
    refine gv_iload_n (n := 3) (pc' := 52) (by decide +kernel) rfl rfl ?_
    refine gv_iconst (n := 0) (v := 0) (pc' := 53) (by decide +kernel) (by decide) rfl ?_
    obtain ⟨g53, h⟩ := gd_gE h
    refine gd_zast (pc' := 54) (by decide +kernel) rfl (gd_inv g53) rfl h (fun s15 h => ?_)
    refine gv_iincc (i := 3) (n := 1) (c := 1) (pc' := 57) (by decide +kernel) rfl (by decide) (by decide) rfl ?_
    refine gv_goto (off := -18) (tgt := 39) (by decide +kernel) (by decide) ?_
    exact gd_ar (gl_s (gl_s (gl_s (gl_s (gl_n gl_z))))) (fun z => by cases z) (ih _ _ h)
def B_M_findReach_2 (k5 : gS → gR) (x_1_1 : Int32) (ag4 : Int32 → gS → gR) (n_2_2 : Int32) (s3 : gS) : gR :=
 if 33 ≤ n_2_2 then
  k5 s3
 else
  gd_g (gd_in (((33 : Int32) * x_1_1) + n_2_2) 34320) <|
  gd_s (gs_A s3 57 (((33 : Int32) * x_1_1) + n_2_2).toNatClampNeg 0) fun s6 =>
  ag4 (n_2_2 + 1) s6
set_option maxRecDepth 20000 in
theorem L_M_findReach_2 (k5 : gS → gR) (x_1_1 : Int32) (r0 : gQ × gS) (hk5 : ∀ (s7 : gS), k5 s7 = some r0 → gv_V m_M_findReach 1 false 26 [some (.ref 41), some (.int x_1_1), none, none, none] [] s7 (gv_is r0.1 r0.2)) (n : Nat) : ∀ (n_2_2 : Int32) (s3 : gS), gd_lp (fun _ _ => none) (B_M_findReach_2 k5 x_1_1) n n_2_2 s3 = some r0 → gv_V m_M_findReach 1 false 2 [some (.ref 41), some (.int x_1_1), some (.int n_2_2), none, none] [] s3 (gv_is r0.1 r0.2) := by
  refine gd_lpC (fun (ag4 : Int32 → gS → gR) => ∀ (n_2_2 : Int32) (s3 : gS), ag4 n_2_2 s3 = some r0 → gv_V m_M_findReach 1 false 2 [some (.ref 41), some (.int x_1_1), some (.int n_2_2), none, none] [] s3 (gv_is r0.1 r0.2)) (fun n_2_2 s3 h => by cases h) (fun ag4 ih n_2_2 s3 h => ?_) n
  unfold B_M_findReach_2 at h
  refine gv_iload_n (n := 2) (pc' := 3) (by decide +kernel) rfl rfl ?_
  refine gv_bipush (n := 33) (v := 33) (pc' := 5) (by decide +kernel) (by decide) rfl ?_
  refine gv_icmp_ge (off := 21) (tgt := 26) (pc' := 8) (by decide +kernel) (by decide) rfl (fun c5 => ?_) (fun c5 => ?_)
  · replace h := gd_T c5 h
    exact gd_ar (gl_s (gl_s (gl_n (gl_n (gl_n gl_z))))) (fun z => by cases z) (hk5 _ h)
  · replace h := gd_F c5 h
    refine gv_aload_n (n := 0) (pc' := 9) (by decide +kernel) rfl rfl ?_
    refine gv_getr lk_9_65 (by decide +kernel) rfl rfl (pc' := 12) rfl ?_
    refine gv_bipush (n := 33) (v := 33) (pc' := 14) (by decide +kernel) (by decide) rfl ?_
    refine gv_iload_n (n := 1) (pc' := 15) (by decide +kernel) rfl rfl ?_
    refine gv_imul (pc' := 16) (by decide +kernel) rfl ?_
    refine gv_iload_n (n := 2) (pc' := 17) (by decide +kernel) rfl rfl ?_
    refine gv_iadd (pc' := 18) (by decide +kernel) rfl ?_
    refine gv_iconst (n := 0) (v := 0) (pc' := 19) (by decide +kernel) (by decide) rfl ?_
    obtain ⟨g19, h⟩ := gd_gE h
    refine gd_iast (pc' := 20) (by decide +kernel) rfl (gd_inv g19) rfl h (fun s6 h => ?_)
    refine gv_iincc (i := 2) (n := 1) (c := 1) (pc' := 23) (by decide +kernel) rfl (by decide) (by decide) rfl ?_
    refine gv_goto (off := -21) (tgt := 2) (by decide +kernel) (by decide) ?_
    exact gd_ar (gl_s (gl_s (gl_s (gl_n (gl_n gl_z))))) (fun z => by cases z) (ih _ _ h)
def F_M_findReach (a : Int32) (σ : gS) : gR :=
 gd_j (α := gS → gR) (fun (s7 : gS) =>
  gd_qi (R_M_result a s7) s7 fun r8 =>
  if 0 ≤ r8 then
   gd_j (α := gS → gR) (fun (s16 : gS) =>
    gd_s (gs_I s16 41 37 0) fun s17 =>
    gd_0 (F_M_goOn a s17) fun s18 =>
    gd_lp (fun _ _ => none) (B_M_findReach_72 a r8) gd_N 0 s18) fun k14 =>
   gd_lp (fun _ _ => none) (B_M_findReach_39 k14 a r8) gd_N 0 s7
  else
   some (.inl none, s7)) fun k5 =>
 gd_lp (fun _ _ => none) (B_M_findReach_2 k5 a) gd_N 0 σ
set_option maxRecDepth 20000 in
theorem X_M_findReach (a : Int32) (σ : gS) (r0 : gQ × gS) (h : F_M_findReach a σ = some r0) : gv_K m_M_findReach [.ref 41, .int a] σ (gv_is r0.1 r0.2) := by
  unfold F_M_findReach at h
  show gv_V m_M_findReach 1 true 0 [some (.ref 41), some (.int a), none, none, none] [] σ (gv_is r0.1 r0.2)
  refine gv_iconst (n := 0) (v := 0) (pc' := 1) (by decide +kernel) (by decide) rfl ?_
  refine gv_istore_n (n := 2) (pc' := 2) (by decide +kernel) (by decide) rfl ?_
  refine gd_jC (fun k5 => ∀ (s7 : gS), k5 s7 = some r0 → gv_V m_M_findReach 1 false 26 [some (.ref 41), some (.int a), none, none, none] [] s7 (gv_is r0.1 r0.2)) h (fun s7 h => ?_) (fun k5 hk5 h => ?_)
  · refine gv_aload_n (n := 0) (pc' := 27) (by decide +kernel) rfl rfl ?_
    refine gv_iload_n (n := 1) (pc' := 28) (by decide +kernel) rfl rfl ?_
    refine gd_dvi (w' := false) (pc' := 31) (X_M_result _ _) h md_M_result vd_M_result (Or.inl ml_9_167) (by decide +kernel) (by decide) rfl rfl rfl (Nat.le_of_ble_eq_true rfl) (Nat.le_of_ble_eq_true rfl) (by decide) rfl (fun z => by cases z) (by decide) rfl (fun r8 h => ?_)
    refine gv_istore_n (n := 2) (pc' := 32) (by decide +kernel) (by decide) rfl ?_
    refine gv_iload_n (n := 2) (pc' := 33) (by decide +kernel) rfl rfl ?_
    refine gv_if_ge (off := 4) (tgt := 37) (pc' := 36) (by decide +kernel) (by decide) rfl (fun c33 => ?_) (fun c33 => ?_)
    · replace h := gd_T c33 h
      refine gv_iconst (n := 0) (v := 0) (pc' := 38) (by decide +kernel) (by decide) rfl ?_
      refine gv_istore_n (n := 3) (pc' := 39) (by decide +kernel) (by decide) rfl ?_
      refine gd_jC (fun k14 => ∀ (s16 : gS), k14 s16 = some r0 → gv_V m_M_findReach 1 false 60 [some (.ref 41), some (.int a), some (.int r8), none, none] [] s16 (gv_is r0.1 r0.2)) h (fun s16 h => ?_) (fun k14 hk14 h => ?_)
      · refine gv_aload_n (n := 0) (pc' := 61) (by decide +kernel) rfl rfl ?_
        refine gv_iconst (n := 0) (v := 0) (pc' := 62) (by decide +kernel) (by decide) rfl ?_
        refine gd_puti lp_9_235 (by decide +kernel) rfl rfl rfl rfl (pc' := 65) rfl h (fun s17 h => ?_)
        refine gv_aload_n (n := 0) (pc' := 66) (by decide +kernel) rfl rfl ?_
        refine gv_iload_n (n := 1) (pc' := 67) (by decide +kernel) rfl rfl ?_
        refine gd_cv0 (w' := false) (pc' := 70) (X_M_goOn _ _) h md_M_goOn vd_M_goOn (Or.inl ml_9_242) (by decide +kernel) (by decide) rfl rfl rfl (Nat.le_of_ble_eq_true rfl) (Nat.le_of_ble_eq_true rfl) (by decide) rfl (fun z => by cases z) (by decide) rfl (fun s18 h => ?_)
        refine gv_iconst (n := 0) (v := 0) (pc' := 71) (by decide +kernel) (by decide) rfl ?_
        refine gv_istore_n (n := 3) (pc' := 72) (by decide +kernel) (by decide) rfl ?_
        exact gd_ar (gl_s (gl_s (gl_s (gl_s (gl_n gl_z))))) (fun z => by cases z) (L_M_findReach_72 _ _ r0 _ _ _ h)
      exact gd_ar (gl_s (gl_s (gl_s (gl_s (gl_n gl_z))))) (fun z => by cases z) (L_M_findReach_39 _ _ _ r0 hk14 _ _ _ h)
    · replace h := gd_F c33 h
      exact gv_ret (by decide +kernel) rfl (by decide) (by decide) (gd_rE h)
  exact gd_ar (gl_s (gl_s (gl_s (gl_n (gl_n gl_z))))) (fun z => by cases z) (L_M_findReach_2 _ _ r0 hk5 _ _ _ h)
def R_M_has_57 (a : Int32) (b : Int32) (σ : gS) : gP :=
 gd_g (gd_in (((33 : Int32) * a) + (b / (32 : Int32))) 34320) <|
 if (((gA σ 57 (((33 : Int32) * a) + (b / (32 : Int32))).toNatClampNeg) >>> ((b - b / (32 : Int32) * (32 : Int32)) &&& 31)) &&& (1 : Int32)) = 1 then
  some (.inl (some (.int 1)))
 else
  some (.inl (some (.int 0)))
set_option maxRecDepth 20000 in
theorem X_M_has_57 (a : Int32) (b : Int32) (σ : gS) (r0 : gQ) (h : R_M_has_57 a b σ = some r0) : gv_K m_M_has [.ref 41, .ref 57, .int a, .int b] σ (gv_is r0 σ) := by
  unfold R_M_has_57 at h
  show gv_V m_M_has 1 true 0 [some (.ref 41), some (.ref 57), some (.int a), some (.int b)] [] σ (gv_is r0 σ)
  refine gv_aload_n (n := 1) (pc' := 1) (by decide +kernel) rfl rfl ?_
  refine gv_bipush (n := 33) (v := 33) (pc' := 3) (by decide +kernel) (by decide) rfl ?_
  refine gv_iload_n (n := 2) (pc' := 4) (by decide +kernel) rfl rfl ?_
  refine gv_imul (pc' := 5) (by decide +kernel) rfl ?_
  refine gv_iload_n (n := 3) (pc' := 6) (by decide +kernel) rfl rfl ?_
  refine gv_bipush (n := 32) (v := 32) (pc' := 8) (by decide +kernel) (by decide) rfl ?_
  refine gv_idiv (pc' := 9) (by decide +kernel) (by decide) rfl ?_
  refine gv_iadd (pc' := 10) (by decide +kernel) rfl ?_
  obtain ⟨g10, h⟩ := gd_gE h
  refine gj_iald _ (pc' := 11) (by decide +kernel) rfl (gd_inv g10) rfl rfl ?_
  refine gv_iload_n (n := 3) (pc' := 12) (by decide +kernel) rfl rfl ?_
  refine gv_bipush (n := 32) (v := 32) (pc' := 14) (by decide +kernel) (by decide) rfl ?_
  refine gv_irem (pc' := 15) (by decide +kernel) (by decide) rfl ?_
  refine gv_ishr (pc' := 16) (by decide +kernel) rfl ?_
  refine gv_iconst (n := 1) (v := 1) (pc' := 17) (by decide +kernel) (by decide) rfl ?_
  refine gv_iand (pc' := 18) (by decide +kernel) rfl ?_
  refine gv_iconst (n := 1) (v := 1) (pc' := 19) (by decide +kernel) (by decide) rfl ?_
  refine gv_icmp_ne (off := 7) (tgt := 26) (pc' := 22) (by decide +kernel) (by decide) rfl (fun c19 => ?_) (fun c19 => ?_)
  · replace h := gd_F c19 h
    refine gv_iconst (n := 0) (v := 0) (pc' := 27) (by decide +kernel) (by decide) rfl ?_
    exact gv_iret .boolean (by decide +kernel) rfl rfl (by decide) (by decide) (gd_pE h)
  · replace h := gd_T c19 h
    refine gv_iconst (n := 1) (v := 1) (pc' := 23) (by decide +kernel) (by decide) rfl ?_
    refine gv_goto (off := 4) (tgt := 27) (by decide +kernel) (by decide) ?_
    exact gv_iret .boolean (by decide +kernel) rfl rfl (by decide) (by decide) (gd_pE h)
def B_M_findTaint_99 (k23 : gS → gR) (x_1_19 : Int32) (ag22 : Int32 → gS → gR) (n_2_20 : Int32) (s21 : gS) : gR :=
 if (gI s21 41 2) ≤ n_2_20 then
  k23 s21
 else
  gd_qi (R_M_kind n_2_20 s21) s21 fun r24 =>
  gd_j (α := gS → gR) (fun (s31 : gS) =>
   ag22 (n_2_20 + 1) s31) fun J25 =>
  if 2 ≤ r24 then
   J25 s21
  else
   gd_qi (R_M_result n_2_20 s21) s21 fun r26 =>
   if r26 ≤ 0 then
    J25 s21
   else
    gd_g (gd_in n_2_20 1040) <|
    if (gA s21 53 n_2_20.toNatClampNeg) = 0 then
     gd_g (gd_in x_1_19 2081) <|
     gd_qi (R_M_has_57 (gA s21 62 x_1_19.toNatClampNeg) n_2_20 s21) s21 fun r27 =>
     if r27 = 0 then
      J25 s21
     else
      gd_g (gd_in n_2_20 1040) <|
      gd_s (gs_A s21 53 n_2_20.toNatClampNeg (vp_nar .boolean 1)) fun s28 =>
      gd_g (gd_in (gI s28 41 37) 2081) <|
      gd_s (gs_A s28 62 (gI s28 41 37).toNatClampNeg n_2_20) fun s29 =>
      gd_s (gs_I s29 41 37 ((gI s29 41 37) + (1 : Int32))) fun s30 =>
      J25 s30
    else
     J25 s21
set_option maxRecDepth 20000 in
theorem L_M_findTaint_99 (k23 : gS → gR) (x_1_19 : Int32) (r0 : gQ × gS) (hk23 : ∀ (s32 : gS), k23 s32 = some r0 → gv_V m_M_findTaint 1 false 184 [some (.ref 41), some (.int x_1_19), none] [] s32 (gv_is r0.1 r0.2)) (n : Nat) : ∀ (n_2_20 : Int32) (s21 : gS), gd_lp (fun _ _ => none) (B_M_findTaint_99 k23 x_1_19) n n_2_20 s21 = some r0 → gv_V m_M_findTaint 1 false 99 [some (.ref 41), some (.int x_1_19), some (.int n_2_20)] [] s21 (gv_is r0.1 r0.2) := by
  refine gd_lpC (fun (ag22 : Int32 → gS → gR) => ∀ (n_2_20 : Int32) (s21 : gS), ag22 n_2_20 s21 = some r0 → gv_V m_M_findTaint 1 false 99 [some (.ref 41), some (.int x_1_19), some (.int n_2_20)] [] s21 (gv_is r0.1 r0.2)) (fun n_2_20 s21 h => by cases h) (fun ag22 ih n_2_20 s21 h => ?_) n
  unfold B_M_findTaint_99 at h
  refine gv_iload_n (n := 2) (pc' := 100) (by decide +kernel) rfl rfl ?_
  refine gv_aload_n (n := 0) (pc' := 101) (by decide +kernel) rfl rfl ?_
  refine gv_getj lk_9_102 (by decide +kernel) rfl rfl (pc' := 104) rfl ?_
  refine gv_icmp_ge (off := 80) (tgt := 184) (pc' := 107) (by decide +kernel) (by decide) rfl (fun c104 => ?_) (fun c104 => ?_)
  · replace h := gd_T c104 h
    exact gd_ar (gl_s (gl_s (gl_n gl_z))) (fun z => by cases z) (hk23 _ h)
  · replace h := gd_F c104 h
    refine gv_aload_n (n := 0) (pc' := 108) (by decide +kernel) rfl rfl ?_
    refine gv_iload_n (n := 2) (pc' := 109) (by decide +kernel) rfl rfl ?_
    refine gd_dvi (w' := false) (pc' := 112) (X_M_kind _ _) h md_M_kind vd_M_kind (Or.inl ml_9_130) (by decide +kernel) (by decide) rfl rfl rfl (Nat.le_of_ble_eq_true rfl) (Nat.le_of_ble_eq_true rfl) (by decide) rfl (fun z => by cases z) (by decide) rfl (fun r24 h => ?_)
    refine gv_iconst (n := 2) (v := 2) (pc' := 113) (by decide +kernel) (by decide) rfl ?_
    refine gd_jC (fun J25 => ∀ (s31 : gS), J25 s31 = some r0 → gv_V m_M_findTaint 1 false 178 [some (.ref 41), some (.int x_1_19), some (.int n_2_20)] [] s31 (gv_is r0.1 r0.2)) h (fun s31 h => ?_) (fun J25 hJ25 h => ?_)
    · refine gv_iincc (i := 2) (n := 1) (c := 1) (pc' := 181) (by decide +kernel) rfl (by decide) (by decide) rfl ?_
      refine gv_goto (off := -82) (tgt := 99) (by decide +kernel) (by decide) ?_
      exact gd_ar (gl_s (gl_s (gl_s gl_z))) (fun z => by cases z) (ih _ _ h)
    · refine gv_icmp_ge (off := 65) (tgt := 178) (pc' := 116) (by decide +kernel) (by decide) rfl (fun c113 => ?_) (fun c113 => ?_)
      · replace h := gd_T c113 h
        exact gd_ar (gl_s (gl_s (gl_s gl_z))) (fun z => by cases z) (hJ25 _ h)
      · replace h := gd_F c113 h
        refine gv_aload_n (n := 0) (pc' := 117) (by decide +kernel) rfl rfl ?_
        refine gv_iload_n (n := 2) (pc' := 118) (by decide +kernel) rfl rfl ?_
        refine gd_dvi (w' := false) (pc' := 121) (X_M_result _ _) h md_M_result vd_M_result (Or.inl ml_9_167) (by decide +kernel) (by decide) rfl rfl rfl (Nat.le_of_ble_eq_true rfl) (Nat.le_of_ble_eq_true rfl) (by decide) rfl (fun z => by cases z) (by decide) rfl (fun r26 h => ?_)
        refine gv_if_le (off := 57) (tgt := 178) (pc' := 124) (by decide +kernel) (by decide) rfl (fun c121 => ?_) (fun c121 => ?_)
        · replace h := gd_T c121 h
          exact gd_ar (gl_s (gl_s (gl_s gl_z))) (fun z => by cases z) (hJ25 _ h)
        · replace h := gd_F c121 h
          refine gv_aload_n (n := 0) (pc' := 125) (by decide +kernel) rfl rfl ?_
          refine gv_getr lk_9_52 (by decide +kernel) rfl rfl (pc' := 128) rfl ?_
          refine gv_iload_n (n := 2) (pc' := 129) (by decide +kernel) rfl rfl ?_
          obtain ⟨g129, h⟩ := gd_gE h
          refine gj_zald _ (pc' := 130) (by decide +kernel) rfl (gd_inv g129) rfl rfl ?_
          refine gv_if_ne (off := 48) (tgt := 178) (pc' := 133) (by decide +kernel) (by decide) rfl (fun c130 => ?_) (fun c130 => ?_)
          · replace h := gd_F c130 h
            exact gd_ar (gl_s (gl_s (gl_s gl_z))) (fun z => by cases z) (hJ25 _ h)
          · replace h := gd_T c130 h
            refine gv_aload_n (n := 0) (pc' := 134) (by decide +kernel) rfl rfl ?_
            refine gv_aload_n (n := 0) (pc' := 135) (by decide +kernel) rfl rfl ?_
            refine gv_getr lk_9_65 (by decide +kernel) rfl rfl (pc' := 138) rfl ?_
            refine gv_aload_n (n := 0) (pc' := 139) (by decide +kernel) rfl rfl ?_
            refine gv_getr lk_9_80 (by decide +kernel) rfl rfl (pc' := 142) rfl ?_
            refine gv_iload_n (n := 1) (pc' := 143) (by decide +kernel) rfl rfl ?_
            obtain ⟨g143, h⟩ := gd_gE h
            refine gj_iald _ (pc' := 144) (by decide +kernel) rfl (gd_inv g143) rfl rfl ?_
            refine gv_iload_n (n := 2) (pc' := 145) (by decide +kernel) rfl rfl ?_
            refine gd_dvi (w' := false) (pc' := 148) (X_M_has_57 _ _ _) h md_M_has vd_M_has (Or.inl ml_9_252) (by decide +kernel) (by decide) rfl rfl rfl (Nat.le_of_ble_eq_true rfl) (Nat.le_of_ble_eq_true rfl) (by decide) rfl (fun z => by cases z) (by decide) rfl (fun r27 h => ?_)
            refine gv_if_eq (off := 30) (tgt := 178) (pc' := 151) (by decide +kernel) (by decide) rfl (fun c148 => ?_) (fun c148 => ?_)
            · replace h := gd_T c148 h
              exact gd_ar (gl_s (gl_s (gl_s gl_z))) (fun z => by cases z) (hJ25 _ h)
            · replace h := gd_F c148 h
              refine gv_aload_n (n := 0) (pc' := 152) (by decide +kernel) rfl rfl ?_
              refine gv_getr lk_9_52 (by decide +kernel) rfl rfl (pc' := 155) rfl ?_
              refine gv_iload_n (n := 2) (pc' := 156) (by decide +kernel) rfl rfl ?_
              refine gv_iconst (n := 1) (v := 1) (pc' := 157) (by decide +kernel) (by decide) rfl ?_
              obtain ⟨g157, h⟩ := gd_gE h
              refine gd_zast (pc' := 158) (by decide +kernel) rfl (gd_inv g157) rfl h (fun s28 h => ?_)
              refine gv_aload_n (n := 0) (pc' := 159) (by decide +kernel) rfl rfl ?_
              refine gv_getr lk_9_80 (by decide +kernel) rfl rfl (pc' := 162) rfl ?_
              refine gv_aload_n (n := 0) (pc' := 163) (by decide +kernel) rfl rfl ?_
              refine gv_getj lk_9_235 (by decide +kernel) rfl rfl (pc' := 166) rfl ?_
              refine gv_iload_n (n := 2) (pc' := 167) (by decide +kernel) rfl rfl ?_
              obtain ⟨g167, h⟩ := gd_gE h
              refine gd_iast (pc' := 168) (by decide +kernel) rfl (gd_inv g167) rfl h (fun s29 h => ?_)
              refine gv_aload_n (n := 0) (pc' := 169) (by decide +kernel) rfl rfl ?_
              refine gv_dup (pc' := 170) (by decide +kernel) rfl rfl ?_
              refine gv_getj lk_9_235 (by decide +kernel) rfl rfl (pc' := 173) rfl ?_
              refine gv_iconst (n := 1) (v := 1) (pc' := 174) (by decide +kernel) (by decide) rfl ?_
              refine gv_iadd (pc' := 175) (by decide +kernel) rfl ?_
              refine gd_puti lp_9_235 (by decide +kernel) rfl rfl rfl rfl (pc' := 178) rfl h (fun s30 h => ?_)
              exact gd_ar (gl_s (gl_s (gl_s gl_z))) (fun z => by cases z) (hJ25 _ h)
def B_M_findTaint_89 (ag18 : Int32 → gS → gR) (n_1_16 : Int32) (s17 : gS) : gR :=
 if (gI s17 41 37) ≤ n_1_16 then
  some (.inl none, s17)
 else
  gd_j (α := gS → gR) (fun (s32 : gS) =>
   ag18 (n_1_16 + 1) s32) fun k23 =>
  gd_lp (fun _ _ => none) (B_M_findTaint_99 k23 n_1_16) gd_N 0 s17
set_option maxRecDepth 20000 in
theorem L_M_findTaint_89 (r0 : gQ × gS) (n : Nat) : ∀ (n_1_16 : Int32) (s17 : gS), gd_lp (fun _ _ => none) (B_M_findTaint_89) n n_1_16 s17 = some r0 → gv_V m_M_findTaint 1 false 89 [some (.ref 41), some (.int n_1_16), none] [] s17 (gv_is r0.1 r0.2) := by
  refine gd_lpC (fun (ag18 : Int32 → gS → gR) => ∀ (n_1_16 : Int32) (s17 : gS), ag18 n_1_16 s17 = some r0 → gv_V m_M_findTaint 1 false 89 [some (.ref 41), some (.int n_1_16), none] [] s17 (gv_is r0.1 r0.2)) (fun n_1_16 s17 h => by cases h) (fun ag18 ih n_1_16 s17 h => ?_) n
  unfold B_M_findTaint_89 at h
  refine gv_iload_n (n := 1) (pc' := 90) (by decide +kernel) rfl rfl ?_
  refine gv_aload_n (n := 0) (pc' := 91) (by decide +kernel) rfl rfl ?_
  refine gv_getj lk_9_235 (by decide +kernel) rfl rfl (pc' := 94) rfl ?_
  refine gv_icmp_ge (off := 96) (tgt := 190) (pc' := 97) (by decide +kernel) (by decide) rfl (fun c94 => ?_) (fun c94 => ?_)
  · replace h := gd_T c94 h
    exact gv_ret (by decide +kernel) rfl (by decide) (by decide) (gd_rE h)
  · replace h := gd_F c94 h
    refine gv_iconst (n := 0) (v := 0) (pc' := 98) (by decide +kernel) (by decide) rfl ?_
    refine gv_istore_n (n := 2) (pc' := 99) (by decide +kernel) (by decide) rfl ?_
    refine gd_jC (fun k23 => ∀ (s32 : gS), k23 s32 = some r0 → gv_V m_M_findTaint 1 false 184 [some (.ref 41), some (.int n_1_16), none] [] s32 (gv_is r0.1 r0.2)) h (fun s32 h => ?_) (fun k23 hk23 h => ?_)
    · refine gv_iincc (i := 1) (n := 1) (c := 1) (pc' := 187) (by decide +kernel) rfl (by decide) (by decide) rfl ?_
      refine gv_goto (off := -98) (tgt := 89) (by decide +kernel) (by decide) ?_
      exact gd_ar (gl_s (gl_s (gl_n gl_z))) (fun z => by cases z) (ih _ _ h)
    exact gd_ar (gl_s (gl_s (gl_s gl_z))) (fun z => by cases z) (L_M_findTaint_99 _ _ r0 hk23 _ _ _ h)
def B_M_findTaint_7 (k5 : gS → gR) (ag4 : Int32 → gS → gR) (n_1_2 : Int32) (s3 : gS) : gR :=
 if (gI s3 41 2) ≤ n_1_2 then
  k5 s3
 else
  gd_qi (R_M_kind n_1_2 s3) s3 fun r6 =>
  gd_j (α := Int32 → gR) (fun (v9 : Int32) =>
   gd_g (gd_in n_1_2 1040) <|
   gd_s (gs_A s3 53 n_1_2.toNatClampNeg (vp_nar .boolean v9)) fun s10 =>
   gd_g (gd_in n_1_2 1040) <|
   gd_j (α := gS → gR) (fun (s14 : gS) =>
    ag4 (n_1_2 + 1) s14) fun J11 =>
   if (gA s10 53 n_1_2.toNatClampNeg) = 0 then
    J11 s10
   else
    gd_g (gd_in (gI s10 41 37) 2081) <|
    gd_s (gs_A s10 62 (gI s10 41 37).toNatClampNeg n_1_2) fun s12 =>
    gd_s (gs_I s12 41 37 ((gI s12 41 37) + (1 : Int32))) fun s13 =>
    J11 s13) fun J7 =>
  if r6 = 3 then
   gd_g (gd_in n_1_2 1040) <|
   if (gA s3 52 n_1_2.toNatClampNeg) = 0 then
    J7 0
   else
    gd_qi (R_M_result n_1_2 s3) s3 fun r8 =>
    if r8 ≤ 0 then
     J7 0
    else
     J7 1
  else
   J7 0
set_option maxRecDepth 20000 in
theorem L_M_findTaint_7 (k5 : gS → gR) (r0 : gQ × gS) (hk5 : ∀ (s15 : gS), k5 s15 = some r0 → gv_V m_M_findTaint 1 false 87 [some (.ref 41), none, none] [] s15 (gv_is r0.1 r0.2)) (n : Nat) : ∀ (n_1_2 : Int32) (s3 : gS), gd_lp (fun _ _ => none) (B_M_findTaint_7 k5) n n_1_2 s3 = some r0 → gv_V m_M_findTaint 1 false 7 [some (.ref 41), some (.int n_1_2), none] [] s3 (gv_is r0.1 r0.2) := by
  refine gd_lpC (fun (ag4 : Int32 → gS → gR) => ∀ (n_1_2 : Int32) (s3 : gS), ag4 n_1_2 s3 = some r0 → gv_V m_M_findTaint 1 false 7 [some (.ref 41), some (.int n_1_2), none] [] s3 (gv_is r0.1 r0.2)) (fun n_1_2 s3 h => by cases h) (fun ag4 ih n_1_2 s3 h => ?_) n
  unfold B_M_findTaint_7 at h
  refine gv_iload_n (n := 1) (pc' := 8) (by decide +kernel) rfl rfl ?_
  refine gv_aload_n (n := 0) (pc' := 9) (by decide +kernel) rfl rfl ?_
  refine gv_getj lk_9_102 (by decide +kernel) rfl rfl (pc' := 12) rfl ?_
  refine gv_icmp_ge (off := 75) (tgt := 87) (pc' := 15) (by decide +kernel) (by decide) rfl (fun c12 => ?_) (fun c12 => ?_)
  · replace h := gd_T c12 h
    exact gd_ar (gl_s (gl_n (gl_n gl_z))) (fun z => by cases z) (hk5 _ h)
  · replace h := gd_F c12 h
    refine gv_aload_n (n := 0) (pc' := 16) (by decide +kernel) rfl rfl ?_
    refine gv_getr lk_9_52 (by decide +kernel) rfl rfl (pc' := 19) rfl ?_
    refine gv_iload_n (n := 1) (pc' := 20) (by decide +kernel) rfl rfl ?_
    refine gv_aload_n (n := 0) (pc' := 21) (by decide +kernel) rfl rfl ?_
    refine gv_iload_n (n := 1) (pc' := 22) (by decide +kernel) rfl rfl ?_
    refine gd_dvi (w' := false) (pc' := 25) (X_M_kind _ _) h md_M_kind vd_M_kind (Or.inl ml_9_130) (by decide +kernel) (by decide) rfl rfl rfl (Nat.le_of_ble_eq_true rfl) (Nat.le_of_ble_eq_true rfl) (by decide) rfl (fun z => by cases z) (by decide) rfl (fun r6 h => ?_)
    refine gv_iconst (n := 3) (v := 3) (pc' := 26) (by decide +kernel) (by decide) rfl ?_
    refine gd_jC (fun J7 => ∀ (v9 : Int32), J7 v9 = some r0 → gv_V m_M_findTaint 1 false 51 [some (.ref 41), some (.int n_1_2), none] [.int v9, .int n_1_2, .ref 53] s3 (gv_is r0.1 r0.2)) h (fun v9 h => ?_) (fun J7 hJ7 h => ?_)
    · obtain ⟨g51, h⟩ := gd_gE h
      refine gd_zast (pc' := 52) (by decide +kernel) rfl (gd_inv g51) rfl h (fun s10 h => ?_)
      refine gv_aload_n (n := 0) (pc' := 53) (by decide +kernel) rfl rfl ?_
      refine gv_getr lk_9_52 (by decide +kernel) rfl rfl (pc' := 56) rfl ?_
      refine gv_iload_n (n := 1) (pc' := 57) (by decide +kernel) rfl rfl ?_
      obtain ⟨g57, h⟩ := gd_gE h
      refine gj_zald _ (pc' := 58) (by decide +kernel) rfl (gd_inv g57) rfl rfl ?_
      refine gd_jC (fun J11 => ∀ (s14 : gS), J11 s14 = some r0 → gv_V m_M_findTaint 1 false 81 [some (.ref 41), some (.int n_1_2), none] [] s14 (gv_is r0.1 r0.2)) h (fun s14 h => ?_) (fun J11 hJ11 h => ?_)
      · refine gv_iincc (i := 1) (n := 1) (c := 1) (pc' := 84) (by decide +kernel) rfl (by decide) (by decide) rfl ?_
        refine gv_goto (off := -77) (tgt := 7) (by decide +kernel) (by decide) ?_
        exact gd_ar (gl_s (gl_s (gl_n gl_z))) (fun z => by cases z) (ih _ _ h)
      · refine gv_if_eq (off := 23) (tgt := 81) (pc' := 61) (by decide +kernel) (by decide) rfl (fun c58 => ?_) (fun c58 => ?_)
        · replace h := gd_T c58 h
          exact gd_ar (gl_s (gl_s (gl_n gl_z))) (fun z => by cases z) (hJ11 _ h)
        · replace h := gd_F c58 h
          refine gv_aload_n (n := 0) (pc' := 62) (by decide +kernel) rfl rfl ?_
          refine gv_getr lk_9_80 (by decide +kernel) rfl rfl (pc' := 65) rfl ?_
          refine gv_aload_n (n := 0) (pc' := 66) (by decide +kernel) rfl rfl ?_
          refine gv_getj lk_9_235 (by decide +kernel) rfl rfl (pc' := 69) rfl ?_
          refine gv_iload_n (n := 1) (pc' := 70) (by decide +kernel) rfl rfl ?_
          obtain ⟨g70, h⟩ := gd_gE h
          refine gd_iast (pc' := 71) (by decide +kernel) rfl (gd_inv g70) rfl h (fun s12 h => ?_)
          refine gv_aload_n (n := 0) (pc' := 72) (by decide +kernel) rfl rfl ?_
          refine gv_dup (pc' := 73) (by decide +kernel) rfl rfl ?_
          refine gv_getj lk_9_235 (by decide +kernel) rfl rfl (pc' := 76) rfl ?_
          refine gv_iconst (n := 1) (v := 1) (pc' := 77) (by decide +kernel) (by decide) rfl ?_
          refine gv_iadd (pc' := 78) (by decide +kernel) rfl ?_
          refine gd_puti lp_9_235 (by decide +kernel) rfl rfl rfl rfl (pc' := 81) rfl h (fun s13 h => ?_)
          exact gd_ar (gl_s (gl_s (gl_n gl_z))) (fun z => by cases z) (hJ11 _ h)
    · refine gv_icmp_ne (off := 24) (tgt := 50) (pc' := 29) (by decide +kernel) (by decide) rfl (fun c26 => ?_) (fun c26 => ?_)
      · replace h := gd_F c26 h
        refine gv_iconst (n := 0) (v := 0) (pc' := 51) (by decide +kernel) (by decide) rfl ?_
        exact gd_ar (gl_s (gl_s (gl_n gl_z))) (fun z => by cases z) (hJ7 _ h)
      · replace h := gd_T c26 h
        refine gv_aload_n (n := 0) (pc' := 30) (by decide +kernel) rfl rfl ?_
        refine gv_getr lk_9_48 (by decide +kernel) rfl rfl (pc' := 33) rfl ?_
        refine gv_iload_n (n := 1) (pc' := 34) (by decide +kernel) rfl rfl ?_
        obtain ⟨g34, h⟩ := gd_gE h
        refine gj_zald _ (pc' := 35) (by decide +kernel) rfl (gd_inv g34) rfl rfl ?_
        refine gv_if_eq (off := 15) (tgt := 50) (pc' := 38) (by decide +kernel) (by decide) rfl (fun c35 => ?_) (fun c35 => ?_)
        · replace h := gd_T c35 h
          refine gv_iconst (n := 0) (v := 0) (pc' := 51) (by decide +kernel) (by decide) rfl ?_
          exact gd_ar (gl_s (gl_s (gl_n gl_z))) (fun z => by cases z) (hJ7 _ h)
        · replace h := gd_F c35 h
          refine gv_aload_n (n := 0) (pc' := 39) (by decide +kernel) rfl rfl ?_
          refine gv_iload_n (n := 1) (pc' := 40) (by decide +kernel) rfl rfl ?_
          refine gd_dvi (w' := false) (pc' := 43) (X_M_result _ _) h md_M_result vd_M_result (Or.inl ml_9_167) (by decide +kernel) (by decide) rfl rfl rfl (Nat.le_of_ble_eq_true rfl) (Nat.le_of_ble_eq_true rfl) (by decide) rfl (fun z => by cases z) (by decide) rfl (fun r8 h => ?_)
          refine gv_if_le (off := 7) (tgt := 50) (pc' := 46) (by decide +kernel) (by decide) rfl (fun c43 => ?_) (fun c43 => ?_)
          · replace h := gd_T c43 h
            refine gv_iconst (n := 0) (v := 0) (pc' := 51) (by decide +kernel) (by decide) rfl ?_
            exact gd_ar (gl_s (gl_s (gl_n gl_z))) (fun z => by cases z) (hJ7 _ h)
          · replace h := gd_F c43 h
            refine gv_iconst (n := 1) (v := 1) (pc' := 47) (by decide +kernel) (by decide) rfl ?_
            refine gv_goto (off := 4) (tgt := 51) (by decide +kernel) (by decide) ?_
            exact gd_ar (gl_s (gl_s (gl_n gl_z))) (fun z => by cases z) (hJ7 _ h)
def F_M_findTaint (σ : gS) : gR :=
 gd_s (gs_I σ 41 37 0) fun s1 =>
 gd_j (α := gS → gR) (fun (s15 : gS) =>
  gd_lp (fun _ _ => none) (B_M_findTaint_89) gd_N 0 s15) fun k5 =>
 gd_lp (fun _ _ => none) (B_M_findTaint_7 k5) gd_N 0 s1
set_option maxRecDepth 20000 in
theorem X_M_findTaint (σ : gS) (r0 : gQ × gS) (h : F_M_findTaint σ = some r0) : gv_K m_M_findTaint [.ref 41] σ (gv_is r0.1 r0.2) := by
  unfold F_M_findTaint at h
  show gv_V m_M_findTaint 1 true 0 [some (.ref 41), none, none] [] σ (gv_is r0.1 r0.2)
  refine gv_aload_n (n := 0) (pc' := 1) (by decide +kernel) rfl rfl ?_
  refine gv_iconst (n := 0) (v := 0) (pc' := 2) (by decide +kernel) (by decide) rfl ?_
  refine gd_puti lp_9_235 (by decide +kernel) rfl rfl rfl rfl (pc' := 5) rfl h (fun s1 h => ?_)
  refine gv_iconst (n := 0) (v := 0) (pc' := 6) (by decide +kernel) (by decide) rfl ?_
  refine gv_istore_n (n := 1) (pc' := 7) (by decide +kernel) (by decide) rfl ?_
  refine gd_jC (fun k5 => ∀ (s15 : gS), k5 s15 = some r0 → gv_V m_M_findTaint 1 false 87 [some (.ref 41), none, none] [] s15 (gv_is r0.1 r0.2)) h (fun s15 h => ?_) (fun k5 hk5 h => ?_)
  · refine gv_iconst (n := 0) (v := 0) (pc' := 88) (by decide +kernel) (by decide) rfl ?_
    refine gv_istore_n (n := 1) (pc' := 89) (by decide +kernel) (by decide) rfl ?_
    exact gd_ar (gl_s (gl_s (gl_n gl_z))) (fun z => by cases z) (L_M_findTaint_89 r0 _ _ _ h)
  exact gd_ar (gl_s (gl_s (gl_n gl_z))) (fun z => by cases z) (L_M_findTaint_7 _ r0 hk5 _ _ _ h)
def f_M_isDivision (a : Int32) : Int32 :=
 if (f_M_kindOf a) = 0 then
  if (f_M_g a) = 1 then
   if (f_M_f a) ≤ 3 then
    0
   else
    1
  else
   0
 else
  0
set_option maxRecDepth 20000 in
theorem y_M_isDivision (a : Int32) (σ : gS) : gv_K m_M_isDivision [.int a] σ (gv_is (.inl (some (.int (f_M_isDivision a)))) σ) := by
  generalize h : f_M_isDivision a = r0
  unfold f_M_isDivision at h
  show gv_V m_M_isDivision 1 true 0 [some (.int a)] [] σ (gv_is (.inl (some (.int r0))) σ)
  refine gv_iload_n (n := 0) (pc' := 1) (by decide +kernel) rfl rfl ?_
  refine gv_csi (w' := true) (pc' := 4) (y_M_kindOf _ _) md_M_kindOf sd_M_kindOf (Or.inl ml_9_124) (by decide +kernel) (by decide) rfl (Nat.le_of_ble_eq_true rfl) (Nat.le_of_ble_eq_true rfl) (by decide) rfl (fun z => ⟨rfl, z⟩) (by decide) rfl ?_
  refine gv_if_ne (off := 23) (tgt := 27) (pc' := 7) (by decide +kernel) (by decide) rfl (fun c4 => ?_) (fun c4 => ?_)
  · replace h := gd_F c4 h
    refine gv_iconst (n := 0) (v := 0) (pc' := 28) (by decide +kernel) (by decide) rfl ?_
    exact gv_iret .boolean (by decide +kernel) rfl rfl (by decide) (by decide) (gd_vE h)
  · replace h := gd_T c4 h
    refine gv_iload_n (n := 0) (pc' := 8) (by decide +kernel) rfl rfl ?_
    refine gv_csi (w' := true) (pc' := 11) (y_M_g _ _) md_M_g sd_M_g (Or.inl ml_9_118) (by decide +kernel) (by decide) rfl (Nat.le_of_ble_eq_true rfl) (Nat.le_of_ble_eq_true rfl) (by decide) rfl (fun z => ⟨rfl, z⟩) (by decide) rfl ?_
    refine gv_iconst (n := 1) (v := 1) (pc' := 12) (by decide +kernel) (by decide) rfl ?_
    refine gv_icmp_ne (off := 15) (tgt := 27) (pc' := 15) (by decide +kernel) (by decide) rfl (fun c12 => ?_) (fun c12 => ?_)
    · replace h := gd_F c12 h
      refine gv_iconst (n := 0) (v := 0) (pc' := 28) (by decide +kernel) (by decide) rfl ?_
      exact gv_iret .boolean (by decide +kernel) rfl rfl (by decide) (by decide) (gd_vE h)
    · replace h := gd_T c12 h
      refine gv_iload_n (n := 0) (pc' := 16) (by decide +kernel) rfl rfl ?_
      refine gv_csi (w' := true) (pc' := 19) (y_M_f _ _) md_M_f sd_M_f (Or.inl ml_9_114) (by decide +kernel) (by decide) rfl (Nat.le_of_ble_eq_true rfl) (Nat.le_of_ble_eq_true rfl) (by decide) rfl (fun z => ⟨rfl, z⟩) (by decide) rfl ?_
      refine gv_iconst (n := 3) (v := 3) (pc' := 20) (by decide +kernel) (by decide) rfl ?_
      refine gv_icmp_le (off := 7) (tgt := 27) (pc' := 23) (by decide +kernel) (by decide) rfl (fun c20 => ?_) (fun c20 => ?_)
      · replace h := gd_T c20 h
        refine gv_iconst (n := 0) (v := 0) (pc' := 28) (by decide +kernel) (by decide) rfl ?_
        exact gv_iret .boolean (by decide +kernel) rfl rfl (by decide) (by decide) (gd_vE h)
      · replace h := gd_F c20 h
        refine gv_iconst (n := 1) (v := 1) (pc' := 24) (by decide +kernel) (by decide) rfl ?_
        refine gv_goto (off := 4) (tgt := 28) (by decide +kernel) (by decide) ?_
        exact gv_iret .boolean (by decide +kernel) rfl rfl (by decide) (by decide) (gd_vE h)
theorem z_M_isDivision (a : Int32) : f_M_isDivision a = 0 ∨ f_M_isDivision a = 1 := by
  unfold f_M_isDivision
  repeat' split
  all_goals first | exact Or.inl rfl | exact Or.inr rfl
def R_M_betrays (a : Int32) (b : Int32) (σ : gS) : gP :=
 gd_pi (R_M_kind a σ) fun r1 =>
 gd_j (α := Int32 → gP) (fun (v3 : Int32) =>
  gd_j (α := gP) (
   if v3 = 0 then
    some (.inl (some (.int 0)))
   else
    gd_g (gd_in a 1040) <|
    if (f_M_b (gA σ 42 a.toNatClampNeg)) = b then
     some (.inl (some (.int 1)))
    else
     some (.inl (some (.int 0)))) fun J4 =>
  gd_j (α := gP) (
   gd_g (gd_in a 1040) <|
   if (f_M_a (gA σ 42 a.toNatClampNeg)) = b then
    some (.inl (some (.int 1)))
   else
    J4) fun J5 =>
  if r1 = 3 then
   J5
  else
   if r1 = 4 then
    J5
   else
    if v3 = 0 then
     J4
    else
     J5) fun J2 =>
 if r1 = 5 then
  J2 1
 else
  gd_g (gd_in a 1040) <|
  if (f_M_isDivision (gA σ 42 a.toNatClampNeg)) = 0 then
   J2 0
  else
   J2 1
set_option maxRecDepth 20000 in
theorem X_M_betrays (a : Int32) (b : Int32) (σ : gS) (r0 : gQ) (h : R_M_betrays a b σ = some r0) : gv_K m_M_betrays [.ref 41, .int a, .int b] σ (gv_is r0 σ) := by
  unfold R_M_betrays at h
  show gv_V m_M_betrays 1 true 0 [some (.ref 41), some (.int a), some (.int b), none, none] [] σ (gv_is r0 σ)
  refine gv_aload_n (n := 0) (pc' := 1) (by decide +kernel) rfl rfl ?_
  refine gv_iload_n (n := 1) (pc' := 2) (by decide +kernel) rfl rfl ?_
  refine gd_evi (w' := true) (pc' := 5) (X_M_kind _ _) h md_M_kind vd_M_kind (Or.inl ml_9_130) (by decide +kernel) (by decide) rfl rfl rfl (Nat.le_of_ble_eq_true rfl) (Nat.le_of_ble_eq_true rfl) (by decide) rfl (fun z => ⟨rfl, z⟩) (by decide) rfl (fun r1 h => ?_)
  refine gv_istore_n (n := 3) (pc' := 6) (by decide +kernel) (by decide) rfl ?_
  refine gv_iload_n (n := 3) (pc' := 7) (by decide +kernel) rfl rfl ?_
  refine gv_iconst (n := 5) (v := 5) (pc' := 8) (by decide +kernel) (by decide) rfl ?_
  refine gd_jC (fun J2 => ∀ (v3 : Int32), J2 v3 = some r0 → gv_V m_M_betrays 1 true 28 [some (.ref 41), some (.int a), some (.int b), some (.int r1), none] [.int v3] σ (gv_is r0 σ)) h (fun v3 h => ?_) (fun J2 hJ2 h => ?_)
  · refine gv_istore (n := 4) (pc' := 30) (by decide +kernel) (by decide) rfl ?_
    refine gv_iload_n (n := 3) (pc' := 31) (by decide +kernel) rfl rfl ?_
    refine gv_iconst (n := 3) (v := 3) (pc' := 32) (by decide +kernel) (by decide) rfl ?_
    refine gd_jC (fun J4 => J4 = some r0 → gv_V m_M_betrays 1 true 58 [some (.ref 41), some (.int a), some (.int b), none, some (.int v3)] [] σ (gv_is r0 σ)) h (fun  h => ?_) (fun J4 hJ4 h => ?_)
    · refine gv_iload (n := 4) (pc' := 60) (by decide +kernel) rfl rfl ?_
      refine gv_if_eq (off := 20) (tgt := 80) (pc' := 63) (by decide +kernel) (by decide) rfl (fun c60 => ?_) (fun c60 => ?_)
      · replace h := gd_T c60 h
        refine gv_iconst (n := 0) (v := 0) (pc' := 81) (by decide +kernel) (by decide) rfl ?_
        exact gv_iret .boolean (by decide +kernel) rfl rfl (by decide) (by decide) (gd_pE h)
      · replace h := gd_F c60 h
        refine gv_aload_n (n := 0) (pc' := 64) (by decide +kernel) rfl rfl ?_
        refine gv_getr lk_9_7 (by decide +kernel) rfl rfl (pc' := 67) rfl ?_
        refine gv_iload_n (n := 1) (pc' := 68) (by decide +kernel) rfl rfl ?_
        obtain ⟨g68, h⟩ := gd_gE h
        refine gj_iald _ (pc' := 69) (by decide +kernel) rfl (gd_inv g68) rfl rfl ?_
        refine gv_csi (w' := true) (pc' := 72) (y_M_b _ _) md_M_b sd_M_b (Or.inl ml_9_139) (by decide +kernel) (by decide) rfl (Nat.le_of_ble_eq_true rfl) (Nat.le_of_ble_eq_true rfl) (by decide) rfl (fun z => ⟨rfl, z⟩) (by decide) rfl ?_
        refine gv_iload_n (n := 2) (pc' := 73) (by decide +kernel) rfl rfl ?_
        refine gv_icmp_ne (off := 7) (tgt := 80) (pc' := 76) (by decide +kernel) (by decide) rfl (fun c73 => ?_) (fun c73 => ?_)
        · replace h := gd_F c73 h
          refine gv_iconst (n := 0) (v := 0) (pc' := 81) (by decide +kernel) (by decide) rfl ?_
          exact gv_iret .boolean (by decide +kernel) rfl rfl (by decide) (by decide) (gd_pE h)
        · replace h := gd_T c73 h
          refine gv_iconst (n := 1) (v := 1) (pc' := 77) (by decide +kernel) (by decide) rfl ?_
          refine gv_goto (off := 4) (tgt := 81) (by decide +kernel) (by decide) ?_
          exact gv_iret .boolean (by decide +kernel) rfl rfl (by decide) (by decide) (gd_pE h)
    · refine gd_jC (fun J5 => J5 = some r0 → gv_V m_M_betrays 1 true 45 [some (.ref 41), some (.int a), some (.int b), none, some (.int v3)] [] σ (gv_is r0 σ)) h (fun  h => ?_) (fun J5 hJ5 h => ?_)
      · refine gv_aload_n (n := 0) (pc' := 46) (by decide +kernel) rfl rfl ?_
        refine gv_getr lk_9_7 (by decide +kernel) rfl rfl (pc' := 49) rfl ?_
        refine gv_iload_n (n := 1) (pc' := 50) (by decide +kernel) rfl rfl ?_
        obtain ⟨g50, h⟩ := gd_gE h
        refine gj_iald _ (pc' := 51) (by decide +kernel) rfl (gd_inv g50) rfl rfl ?_
        refine gv_csi (w' := true) (pc' := 54) (y_M_a _ _) md_M_a sd_M_a (Or.inl ml_9_136) (by decide +kernel) (by decide) rfl (Nat.le_of_ble_eq_true rfl) (Nat.le_of_ble_eq_true rfl) (by decide) rfl (fun z => ⟨rfl, z⟩) (by decide) rfl ?_
        refine gv_iload_n (n := 2) (pc' := 55) (by decide +kernel) rfl rfl ?_
        refine gv_icmp_eq (off := 21) (tgt := 76) (pc' := 58) (by decide +kernel) (by decide) rfl (fun c55 => ?_) (fun c55 => ?_)
        · replace h := gd_T c55 h
          refine gv_iconst (n := 1) (v := 1) (pc' := 77) (by decide +kernel) (by decide) rfl ?_
          refine gv_goto (off := 4) (tgt := 81) (by decide +kernel) (by decide) ?_
          exact gv_iret .boolean (by decide +kernel) rfl rfl (by decide) (by decide) (gd_pE h)
        · replace h := gd_F c55 h
          exact gd_ar (gl_s (gl_s (gl_s (gl_n (gl_s gl_z))))) (fun _ => rfl) (hJ4  h)
      · refine gv_icmp_eq (off := 13) (tgt := 45) (pc' := 35) (by decide +kernel) (by decide) rfl (fun c32 => ?_) (fun c32 => ?_)
        · replace h := gd_T c32 h
          exact gd_ar (gl_s (gl_s (gl_s (gl_n (gl_s gl_z))))) (fun _ => rfl) (hJ5  h)
        · replace h := gd_F c32 h
          refine gv_iload_n (n := 3) (pc' := 36) (by decide +kernel) rfl rfl ?_
          refine gv_iconst (n := 4) (v := 4) (pc' := 37) (by decide +kernel) (by decide) rfl ?_
          refine gv_icmp_eq (off := 8) (tgt := 45) (pc' := 40) (by decide +kernel) (by decide) rfl (fun c37 => ?_) (fun c37 => ?_)
          · replace h := gd_T c37 h
            exact gd_ar (gl_s (gl_s (gl_s (gl_n (gl_s gl_z))))) (fun _ => rfl) (hJ5  h)
          · replace h := gd_F c37 h
            refine gv_iload (n := 4) (pc' := 42) (by decide +kernel) rfl rfl ?_
            refine gv_if_eq (off := 16) (tgt := 58) (pc' := 45) (by decide +kernel) (by decide) rfl (fun c42 => ?_) (fun c42 => ?_)
            · replace h := gd_T c42 h
              exact gd_ar (gl_s (gl_s (gl_s (gl_n (gl_s gl_z))))) (fun _ => rfl) (hJ4  h)
            · replace h := gd_F c42 h
              exact gd_ar (gl_s (gl_s (gl_s (gl_n (gl_s gl_z))))) (fun _ => rfl) (hJ5  h)
  · refine gv_icmp_eq (off := 15) (tgt := 23) (pc' := 11) (by decide +kernel) (by decide) rfl (fun c8 => ?_) (fun c8 => ?_)
    · replace h := gd_T c8 h
      refine gv_iconst (n := 1) (v := 1) (pc' := 24) (by decide +kernel) (by decide) rfl ?_
      refine gv_goto (off := 4) (tgt := 28) (by decide +kernel) (by decide) ?_
      exact gd_ar (gl_s (gl_s (gl_s (gl_s (gl_n gl_z))))) (fun _ => rfl) (hJ2 _ h)
    · replace h := gd_F c8 h
      refine gv_aload_n (n := 0) (pc' := 12) (by decide +kernel) rfl rfl ?_
      refine gv_getr lk_9_7 (by decide +kernel) rfl rfl (pc' := 15) rfl ?_
      refine gv_iload_n (n := 1) (pc' := 16) (by decide +kernel) rfl rfl ?_
      obtain ⟨g16, h⟩ := gd_gE h
      refine gj_iald _ (pc' := 17) (by decide +kernel) rfl (gd_inv g16) rfl rfl ?_
      refine gv_csi (w' := true) (pc' := 20) (y_M_isDivision _ _) md_M_isDivision sd_M_isDivision (Or.inl ml_9_249) (by decide +kernel) (by decide) rfl (Nat.le_of_ble_eq_true rfl) (Nat.le_of_ble_eq_true rfl) (by decide) rfl (fun z => ⟨rfl, z⟩) (by decide) rfl ?_
      refine gv_if_eq (off := 7) (tgt := 27) (pc' := 23) (by decide +kernel) (by decide) rfl (fun c20 => ?_) (fun c20 => ?_)
      · replace h := gd_T c20 h
        refine gv_iconst (n := 0) (v := 0) (pc' := 28) (by decide +kernel) (by decide) rfl ?_
        exact gd_ar (gl_s (gl_s (gl_s (gl_s (gl_n gl_z))))) (fun _ => rfl) (hJ2 _ h)
      · replace h := gd_F c20 h
        refine gv_iconst (n := 1) (v := 1) (pc' := 24) (by decide +kernel) (by decide) rfl ?_
        refine gv_goto (off := 4) (tgt := 28) (by decide +kernel) (by decide) ?_
        exact gd_ar (gl_s (gl_s (gl_s (gl_s (gl_n gl_z))))) (fun _ => rfl) (hJ2 _ h)
def B_M_findExposed_47 (k16 : gS → gR) (x_1_12 : Int32) (ag15 : Int32 → gS → gR) (n_2_13 : Int32) (s14 : gS) : gR :=
 if (gI s14 41 2) ≤ n_2_13 then
  k16 s14
 else
  gd_g (gd_in x_1_12 1040) <|
  if (gA s14 53 x_1_12.toNatClampNeg) = 0 then
   k16 s14
  else
   gd_qi (R_M_has_57 x_1_12 n_2_13 s14) s14 fun r17 =>
   gd_j (α := gS → gR) (fun (s26 : gS) =>
    ag15 (n_2_13 + 1) s26) fun J18 =>
   if r17 = 0 then
    J18 s14
   else
    gd_qi (R_M_result x_1_12 s14) s14 fun r19 =>
    gd_qi (R_M_betrays n_2_13 r19 s14) s14 fun r20 =>
    if r20 = 0 then
     J18 s14
    else
     gd_g (gd_in x_1_12 1040) <|
     gd_s (gs_A s14 55 x_1_12.toNatClampNeg (vp_nar .boolean 1)) fun s21 =>
     gd_g (gd_in n_2_13 1040) <|
     gd_t (α := Int32) (if (gA s21 54 n_2_13.toNatClampNeg) = 0 then
       ((gI s21 41 27) + (1 : Int32))
      else
       (gI s21 41 27)) fun v23 =>
     gd_s (gs_I s21 41 27 v23) fun s24 =>
     gd_g (gd_in n_2_13 1040) <|
     gd_s (gs_A s24 54 n_2_13.toNatClampNeg (vp_nar .boolean 1)) fun s25 =>
     J18 s25
set_option maxRecDepth 20000 in
theorem L_M_findExposed_47 (k16 : gS → gR) (x_1_12 : Int32) (r0 : gQ × gS) (hk16 : ∀ (s27 : gS), k16 s27 = some r0 → gv_V m_M_findExposed 1 false 136 [some (.ref 41), some (.int x_1_12), none] [] s27 (gv_is r0.1 r0.2)) (n : Nat) : ∀ (n_2_13 : Int32) (s14 : gS), gd_lp (fun _ _ => none) (B_M_findExposed_47 k16 x_1_12) n n_2_13 s14 = some r0 → gv_V m_M_findExposed 1 false 47 [some (.ref 41), some (.int x_1_12), some (.int n_2_13)] [] s14 (gv_is r0.1 r0.2) := by
  refine gd_lpC (fun (ag15 : Int32 → gS → gR) => ∀ (n_2_13 : Int32) (s14 : gS), ag15 n_2_13 s14 = some r0 → gv_V m_M_findExposed 1 false 47 [some (.ref 41), some (.int x_1_12), some (.int n_2_13)] [] s14 (gv_is r0.1 r0.2)) (fun n_2_13 s14 h => by cases h) (fun ag15 ih n_2_13 s14 h => ?_) n
  unfold B_M_findExposed_47 at h
  refine gv_iload_n (n := 2) (pc' := 48) (by decide +kernel) rfl rfl ?_
  refine gv_aload_n (n := 0) (pc' := 49) (by decide +kernel) rfl rfl ?_
  refine gv_getj lk_9_102 (by decide +kernel) rfl rfl (pc' := 52) rfl ?_
  refine gv_icmp_ge (off := 84) (tgt := 136) (pc' := 55) (by decide +kernel) (by decide) rfl (fun c52 => ?_) (fun c52 => ?_)
  · replace h := gd_T c52 h
    exact gd_ar (gl_s (gl_s (gl_n gl_z))) (fun z => by cases z) (hk16 _ h)
  · replace h := gd_F c52 h
    refine gv_aload_n (n := 0) (pc' := 56) (by decide +kernel) rfl rfl ?_
    refine gv_getr lk_9_52 (by decide +kernel) rfl rfl (pc' := 59) rfl ?_
    refine gv_iload_n (n := 1) (pc' := 60) (by decide +kernel) rfl rfl ?_
    obtain ⟨g60, h⟩ := gd_gE h
    refine gj_zald _ (pc' := 61) (by decide +kernel) rfl (gd_inv g60) rfl rfl ?_
    refine gv_if_eq (off := 75) (tgt := 136) (pc' := 64) (by decide +kernel) (by decide) rfl (fun c61 => ?_) (fun c61 => ?_)
    · replace h := gd_T c61 h
      exact gd_ar (gl_s (gl_s (gl_n gl_z))) (fun z => by cases z) (hk16 _ h)
    · replace h := gd_F c61 h
      refine gv_aload_n (n := 0) (pc' := 65) (by decide +kernel) rfl rfl ?_
      refine gv_aload_n (n := 0) (pc' := 66) (by decide +kernel) rfl rfl ?_
      refine gv_getr lk_9_65 (by decide +kernel) rfl rfl (pc' := 69) rfl ?_
      refine gv_iload_n (n := 1) (pc' := 70) (by decide +kernel) rfl rfl ?_
      refine gv_iload_n (n := 2) (pc' := 71) (by decide +kernel) rfl rfl ?_
      refine gd_dvi (w' := false) (pc' := 74) (X_M_has_57 _ _ _) h md_M_has vd_M_has (Or.inl ml_9_252) (by decide +kernel) (by decide) rfl rfl rfl (Nat.le_of_ble_eq_true rfl) (Nat.le_of_ble_eq_true rfl) (by decide) rfl (fun z => by cases z) (by decide) rfl (fun r17 h => ?_)
      refine gd_jC (fun J18 => ∀ (s26 : gS), J18 s26 = some r0 → gv_V m_M_findExposed 1 false 130 [some (.ref 41), some (.int x_1_12), some (.int n_2_13)] [] s26 (gv_is r0.1 r0.2)) h (fun s26 h => ?_) (fun J18 hJ18 h => ?_)
      · refine gv_iincc (i := 2) (n := 1) (c := 1) (pc' := 133) (by decide +kernel) rfl (by decide) (by decide) rfl ?_
        refine gv_goto (off := -86) (tgt := 47) (by decide +kernel) (by decide) ?_
        exact gd_ar (gl_s (gl_s (gl_s gl_z))) (fun z => by cases z) (ih _ _ h)
      · refine gv_if_eq (off := 56) (tgt := 130) (pc' := 77) (by decide +kernel) (by decide) rfl (fun c74 => ?_) (fun c74 => ?_)
        · replace h := gd_T c74 h
          exact gd_ar (gl_s (gl_s (gl_s gl_z))) (fun z => by cases z) (hJ18 _ h)
        · replace h := gd_F c74 h
          refine gv_aload_n (n := 0) (pc' := 78) (by decide +kernel) rfl rfl ?_
          refine gv_iload_n (n := 2) (pc' := 79) (by decide +kernel) rfl rfl ?_
          refine gv_aload_n (n := 0) (pc' := 80) (by decide +kernel) rfl rfl ?_
          refine gv_iload_n (n := 1) (pc' := 81) (by decide +kernel) rfl rfl ?_
          refine gd_dvi (w' := false) (pc' := 84) (X_M_result _ _) h md_M_result vd_M_result (Or.inl ml_9_167) (by decide +kernel) (by decide) rfl rfl rfl (Nat.le_of_ble_eq_true rfl) (Nat.le_of_ble_eq_true rfl) (by decide) rfl (fun z => by cases z) (by decide) rfl (fun r19 h => ?_)
          refine gd_dvi (w' := false) (pc' := 87) (X_M_betrays _ _ _) h md_M_betrays vd_M_betrays (Or.inl ml_9_259) (by decide +kernel) (by decide) rfl rfl rfl (Nat.le_of_ble_eq_true rfl) (Nat.le_of_ble_eq_true rfl) (by decide) rfl (fun z => by cases z) (by decide) rfl (fun r20 h => ?_)
          refine gv_if_eq (off := 43) (tgt := 130) (pc' := 90) (by decide +kernel) (by decide) rfl (fun c87 => ?_) (fun c87 => ?_)
          · replace h := gd_T c87 h
            exact gd_ar (gl_s (gl_s (gl_s gl_z))) (fun z => by cases z) (hJ18 _ h)
          · replace h := gd_F c87 h
            refine gv_aload_n (n := 0) (pc' := 91) (by decide +kernel) rfl rfl ?_
            refine gv_getr lk_9_58 (by decide +kernel) rfl rfl (pc' := 94) rfl ?_
            refine gv_iload_n (n := 1) (pc' := 95) (by decide +kernel) rfl rfl ?_
            refine gv_iconst (n := 1) (v := 1) (pc' := 96) (by decide +kernel) (by decide) rfl ?_
            obtain ⟨g96, h⟩ := gd_gE h
            refine gd_zast (pc' := 97) (by decide +kernel) rfl (gd_inv g96) rfl h (fun s21 h => ?_)
            refine gv_aload_n (n := 0) (pc' := 98) (by decide +kernel) rfl rfl ?_
            refine gv_aload_n (n := 0) (pc' := 99) (by decide +kernel) rfl rfl ?_
            refine gv_getr lk_9_55 (by decide +kernel) rfl rfl (pc' := 102) rfl ?_
            refine gv_iload_n (n := 2) (pc' := 103) (by decide +kernel) rfl rfl ?_
            obtain ⟨g103, h⟩ := gd_gE h
            refine gj_zald _ (pc' := 104) (by decide +kernel) rfl (gd_inv g103) rfl rfl ?_
            refine gd_tC (fun (v23 : Int32) => gv_V m_M_findExposed 1 false 120 [some (.ref 41), some (.int x_1_12), some (.int n_2_13)] [.int v23, .ref 41] s21 (gv_is r0.1 r0.2)) h (fun v23 h => ?_) (fun KJ22 hJ22 h => ?_)
            · refine gd_puti lp_9_256 (by decide +kernel) rfl rfl rfl rfl (pc' := 123) rfl h (fun s24 h => ?_)
              refine gv_aload_n (n := 0) (pc' := 124) (by decide +kernel) rfl rfl ?_
              refine gv_getr lk_9_55 (by decide +kernel) rfl rfl (pc' := 127) rfl ?_
              refine gv_iload_n (n := 2) (pc' := 128) (by decide +kernel) rfl rfl ?_
              refine gv_iconst (n := 1) (v := 1) (pc' := 129) (by decide +kernel) (by decide) rfl ?_
              obtain ⟨g129, h⟩ := gd_gE h
              refine gd_zast (pc' := 130) (by decide +kernel) rfl (gd_inv g129) rfl h (fun s25 h => ?_)
              exact gd_ar (gl_s (gl_s (gl_s gl_z))) (fun z => by cases z) (hJ18 _ h)
            · refine gv_if_eq (off := 10) (tgt := 114) (pc' := 107) (by decide +kernel) (by decide) rfl (fun c104 => ?_) (fun c104 => ?_)
              · replace h := gd_tT c104 h
                refine gv_aload_n (n := 0) (pc' := 115) (by decide +kernel) rfl rfl ?_
                refine gv_getj lk_9_256 (by decide +kernel) rfl rfl (pc' := 118) rfl ?_
                refine gv_iconst (n := 1) (v := 1) (pc' := 119) (by decide +kernel) (by decide) rfl ?_
                refine gv_iadd (pc' := 120) (by decide +kernel) rfl ?_
                exact gd_ar (gl_s (gl_s (gl_s gl_z))) (fun z => by cases z) (hJ22 _ h)
              · replace h := gd_tF c104 h
                refine gv_aload_n (n := 0) (pc' := 108) (by decide +kernel) rfl rfl ?_
                refine gv_getj lk_9_256 (by decide +kernel) rfl rfl (pc' := 111) rfl ?_
                refine gv_goto (off := 9) (tgt := 120) (by decide +kernel) (by decide) ?_
                exact gd_ar (gl_s (gl_s (gl_s gl_z))) (fun z => by cases z) (hJ22 _ h)
def B_M_findExposed_37 (ag11 : Int32 → gS → gR) (n_1_9 : Int32) (s10 : gS) : gR :=
 if (gI s10 41 2) ≤ n_1_9 then
  some (.inl none, s10)
 else
  gd_j (α := gS → gR) (fun (s27 : gS) =>
   ag11 (n_1_9 + 1) s27) fun k16 =>
  gd_lp (fun _ _ => none) (B_M_findExposed_47 k16 n_1_9) gd_N 0 s10
set_option maxRecDepth 20000 in
theorem L_M_findExposed_37 (r0 : gQ × gS) (n : Nat) : ∀ (n_1_9 : Int32) (s10 : gS), gd_lp (fun _ _ => none) (B_M_findExposed_37) n n_1_9 s10 = some r0 → gv_V m_M_findExposed 1 false 37 [some (.ref 41), some (.int n_1_9), none] [] s10 (gv_is r0.1 r0.2) := by
  refine gd_lpC (fun (ag11 : Int32 → gS → gR) => ∀ (n_1_9 : Int32) (s10 : gS), ag11 n_1_9 s10 = some r0 → gv_V m_M_findExposed 1 false 37 [some (.ref 41), some (.int n_1_9), none] [] s10 (gv_is r0.1 r0.2)) (fun n_1_9 s10 h => by cases h) (fun ag11 ih n_1_9 s10 h => ?_) n
  unfold B_M_findExposed_37 at h
  refine gv_iload_n (n := 1) (pc' := 38) (by decide +kernel) rfl rfl ?_
  refine gv_aload_n (n := 0) (pc' := 39) (by decide +kernel) rfl rfl ?_
  refine gv_getj lk_9_102 (by decide +kernel) rfl rfl (pc' := 42) rfl ?_
  refine gv_icmp_ge (off := 100) (tgt := 142) (pc' := 45) (by decide +kernel) (by decide) rfl (fun c42 => ?_) (fun c42 => ?_)
  · replace h := gd_T c42 h
    exact gv_ret (by decide +kernel) rfl (by decide) (by decide) (gd_rE h)
  · replace h := gd_F c42 h
    refine gv_iconst (n := 0) (v := 0) (pc' := 46) (by decide +kernel) (by decide) rfl ?_
    refine gv_istore_n (n := 2) (pc' := 47) (by decide +kernel) (by decide) rfl ?_
    refine gd_jC (fun k16 => ∀ (s27 : gS), k16 s27 = some r0 → gv_V m_M_findExposed 1 false 136 [some (.ref 41), some (.int n_1_9), none] [] s27 (gv_is r0.1 r0.2)) h (fun s27 h => ?_) (fun k16 hk16 h => ?_)
    · refine gv_iincc (i := 1) (n := 1) (c := 1) (pc' := 139) (by decide +kernel) rfl (by decide) (by decide) rfl ?_
      refine gv_goto (off := -102) (tgt := 37) (by decide +kernel) (by decide) ?_
      exact gd_ar (gl_s (gl_s (gl_n gl_z))) (fun z => by cases z) (ih _ _ h)
    exact gd_ar (gl_s (gl_s (gl_s gl_z))) (fun z => by cases z) (L_M_findExposed_47 _ _ r0 hk16 _ _ _ h)
def B_M_findExposed_7 (k5 : gS → gR) (ag4 : Int32 → gS → gR) (n_1_2 : Int32) (s3 : gS) : gR :=
 if (gI s3 41 2) ≤ n_1_2 then
  k5 s3
 else
  gd_g (gd_in n_1_2 1040) <|
  gd_s (gs_A s3 54 n_1_2.toNatClampNeg (vp_nar .boolean 0)) fun s6 =>
  gd_g (gd_in n_1_2 1040) <|
  gd_s (gs_A s6 55 n_1_2.toNatClampNeg (vp_nar .boolean 0)) fun s7 =>
  ag4 (n_1_2 + 1) s7
set_option maxRecDepth 20000 in
theorem L_M_findExposed_7 (k5 : gS → gR) (r0 : gQ × gS) (hk5 : ∀ (s8 : gS), k5 s8 = some r0 → gv_V m_M_findExposed 1 false 35 [some (.ref 41), none, none] [] s8 (gv_is r0.1 r0.2)) (n : Nat) : ∀ (n_1_2 : Int32) (s3 : gS), gd_lp (fun _ _ => none) (B_M_findExposed_7 k5) n n_1_2 s3 = some r0 → gv_V m_M_findExposed 1 false 7 [some (.ref 41), some (.int n_1_2), none] [] s3 (gv_is r0.1 r0.2) := by
  refine gd_lpC (fun (ag4 : Int32 → gS → gR) => ∀ (n_1_2 : Int32) (s3 : gS), ag4 n_1_2 s3 = some r0 → gv_V m_M_findExposed 1 false 7 [some (.ref 41), some (.int n_1_2), none] [] s3 (gv_is r0.1 r0.2)) (fun n_1_2 s3 h => by cases h) (fun ag4 ih n_1_2 s3 h => ?_) n
  unfold B_M_findExposed_7 at h
  refine gv_iload_n (n := 1) (pc' := 8) (by decide +kernel) rfl rfl ?_
  refine gv_aload_n (n := 0) (pc' := 9) (by decide +kernel) rfl rfl ?_
  refine gv_getj lk_9_102 (by decide +kernel) rfl rfl (pc' := 12) rfl ?_
  refine gv_icmp_ge (off := 23) (tgt := 35) (pc' := 15) (by decide +kernel) (by decide) rfl (fun c12 => ?_) (fun c12 => ?_)
  · replace h := gd_T c12 h
    exact gd_ar (gl_s (gl_n (gl_n gl_z))) (fun z => by cases z) (hk5 _ h)
  · replace h := gd_F c12 h
    refine gv_aload_n (n := 0) (pc' := 16) (by decide +kernel) rfl rfl ?_
    refine gv_getr lk_9_55 (by decide +kernel) rfl rfl (pc' := 19) rfl ?_
    refine gv_iload_n (n := 1) (pc' := 20) (by decide +kernel) rfl rfl ?_
    refine gv_iconst (n := 0) (v := 0) (pc' := 21) (by decide +kernel) (by decide) rfl ?_
    obtain ⟨g21, h⟩ := gd_gE h
    refine gd_zast (pc' := 22) (by decide +kernel) rfl (gd_inv g21) rfl h (fun s6 h => ?_)
    refine gv_aload_n (n := 0) (pc' := 23) (by decide +kernel) rfl rfl ?_
    refine gv_getr lk_9_58 (by decide +kernel) rfl rfl (pc' := 26) rfl ?_
    refine gv_iload_n (n := 1) (pc' := 27) (by decide +kernel) rfl rfl ?_
    refine gv_iconst (n := 0) (v := 0) (pc' := 28) (by decide +kernel) (by decide) rfl ?_
    obtain ⟨g28, h⟩ := gd_gE h
    refine gd_zast (pc' := 29) (by decide +kernel) rfl (gd_inv g28) rfl h (fun s7 h => ?_)
    refine gv_iincc (i := 1) (n := 1) (c := 1) (pc' := 32) (by decide +kernel) rfl (by decide) (by decide) rfl ?_
    refine gv_goto (off := -25) (tgt := 7) (by decide +kernel) (by decide) ?_
    exact gd_ar (gl_s (gl_s (gl_n gl_z))) (fun z => by cases z) (ih _ _ h)
def F_M_findExposed (σ : gS) : gR :=
 gd_s (gs_I σ 41 27 0) fun s1 =>
 gd_j (α := gS → gR) (fun (s8 : gS) =>
  gd_lp (fun _ _ => none) (B_M_findExposed_37) gd_N 0 s8) fun k5 =>
 gd_lp (fun _ _ => none) (B_M_findExposed_7 k5) gd_N 0 s1
set_option maxRecDepth 20000 in
theorem X_M_findExposed (σ : gS) (r0 : gQ × gS) (h : F_M_findExposed σ = some r0) : gv_K m_M_findExposed [.ref 41] σ (gv_is r0.1 r0.2) := by
  unfold F_M_findExposed at h
  show gv_V m_M_findExposed 1 true 0 [some (.ref 41), none, none] [] σ (gv_is r0.1 r0.2)
  refine gv_aload_n (n := 0) (pc' := 1) (by decide +kernel) rfl rfl ?_
  refine gv_iconst (n := 0) (v := 0) (pc' := 2) (by decide +kernel) (by decide) rfl ?_
  refine gd_puti lp_9_256 (by decide +kernel) rfl rfl rfl rfl (pc' := 5) rfl h (fun s1 h => ?_)
  refine gv_iconst (n := 0) (v := 0) (pc' := 6) (by decide +kernel) (by decide) rfl ?_
  refine gv_istore_n (n := 1) (pc' := 7) (by decide +kernel) (by decide) rfl ?_
  refine gd_jC (fun k5 => ∀ (s8 : gS), k5 s8 = some r0 → gv_V m_M_findExposed 1 false 35 [some (.ref 41), none, none] [] s8 (gv_is r0.1 r0.2)) h (fun s8 h => ?_) (fun k5 hk5 h => ?_)
  · refine gv_iconst (n := 0) (v := 0) (pc' := 36) (by decide +kernel) (by decide) rfl ?_
    refine gv_istore_n (n := 1) (pc' := 37) (by decide +kernel) (by decide) rfl ?_
    exact gd_ar (gl_s (gl_s (gl_n gl_z))) (fun z => by cases z) (L_M_findExposed_37 r0 _ _ _ h)
  exact gd_ar (gl_s (gl_s (gl_n gl_z))) (fun z => by cases z) (L_M_findExposed_7 _ r0 hk5 _ _ _ h)
def F_M_find (a : Int32) (b : Int32) (σ : gS) : gR :=
 gd_g (gd_in a 2080) <|
 if (gA σ 61 a.toNatClampNeg) = (-1) then
  gd_g (gd_in a 2080) <|
  gd_s (gs_A σ 61 a.toNatClampNeg b) fun s1 =>
  gd_g (gd_in (gI s1 41 37) 2081) <|
  gd_s (gs_A s1 62 (gI s1 41 37).toNatClampNeg a) fun s2 =>
  gd_s (gs_I s2 41 37 ((gI s2 41 37) + (1 : Int32))) fun s3 =>
  some (.inl none, s3)
 else
  some (.inl none, σ)
set_option maxRecDepth 20000 in
theorem X_M_find (a : Int32) (b : Int32) (σ : gS) (r0 : gQ × gS) (h : F_M_find a b σ = some r0) : gv_K m_M_find [.ref 41, .int a, .int b] σ (gv_is r0.1 r0.2) := by
  unfold F_M_find at h
  show gv_V m_M_find 1 true 0 [some (.ref 41), some (.int a), some (.int b)] [] σ (gv_is r0.1 r0.2)
  refine gv_aload_n (n := 0) (pc' := 1) (by decide +kernel) rfl rfl ?_
  refine gv_getr lk_9_77 (by decide +kernel) rfl rfl (pc' := 4) rfl ?_
  refine gv_iload_n (n := 1) (pc' := 5) (by decide +kernel) rfl rfl ?_
  obtain ⟨g5, h⟩ := gd_gE h
  refine gj_iald _ (pc' := 6) (by decide +kernel) rfl (gd_inv g5) rfl rfl ?_
  refine gv_iconst (n := (-1)) (v := (-1)) (pc' := 7) (by decide +kernel) (by decide) rfl ?_
  refine gv_icmp_ne (off := 30) (tgt := 37) (pc' := 10) (by decide +kernel) (by decide) rfl (fun c7 => ?_) (fun c7 => ?_)
  · replace h := gd_F c7 h
    exact gv_ret (by decide +kernel) rfl (by decide) (by decide) (gd_rE h)
  · replace h := gd_T c7 h
    refine gv_aload_n (n := 0) (pc' := 11) (by decide +kernel) rfl rfl ?_
    refine gv_getr lk_9_77 (by decide +kernel) rfl rfl (pc' := 14) rfl ?_
    refine gv_iload_n (n := 1) (pc' := 15) (by decide +kernel) rfl rfl ?_
    refine gv_iload_n (n := 2) (pc' := 16) (by decide +kernel) rfl rfl ?_
    obtain ⟨g16, h⟩ := gd_gE h
    refine gd_iast (pc' := 17) (by decide +kernel) rfl (gd_inv g16) rfl h (fun s1 h => ?_)
    refine gv_aload_n (n := 0) (pc' := 18) (by decide +kernel) rfl rfl ?_
    refine gv_getr lk_9_80 (by decide +kernel) rfl rfl (pc' := 21) rfl ?_
    refine gv_aload_n (n := 0) (pc' := 22) (by decide +kernel) rfl rfl ?_
    refine gv_getj lk_9_235 (by decide +kernel) rfl rfl (pc' := 25) rfl ?_
    refine gv_iload_n (n := 1) (pc' := 26) (by decide +kernel) rfl rfl ?_
    obtain ⟨g26, h⟩ := gd_gE h
    refine gd_iast (pc' := 27) (by decide +kernel) rfl (gd_inv g26) rfl h (fun s2 h => ?_)
    refine gv_aload_n (n := 0) (pc' := 28) (by decide +kernel) rfl rfl ?_
    refine gv_dup (pc' := 29) (by decide +kernel) rfl rfl ?_
    refine gv_getj lk_9_235 (by decide +kernel) rfl rfl (pc' := 32) rfl ?_
    refine gv_iconst (n := 1) (v := 1) (pc' := 33) (by decide +kernel) (by decide) rfl ?_
    refine gv_iadd (pc' := 34) (by decide +kernel) rfl ?_
    refine gd_puti lp_9_235 (by decide +kernel) rfl rfl rfl rfl (pc' := 37) rfl h (fun s3 h => ?_)
    exact gv_ret (by decide +kernel) rfl (by decide) (by decide) (gd_rE h)
def R_M_has_58 (a : Int32) (b : Int32) (σ : gS) : gP :=
 gd_g (gd_in (((33 : Int32) * a) + (b / (32 : Int32))) 34320) <|
 if (((gA σ 58 (((33 : Int32) * a) + (b / (32 : Int32))).toNatClampNeg) >>> ((b - b / (32 : Int32) * (32 : Int32)) &&& 31)) &&& (1 : Int32)) = 1 then
  some (.inl (some (.int 1)))
 else
  some (.inl (some (.int 0)))
set_option maxRecDepth 20000 in
theorem X_M_has_58 (a : Int32) (b : Int32) (σ : gS) (r0 : gQ) (h : R_M_has_58 a b σ = some r0) : gv_K m_M_has [.ref 41, .ref 58, .int a, .int b] σ (gv_is r0 σ) := by
  unfold R_M_has_58 at h
  show gv_V m_M_has 1 true 0 [some (.ref 41), some (.ref 58), some (.int a), some (.int b)] [] σ (gv_is r0 σ)
  refine gv_aload_n (n := 1) (pc' := 1) (by decide +kernel) rfl rfl ?_
  refine gv_bipush (n := 33) (v := 33) (pc' := 3) (by decide +kernel) (by decide) rfl ?_
  refine gv_iload_n (n := 2) (pc' := 4) (by decide +kernel) rfl rfl ?_
  refine gv_imul (pc' := 5) (by decide +kernel) rfl ?_
  refine gv_iload_n (n := 3) (pc' := 6) (by decide +kernel) rfl rfl ?_
  refine gv_bipush (n := 32) (v := 32) (pc' := 8) (by decide +kernel) (by decide) rfl ?_
  refine gv_idiv (pc' := 9) (by decide +kernel) (by decide) rfl ?_
  refine gv_iadd (pc' := 10) (by decide +kernel) rfl ?_
  obtain ⟨g10, h⟩ := gd_gE h
  refine gj_iald _ (pc' := 11) (by decide +kernel) rfl (gd_inv g10) rfl rfl ?_
  refine gv_iload_n (n := 3) (pc' := 12) (by decide +kernel) rfl rfl ?_
  refine gv_bipush (n := 32) (v := 32) (pc' := 14) (by decide +kernel) (by decide) rfl ?_
  refine gv_irem (pc' := 15) (by decide +kernel) (by decide) rfl ?_
  refine gv_ishr (pc' := 16) (by decide +kernel) rfl ?_
  refine gv_iconst (n := 1) (v := 1) (pc' := 17) (by decide +kernel) (by decide) rfl ?_
  refine gv_iand (pc' := 18) (by decide +kernel) rfl ?_
  refine gv_iconst (n := 1) (v := 1) (pc' := 19) (by decide +kernel) (by decide) rfl ?_
  refine gv_icmp_ne (off := 7) (tgt := 26) (pc' := 22) (by decide +kernel) (by decide) rfl (fun c19 => ?_) (fun c19 => ?_)
  · replace h := gd_F c19 h
    refine gv_iconst (n := 0) (v := 0) (pc' := 27) (by decide +kernel) (by decide) rfl ?_
    exact gv_iret .boolean (by decide +kernel) rfl rfl (by decide) (by decide) (gd_pE h)
  · replace h := gd_T c19 h
    refine gv_iconst (n := 1) (v := 1) (pc' := 23) (by decide +kernel) (by decide) rfl ?_
    refine gv_goto (off := 4) (tgt := 27) (by decide +kernel) (by decide) ?_
    exact gv_iret .boolean (by decide +kernel) rfl rfl (by decide) (by decide) (gd_pE h)
def B_M_findFromExit_2 (k5 : gS → gR) (x_1_1 : Int32) (ag4 : Int32 → gS → gR) (n_2_2 : Int32) (s3 : gS) : gR :=
 if (gI s3 41 2) ≤ n_2_2 then
  k5 s3
 else
  gd_g (gd_in n_2_2 1040) <|
  gd_j (α := gS → gR) (fun (s11 : gS) =>
   ag4 (n_2_2 + 1) s11) fun J6 =>
  if (gA s3 53 n_2_2.toNatClampNeg) = 0 then
   J6 s3
  else
   gd_qi (R_M_kind n_2_2 s3) s3 fun r7 =>
   if 2 ≤ r7 then
    J6 s3
   else
    gd_qi (R_M_has_57 x_1_1 n_2_2 s3) s3 fun r8 =>
    if r8 = 0 then
     J6 s3
    else
     gd_qi (R_M_has_58 x_1_1 n_2_2 s3) s3 fun r9 =>
     if r9 = 0 then
      gd_0 (F_M_find ((2 : Int32) * n_2_2) (((2 : Int32) * x_1_1) + (1 : Int32)) s3) fun s10 =>
      J6 s10
     else
      J6 s3
set_option maxRecDepth 20000 in
theorem L_M_findFromExit_2 (k5 : gS → gR) (x_1_1 : Int32) (r0 : gQ × gS) (hk5 : ∀ (s12 : gS), k5 s12 = some r0 → gv_V m_M_findFromExit 1 false 72 [some (.ref 41), some (.int x_1_1), none] [] s12 (gv_is r0.1 r0.2)) (n : Nat) : ∀ (n_2_2 : Int32) (s3 : gS), gd_lp (fun _ _ => none) (B_M_findFromExit_2 k5 x_1_1) n n_2_2 s3 = some r0 → gv_V m_M_findFromExit 1 false 2 [some (.ref 41), some (.int x_1_1), some (.int n_2_2)] [] s3 (gv_is r0.1 r0.2) := by
  refine gd_lpC (fun (ag4 : Int32 → gS → gR) => ∀ (n_2_2 : Int32) (s3 : gS), ag4 n_2_2 s3 = some r0 → gv_V m_M_findFromExit 1 false 2 [some (.ref 41), some (.int x_1_1), some (.int n_2_2)] [] s3 (gv_is r0.1 r0.2)) (fun n_2_2 s3 h => by cases h) (fun ag4 ih n_2_2 s3 h => ?_) n
  unfold B_M_findFromExit_2 at h
  refine gv_iload_n (n := 2) (pc' := 3) (by decide +kernel) rfl rfl ?_
  refine gv_aload_n (n := 0) (pc' := 4) (by decide +kernel) rfl rfl ?_
  refine gv_getj lk_9_102 (by decide +kernel) rfl rfl (pc' := 7) rfl ?_
  refine gv_icmp_ge (off := 65) (tgt := 72) (pc' := 10) (by decide +kernel) (by decide) rfl (fun c7 => ?_) (fun c7 => ?_)
  · replace h := gd_T c7 h
    exact gd_ar (gl_s (gl_s (gl_n gl_z))) (fun z => by cases z) (hk5 _ h)
  · replace h := gd_F c7 h
    refine gv_aload_n (n := 0) (pc' := 11) (by decide +kernel) rfl rfl ?_
    refine gv_getr lk_9_52 (by decide +kernel) rfl rfl (pc' := 14) rfl ?_
    refine gv_iload_n (n := 2) (pc' := 15) (by decide +kernel) rfl rfl ?_
    obtain ⟨g15, h⟩ := gd_gE h
    refine gj_zald _ (pc' := 16) (by decide +kernel) rfl (gd_inv g15) rfl rfl ?_
    refine gd_jC (fun J6 => ∀ (s11 : gS), J6 s11 = some r0 → gv_V m_M_findFromExit 1 false 66 [some (.ref 41), some (.int x_1_1), some (.int n_2_2)] [] s11 (gv_is r0.1 r0.2)) h (fun s11 h => ?_) (fun J6 hJ6 h => ?_)
    · refine gv_iincc (i := 2) (n := 1) (c := 1) (pc' := 69) (by decide +kernel) rfl (by decide) (by decide) rfl ?_
      refine gv_goto (off := -67) (tgt := 2) (by decide +kernel) (by decide) ?_
      exact gd_ar (gl_s (gl_s (gl_s gl_z))) (fun z => by cases z) (ih _ _ h)
    · refine gv_if_eq (off := 50) (tgt := 66) (pc' := 19) (by decide +kernel) (by decide) rfl (fun c16 => ?_) (fun c16 => ?_)
      · replace h := gd_T c16 h
        exact gd_ar (gl_s (gl_s (gl_s gl_z))) (fun z => by cases z) (hJ6 _ h)
      · replace h := gd_F c16 h
        refine gv_aload_n (n := 0) (pc' := 20) (by decide +kernel) rfl rfl ?_
        refine gv_iload_n (n := 2) (pc' := 21) (by decide +kernel) rfl rfl ?_
        refine gd_dvi (w' := false) (pc' := 24) (X_M_kind _ _) h md_M_kind vd_M_kind (Or.inl ml_9_130) (by decide +kernel) (by decide) rfl rfl rfl (Nat.le_of_ble_eq_true rfl) (Nat.le_of_ble_eq_true rfl) (by decide) rfl (fun z => by cases z) (by decide) rfl (fun r7 h => ?_)
        refine gv_iconst (n := 2) (v := 2) (pc' := 25) (by decide +kernel) (by decide) rfl ?_
        refine gv_icmp_ge (off := 41) (tgt := 66) (pc' := 28) (by decide +kernel) (by decide) rfl (fun c25 => ?_) (fun c25 => ?_)
        · replace h := gd_T c25 h
          exact gd_ar (gl_s (gl_s (gl_s gl_z))) (fun z => by cases z) (hJ6 _ h)
        · replace h := gd_F c25 h
          refine gv_aload_n (n := 0) (pc' := 29) (by decide +kernel) rfl rfl ?_
          refine gv_aload_n (n := 0) (pc' := 30) (by decide +kernel) rfl rfl ?_
          refine gv_getr lk_9_65 (by decide +kernel) rfl rfl (pc' := 33) rfl ?_
          refine gv_iload_n (n := 1) (pc' := 34) (by decide +kernel) rfl rfl ?_
          refine gv_iload_n (n := 2) (pc' := 35) (by decide +kernel) rfl rfl ?_
          refine gd_dvi (w' := false) (pc' := 38) (X_M_has_57 _ _ _) h md_M_has vd_M_has (Or.inl ml_9_252) (by decide +kernel) (by decide) rfl rfl rfl (Nat.le_of_ble_eq_true rfl) (Nat.le_of_ble_eq_true rfl) (by decide) rfl (fun z => by cases z) (by decide) rfl (fun r8 h => ?_)
          refine gv_if_eq (off := 28) (tgt := 66) (pc' := 41) (by decide +kernel) (by decide) rfl (fun c38 => ?_) (fun c38 => ?_)
          · replace h := gd_T c38 h
            exact gd_ar (gl_s (gl_s (gl_s gl_z))) (fun z => by cases z) (hJ6 _ h)
          · replace h := gd_F c38 h
            refine gv_aload_n (n := 0) (pc' := 42) (by decide +kernel) rfl rfl ?_
            refine gv_aload_n (n := 0) (pc' := 43) (by decide +kernel) rfl rfl ?_
            refine gv_getr lk_9_68 (by decide +kernel) rfl rfl (pc' := 46) rfl ?_
            refine gv_iload_n (n := 1) (pc' := 47) (by decide +kernel) rfl rfl ?_
            refine gv_iload_n (n := 2) (pc' := 48) (by decide +kernel) rfl rfl ?_
            refine gd_dvi (w' := false) (pc' := 51) (X_M_has_58 _ _ _) h md_M_has vd_M_has (Or.inl ml_9_252) (by decide +kernel) (by decide) rfl rfl rfl (Nat.le_of_ble_eq_true rfl) (Nat.le_of_ble_eq_true rfl) (by decide) rfl (fun z => by cases z) (by decide) rfl (fun r9 h => ?_)
            refine gv_if_ne (off := 15) (tgt := 66) (pc' := 54) (by decide +kernel) (by decide) rfl (fun c51 => ?_) (fun c51 => ?_)
            · replace h := gd_F c51 h
              exact gd_ar (gl_s (gl_s (gl_s gl_z))) (fun z => by cases z) (hJ6 _ h)
            · replace h := gd_T c51 h
              refine gv_aload_n (n := 0) (pc' := 55) (by decide +kernel) rfl rfl ?_
              refine gv_iconst (n := 2) (v := 2) (pc' := 56) (by decide +kernel) (by decide) rfl ?_
              refine gv_iload_n (n := 2) (pc' := 57) (by decide +kernel) rfl rfl ?_
              refine gv_imul (pc' := 58) (by decide +kernel) rfl ?_
              refine gv_iconst (n := 2) (v := 2) (pc' := 59) (by decide +kernel) (by decide) rfl ?_
              refine gv_iload_n (n := 1) (pc' := 60) (by decide +kernel) rfl rfl ?_
              refine gv_imul (pc' := 61) (by decide +kernel) rfl ?_
              refine gv_iconst (n := 1) (v := 1) (pc' := 62) (by decide +kernel) (by decide) rfl ?_
              refine gv_iadd (pc' := 63) (by decide +kernel) rfl ?_
              refine gd_cv0 (w' := false) (pc' := 66) (X_M_find _ _ _) h md_M_find vd_M_find (Or.inl ml_9_263) (by decide +kernel) (by decide) rfl rfl rfl (Nat.le_of_ble_eq_true rfl) (Nat.le_of_ble_eq_true rfl) (by decide) rfl (fun z => by cases z) (by decide) rfl (fun s10 h => ?_)
              exact gd_ar (gl_s (gl_s (gl_s gl_z))) (fun z => by cases z) (hJ6 _ h)
def F_M_findFromExit (a : Int32) (σ : gS) : gR :=
 gd_j (α := gS → gR) (fun (s12 : gS) =>
  gd_g (gd_in a 1040) <|
  if (gA s12 59 a.toNatClampNeg) = 0 then
   some (.inl none, s12)
  else
   gd_0 (F_M_find ((2 : Int32) * a) (((2 : Int32) * a) + (1 : Int32)) s12) fun s13 =>
   some (.inl none, s13)) fun k5 =>
 gd_lp (fun _ _ => none) (B_M_findFromExit_2 k5 a) gd_N 0 σ
set_option maxRecDepth 20000 in
theorem X_M_findFromExit (a : Int32) (σ : gS) (r0 : gQ × gS) (h : F_M_findFromExit a σ = some r0) : gv_K m_M_findFromExit [.ref 41, .int a] σ (gv_is r0.1 r0.2) := by
  unfold F_M_findFromExit at h
  show gv_V m_M_findFromExit 1 true 0 [some (.ref 41), some (.int a), none] [] σ (gv_is r0.1 r0.2)
  refine gv_iconst (n := 0) (v := 0) (pc' := 1) (by decide +kernel) (by decide) rfl ?_
  refine gv_istore_n (n := 2) (pc' := 2) (by decide +kernel) (by decide) rfl ?_
  refine gd_jC (fun k5 => ∀ (s12 : gS), k5 s12 = some r0 → gv_V m_M_findFromExit 1 false 72 [some (.ref 41), some (.int a), none] [] s12 (gv_is r0.1 r0.2)) h (fun s12 h => ?_) (fun k5 hk5 h => ?_)
  · refine gv_aload_n (n := 0) (pc' := 73) (by decide +kernel) rfl rfl ?_
    refine gv_getr lk_9_71 (by decide +kernel) rfl rfl (pc' := 76) rfl ?_
    refine gv_iload_n (n := 1) (pc' := 77) (by decide +kernel) rfl rfl ?_
    obtain ⟨g77, h⟩ := gd_gE h
    refine gj_zald _ (pc' := 78) (by decide +kernel) rfl (gd_inv g77) rfl rfl ?_
    refine gv_if_eq (off := 15) (tgt := 93) (pc' := 81) (by decide +kernel) (by decide) rfl (fun c78 => ?_) (fun c78 => ?_)
    · replace h := gd_T c78 h
      exact gv_ret (by decide +kernel) rfl (by decide) (by decide) (gd_rE h)
    · replace h := gd_F c78 h
      refine gv_aload_n (n := 0) (pc' := 82) (by decide +kernel) rfl rfl ?_
      refine gv_iconst (n := 2) (v := 2) (pc' := 83) (by decide +kernel) (by decide) rfl ?_
      refine gv_iload_n (n := 1) (pc' := 84) (by decide +kernel) rfl rfl ?_
      refine gv_imul (pc' := 85) (by decide +kernel) rfl ?_
      refine gv_iconst (n := 2) (v := 2) (pc' := 86) (by decide +kernel) (by decide) rfl ?_
      refine gv_iload_n (n := 1) (pc' := 87) (by decide +kernel) rfl rfl ?_
      refine gv_imul (pc' := 88) (by decide +kernel) rfl ?_
      refine gv_iconst (n := 1) (v := 1) (pc' := 89) (by decide +kernel) (by decide) rfl ?_
      refine gv_iadd (pc' := 90) (by decide +kernel) rfl ?_
      refine gd_cv0 (w' := false) (pc' := 93) (X_M_find _ _ _) h md_M_find vd_M_find (Or.inl ml_9_263) (by decide +kernel) (by decide) rfl rfl rfl (Nat.le_of_ble_eq_true rfl) (Nat.le_of_ble_eq_true rfl) (by decide) rfl (fun z => by cases z) (by decide) rfl (fun s13 h => ?_)
      exact gv_ret (by decide +kernel) rfl (by decide) (by decide) (gd_rE h)
  exact gd_ar (gl_s (gl_s (gl_s gl_z))) (fun z => by cases z) (L_M_findFromExit_2 _ _ r0 hk5 _ _ _ h)
def B_M_findFromEntry_23 (x_1_4 : Int32) (ag7 : Int32 → gS → gR) (n_2_5 : Int32) (s6 : gS) : gR :=
 if (gI s6 41 2) ≤ n_2_5 then
  some (.inl none, s6)
 else
  gd_g (gd_in n_2_5 1040) <|
  gd_j (α := gS → gR) (fun (s11 : gS) =>
   ag7 (n_2_5 + 1) s11) fun J8 =>
  if (gA s6 53 n_2_5.toNatClampNeg) = 0 then
   J8 s6
  else
   gd_qi (R_M_has_58 n_2_5 x_1_4 s6) s6 fun r9 =>
   if r9 = 0 then
    J8 s6
   else
    gd_0 (F_M_find (((2 : Int32) * n_2_5) + (1 : Int32)) ((2 : Int32) * x_1_4) s6) fun s10 =>
    J8 s10
set_option maxRecDepth 20000 in
theorem L_M_findFromEntry_23 (x_1_4 : Int32) (r0 : gQ × gS) (n : Nat) : ∀ (n_2_5 : Int32) (s6 : gS), gd_lp (fun _ _ => none) (B_M_findFromEntry_23 x_1_4) n n_2_5 s6 = some r0 → gv_V m_M_findFromEntry 1 false 23 [some (.ref 41), some (.int x_1_4), some (.int n_2_5)] [] s6 (gv_is r0.1 r0.2) := by
  refine gd_lpC (fun (ag7 : Int32 → gS → gR) => ∀ (n_2_5 : Int32) (s6 : gS), ag7 n_2_5 s6 = some r0 → gv_V m_M_findFromEntry 1 false 23 [some (.ref 41), some (.int x_1_4), some (.int n_2_5)] [] s6 (gv_is r0.1 r0.2)) (fun n_2_5 s6 h => by cases h) (fun ag7 ih n_2_5 s6 h => ?_) n
  unfold B_M_findFromEntry_23 at h
  refine gv_iload_n (n := 2) (pc' := 24) (by decide +kernel) rfl rfl ?_
  refine gv_aload_n (n := 0) (pc' := 25) (by decide +kernel) rfl rfl ?_
  refine gv_getj lk_9_102 (by decide +kernel) rfl rfl (pc' := 28) rfl ?_
  refine gv_icmp_ge (off := 43) (tgt := 71) (pc' := 31) (by decide +kernel) (by decide) rfl (fun c28 => ?_) (fun c28 => ?_)
  · replace h := gd_T c28 h
    exact gv_ret (by decide +kernel) rfl (by decide) (by decide) (gd_rE h)
  · replace h := gd_F c28 h
    refine gv_aload_n (n := 0) (pc' := 32) (by decide +kernel) rfl rfl ?_
    refine gv_getr lk_9_52 (by decide +kernel) rfl rfl (pc' := 35) rfl ?_
    refine gv_iload_n (n := 2) (pc' := 36) (by decide +kernel) rfl rfl ?_
    obtain ⟨g36, h⟩ := gd_gE h
    refine gj_zald _ (pc' := 37) (by decide +kernel) rfl (gd_inv g36) rfl rfl ?_
    refine gd_jC (fun J8 => ∀ (s11 : gS), J8 s11 = some r0 → gv_V m_M_findFromEntry 1 false 65 [some (.ref 41), some (.int x_1_4), some (.int n_2_5)] [] s11 (gv_is r0.1 r0.2)) h (fun s11 h => ?_) (fun J8 hJ8 h => ?_)
    · refine gv_iincc (i := 2) (n := 1) (c := 1) (pc' := 68) (by decide +kernel) rfl (by decide) (by decide) rfl ?_
      refine gv_goto (off := -45) (tgt := 23) (by decide +kernel) (by decide) ?_
      exact gd_ar (gl_s (gl_s (gl_s gl_z))) (fun z => by cases z) (ih _ _ h)
    · refine gv_if_eq (off := 28) (tgt := 65) (pc' := 40) (by decide +kernel) (by decide) rfl (fun c37 => ?_) (fun c37 => ?_)
      · replace h := gd_T c37 h
        exact gd_ar (gl_s (gl_s (gl_s gl_z))) (fun z => by cases z) (hJ8 _ h)
      · replace h := gd_F c37 h
        refine gv_aload_n (n := 0) (pc' := 41) (by decide +kernel) rfl rfl ?_
        refine gv_aload_n (n := 0) (pc' := 42) (by decide +kernel) rfl rfl ?_
        refine gv_getr lk_9_68 (by decide +kernel) rfl rfl (pc' := 45) rfl ?_
        refine gv_iload_n (n := 2) (pc' := 46) (by decide +kernel) rfl rfl ?_
        refine gv_iload_n (n := 1) (pc' := 47) (by decide +kernel) rfl rfl ?_
        refine gd_dvi (w' := false) (pc' := 50) (X_M_has_58 _ _ _) h md_M_has vd_M_has (Or.inl ml_9_252) (by decide +kernel) (by decide) rfl rfl rfl (Nat.le_of_ble_eq_true rfl) (Nat.le_of_ble_eq_true rfl) (by decide) rfl (fun z => by cases z) (by decide) rfl (fun r9 h => ?_)
        refine gv_if_eq (off := 15) (tgt := 65) (pc' := 53) (by decide +kernel) (by decide) rfl (fun c50 => ?_) (fun c50 => ?_)
        · replace h := gd_T c50 h
          exact gd_ar (gl_s (gl_s (gl_s gl_z))) (fun z => by cases z) (hJ8 _ h)
        · replace h := gd_F c50 h
          refine gv_aload_n (n := 0) (pc' := 54) (by decide +kernel) rfl rfl ?_
          refine gv_iconst (n := 2) (v := 2) (pc' := 55) (by decide +kernel) (by decide) rfl ?_
          refine gv_iload_n (n := 2) (pc' := 56) (by decide +kernel) rfl rfl ?_
          refine gv_imul (pc' := 57) (by decide +kernel) rfl ?_
          refine gv_iconst (n := 1) (v := 1) (pc' := 58) (by decide +kernel) (by decide) rfl ?_
          refine gv_iadd (pc' := 59) (by decide +kernel) rfl ?_
          refine gv_iconst (n := 2) (v := 2) (pc' := 60) (by decide +kernel) (by decide) rfl ?_
          refine gv_iload_n (n := 1) (pc' := 61) (by decide +kernel) rfl rfl ?_
          refine gv_imul (pc' := 62) (by decide +kernel) rfl ?_
          refine gd_cv0 (w' := false) (pc' := 65) (X_M_find _ _ _) h md_M_find vd_M_find (Or.inl ml_9_263) (by decide +kernel) (by decide) rfl rfl rfl (Nat.le_of_ble_eq_true rfl) (Nat.le_of_ble_eq_true rfl) (by decide) rfl (fun z => by cases z) (by decide) rfl (fun s10 h => ?_)
          exact gd_ar (gl_s (gl_s (gl_s gl_z))) (fun z => by cases z) (hJ8 _ h)
def F_M_findFromEntry (a : Int32) (σ : gS) : gR :=
 gd_g (gd_in a 1040) <|
 gd_j (α := gS → gR) (fun (s3 : gS) =>
  gd_lp (fun _ _ => none) (B_M_findFromEntry_23 a) gd_N 0 s3) fun J1 =>
 if (gA σ 59 a.toNatClampNeg) = 0 then
  gd_0 (F_M_find (((2 : Int32) * a) + (1 : Int32)) ((2 : Int32) * a) σ) fun s2 =>
  J1 s2
 else
  J1 σ
set_option maxRecDepth 20000 in
theorem X_M_findFromEntry (a : Int32) (σ : gS) (r0 : gQ × gS) (h : F_M_findFromEntry a σ = some r0) : gv_K m_M_findFromEntry [.ref 41, .int a] σ (gv_is r0.1 r0.2) := by
  unfold F_M_findFromEntry at h
  show gv_V m_M_findFromEntry 1 true 0 [some (.ref 41), some (.int a), none] [] σ (gv_is r0.1 r0.2)
  refine gv_aload_n (n := 0) (pc' := 1) (by decide +kernel) rfl rfl ?_
  refine gv_getr lk_9_71 (by decide +kernel) rfl rfl (pc' := 4) rfl ?_
  refine gv_iload_n (n := 1) (pc' := 5) (by decide +kernel) rfl rfl ?_
  obtain ⟨g5, h⟩ := gd_gE h
  refine gj_zald _ (pc' := 6) (by decide +kernel) rfl (gd_inv g5) rfl rfl ?_
  refine gd_jC (fun J1 => ∀ (s3 : gS), J1 s3 = some r0 → gv_V m_M_findFromEntry 1 false 21 [some (.ref 41), some (.int a), none] [] s3 (gv_is r0.1 r0.2)) h (fun s3 h => ?_) (fun J1 hJ1 h => ?_)
  · refine gv_iconst (n := 0) (v := 0) (pc' := 22) (by decide +kernel) (by decide) rfl ?_
    refine gv_istore_n (n := 2) (pc' := 23) (by decide +kernel) (by decide) rfl ?_
    exact gd_ar (gl_s (gl_s (gl_s gl_z))) (fun z => by cases z) (L_M_findFromEntry_23 _ r0 _ _ _ h)
  · refine gv_if_ne (off := 15) (tgt := 21) (pc' := 9) (by decide +kernel) (by decide) rfl (fun c6 => ?_) (fun c6 => ?_)
    · replace h := gd_F c6 h
      exact gd_ar (gl_s (gl_s (gl_n gl_z))) (fun z => by cases z) (hJ1 _ h)
    · replace h := gd_T c6 h
      refine gv_aload_n (n := 0) (pc' := 10) (by decide +kernel) rfl rfl ?_
      refine gv_iconst (n := 2) (v := 2) (pc' := 11) (by decide +kernel) (by decide) rfl ?_
      refine gv_iload_n (n := 1) (pc' := 12) (by decide +kernel) rfl rfl ?_
      refine gv_imul (pc' := 13) (by decide +kernel) rfl ?_
      refine gv_iconst (n := 1) (v := 1) (pc' := 14) (by decide +kernel) (by decide) rfl ?_
      refine gv_iadd (pc' := 15) (by decide +kernel) rfl ?_
      refine gv_iconst (n := 2) (v := 2) (pc' := 16) (by decide +kernel) (by decide) rfl ?_
      refine gv_iload_n (n := 1) (pc' := 17) (by decide +kernel) rfl rfl ?_
      refine gv_imul (pc' := 18) (by decide +kernel) rfl ?_
      refine gd_cv0 (w' := false) (pc' := 21) (X_M_find _ _ _) h md_M_find vd_M_find (Or.inl ml_9_263) (by decide +kernel) (by decide) rfl rfl rfl (Nat.le_of_ble_eq_true rfl) (Nat.le_of_ble_eq_true rfl) (by decide) rfl (fun z => by cases z) (by decide) rfl (fun s2 h => ?_)
      exact gd_ar (gl_s (gl_s (gl_n gl_z))) (fun z => by cases z) (hJ1 _ h)
def B_M_search_76 (k20 : Int32 → gS → gR) (ag19 : Int32 → gS → gR) (n_1_17 : Int32) (s18 : gS) : gR :=
 if (gI s18 41 37) ≤ n_1_17 then
  some (.inl (some (.int (-1))), s18)
 else
  gd_g (gd_in n_1_17 2081) <|
  gd_g (gd_in n_1_17 2081) <|
  gd_j (α := gS → gR) (fun (s25 : gS) =>
   ag19 (n_1_17 + 1) s25) fun J21 =>
  if ((gA s18 62 n_1_17.toNatClampNeg) - (gA s18 62 n_1_17.toNatClampNeg) / (2 : Int32) * (2 : Int32)) = 0 then
   gd_0 (F_M_findFromEntry ((gA s18 62 n_1_17.toNatClampNeg) / (2 : Int32)) s18) fun s24 =>
   J21 s24
  else
   gd_g (gd_in ((gA s18 62 n_1_17.toNatClampNeg) / (2 : Int32)) 1040) <|
   gd_j (α := gR) (
    gd_0 (F_M_findFromExit ((gA s18 62 n_1_17.toNatClampNeg) / (2 : Int32)) s18) fun s23 =>
    J21 s23) fun J22 =>
   if (gA s18 55 ((gA s18 62 n_1_17.toNatClampNeg) / (2 : Int32)).toNatClampNeg) = 0 then
    J22
   else
    gd_g (gd_in ((gA s18 62 n_1_17.toNatClampNeg) / (2 : Int32)) 1040) <|
    if (gA s18 60 ((gA s18 62 n_1_17.toNatClampNeg) / (2 : Int32)).toNatClampNeg) = 0 then
     k20 n_1_17 s18
    else
     J22
set_option maxRecDepth 20000 in
theorem L_M_search_76 (k20 : Int32 → gS → gR) (r0 : gQ × gS) (hk20 : ∀ (v27 : Int32) (s26 : gS), k20 v27 s26 = some r0 → gv_V m_M_search 1 false 130 [some (.ref 41), some (.int v27), none] [] s26 (gv_is r0.1 r0.2)) (n : Nat) : ∀ (n_1_17 : Int32) (s18 : gS), gd_lp (fun _ _ => none) (B_M_search_76 k20) n n_1_17 s18 = some r0 → gv_V m_M_search 1 false 76 [some (.ref 41), some (.int n_1_17), none] [] s18 (gv_is r0.1 r0.2) := by
  refine gd_lpC (fun (ag19 : Int32 → gS → gR) => ∀ (n_1_17 : Int32) (s18 : gS), ag19 n_1_17 s18 = some r0 → gv_V m_M_search 1 false 76 [some (.ref 41), some (.int n_1_17), none] [] s18 (gv_is r0.1 r0.2)) (fun n_1_17 s18 h => by cases h) (fun ag19 ih n_1_17 s18 h => ?_) n
  unfold B_M_search_76 at h
  refine gv_iload_n (n := 1) (pc' := 77) (by decide +kernel) rfl rfl ?_
  refine gv_aload_n (n := 0) (pc' := 78) (by decide +kernel) rfl rfl ?_
  refine gv_getj lk_9_235 (by decide +kernel) rfl rfl (pc' := 81) rfl ?_
  refine gv_icmp_ge (off := 67) (tgt := 148) (pc' := 84) (by decide +kernel) (by decide) rfl (fun c81 => ?_) (fun c81 => ?_)
  · replace h := gd_T c81 h
    refine gv_iconst (n := (-1)) (v := (-1)) (pc' := 149) (by decide +kernel) (by decide) rfl ?_
    exact gv_iret .int (by decide +kernel) rfl rfl (by decide) (by decide) (gd_rE h)
  · replace h := gd_F c81 h
    refine gv_aload_n (n := 0) (pc' := 85) (by decide +kernel) rfl rfl ?_
    refine gv_getr lk_9_80 (by decide +kernel) rfl rfl (pc' := 88) rfl ?_
    refine gv_iload_n (n := 1) (pc' := 89) (by decide +kernel) rfl rfl ?_
    obtain ⟨g89, h⟩ := gd_gE h
    refine gj_iald _ (pc' := 90) (by decide +kernel) rfl (gd_inv g89) rfl rfl ?_
    refine gv_iconst (n := 2) (v := 2) (pc' := 91) (by decide +kernel) (by decide) rfl ?_
    refine gv_idiv (pc' := 92) (by decide +kernel) (by decide) rfl ?_
    refine gv_istore_n (n := 2) (pc' := 93) (by decide +kernel) (by decide) rfl ?_
    refine gv_aload_n (n := 0) (pc' := 94) (by decide +kernel) rfl rfl ?_
    refine gv_getr lk_9_80 (by decide +kernel) rfl rfl (pc' := 97) rfl ?_
    refine gv_iload_n (n := 1) (pc' := 98) (by decide +kernel) rfl rfl ?_
    obtain ⟨g98, h⟩ := gd_gE h
    refine gj_iald _ (pc' := 99) (by decide +kernel) rfl (gd_inv g98) rfl rfl ?_
    refine gv_iconst (n := 2) (v := 2) (pc' := 100) (by decide +kernel) (by decide) rfl ?_
    refine gv_irem (pc' := 101) (by decide +kernel) (by decide) rfl ?_
    refine gd_jC (fun J21 => ∀ (s25 : gS), J21 s25 = some r0 → gv_V m_M_search 1 false 142 [some (.ref 41), some (.int n_1_17), none] [] s25 (gv_is r0.1 r0.2)) h (fun s25 h => ?_) (fun J21 hJ21 h => ?_)
    · refine gv_iincc (i := 1) (n := 1) (c := 1) (pc' := 145) (by decide +kernel) rfl (by decide) (by decide) rfl ?_
      refine gv_goto (off := -69) (tgt := 76) (by decide +kernel) (by decide) ?_
      exact gd_ar (gl_s (gl_s (gl_n gl_z))) (fun z => by cases z) (ih _ _ h)
    · refine gv_if_ne (off := 11) (tgt := 112) (pc' := 104) (by decide +kernel) (by decide) rfl (fun c101 => ?_) (fun c101 => ?_)
      · replace h := gd_F c101 h
        refine gv_aload_n (n := 0) (pc' := 113) (by decide +kernel) rfl rfl ?_
        refine gv_getr lk_9_58 (by decide +kernel) rfl rfl (pc' := 116) rfl ?_
        refine gv_iload_n (n := 2) (pc' := 117) (by decide +kernel) rfl rfl ?_
        obtain ⟨g117, h⟩ := gd_gE h
        refine gj_zald _ (pc' := 118) (by decide +kernel) rfl (gd_inv g117) rfl rfl ?_
        refine gd_jC (fun J22 => J22 = some r0 → gv_V m_M_search 1 false 137 [some (.ref 41), some (.int n_1_17), some (.int ((gA s18 62 n_1_17.toNatClampNeg) / (2 : Int32)))] [] s18 (gv_is r0.1 r0.2)) h (fun  h => ?_) (fun J22 hJ22 h => ?_)
        · refine gv_aload_n (n := 0) (pc' := 138) (by decide +kernel) rfl rfl ?_
          refine gv_iload_n (n := 2) (pc' := 139) (by decide +kernel) rfl rfl ?_
          refine gd_cv0 (w' := false) (pc' := 142) (X_M_findFromExit _ _) h md_M_findFromExit vd_M_findFromExit (Or.inl ml_9_269) (by decide +kernel) (by decide) rfl rfl rfl (Nat.le_of_ble_eq_true rfl) (Nat.le_of_ble_eq_true rfl) (by decide) rfl (fun z => by cases z) (by decide) rfl (fun s23 h => ?_)
          exact gd_ar (gl_s (gl_s (gl_n gl_z))) (fun z => by cases z) (hJ21 _ h)
        · refine gv_if_eq (off := 19) (tgt := 137) (pc' := 121) (by decide +kernel) (by decide) rfl (fun c118 => ?_) (fun c118 => ?_)
          · replace h := gd_T c118 h
            exact gd_ar (gl_s (gl_s (gl_s gl_z))) (fun z => by cases z) (hJ22  h)
          · replace h := gd_F c118 h
            refine gv_aload_n (n := 0) (pc' := 122) (by decide +kernel) rfl rfl ?_
            refine gv_getr lk_9_74 (by decide +kernel) rfl rfl (pc' := 125) rfl ?_
            refine gv_iload_n (n := 2) (pc' := 126) (by decide +kernel) rfl rfl ?_
            obtain ⟨g126, h⟩ := gd_gE h
            refine gj_zald _ (pc' := 127) (by decide +kernel) rfl (gd_inv g126) rfl rfl ?_
            refine gv_if_ne (off := 10) (tgt := 137) (pc' := 130) (by decide +kernel) (by decide) rfl (fun c127 => ?_) (fun c127 => ?_)
            · replace h := gd_F c127 h
              exact gd_ar (gl_s (gl_s (gl_s gl_z))) (fun z => by cases z) (hJ22  h)
            · replace h := gd_T c127 h
              exact gd_ar (gl_s (gl_s (gl_n gl_z))) (fun z => by cases z) (hk20 _ _ h)
      · replace h := gd_T c101 h
        refine gv_aload_n (n := 0) (pc' := 105) (by decide +kernel) rfl rfl ?_
        refine gv_iload_n (n := 2) (pc' := 106) (by decide +kernel) rfl rfl ?_
        refine gd_cv0 (w' := false) (pc' := 109) (X_M_findFromEntry _ _) h md_M_findFromEntry vd_M_findFromEntry (Or.inl ml_9_266) (by decide +kernel) (by decide) rfl rfl rfl (Nat.le_of_ble_eq_true rfl) (Nat.le_of_ble_eq_true rfl) (by decide) rfl (fun z => by cases z) (by decide) rfl (fun s24 h => ?_)
        refine gv_goto (off := 33) (tgt := 142) (by decide +kernel) (by decide) ?_
        exact gd_ar (gl_s (gl_s (gl_n gl_z))) (fun z => by cases z) (hJ21 _ h)
def B_M_search_32 (k11 : gS → gR) (ag10 : Int32 → gS → gR) (n_1_8 : Int32) (s9 : gS) : gR :=
 if (gI s9 41 2) ≤ n_1_8 then
  k11 s9
 else
  gd_g (gd_in n_1_8 1040) <|
  gd_j (α := gS → gR) (fun (s15 : gS) =>
   ag10 (n_1_8 + 1) s15) fun J12 =>
  if (gA s9 53 n_1_8.toNatClampNeg) = 0 then
   J12 s9
  else
   gd_qi (R_M_kind n_1_8 s9) s9 fun r13 =>
   if r13 = 3 then
    gd_0 (F_M_find ((2 : Int32) * n_1_8) ((2 : Int32) * n_1_8) s9) fun s14 =>
    J12 s14
   else
    J12 s9
set_option maxRecDepth 20000 in
theorem L_M_search_32 (k11 : gS → gR) (r0 : gQ × gS) (hk11 : ∀ (s16 : gS), k11 s16 = some r0 → gv_V m_M_search 1 false 74 [some (.ref 41), none, none] [] s16 (gv_is r0.1 r0.2)) (n : Nat) : ∀ (n_1_8 : Int32) (s9 : gS), gd_lp (fun _ _ => none) (B_M_search_32 k11) n n_1_8 s9 = some r0 → gv_V m_M_search 1 false 32 [some (.ref 41), some (.int n_1_8), none] [] s9 (gv_is r0.1 r0.2) := by
  refine gd_lpC (fun (ag10 : Int32 → gS → gR) => ∀ (n_1_8 : Int32) (s9 : gS), ag10 n_1_8 s9 = some r0 → gv_V m_M_search 1 false 32 [some (.ref 41), some (.int n_1_8), none] [] s9 (gv_is r0.1 r0.2)) (fun n_1_8 s9 h => by cases h) (fun ag10 ih n_1_8 s9 h => ?_) n
  unfold B_M_search_32 at h
  refine gv_iload_n (n := 1) (pc' := 33) (by decide +kernel) rfl rfl ?_
  refine gv_aload_n (n := 0) (pc' := 34) (by decide +kernel) rfl rfl ?_
  refine gv_getj lk_9_102 (by decide +kernel) rfl rfl (pc' := 37) rfl ?_
  refine gv_icmp_ge (off := 37) (tgt := 74) (pc' := 40) (by decide +kernel) (by decide) rfl (fun c37 => ?_) (fun c37 => ?_)
  · replace h := gd_T c37 h
    exact gd_ar (gl_s (gl_n (gl_n gl_z))) (fun z => by cases z) (hk11 _ h)
  · replace h := gd_F c37 h
    refine gv_aload_n (n := 0) (pc' := 41) (by decide +kernel) rfl rfl ?_
    refine gv_getr lk_9_52 (by decide +kernel) rfl rfl (pc' := 44) rfl ?_
    refine gv_iload_n (n := 1) (pc' := 45) (by decide +kernel) rfl rfl ?_
    obtain ⟨g45, h⟩ := gd_gE h
    refine gj_zald _ (pc' := 46) (by decide +kernel) rfl (gd_inv g45) rfl rfl ?_
    refine gd_jC (fun J12 => ∀ (s15 : gS), J12 s15 = some r0 → gv_V m_M_search 1 false 68 [some (.ref 41), some (.int n_1_8), none] [] s15 (gv_is r0.1 r0.2)) h (fun s15 h => ?_) (fun J12 hJ12 h => ?_)
    · refine gv_iincc (i := 1) (n := 1) (c := 1) (pc' := 71) (by decide +kernel) rfl (by decide) (by decide) rfl ?_
      refine gv_goto (off := -39) (tgt := 32) (by decide +kernel) (by decide) ?_
      exact gd_ar (gl_s (gl_s (gl_n gl_z))) (fun z => by cases z) (ih _ _ h)
    · refine gv_if_eq (off := 22) (tgt := 68) (pc' := 49) (by decide +kernel) (by decide) rfl (fun c46 => ?_) (fun c46 => ?_)
      · replace h := gd_T c46 h
        exact gd_ar (gl_s (gl_s (gl_n gl_z))) (fun z => by cases z) (hJ12 _ h)
      · replace h := gd_F c46 h
        refine gv_aload_n (n := 0) (pc' := 50) (by decide +kernel) rfl rfl ?_
        refine gv_iload_n (n := 1) (pc' := 51) (by decide +kernel) rfl rfl ?_
        refine gd_dvi (w' := false) (pc' := 54) (X_M_kind _ _) h md_M_kind vd_M_kind (Or.inl ml_9_130) (by decide +kernel) (by decide) rfl rfl rfl (Nat.le_of_ble_eq_true rfl) (Nat.le_of_ble_eq_true rfl) (by decide) rfl (fun z => by cases z) (by decide) rfl (fun r13 h => ?_)
        refine gv_iconst (n := 3) (v := 3) (pc' := 55) (by decide +kernel) (by decide) rfl ?_
        refine gv_icmp_ne (off := 13) (tgt := 68) (pc' := 58) (by decide +kernel) (by decide) rfl (fun c55 => ?_) (fun c55 => ?_)
        · replace h := gd_F c55 h
          exact gd_ar (gl_s (gl_s (gl_n gl_z))) (fun z => by cases z) (hJ12 _ h)
        · replace h := gd_T c55 h
          refine gv_aload_n (n := 0) (pc' := 59) (by decide +kernel) rfl rfl ?_
          refine gv_iconst (n := 2) (v := 2) (pc' := 60) (by decide +kernel) (by decide) rfl ?_
          refine gv_iload_n (n := 1) (pc' := 61) (by decide +kernel) rfl rfl ?_
          refine gv_imul (pc' := 62) (by decide +kernel) rfl ?_
          refine gv_iconst (n := 2) (v := 2) (pc' := 63) (by decide +kernel) (by decide) rfl ?_
          refine gv_iload_n (n := 1) (pc' := 64) (by decide +kernel) rfl rfl ?_
          refine gv_imul (pc' := 65) (by decide +kernel) rfl ?_
          refine gd_cv0 (w' := false) (pc' := 68) (X_M_find _ _ _) h md_M_find vd_M_find (Or.inl ml_9_263) (by decide +kernel) (by decide) rfl rfl rfl (Nat.le_of_ble_eq_true rfl) (Nat.le_of_ble_eq_true rfl) (by decide) rfl (fun z => by cases z) (by decide) rfl (fun s14 h => ?_)
          exact gd_ar (gl_s (gl_s (gl_n gl_z))) (fun z => by cases z) (hJ12 _ h)
def B_M_search_2 (k4 : gS → gR) (ag3 : Int32 → gS → gR) (n_1_1 : Int32) (s2 : gS) : gR :=
 if ((2 : Int32) * (gI s2 41 2)) ≤ n_1_1 then
  k4 s2
 else
  gd_g (gd_in n_1_1 2080) <|
  gd_s (gs_A s2 61 n_1_1.toNatClampNeg (-1)) fun s5 =>
  ag3 (n_1_1 + 1) s5
set_option maxRecDepth 20000 in
theorem L_M_search_2 (k4 : gS → gR) (r0 : gQ × gS) (hk4 : ∀ (s6 : gS), k4 s6 = some r0 → gv_V m_M_search 1 false 25 [some (.ref 41), none, none] [] s6 (gv_is r0.1 r0.2)) (n : Nat) : ∀ (n_1_1 : Int32) (s2 : gS), gd_lp (fun _ _ => none) (B_M_search_2 k4) n n_1_1 s2 = some r0 → gv_V m_M_search 1 false 2 [some (.ref 41), some (.int n_1_1), none] [] s2 (gv_is r0.1 r0.2) := by
  refine gd_lpC (fun (ag3 : Int32 → gS → gR) => ∀ (n_1_1 : Int32) (s2 : gS), ag3 n_1_1 s2 = some r0 → gv_V m_M_search 1 false 2 [some (.ref 41), some (.int n_1_1), none] [] s2 (gv_is r0.1 r0.2)) (fun n_1_1 s2 h => by cases h) (fun ag3 ih n_1_1 s2 h => ?_) n
  unfold B_M_search_2 at h
  refine gv_iload_n (n := 1) (pc' := 3) (by decide +kernel) rfl rfl ?_
  refine gv_iconst (n := 2) (v := 2) (pc' := 4) (by decide +kernel) (by decide) rfl ?_
  refine gv_aload_n (n := 0) (pc' := 5) (by decide +kernel) rfl rfl ?_
  refine gv_getj lk_9_102 (by decide +kernel) rfl rfl (pc' := 8) rfl ?_
  refine gv_imul (pc' := 9) (by decide +kernel) rfl ?_
  refine gv_icmp_ge (off := 16) (tgt := 25) (pc' := 12) (by decide +kernel) (by decide) rfl (fun c9 => ?_) (fun c9 => ?_)
  · replace h := gd_T c9 h
    exact gd_ar (gl_s (gl_n (gl_n gl_z))) (fun z => by cases z) (hk4 _ h)
  · replace h := gd_F c9 h
    refine gv_aload_n (n := 0) (pc' := 13) (by decide +kernel) rfl rfl ?_
    refine gv_getr lk_9_77 (by decide +kernel) rfl rfl (pc' := 16) rfl ?_
    refine gv_iload_n (n := 1) (pc' := 17) (by decide +kernel) rfl rfl ?_
    refine gv_iconst (n := (-1)) (v := (-1)) (pc' := 18) (by decide +kernel) (by decide) rfl ?_
    obtain ⟨g18, h⟩ := gd_gE h
    refine gd_iast (pc' := 19) (by decide +kernel) rfl (gd_inv g18) rfl h (fun s5 h => ?_)
    refine gv_iincc (i := 1) (n := 1) (c := 1) (pc' := 22) (by decide +kernel) rfl (by decide) (by decide) rfl ?_
    refine gv_goto (off := -20) (tgt := 2) (by decide +kernel) (by decide) ?_
    exact gd_ar (gl_s (gl_s (gl_n gl_z))) (fun z => by cases z) (ih _ _ h)
def F_M_search (σ : gS) : gR :=
 gd_j (α := gS → gR) (fun (s6 : gS) =>
  gd_s (gs_I s6 41 37 0) fun s7 =>
  gd_j (α := gS → gR) (fun (s16 : gS) =>
   gd_j (α := Int32 → gS → gR) (fun (v27 : Int32) (s26 : gS) =>
    gd_g (gd_in v27 2081) <|
    some (.inl (some (.int (gA s26 62 v27.toNatClampNeg))), s26)) fun k20 =>
   gd_lp (fun _ _ => none) (B_M_search_76 k20) gd_N 0 s16) fun k11 =>
  gd_lp (fun _ _ => none) (B_M_search_32 k11) gd_N 0 s7) fun k4 =>
 gd_lp (fun _ _ => none) (B_M_search_2 k4) gd_N 0 σ
set_option maxRecDepth 20000 in
theorem X_M_search (σ : gS) (r0 : gQ × gS) (h : F_M_search σ = some r0) : gv_K m_M_search [.ref 41] σ (gv_is r0.1 r0.2) := by
  unfold F_M_search at h
  show gv_V m_M_search 1 true 0 [some (.ref 41), none, none] [] σ (gv_is r0.1 r0.2)
  refine gv_iconst (n := 0) (v := 0) (pc' := 1) (by decide +kernel) (by decide) rfl ?_
  refine gv_istore_n (n := 1) (pc' := 2) (by decide +kernel) (by decide) rfl ?_
  refine gd_jC (fun k4 => ∀ (s6 : gS), k4 s6 = some r0 → gv_V m_M_search 1 false 25 [some (.ref 41), none, none] [] s6 (gv_is r0.1 r0.2)) h (fun s6 h => ?_) (fun k4 hk4 h => ?_)
  · refine gv_aload_n (n := 0) (pc' := 26) (by decide +kernel) rfl rfl ?_
    refine gv_iconst (n := 0) (v := 0) (pc' := 27) (by decide +kernel) (by decide) rfl ?_
    refine gd_puti lp_9_235 (by decide +kernel) rfl rfl rfl rfl (pc' := 30) rfl h (fun s7 h => ?_)
    refine gv_iconst (n := 0) (v := 0) (pc' := 31) (by decide +kernel) (by decide) rfl ?_
    refine gv_istore_n (n := 1) (pc' := 32) (by decide +kernel) (by decide) rfl ?_
    refine gd_jC (fun k11 => ∀ (s16 : gS), k11 s16 = some r0 → gv_V m_M_search 1 false 74 [some (.ref 41), none, none] [] s16 (gv_is r0.1 r0.2)) h (fun s16 h => ?_) (fun k11 hk11 h => ?_)
    · refine gv_iconst (n := 0) (v := 0) (pc' := 75) (by decide +kernel) (by decide) rfl ?_
      refine gv_istore_n (n := 1) (pc' := 76) (by decide +kernel) (by decide) rfl ?_
      refine gd_jC (fun k20 => ∀ (v27 : Int32) (s26 : gS), k20 v27 s26 = some r0 → gv_V m_M_search 1 false 130 [some (.ref 41), some (.int v27), none] [] s26 (gv_is r0.1 r0.2)) h (fun v27 s26 h => ?_) (fun k20 hk20 h => ?_)
      · refine gv_aload_n (n := 0) (pc' := 131) (by decide +kernel) rfl rfl ?_
        refine gv_getr lk_9_80 (by decide +kernel) rfl rfl (pc' := 134) rfl ?_
        refine gv_iload_n (n := 1) (pc' := 135) (by decide +kernel) rfl rfl ?_
        obtain ⟨g135, h⟩ := gd_gE h
        refine gj_iald _ (pc' := 136) (by decide +kernel) rfl (gd_inv g135) rfl rfl ?_
        exact gv_iret .int (by decide +kernel) rfl rfl (by decide) (by decide) (gd_rE h)
      exact gd_ar (gl_s (gl_s (gl_n gl_z))) (fun z => by cases z) (L_M_search_76 _ r0 hk20 _ _ _ h)
    exact gd_ar (gl_s (gl_s (gl_n gl_z))) (fun z => by cases z) (L_M_search_32 _ r0 hk11 _ _ _ h)
  exact gd_ar (gl_s (gl_s (gl_n gl_z))) (fun z => by cases z) (L_M_search_2 _ r0 hk4 _ _ _ h)
def F_M_turn_58 (a : Int32) (b : Int32) (σ : gS) : gR :=
 gd_g (gd_in (((33 : Int32) * a) + (b / (32 : Int32))) 34320) <|
 gd_g (gd_in (((33 : Int32) * a) + (b / (32 : Int32))) 34320) <|
 gd_s (gs_A σ 58 (((33 : Int32) * a) + (b / (32 : Int32))).toNatClampNeg ((gA σ 58 (((33 : Int32) * a) + (b / (32 : Int32))).toNatClampNeg) ^^^ ((1 : Int32) <<< ((b - b / (32 : Int32) * (32 : Int32)) &&& 31)))) fun s1 =>
 some (.inl none, s1)
set_option maxRecDepth 20000 in
theorem X_M_turn_58 (a : Int32) (b : Int32) (σ : gS) (r0 : gQ × gS) (h : F_M_turn_58 a b σ = some r0) : gv_K m_M_turn [.ref 41, .ref 58, .int a, .int b] σ (gv_is r0.1 r0.2) := by
  unfold F_M_turn_58 at h
  show gv_V m_M_turn 1 true 0 [some (.ref 41), some (.ref 58), some (.int a), some (.int b)] [] σ (gv_is r0.1 r0.2)
  refine gv_aload_n (n := 1) (pc' := 1) (by decide +kernel) rfl rfl ?_
  refine gv_bipush (n := 33) (v := 33) (pc' := 3) (by decide +kernel) (by decide) rfl ?_
  refine gv_iload_n (n := 2) (pc' := 4) (by decide +kernel) rfl rfl ?_
  refine gv_imul (pc' := 5) (by decide +kernel) rfl ?_
  refine gv_iload_n (n := 3) (pc' := 6) (by decide +kernel) rfl rfl ?_
  refine gv_bipush (n := 32) (v := 32) (pc' := 8) (by decide +kernel) (by decide) rfl ?_
  refine gv_idiv (pc' := 9) (by decide +kernel) (by decide) rfl ?_
  refine gv_iadd (pc' := 10) (by decide +kernel) rfl ?_
  refine gv_aload_n (n := 1) (pc' := 11) (by decide +kernel) rfl rfl ?_
  refine gv_bipush (n := 33) (v := 33) (pc' := 13) (by decide +kernel) (by decide) rfl ?_
  refine gv_iload_n (n := 2) (pc' := 14) (by decide +kernel) rfl rfl ?_
  refine gv_imul (pc' := 15) (by decide +kernel) rfl ?_
  refine gv_iload_n (n := 3) (pc' := 16) (by decide +kernel) rfl rfl ?_
  refine gv_bipush (n := 32) (v := 32) (pc' := 18) (by decide +kernel) (by decide) rfl ?_
  refine gv_idiv (pc' := 19) (by decide +kernel) (by decide) rfl ?_
  refine gv_iadd (pc' := 20) (by decide +kernel) rfl ?_
  obtain ⟨g20, h⟩ := gd_gE h
  refine gj_iald _ (pc' := 21) (by decide +kernel) rfl (gd_inv g20) rfl rfl ?_
  refine gv_iconst (n := 1) (v := 1) (pc' := 22) (by decide +kernel) (by decide) rfl ?_
  refine gv_iload_n (n := 3) (pc' := 23) (by decide +kernel) rfl rfl ?_
  refine gv_bipush (n := 32) (v := 32) (pc' := 25) (by decide +kernel) (by decide) rfl ?_
  refine gv_irem (pc' := 26) (by decide +kernel) (by decide) rfl ?_
  refine gv_ishl (pc' := 27) (by decide +kernel) rfl ?_
  refine gv_ixor (pc' := 28) (by decide +kernel) rfl ?_
  obtain ⟨g28, h⟩ := gd_gE h
  refine gd_iast (pc' := 29) (by decide +kernel) rfl (gd_inv g28) rfl h (fun s1 h => ?_)
  exact gv_ret (by decide +kernel) rfl (by decide) (by decide) (gd_rE h)
