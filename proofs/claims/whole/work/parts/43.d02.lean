def R_Machine_windowIsFull (σ : gS) : gP :=
 if (gI σ 15 6) ≤ 0 then
  some (.inl (some (.int 0)))
 else
  gd_pi (R_Guesses_distance σ) fun r1 =>
  if r1 < (gI σ 10 6) then
   some (.inl (some (.int 0)))
  else
   some (.inl (some (.int 1)))
set_option maxRecDepth 20000 in
theorem X_Machine_windowIsFull (σ : gS) (r0 : gQ) (h : R_Machine_windowIsFull σ = some r0) : gv_K m_Machine_windowIsFull [.ref 10] σ (gv_is r0 σ) := by
  unfold R_Machine_windowIsFull at h
  show gv_V m_Machine_windowIsFull 1 true 0 [some (.ref 10)] [] σ (gv_is r0 σ)
  refine gv_aload_n (n := 0) (pc' := 1) (by decide +kernel) rfl rfl ?_
  refine gv_getr lk_2_29 (by decide +kernel) rfl rfl (pc' := 4) rfl ?_
  refine gv_getj lk_2_59 (by decide +kernel) rfl rfl (pc' := 7) rfl ?_
  refine gv_if_le (off := 21) (tgt := 28) (pc' := 10) (by decide +kernel) (by decide) rfl (fun c7 => ?_) (fun c7 => ?_)
  · replace h := gd_T c7 h
    refine gv_iconst (n := 0) (v := 0) (pc' := 29) (by decide +kernel) (by decide) rfl ?_
    exact gv_iret .boolean (by decide +kernel) rfl rfl (by decide) (by decide) (gd_pE h)
  · replace h := gd_F c7 h
    refine gv_aload_n (n := 0) (pc' := 11) (by decide +kernel) rfl rfl ?_
    refine gv_getr lk_2_29 (by decide +kernel) rfl rfl (pc' := 14) rfl ?_
    refine gd_evi (w' := true) (pc' := 17) (X_Guesses_distance _) h md_Guesses_distance vd_Guesses_distance (Or.inl ml_2_62) (by decide +kernel) (by decide) rfl rfl rfl (Nat.le_of_ble_eq_true rfl) (Nat.le_of_ble_eq_true rfl) (by decide) rfl (fun z => ⟨rfl, z⟩) (by decide) rfl (fun r1 h => ?_)
    refine gv_aload_n (n := 0) (pc' := 18) (by decide +kernel) rfl rfl ?_
    refine gv_getj lk_2_37 (by decide +kernel) rfl rfl (pc' := 21) rfl ?_
    refine gv_icmp_lt (off := 7) (tgt := 28) (pc' := 24) (by decide +kernel) (by decide) rfl (fun c21 => ?_) (fun c21 => ?_)
    · replace h := gd_T c21 h
      refine gv_iconst (n := 0) (v := 0) (pc' := 29) (by decide +kernel) (by decide) rfl ?_
      exact gv_iret .boolean (by decide +kernel) rfl rfl (by decide) (by decide) (gd_pE h)
    · replace h := gd_F c21 h
      refine gv_iconst (n := 1) (v := 1) (pc' := 25) (by decide +kernel) (by decide) rfl ?_
      refine gv_goto (off := 4) (tgt := 29) (by decide +kernel) (by decide) ?_
      exact gv_iret .boolean (by decide +kernel) rfl rfl (by decide) (by decide) (gd_pE h)
def F_Guesses_countStep (σ : gS) : gR :=
 gd_s (gs_I σ 15 7 ((gI σ 15 7) + (1 : Int32))) fun s1 =>
 some (.inl none, s1)
set_option maxRecDepth 20000 in
theorem X_Guesses_countStep (σ : gS) (r0 : gQ × gS) (h : F_Guesses_countStep σ = some r0) : gv_K m_Guesses_countStep [.ref 15] σ (gv_is r0.1 r0.2) := by
  unfold F_Guesses_countStep at h
  show gv_V m_Guesses_countStep 1 true 0 [some (.ref 15)] [] σ (gv_is r0.1 r0.2)
  refine gv_aload_n (n := 0) (pc' := 1) (by decide +kernel) rfl rfl ?_
  refine gv_dup (pc' := 2) (by decide +kernel) rfl rfl ?_
  refine gv_getj lk_4_35 (by decide +kernel) rfl rfl (pc' := 5) rfl ?_
  refine gv_iconst (n := 1) (v := 1) (pc' := 6) (by decide +kernel) (by decide) rfl ?_
  refine gv_iadd (pc' := 7) (by decide +kernel) rfl ?_
  refine gd_puti lp_4_35 (by decide +kernel) rfl rfl rfl rfl (pc' := 10) rfl h (fun s1 h => ?_)
  exact gv_ret (by decide +kernel) rfl (by decide) (by decide) (gd_rE h)
def F_Machine_runAhead (σ : gS) : gR :=
 gd_qi (R_Listing_isAt (gI σ 10 5) 7 σ) σ fun r1 =>
 gd_t (α := Int32) (if r1 = 0 then
   0
  else
   if (gI σ 15 6) ≤ 0 then
    0
   else
    1) fun v3 =>
 gd_qi (R_Machine_canRun σ) σ fun r4 =>
 if r4 = 0 then
  some (.inl (some (.int (-1))), σ)
 else
  gd_qi (R_Listing_isAt (gI σ 10 5) 5 σ) σ fun r5 =>
  if r5 = 0 then
   if v3 = 0 then
    gd_qi (R_Machine_windowIsFull σ) σ fun r6 =>
    if r6 = 0 then
     gd_0 (F_Machine_step σ) fun s7 =>
     gd_0 (F_Guesses_countStep s7) fun s8 =>
     some (.inl (some (.int 0)), s8)
    else
     some (.inl (some (.int (-1))), σ)
   else
    some (.inl (some (.int (-1))), σ)
  else
   some (.inl (some (.int (-1))), σ)
set_option maxRecDepth 20000 in
theorem X_Machine_runAhead (σ : gS) (r0 : gQ × gS) (h : F_Machine_runAhead σ = some r0) : gv_K m_Machine_runAhead [.ref 10] σ (gv_is r0.1 r0.2) := by
  unfold F_Machine_runAhead at h
  show gv_V m_Machine_runAhead 1 true 0 [some (.ref 10), none] [] σ (gv_is r0.1 r0.2)
  refine gv_aload_n (n := 0) (pc' := 1) (by decide +kernel) rfl rfl ?_
  refine gv_getr lk_2_40 (by decide +kernel) rfl rfl (pc' := 4) rfl ?_
  refine gv_aload_n (n := 0) (pc' := 5) (by decide +kernel) rfl rfl ?_
  refine gv_getj lk_2_33 (by decide +kernel) rfl rfl (pc' := 8) rfl ?_
  refine gv_bipush (n := 7) (v := 7) (pc' := 10) (by decide +kernel) (by decide) rfl ?_
  refine gd_dvi (w' := true) (pc' := 13) (X_Listing_isAt _ _ _) h md_Listing_isAt vd_Listing_isAt (Or.inl ml_2_96) (by decide +kernel) (by decide) rfl rfl rfl (Nat.le_of_ble_eq_true rfl) (Nat.le_of_ble_eq_true rfl) (by decide) rfl (fun z => ⟨rfl, z⟩) (by decide) rfl (fun r1 h => ?_)
  refine gd_tC (fun (v3 : Int32) => gv_V m_Machine_runAhead 1 true 31 [some (.ref 10), none] [.int v3] σ (gv_is r0.1 r0.2)) h (fun v3 h => ?_) (fun KJ2 hJ2 h => ?_)
  · refine gv_istore_n (n := 1) (pc' := 32) (by decide +kernel) (by decide) rfl ?_
    refine gv_aload_n (n := 0) (pc' := 33) (by decide +kernel) rfl rfl ?_
    refine gd_dvi (w' := true) (pc' := 36) (X_Machine_canRun _) h md_Machine_canRun vd_Machine_canRun (Or.inl ml_2_68) (by decide +kernel) (by decide) rfl rfl rfl (Nat.le_of_ble_eq_true rfl) (Nat.le_of_ble_eq_true rfl) (by decide) rfl (fun z => ⟨rfl, z⟩) (by decide) rfl (fun r4 h => ?_)
    refine gv_if_eq (off := 29) (tgt := 65) (pc' := 39) (by decide +kernel) (by decide) rfl (fun c36 => ?_) (fun c36 => ?_)
    · replace h := gd_T c36 h
      refine gv_iconst (n := (-1)) (v := (-1)) (pc' := 66) (by decide +kernel) (by decide) rfl ?_
      exact gv_iret .int (by decide +kernel) rfl rfl (by decide) (by decide) (gd_rE h)
    · replace h := gd_F c36 h
      refine gv_aload_n (n := 0) (pc' := 40) (by decide +kernel) rfl rfl ?_
      refine gv_getr lk_2_40 (by decide +kernel) rfl rfl (pc' := 43) rfl ?_
      refine gv_aload_n (n := 0) (pc' := 44) (by decide +kernel) rfl rfl ?_
      refine gv_getj lk_2_33 (by decide +kernel) rfl rfl (pc' := 47) rfl ?_
      refine gv_iconst (n := 5) (v := 5) (pc' := 48) (by decide +kernel) (by decide) rfl ?_
      refine gd_dvi (w' := true) (pc' := 51) (X_Listing_isAt _ _ _) h md_Listing_isAt vd_Listing_isAt (Or.inl ml_2_96) (by decide +kernel) (by decide) rfl rfl rfl (Nat.le_of_ble_eq_true rfl) (Nat.le_of_ble_eq_true rfl) (by decide) rfl (fun z => ⟨rfl, z⟩) (by decide) rfl (fun r5 h => ?_)
      refine gv_if_ne (off := 14) (tgt := 65) (pc' := 54) (by decide +kernel) (by decide) rfl (fun c51 => ?_) (fun c51 => ?_)
      · replace h := gd_F c51 h
        refine gv_iconst (n := (-1)) (v := (-1)) (pc' := 66) (by decide +kernel) (by decide) rfl ?_
        exact gv_iret .int (by decide +kernel) rfl rfl (by decide) (by decide) (gd_rE h)
      · replace h := gd_T c51 h
        refine gv_iload_n (n := 1) (pc' := 55) (by decide +kernel) rfl rfl ?_
        refine gv_if_ne (off := 10) (tgt := 65) (pc' := 58) (by decide +kernel) (by decide) rfl (fun c55 => ?_) (fun c55 => ?_)
        · replace h := gd_F c55 h
          refine gv_iconst (n := (-1)) (v := (-1)) (pc' := 66) (by decide +kernel) (by decide) rfl ?_
          exact gv_iret .int (by decide +kernel) rfl rfl (by decide) (by decide) (gd_rE h)
        · replace h := gd_T c55 h
          refine gv_aload_n (n := 0) (pc' := 59) (by decide +kernel) rfl rfl ?_
          refine gd_dvi (w' := true) (pc' := 62) (X_Machine_windowIsFull _) h md_Machine_windowIsFull vd_Machine_windowIsFull (Or.inl ml_2_100) (by decide +kernel) (by decide) rfl rfl rfl (Nat.le_of_ble_eq_true rfl) (Nat.le_of_ble_eq_true rfl) (by decide) rfl (fun z => ⟨rfl, z⟩) (by decide) rfl (fun r6 h => ?_)
          refine gv_if_eq (off := 5) (tgt := 67) (pc' := 65) (by decide +kernel) (by decide) rfl (fun c62 => ?_) (fun c62 => ?_)
          · replace h := gd_T c62 h
            refine gv_aload_n (n := 0) (pc' := 68) (by decide +kernel) rfl rfl ?_
            refine gd_cv0 (w' := false) (pc' := 71) (X_Machine_step _) h md_Machine_step vd_Machine_step (Or.inl ml_2_72) (by decide +kernel) (by decide) rfl rfl rfl (Nat.le_of_ble_eq_true rfl) (Nat.le_of_ble_eq_true rfl) (by decide) rfl (fun z => by cases z) (by decide) rfl (fun s7 h => ?_)
            refine gv_aload_n (n := 0) (pc' := 72) (by decide +kernel) rfl rfl ?_
            refine gv_getr lk_2_29 (by decide +kernel) rfl rfl (pc' := 75) rfl ?_
            refine gd_cv0 (w' := false) (pc' := 78) (X_Guesses_countStep _) h md_Guesses_countStep vd_Guesses_countStep (Or.inl ml_2_103) (by decide +kernel) (by decide) rfl rfl rfl (Nat.le_of_ble_eq_true rfl) (Nat.le_of_ble_eq_true rfl) (by decide) rfl (fun z => by cases z) (by decide) rfl (fun s8 h => ?_)
            refine gv_iconst (n := 0) (v := 0) (pc' := 79) (by decide +kernel) (by decide) rfl ?_
            exact gv_iret .int (by decide +kernel) rfl rfl (by decide) (by decide) (gd_rE h)
          · replace h := gd_F c62 h
            refine gv_iconst (n := (-1)) (v := (-1)) (pc' := 66) (by decide +kernel) (by decide) rfl ?_
            exact gv_iret .int (by decide +kernel) rfl rfl (by decide) (by decide) (gd_rE h)
  · refine gv_if_eq (off := 17) (tgt := 30) (pc' := 16) (by decide +kernel) (by decide) rfl (fun c13 => ?_) (fun c13 => ?_)
    · replace h := gd_tT c13 h
      refine gv_iconst (n := 0) (v := 0) (pc' := 31) (by decide +kernel) (by decide) rfl ?_
      exact gd_ar (gl_s (gl_n gl_z)) (fun _ => rfl) (hJ2 _ h)
    · replace h := gd_tF c13 h
      refine gv_aload_n (n := 0) (pc' := 17) (by decide +kernel) rfl rfl ?_
      refine gv_getr lk_2_29 (by decide +kernel) rfl rfl (pc' := 20) rfl ?_
      refine gv_getj lk_2_59 (by decide +kernel) rfl rfl (pc' := 23) rfl ?_
      refine gv_if_le (off := 7) (tgt := 30) (pc' := 26) (by decide +kernel) (by decide) rfl (fun c23 => ?_) (fun c23 => ?_)
      · replace h := gd_tT c23 h
        refine gv_iconst (n := 0) (v := 0) (pc' := 31) (by decide +kernel) (by decide) rfl ?_
        exact gd_ar (gl_s (gl_n gl_z)) (fun _ => rfl) (hJ2 _ h)
      · replace h := gd_tF c23 h
        refine gv_iconst (n := 1) (v := 1) (pc' := 27) (by decide +kernel) (by decide) rfl ?_
        refine gv_goto (off := 4) (tgt := 31) (by decide +kernel) (by decide) ?_
        exact gd_ar (gl_s (gl_n gl_z)) (fun _ => rfl) (hJ2 _ h)
def R_Guesses_isFull (σ : gS) : gP :=
 if (gI σ 15 6) < 16 then
  some (.inl (some (.int 0)))
 else
  some (.inl (some (.int 1)))
set_option maxRecDepth 20000 in
theorem X_Guesses_isFull (σ : gS) (r0 : gQ) (h : R_Guesses_isFull σ = some r0) : gv_K m_Guesses_isFull [.ref 15] σ (gv_is r0 σ) := by
  unfold R_Guesses_isFull at h
  show gv_V m_Guesses_isFull 1 true 0 [some (.ref 15)] [] σ (gv_is r0 σ)
  refine gv_aload_n (n := 0) (pc' := 1) (by decide +kernel) rfl rfl ?_
  refine gv_getj lk_4_32 (by decide +kernel) rfl rfl (pc' := 4) rfl ?_
  refine gv_bipush (n := 16) (v := 16) (pc' := 6) (by decide +kernel) (by decide) rfl ?_
  refine gv_icmp_lt (off := 7) (tgt := 13) (pc' := 9) (by decide +kernel) (by decide) rfl (fun c6 => ?_) (fun c6 => ?_)
  · replace h := gd_T c6 h
    refine gv_iconst (n := 0) (v := 0) (pc' := 14) (by decide +kernel) (by decide) rfl ?_
    exact gv_iret .boolean (by decide +kernel) rfl rfl (by decide) (by decide) (gd_pE h)
  · replace h := gd_F c6 h
    refine gv_iconst (n := 1) (v := 1) (pc' := 10) (by decide +kernel) (by decide) rfl ?_
    refine gv_goto (off := 4) (tgt := 14) (by decide +kernel) (by decide) ?_
    exact gv_iret .boolean (by decide +kernel) rfl rfl (by decide) (by decide) (gd_pE h)
def F_Guesses_add_11_12 (a : Int32) (b : Int32) (σ : gS) : gR :=
 gd_s (gs_I σ 15 7 ((gI σ 15 7) + (1 : Int32))) fun s1 =>
 gd_g (gd_in (((gI σ 15 5) + (gI σ 15 6)) - ((gI σ 15 5) + (gI σ 15 6)) / (16 : Int32) * (16 : Int32)) 16) <|
 gd_s (gs_A s1 20 (((gI σ 15 5) + (gI σ 15 6)) - ((gI σ 15 5) + (gI σ 15 6)) / (16 : Int32) * (16 : Int32)).toNatClampNeg (gI s1 15 7)) fun s2 =>
 gd_g (gd_in (((gI σ 15 5) + (gI σ 15 6)) - ((gI σ 15 5) + (gI σ 15 6)) / (16 : Int32) * (16 : Int32)) 16) <|
 gd_s (gs_A s2 18 (((gI σ 15 5) + (gI σ 15 6)) - ((gI σ 15 5) + (gI σ 15 6)) / (16 : Int32) * (16 : Int32)).toNatClampNeg a) fun s3 =>
 gd_g (gd_in (((gI σ 15 5) + (gI σ 15 6)) - ((gI σ 15 5) + (gI σ 15 6)) / (16 : Int32) * (16 : Int32)) 16) <|
 gd_s (gs_A s3 19 (((gI σ 15 5) + (gI σ 15 6)) - ((gI σ 15 5) + (gI σ 15 6)) / (16 : Int32) * (16 : Int32)).toNatClampNeg b) fun s4 =>
 gd_g (gd_cp s4 11 32 512 0 ((((gI σ 15 5) + (gI σ 15 6)) - ((gI σ 15 5) + (gI σ 15 6)) / (16 : Int32) * (16 : Int32)) * (32 : Int32)) 32 .int) <|
 gd_s (gs_row s4 16 (va_cpy (gA s4 11) (gA s4 16) (Int32.toNatClampNeg 0) ((((gI σ 15 5) + (gI σ 15 6)) - ((gI σ 15 5) + (gI σ 15 6)) / (16 : Int32) * (16 : Int32)) * (32 : Int32)).toNatClampNeg (Int32.toNatClampNeg 32))) fun s5 =>
 gd_g (gd_cp s5 12 256 4096 0 ((((gI σ 15 5) + (gI σ 15 6)) - ((gI σ 15 5) + (gI σ 15 6)) / (16 : Int32) * (16 : Int32)) * (256 : Int32)) 256 .byte) <|
 gd_s (gs_row s5 17 (va_cpy (gA s5 12) (gA s5 17) (Int32.toNatClampNeg 0) ((((gI σ 15 5) + (gI σ 15 6)) - ((gI σ 15 5) + (gI σ 15 6)) / (16 : Int32) * (16 : Int32)) * (256 : Int32)).toNatClampNeg (Int32.toNatClampNeg 256))) fun s6 =>
 gd_s (gs_I s6 15 6 ((gI s6 15 6) + (1 : Int32))) fun s7 =>
 some (.inl none, s7)
set_option maxRecDepth 20000 in
theorem X_Guesses_add_11_12 (a : Int32) (b : Int32) (σ : gS) (r0 : gQ × gS) (h : F_Guesses_add_11_12 a b σ = some r0) : gv_K m_Guesses_add [.ref 15, .int a, .int b, .ref 11, .ref 12] σ (gv_is r0.1 r0.2) := by
  unfold F_Guesses_add_11_12 at h
  show gv_V m_Guesses_add 1 true 0 [some (.ref 15), some (.int a), some (.int b), some (.ref 11), some (.ref 12), none] [] σ (gv_is r0.1 r0.2)
  refine gv_aload_n (n := 0) (pc' := 1) (by decide +kernel) rfl rfl ?_
  refine gv_getj lk_4_28 (by decide +kernel) rfl rfl (pc' := 4) rfl ?_
  refine gv_aload_n (n := 0) (pc' := 5) (by decide +kernel) rfl rfl ?_
  refine gv_getj lk_4_32 (by decide +kernel) rfl rfl (pc' := 8) rfl ?_
  refine gv_iadd (pc' := 9) (by decide +kernel) rfl ?_
  refine gv_bipush (n := 16) (v := 16) (pc' := 11) (by decide +kernel) (by decide) rfl ?_
  refine gv_irem (pc' := 12) (by decide +kernel) (by decide) rfl ?_
  refine gv_istore (n := 5) (pc' := 14) (by decide +kernel) (by decide) rfl ?_
  refine gv_aload_n (n := 0) (pc' := 15) (by decide +kernel) rfl rfl ?_
  refine gv_dup (pc' := 16) (by decide +kernel) rfl rfl ?_
  refine gv_getj lk_4_35 (by decide +kernel) rfl rfl (pc' := 19) rfl ?_
  refine gv_iconst (n := 1) (v := 1) (pc' := 20) (by decide +kernel) (by decide) rfl ?_
  refine gv_iadd (pc' := 21) (by decide +kernel) rfl ?_
  refine gd_puti lp_4_35 (by decide +kernel) rfl rfl rfl rfl (pc' := 24) rfl h (fun s1 h => ?_)
  refine gv_aload_n (n := 0) (pc' := 25) (by decide +kernel) rfl rfl ?_
  refine gv_getr lk_4_25 (by decide +kernel) rfl rfl (pc' := 28) rfl ?_
  refine gv_iload (n := 5) (pc' := 30) (by decide +kernel) rfl rfl ?_
  refine gv_aload_n (n := 0) (pc' := 31) (by decide +kernel) rfl rfl ?_
  refine gv_getj lk_4_35 (by decide +kernel) rfl rfl (pc' := 34) rfl ?_
  obtain ⟨g34, h⟩ := gd_gE h
  refine gd_iast (pc' := 35) (by decide +kernel) rfl (gd_inv g34) rfl h (fun s2 h => ?_)
  refine gv_aload_n (n := 0) (pc' := 36) (by decide +kernel) rfl rfl ?_
  refine gv_getr lk_4_19 (by decide +kernel) rfl rfl (pc' := 39) rfl ?_
  refine gv_iload (n := 5) (pc' := 41) (by decide +kernel) rfl rfl ?_
  refine gv_iload_n (n := 1) (pc' := 42) (by decide +kernel) rfl rfl ?_
  obtain ⟨g42, h⟩ := gd_gE h
  refine gd_iast (pc' := 43) (by decide +kernel) rfl (gd_inv g42) rfl h (fun s3 h => ?_)
  refine gv_aload_n (n := 0) (pc' := 44) (by decide +kernel) rfl rfl ?_
  refine gv_getr lk_4_22 (by decide +kernel) rfl rfl (pc' := 47) rfl ?_
  refine gv_iload (n := 5) (pc' := 49) (by decide +kernel) rfl rfl ?_
  refine gv_iload_n (n := 2) (pc' := 50) (by decide +kernel) rfl rfl ?_
  obtain ⟨g50, h⟩ := gd_gE h
  refine gd_iast (pc' := 51) (by decide +kernel) rfl (gd_inv g50) rfl h (fun s4 h => ?_)
  refine gv_aload_n (n := 3) (pc' := 52) (by decide +kernel) rfl rfl ?_
  refine gv_iconst (n := 0) (v := 0) (pc' := 53) (by decide +kernel) (by decide) rfl ?_
  refine gv_aload_n (n := 0) (pc' := 54) (by decide +kernel) rfl rfl ?_
  refine gv_getr lk_4_11 (by decide +kernel) rfl rfl (pc' := 57) rfl ?_
  refine gv_iload (n := 5) (pc' := 59) (by decide +kernel) rfl rfl ?_
  refine gv_bipush (n := 32) (v := 32) (pc' := 61) (by decide +kernel) (by decide) rfl ?_
  refine gv_imul (pc' := 62) (by decide +kernel) rfl ?_
  refine gv_bipush (n := 32) (v := 32) (pc' := 64) (by decide +kernel) (by decide) rfl ?_
  obtain ⟨g64, h⟩ := gd_gE h
  refine gd_copyI (pc' := 67) ml_4_38 (by decide +kernel) rfl rfl g64 (by decide) rfl rfl h (fun s5 h => ?_)
  refine gv_aload (n := 4) (pc' := 69) (by decide +kernel) rfl rfl ?_
  refine gv_iconst (n := 0) (v := 0) (pc' := 70) (by decide +kernel) (by decide) rfl ?_
  refine gv_aload_n (n := 0) (pc' := 71) (by decide +kernel) rfl rfl ?_
  refine gv_getr lk_4_15 (by decide +kernel) rfl rfl (pc' := 74) rfl ?_
  refine gv_iload (n := 5) (pc' := 76) (by decide +kernel) rfl rfl ?_
  refine gv_sipush (n := 256) (v := 256) (pc' := 79) (by decide +kernel) (by decide) rfl ?_
  refine gv_imul (pc' := 80) (by decide +kernel) rfl ?_
  refine gv_sipush (n := 256) (v := 256) (pc' := 83) (by decide +kernel) (by decide) rfl ?_
  obtain ⟨g83, h⟩ := gd_gE h
  refine gd_copyB (pc' := 86) ml_4_38 (by decide +kernel) rfl rfl g83 (by decide) rfl rfl h (fun s6 h => ?_)
  refine gv_aload_n (n := 0) (pc' := 87) (by decide +kernel) rfl rfl ?_
  refine gv_dup (pc' := 88) (by decide +kernel) rfl rfl ?_
  refine gv_getj lk_4_32 (by decide +kernel) rfl rfl (pc' := 91) rfl ?_
  refine gv_iconst (n := 1) (v := 1) (pc' := 92) (by decide +kernel) (by decide) rfl ?_
  refine gv_iadd (pc' := 93) (by decide +kernel) rfl ?_
  refine gd_puti lp_4_32 (by decide +kernel) rfl rfl rfl rfl (pc' := 96) rfl h (fun s7 h => ?_)
  exact gv_ret (by decide +kernel) rfl (by decide) (by decide) (gd_rE h)
def F_Machine_guess (a : Int32) (σ : gS) : gR :=
 gd_qi (R_Listing_isAt (gI σ 10 5) 5 σ) σ fun r1 =>
 if r1 = 0 then
  some (.inl (some (.int (-1))), σ)
 else
  gd_qi (R_Guesses_isFull σ) σ fun r2 =>
  if r2 = 0 then
   gd_qi (R_Machine_windowIsFull σ) σ fun r3 =>
   if r3 = 0 then
    gd_j (α := Int32 → gR) (fun (v5 : Int32) =>
     gd_qi (R_Machine_branchDestination (gI σ 10 5) σ) σ fun r6 =>
     gd_0 (F_Guesses_add_11_12 v5 r6 σ) fun s7 =>
     gd_s (gs_I s7 10 5 v5) fun s8 =>
     some (.inl (some (.int 0)), s8)) fun J4 =>
    if a = 0 then
     J4 ((gI σ 10 5) + (1 : Int32))
    else
     gd_g (gd_in (gI σ 10 5) 1040) <|
     J4 (gA σ 9 (gI σ 10 5).toNatClampNeg)
   else
    some (.inl (some (.int (-1))), σ)
  else
   some (.inl (some (.int (-1))), σ)
set_option maxRecDepth 20000 in
theorem X_Machine_guess (a : Int32) (σ : gS) (r0 : gQ × gS) (h : F_Machine_guess a σ = some r0) : gv_K m_Machine_guess [.ref 10, .int a] σ (gv_is r0.1 r0.2) := by
  unfold F_Machine_guess at h
  show gv_V m_Machine_guess 1 true 0 [some (.ref 10), some (.int a), none] [] σ (gv_is r0.1 r0.2)
  refine gv_aload_n (n := 0) (pc' := 1) (by decide +kernel) rfl rfl ?_
  refine gv_getr lk_2_40 (by decide +kernel) rfl rfl (pc' := 4) rfl ?_
  refine gv_aload_n (n := 0) (pc' := 5) (by decide +kernel) rfl rfl ?_
  refine gv_getj lk_2_33 (by decide +kernel) rfl rfl (pc' := 8) rfl ?_
  refine gv_iconst (n := 5) (v := 5) (pc' := 9) (by decide +kernel) (by decide) rfl ?_
  refine gd_dvi (w' := true) (pc' := 12) (X_Listing_isAt _ _ _) h md_Listing_isAt vd_Listing_isAt (Or.inl ml_2_96) (by decide +kernel) (by decide) rfl rfl rfl (Nat.le_of_ble_eq_true rfl) (Nat.le_of_ble_eq_true rfl) (by decide) rfl (fun z => ⟨rfl, z⟩) (by decide) rfl (fun r1 h => ?_)
  refine gv_if_eq (off := 20) (tgt := 32) (pc' := 15) (by decide +kernel) (by decide) rfl (fun c12 => ?_) (fun c12 => ?_)
  · replace h := gd_T c12 h
    refine gv_iconst (n := (-1)) (v := (-1)) (pc' := 33) (by decide +kernel) (by decide) rfl ?_
    exact gv_iret .int (by decide +kernel) rfl rfl (by decide) (by decide) (gd_rE h)
  · replace h := gd_F c12 h
    refine gv_aload_n (n := 0) (pc' := 16) (by decide +kernel) rfl rfl ?_
    refine gv_getr lk_2_29 (by decide +kernel) rfl rfl (pc' := 19) rfl ?_
    refine gd_dvi (w' := true) (pc' := 22) (X_Guesses_isFull _) h md_Guesses_isFull vd_Guesses_isFull (Or.inl ml_2_106) (by decide +kernel) (by decide) rfl rfl rfl (Nat.le_of_ble_eq_true rfl) (Nat.le_of_ble_eq_true rfl) (by decide) rfl (fun z => ⟨rfl, z⟩) (by decide) rfl (fun r2 h => ?_)
    refine gv_if_ne (off := 10) (tgt := 32) (pc' := 25) (by decide +kernel) (by decide) rfl (fun c22 => ?_) (fun c22 => ?_)
    · replace h := gd_F c22 h
      refine gv_iconst (n := (-1)) (v := (-1)) (pc' := 33) (by decide +kernel) (by decide) rfl ?_
      exact gv_iret .int (by decide +kernel) rfl rfl (by decide) (by decide) (gd_rE h)
    · replace h := gd_T c22 h
      refine gv_aload_n (n := 0) (pc' := 26) (by decide +kernel) rfl rfl ?_
      refine gd_dvi (w' := true) (pc' := 29) (X_Machine_windowIsFull _) h md_Machine_windowIsFull vd_Machine_windowIsFull (Or.inl ml_2_100) (by decide +kernel) (by decide) rfl rfl rfl (Nat.le_of_ble_eq_true rfl) (Nat.le_of_ble_eq_true rfl) (by decide) rfl (fun z => ⟨rfl, z⟩) (by decide) rfl (fun r3 h => ?_)
      refine gv_if_eq (off := 5) (tgt := 34) (pc' := 32) (by decide +kernel) (by decide) rfl (fun c29 => ?_) (fun c29 => ?_)
      · replace h := gd_T c29 h
        refine gv_iload_n (n := 1) (pc' := 35) (by decide +kernel) rfl rfl ?_
        refine gd_jC (fun J4 => ∀ (v5 : Int32), J4 v5 = some r0 → gv_V m_Machine_guess 1 true 59 [some (.ref 10), none, none] [.int v5] σ (gv_is r0.1 r0.2)) h (fun v5 h => ?_) (fun J4 hJ4 h => ?_)
        · refine gv_istore_n (n := 2) (pc' := 60) (by decide +kernel) (by decide) rfl ?_
          refine gv_aload_n (n := 0) (pc' := 61) (by decide +kernel) rfl rfl ?_
          refine gv_getr lk_2_29 (by decide +kernel) rfl rfl (pc' := 64) rfl ?_
          refine gv_iload_n (n := 2) (pc' := 65) (by decide +kernel) rfl rfl ?_
          refine gv_aload_n (n := 0) (pc' := 66) (by decide +kernel) rfl rfl ?_
          refine gv_aload_n (n := 0) (pc' := 67) (by decide +kernel) rfl rfl ?_
          refine gv_getj lk_2_33 (by decide +kernel) rfl rfl (pc' := 70) rfl ?_
          refine gd_dvi (w' := true) (pc' := 73) (X_Machine_branchDestination _ _) h md_Machine_branchDestination vd_Machine_branchDestination (Or.inl ml_2_112) (by decide +kernel) (by decide) rfl rfl rfl (Nat.le_of_ble_eq_true rfl) (Nat.le_of_ble_eq_true rfl) (by decide) rfl (fun z => ⟨rfl, z⟩) (by decide) rfl (fun r6 h => ?_)
          refine gv_aload_n (n := 0) (pc' := 74) (by decide +kernel) rfl rfl ?_
          refine gv_getr lk_2_9 (by decide +kernel) rfl rfl (pc' := 77) rfl ?_
          refine gv_aload_n (n := 0) (pc' := 78) (by decide +kernel) rfl rfl ?_
          refine gv_getr lk_2_15 (by decide +kernel) rfl rfl (pc' := 81) rfl ?_
          refine gd_cv0 (w' := false) (pc' := 84) (X_Guesses_add_11_12 _ _ _) h md_Guesses_add vd_Guesses_add (Or.inl ml_2_116) (by decide +kernel) (by decide) rfl rfl rfl (Nat.le_of_ble_eq_true rfl) (Nat.le_of_ble_eq_true rfl) (by decide) rfl (fun z => by cases z) (by decide) rfl (fun s7 h => ?_)
          refine gv_aload_n (n := 0) (pc' := 85) (by decide +kernel) rfl rfl ?_
          refine gv_iload_n (n := 2) (pc' := 86) (by decide +kernel) rfl rfl ?_
          refine gd_puti lp_2_33 (by decide +kernel) rfl rfl rfl rfl (pc' := 89) rfl h (fun s8 h => ?_)
          refine gv_iconst (n := 0) (v := 0) (pc' := 90) (by decide +kernel) (by decide) rfl ?_
          exact gv_iret .int (by decide +kernel) rfl rfl (by decide) (by decide) (gd_rE h)
        · refine gv_if_eq (off := 18) (tgt := 53) (pc' := 38) (by decide +kernel) (by decide) rfl (fun c35 => ?_) (fun c35 => ?_)
          · replace h := gd_T c35 h
            refine gv_aload_n (n := 0) (pc' := 54) (by decide +kernel) rfl rfl ?_
            refine gv_getj lk_2_33 (by decide +kernel) rfl rfl (pc' := 57) rfl ?_
            refine gv_iconst (n := 1) (v := 1) (pc' := 58) (by decide +kernel) (by decide) rfl ?_
            refine gv_iadd (pc' := 59) (by decide +kernel) rfl ?_
            exact gd_ar (gl_s (gl_n (gl_n gl_z))) (fun _ => rfl) (hJ4 _ h)
          · replace h := gd_F c35 h
            refine gv_aload_n (n := 0) (pc' := 39) (by decide +kernel) rfl rfl ?_
            refine gv_getr lk_2_40 (by decide +kernel) rfl rfl (pc' := 42) rfl ?_
            refine gv_getr lk_2_109 (by decide +kernel) rfl rfl (pc' := 45) rfl ?_
            refine gv_aload_n (n := 0) (pc' := 46) (by decide +kernel) rfl rfl ?_
            refine gv_getj lk_2_33 (by decide +kernel) rfl rfl (pc' := 49) rfl ?_
            obtain ⟨g49, h⟩ := gd_gE h
            refine gj_iald _ (pc' := 50) (by decide +kernel) rfl (gd_inv g49) rfl rfl ?_
            refine gv_goto (off := 9) (tgt := 59) (by decide +kernel) (by decide) ?_
            exact gd_ar (gl_s (gl_n (gl_n gl_z))) (fun _ => rfl) (hJ4 _ h)
      · replace h := gd_F c29 h
        refine gv_iconst (n := (-1)) (v := (-1)) (pc' := 33) (by decide +kernel) (by decide) rfl ?_
        exact gv_iret .int (by decide +kernel) rfl rfl (by decide) (by decide) (gd_rE h)
def R_Guesses_oldestOught (σ : gS) : gP :=
 gd_g (gd_in (gI σ 15 5) 16) <|
 some (.inl (some (.int (gA σ 19 (gI σ 15 5).toNatClampNeg))))
set_option maxRecDepth 20000 in
theorem X_Guesses_oldestOught (σ : gS) (r0 : gQ) (h : R_Guesses_oldestOught σ = some r0) : gv_K m_Guesses_oldestOught [.ref 15] σ (gv_is r0 σ) := by
  unfold R_Guesses_oldestOught at h
  show gv_V m_Guesses_oldestOught 1 true 0 [some (.ref 15)] [] σ (gv_is r0 σ)
  refine gv_aload_n (n := 0) (pc' := 1) (by decide +kernel) rfl rfl ?_
  refine gv_getr lk_4_22 (by decide +kernel) rfl rfl (pc' := 4) rfl ?_
  refine gv_aload_n (n := 0) (pc' := 5) (by decide +kernel) rfl rfl ?_
  refine gv_getj lk_4_28 (by decide +kernel) rfl rfl (pc' := 8) rfl ?_
  obtain ⟨g8, h⟩ := gd_gE h
  refine gj_iald _ (pc' := 9) (by decide +kernel) rfl (gd_inv g8) rfl rfl ?_
  exact gv_iret .int (by decide +kernel) rfl rfl (by decide) (by decide) (gd_pE h)
def R_Guesses_oldestIsRight (σ : gS) : gP :=
 gd_g (gd_in (gI σ 15 5) 16) <|
 gd_g (gd_in (gI σ 15 5) 16) <|
 if (gA σ 18 (gI σ 15 5).toNatClampNeg) = (gA σ 19 (gI σ 15 5).toNatClampNeg) then
  some (.inl (some (.int 1)))
 else
  some (.inl (some (.int 0)))
set_option maxRecDepth 20000 in
theorem X_Guesses_oldestIsRight (σ : gS) (r0 : gQ) (h : R_Guesses_oldestIsRight σ = some r0) : gv_K m_Guesses_oldestIsRight [.ref 15] σ (gv_is r0 σ) := by
  unfold R_Guesses_oldestIsRight at h
  show gv_V m_Guesses_oldestIsRight 1 true 0 [some (.ref 15)] [] σ (gv_is r0 σ)
  refine gv_aload_n (n := 0) (pc' := 1) (by decide +kernel) rfl rfl ?_
  refine gv_getr lk_4_19 (by decide +kernel) rfl rfl (pc' := 4) rfl ?_
  refine gv_aload_n (n := 0) (pc' := 5) (by decide +kernel) rfl rfl ?_
  refine gv_getj lk_4_28 (by decide +kernel) rfl rfl (pc' := 8) rfl ?_
  obtain ⟨g8, h⟩ := gd_gE h
  refine gj_iald _ (pc' := 9) (by decide +kernel) rfl (gd_inv g8) rfl rfl ?_
  refine gv_aload_n (n := 0) (pc' := 10) (by decide +kernel) rfl rfl ?_
  refine gv_getr lk_4_22 (by decide +kernel) rfl rfl (pc' := 13) rfl ?_
  refine gv_aload_n (n := 0) (pc' := 14) (by decide +kernel) rfl rfl ?_
  refine gv_getj lk_4_28 (by decide +kernel) rfl rfl (pc' := 17) rfl ?_
  obtain ⟨g17, h⟩ := gd_gE h
  refine gj_iald _ (pc' := 18) (by decide +kernel) rfl (gd_inv g17) rfl rfl ?_
  refine gv_icmp_ne (off := 7) (tgt := 25) (pc' := 21) (by decide +kernel) (by decide) rfl (fun c18 => ?_) (fun c18 => ?_)
  · replace h := gd_F c18 h
    refine gv_iconst (n := 0) (v := 0) (pc' := 26) (by decide +kernel) (by decide) rfl ?_
    exact gv_iret .boolean (by decide +kernel) rfl rfl (by decide) (by decide) (gd_pE h)
  · replace h := gd_T c18 h
    refine gv_iconst (n := 1) (v := 1) (pc' := 22) (by decide +kernel) (by decide) rfl ?_
    refine gv_goto (off := 4) (tgt := 26) (by decide +kernel) (by decide) ?_
    exact gv_iret .boolean (by decide +kernel) rfl rfl (by decide) (by decide) (gd_pE h)
def F_Guesses_rollBack_11_12 (σ : gS) : gR :=
 gd_g (gd_cp σ 16 512 32 ((gI σ 15 5) * (32 : Int32)) 0 32 .int) <|
 gd_s (gs_row σ 11 (va_cpy (gA σ 16) (gA σ 11) ((gI σ 15 5) * (32 : Int32)).toNatClampNeg (Int32.toNatClampNeg 0) (Int32.toNatClampNeg 32))) fun s1 =>
 gd_g (gd_cp s1 17 4096 256 ((gI s1 15 5) * (256 : Int32)) 0 256 .byte) <|
 gd_s (gs_row s1 12 (va_cpy (gA s1 17) (gA s1 12) ((gI s1 15 5) * (256 : Int32)).toNatClampNeg (Int32.toNatClampNeg 0) (Int32.toNatClampNeg 256))) fun s2 =>
 gd_0 (F_Guesses_drop s2) fun s3 =>
 some (.inl none, s3)
set_option maxRecDepth 20000 in
theorem X_Guesses_rollBack_11_12 (σ : gS) (r0 : gQ × gS) (h : F_Guesses_rollBack_11_12 σ = some r0) : gv_K m_Guesses_rollBack [.ref 15, .ref 11, .ref 12] σ (gv_is r0.1 r0.2) := by
  unfold F_Guesses_rollBack_11_12 at h
  show gv_V m_Guesses_rollBack 1 true 0 [some (.ref 15), some (.ref 11), some (.ref 12)] [] σ (gv_is r0.1 r0.2)
  refine gv_aload_n (n := 0) (pc' := 1) (by decide +kernel) rfl rfl ?_
  refine gv_getr lk_4_11 (by decide +kernel) rfl rfl (pc' := 4) rfl ?_
  refine gv_aload_n (n := 0) (pc' := 5) (by decide +kernel) rfl rfl ?_
  refine gv_getj lk_4_28 (by decide +kernel) rfl rfl (pc' := 8) rfl ?_
  refine gv_bipush (n := 32) (v := 32) (pc' := 10) (by decide +kernel) (by decide) rfl ?_
  refine gv_imul (pc' := 11) (by decide +kernel) rfl ?_
  refine gv_aload_n (n := 1) (pc' := 12) (by decide +kernel) rfl rfl ?_
  refine gv_iconst (n := 0) (v := 0) (pc' := 13) (by decide +kernel) (by decide) rfl ?_
  refine gv_bipush (n := 32) (v := 32) (pc' := 15) (by decide +kernel) (by decide) rfl ?_
  obtain ⟨g15, h⟩ := gd_gE h
  refine gd_copyI (pc' := 18) ml_4_38 (by decide +kernel) rfl rfl g15 (by decide) rfl rfl h (fun s1 h => ?_)
  refine gv_aload_n (n := 0) (pc' := 19) (by decide +kernel) rfl rfl ?_
  refine gv_getr lk_4_15 (by decide +kernel) rfl rfl (pc' := 22) rfl ?_
  refine gv_aload_n (n := 0) (pc' := 23) (by decide +kernel) rfl rfl ?_
  refine gv_getj lk_4_28 (by decide +kernel) rfl rfl (pc' := 26) rfl ?_
  refine gv_sipush (n := 256) (v := 256) (pc' := 29) (by decide +kernel) (by decide) rfl ?_
  refine gv_imul (pc' := 30) (by decide +kernel) rfl ?_
  refine gv_aload_n (n := 2) (pc' := 31) (by decide +kernel) rfl rfl ?_
  refine gv_iconst (n := 0) (v := 0) (pc' := 32) (by decide +kernel) (by decide) rfl ?_
  refine gv_sipush (n := 256) (v := 256) (pc' := 35) (by decide +kernel) (by decide) rfl ?_
  obtain ⟨g35, h⟩ := gd_gE h
  refine gd_copyB (pc' := 38) ml_4_38 (by decide +kernel) rfl rfl g35 (by decide) rfl rfl h (fun s2 h => ?_)
  refine gv_aload_n (n := 0) (pc' := 39) (by decide +kernel) rfl rfl ?_
  refine gd_cv0 (w' := false) (pc' := 42) (X_Guesses_drop _) h md_Guesses_drop vd_Guesses_drop (Or.inl ml_4_44) (by decide +kernel) (by decide) rfl rfl rfl (Nat.le_of_ble_eq_true rfl) (Nat.le_of_ble_eq_true rfl) (by decide) rfl (fun z => by cases z) (by decide) rfl (fun s3 h => ?_)
  exact gv_ret (by decide +kernel) rfl (by decide) (by decide) (gd_rE h)
def F_Guesses_closeOldest (σ : gS) : gR :=
 gd_s (gs_I σ 15 5 (((gI σ 15 5) + (1 : Int32)) - ((gI σ 15 5) + (1 : Int32)) / (16 : Int32) * (16 : Int32))) fun s1 =>
 gd_s (gs_I s1 15 6 ((gI s1 15 6) - (1 : Int32))) fun s2 =>
 some (.inl none, s2)
set_option maxRecDepth 20000 in
theorem X_Guesses_closeOldest (σ : gS) (r0 : gQ × gS) (h : F_Guesses_closeOldest σ = some r0) : gv_K m_Guesses_closeOldest [.ref 15] σ (gv_is r0.1 r0.2) := by
  unfold F_Guesses_closeOldest at h
  show gv_V m_Guesses_closeOldest 1 true 0 [some (.ref 15)] [] σ (gv_is r0.1 r0.2)
  refine gv_aload_n (n := 0) (pc' := 1) (by decide +kernel) rfl rfl ?_
  refine gv_aload_n (n := 0) (pc' := 2) (by decide +kernel) rfl rfl ?_
  refine gv_getj lk_4_28 (by decide +kernel) rfl rfl (pc' := 5) rfl ?_
  refine gv_iconst (n := 1) (v := 1) (pc' := 6) (by decide +kernel) (by decide) rfl ?_
  refine gv_iadd (pc' := 7) (by decide +kernel) rfl ?_
  refine gv_bipush (n := 16) (v := 16) (pc' := 9) (by decide +kernel) (by decide) rfl ?_
  refine gv_irem (pc' := 10) (by decide +kernel) (by decide) rfl ?_
  refine gd_puti lp_4_28 (by decide +kernel) rfl rfl rfl rfl (pc' := 13) rfl h (fun s1 h => ?_)
  refine gv_aload_n (n := 0) (pc' := 14) (by decide +kernel) rfl rfl ?_
  refine gv_dup (pc' := 15) (by decide +kernel) rfl rfl ?_
  refine gv_getj lk_4_32 (by decide +kernel) rfl rfl (pc' := 18) rfl ?_
  refine gv_iconst (n := 1) (v := 1) (pc' := 19) (by decide +kernel) (by decide) rfl ?_
  refine gv_isub (pc' := 20) (by decide +kernel) rfl ?_
  refine gd_puti lp_4_32 (by decide +kernel) rfl rfl rfl rfl (pc' := 23) rfl h (fun s2 h => ?_)
  exact gv_ret (by decide +kernel) rfl (by decide) (by decide) (gd_rE h)
def F_Machine_resolve (σ : gS) : gR :=
 if (gI σ 15 6) = 0 then
  some (.inl (some (.int (-1))), σ)
 else
  gd_qi (R_Leaks_hasRoom σ) σ fun r1 =>
  if r1 = 0 then
   some (.inl (some (.int (-1))), σ)
  else
   gd_qi (R_Guesses_oldestOught σ) σ fun r2 =>
   gd_0 (F_Leaks_add 0 r2 σ) fun s3 =>
   gd_qi (R_Guesses_oldestIsRight s3) s3 fun r4 =>
   if r4 = 0 then
    gd_qi (R_Guesses_oldestOught s3) s3 fun r5 =>
    gd_s (gs_I s3 10 5 r5) fun s6 =>
    gd_0 (F_Guesses_rollBack_11_12 s6) fun s7 =>
    some (.inl (some (.int 2)), s7)
   else
    gd_0 (F_Guesses_closeOldest s3) fun s8 =>
    some (.inl (some (.int 1)), s8)
set_option maxRecDepth 20000 in
theorem X_Machine_resolve (σ : gS) (r0 : gQ × gS) (h : F_Machine_resolve σ = some r0) : gv_K m_Machine_resolve [.ref 10] σ (gv_is r0.1 r0.2) := by
  unfold F_Machine_resolve at h
  show gv_V m_Machine_resolve 1 true 0 [some (.ref 10)] [] σ (gv_is r0.1 r0.2)
  refine gv_aload_n (n := 0) (pc' := 1) (by decide +kernel) rfl rfl ?_
  refine gv_getr lk_2_29 (by decide +kernel) rfl rfl (pc' := 4) rfl ?_
  refine gv_getj lk_2_59 (by decide +kernel) rfl rfl (pc' := 7) rfl ?_
  refine gv_if_eq (off := 13) (tgt := 20) (pc' := 10) (by decide +kernel) (by decide) rfl (fun c7 => ?_) (fun c7 => ?_)
  · replace h := gd_T c7 h
    refine gv_iconst (n := (-1)) (v := (-1)) (pc' := 21) (by decide +kernel) (by decide) rfl ?_
    exact gv_iret .int (by decide +kernel) rfl rfl (by decide) (by decide) (gd_rE h)
  · replace h := gd_F c7 h
    refine gv_aload_n (n := 0) (pc' := 11) (by decide +kernel) rfl rfl ?_
    refine gv_getr lk_2_22 (by decide +kernel) rfl rfl (pc' := 14) rfl ?_
    refine gd_dvi (w' := true) (pc' := 17) (X_Leaks_hasRoom _) h md_Leaks_hasRoom vd_Leaks_hasRoom (Or.inl ml_2_93) (by decide +kernel) (by decide) rfl rfl rfl (Nat.le_of_ble_eq_true rfl) (Nat.le_of_ble_eq_true rfl) (by decide) rfl (fun z => ⟨rfl, z⟩) (by decide) rfl (fun r1 h => ?_)
    refine gv_if_ne (off := 5) (tgt := 22) (pc' := 20) (by decide +kernel) (by decide) rfl (fun c17 => ?_) (fun c17 => ?_)
    · replace h := gd_F c17 h
      refine gv_aload_n (n := 0) (pc' := 23) (by decide +kernel) rfl rfl ?_
      refine gv_getr lk_2_22 (by decide +kernel) rfl rfl (pc' := 26) rfl ?_
      refine gv_iconst (n := 0) (v := 0) (pc' := 27) (by decide +kernel) (by decide) rfl ?_
      refine gv_aload_n (n := 0) (pc' := 28) (by decide +kernel) rfl rfl ?_
      refine gv_getr lk_2_29 (by decide +kernel) rfl rfl (pc' := 31) rfl ?_
      refine gd_dvi (w' := true) (pc' := 34) (X_Guesses_oldestOught _) h md_Guesses_oldestOught vd_Guesses_oldestOught (Or.inl ml_2_120) (by decide +kernel) (by decide) rfl rfl rfl (Nat.le_of_ble_eq_true rfl) (Nat.le_of_ble_eq_true rfl) (by decide) rfl (fun z => ⟨rfl, z⟩) (by decide) rfl (fun r2 h => ?_)
      refine gd_cv0 (w' := false) (pc' := 37) (X_Leaks_add _ _ _) h md_Leaks_add vd_Leaks_add (Or.inl ml_2_123) (by decide +kernel) (by decide) rfl rfl rfl (Nat.le_of_ble_eq_true rfl) (Nat.le_of_ble_eq_true rfl) (by decide) rfl (fun z => by cases z) (by decide) rfl (fun s3 h => ?_)
      refine gv_aload_n (n := 0) (pc' := 38) (by decide +kernel) rfl rfl ?_
      refine gv_getr lk_2_29 (by decide +kernel) rfl rfl (pc' := 41) rfl ?_
      refine gd_dvi (w' := false) (pc' := 44) (X_Guesses_oldestIsRight _) h md_Guesses_oldestIsRight vd_Guesses_oldestIsRight (Or.inl ml_2_126) (by decide +kernel) (by decide) rfl rfl rfl (Nat.le_of_ble_eq_true rfl) (Nat.le_of_ble_eq_true rfl) (by decide) rfl (fun z => by cases z) (by decide) rfl (fun r4 h => ?_)
      refine gv_if_eq (off := 12) (tgt := 56) (pc' := 47) (by decide +kernel) (by decide) rfl (fun c44 => ?_) (fun c44 => ?_)
      · replace h := gd_T c44 h
        refine gv_aload_n (n := 0) (pc' := 57) (by decide +kernel) rfl rfl ?_
        refine gv_aload_n (n := 0) (pc' := 58) (by decide +kernel) rfl rfl ?_
        refine gv_getr lk_2_29 (by decide +kernel) rfl rfl (pc' := 61) rfl ?_
        refine gd_dvi (w' := false) (pc' := 64) (X_Guesses_oldestOught _) h md_Guesses_oldestOught vd_Guesses_oldestOught (Or.inl ml_2_120) (by decide +kernel) (by decide) rfl rfl rfl (Nat.le_of_ble_eq_true rfl) (Nat.le_of_ble_eq_true rfl) (by decide) rfl (fun z => by cases z) (by decide) rfl (fun r5 h => ?_)
        refine gd_puti lp_2_33 (by decide +kernel) rfl rfl rfl rfl (pc' := 67) rfl h (fun s6 h => ?_)
        refine gv_aload_n (n := 0) (pc' := 68) (by decide +kernel) rfl rfl ?_
        refine gv_getr lk_2_29 (by decide +kernel) rfl rfl (pc' := 71) rfl ?_
        refine gv_aload_n (n := 0) (pc' := 72) (by decide +kernel) rfl rfl ?_
        refine gv_getr lk_2_9 (by decide +kernel) rfl rfl (pc' := 75) rfl ?_
        refine gv_aload_n (n := 0) (pc' := 76) (by decide +kernel) rfl rfl ?_
        refine gv_getr lk_2_15 (by decide +kernel) rfl rfl (pc' := 79) rfl ?_
        refine gd_cv0 (w' := false) (pc' := 82) (X_Guesses_rollBack_11_12 _) h md_Guesses_rollBack vd_Guesses_rollBack (Or.inl ml_2_132) (by decide +kernel) (by decide) rfl rfl rfl (Nat.le_of_ble_eq_true rfl) (Nat.le_of_ble_eq_true rfl) (by decide) rfl (fun z => by cases z) (by decide) rfl (fun s7 h => ?_)
        refine gv_iconst (n := 2) (v := 2) (pc' := 83) (by decide +kernel) (by decide) rfl ?_
        exact gv_iret .int (by decide +kernel) rfl rfl (by decide) (by decide) (gd_rE h)
      · replace h := gd_F c44 h
        refine gv_aload_n (n := 0) (pc' := 48) (by decide +kernel) rfl rfl ?_
        refine gv_getr lk_2_29 (by decide +kernel) rfl rfl (pc' := 51) rfl ?_
        refine gd_cv0 (w' := false) (pc' := 54) (X_Guesses_closeOldest _) h md_Guesses_closeOldest vd_Guesses_closeOldest (Or.inl ml_2_129) (by decide +kernel) (by decide) rfl rfl rfl (Nat.le_of_ble_eq_true rfl) (Nat.le_of_ble_eq_true rfl) (by decide) rfl (fun z => by cases z) (by decide) rfl (fun s8 h => ?_)
        refine gv_iconst (n := 1) (v := 1) (pc' := 55) (by decide +kernel) (by decide) rfl ?_
        exact gv_iret .int (by decide +kernel) rfl rfl (by decide) (by decide) (gd_rE h)
    · replace h := gd_T c17 h
      refine gv_iconst (n := (-1)) (v := (-1)) (pc' := 21) (by decide +kernel) (by decide) rfl ?_
      exact gv_iret .int (by decide +kernel) rfl rfl (by decide) (by decide) (gd_rE h)
def F_Machine_obey (a : Int32) (σ : gS) : gR :=
 if a = 0 then
  gd_i (F_Machine_runAhead σ) fun r1 s2 =>
  some (.inl (some (.int r1)), s2)
 else if a = 1 then
  gd_i (F_Machine_guess 0 σ) fun r3 s4 =>
  some (.inl (some (.int r3)), s4)
 else if a = 2 then
  gd_i (F_Machine_guess 1 σ) fun r5 s6 =>
  some (.inl (some (.int r5)), s6)
 else 
  gd_i (F_Machine_resolve σ) fun r7 s8 =>
  some (.inl (some (.int r7)), s8)
set_option maxRecDepth 20000 in
theorem X_Machine_obey (a : Int32) (σ : gS) (r0 : gQ × gS) (h : F_Machine_obey a σ = some r0) : gv_K m_Machine_obey [.ref 10, .int a] σ (gv_is r0.1 r0.2) := by
  unfold F_Machine_obey at h
  show gv_V m_Machine_obey 1 true 0 [some (.ref 10), some (.int a)] [] σ (gv_is r0.1 r0.2)
  refine gv_iload_n (n := 1) (pc' := 1) (by decide +kernel) rfl rfl ?_
  by_cases q1_0 : a = 0
  · replace h := gd_T q1_0 h
    refine gd_tbT (dflt := 44) (lo := 0) (hi := 2) (offs := #[27, 32, 38]) (len := 27) (off := 27) (tgt := 28) q1_0 (by decide +kernel) (by decide) (by decide) rfl (by decide) ?_
    refine gv_aload_n (n := 0) (pc' := 29) (by decide +kernel) rfl rfl ?_
    refine gd_cvi (w' := false) (pc' := 32) (X_Machine_runAhead _) h md_Machine_runAhead vd_Machine_runAhead (Or.inl ml_2_75) (by decide +kernel) (by decide) rfl rfl rfl (Nat.le_of_ble_eq_true rfl) (Nat.le_of_ble_eq_true rfl) (by decide) rfl (fun z => by cases z) (by decide) rfl (fun r1 s2 h => ?_)
    exact gv_iret .int (by decide +kernel) rfl rfl (by decide) (by decide) (gd_rE h)
  replace h := gd_F q1_0 h
  by_cases q1_1 : a = 1
  · replace h := gd_T q1_1 h
    refine gd_tbT (dflt := 44) (lo := 0) (hi := 2) (offs := #[27, 32, 38]) (len := 27) (off := 32) (tgt := 33) q1_1 (by decide +kernel) (by decide) (by decide) rfl (by decide) ?_
    refine gv_aload_n (n := 0) (pc' := 34) (by decide +kernel) rfl rfl ?_
    refine gv_iconst (n := 0) (v := 0) (pc' := 35) (by decide +kernel) (by decide) rfl ?_
    refine gd_cvi (w' := false) (pc' := 38) (X_Machine_guess _ _) h md_Machine_guess vd_Machine_guess (Or.inl ml_2_78) (by decide +kernel) (by decide) rfl rfl rfl (Nat.le_of_ble_eq_true rfl) (Nat.le_of_ble_eq_true rfl) (by decide) rfl (fun z => by cases z) (by decide) rfl (fun r3 s4 h => ?_)
    exact gv_iret .int (by decide +kernel) rfl rfl (by decide) (by decide) (gd_rE h)
  replace h := gd_F q1_1 h
  by_cases q1_2 : a = 2
  · replace h := gd_T q1_2 h
    refine gd_tbT (dflt := 44) (lo := 0) (hi := 2) (offs := #[27, 32, 38]) (len := 27) (off := 38) (tgt := 39) q1_2 (by decide +kernel) (by decide) (by decide) rfl (by decide) ?_
    refine gv_aload_n (n := 0) (pc' := 40) (by decide +kernel) rfl rfl ?_
    refine gv_iconst (n := 1) (v := 1) (pc' := 41) (by decide +kernel) (by decide) rfl ?_
    refine gd_cvi (w' := false) (pc' := 44) (X_Machine_guess _ _) h md_Machine_guess vd_Machine_guess (Or.inl ml_2_78) (by decide +kernel) (by decide) rfl rfl rfl (Nat.le_of_ble_eq_true rfl) (Nat.le_of_ble_eq_true rfl) (by decide) rfl (fun z => by cases z) (by decide) rfl (fun r5 s6 h => ?_)
    exact gv_iret .int (by decide +kernel) rfl rfl (by decide) (by decide) (gd_rE h)
  replace h := gd_F q1_2 h
  refine gv_tableOut (dflt := 44) (lo := 0) (hi := 2) (offs := #[27, 32, 38]) (len := 27) (tgt := 45) (by decide +kernel) (gd_tbs (a := 2) (gd_tbs (a := 1) (gd_tbs (a := 0) (gd_tb0 (lo := 0)) q1_0 (by decide) (by decide)) q1_1 (by decide) (by decide)) q1_2 (by decide) (by decide)) (by decide) ?_
  refine gv_aload_n (n := 0) (pc' := 46) (by decide +kernel) rfl rfl ?_
  refine gd_cvi (w' := false) (pc' := 49) (X_Machine_resolve _) h md_Machine_resolve vd_Machine_resolve (Or.inl ml_2_82) (by decide +kernel) (by decide) rfl rfl rfl (Nat.le_of_ble_eq_true rfl) (Nat.le_of_ble_eq_true rfl) (by decide) rfl (fun z => by cases z) (by decide) rfl (fun r7 s8 h => ?_)
  exact gv_iret .int (by decide +kernel) rfl rfl (by decide) (by decide) (gd_rE h)
def F_G_order (a : Int32) (σ : gS) : gR :=
 gd_q0 (R_G_needLoaded σ) σ <|
 if a < 0 then
  some (.inr 3, σ)
 else
  if a ≤ 3 then
   gd_i (F_Machine_obey a σ) fun r1 s2 =>
   some (.inl (some (.int r1)), s2)
  else
   some (.inr 3, σ)
set_option maxRecDepth 20000 in
theorem X_G_order (a : Int32) (σ : gS) (r0 : gQ × gS) (h : F_G_order a σ = some r0) : gv_K m_G_order [.ref 0, .int a] σ (gv_is r0.1 r0.2) := by
  unfold F_G_order at h
  show gv_V m_G_order 1 true 0 [some (.ref 0), some (.int a)] [] σ (gv_is r0.1 r0.2)
  refine gv_aload_n (n := 0) (pc' := 1) (by decide +kernel) rfl rfl ?_
  refine gd_dv0 (w' := true) (pc' := 4) (X_G_needLoaded _) h md_G_needLoaded vd_G_needLoaded (Or.inl ml_0_100) (by decide +kernel) (by decide) rfl rfl rfl (Nat.le_of_ble_eq_true rfl) (Nat.le_of_ble_eq_true rfl) (by decide) rfl (fun z => ⟨rfl, z⟩) (by decide) rfl (fun h => ?_)
  refine gv_iload_n (n := 1) (pc' := 5) (by decide +kernel) rfl rfl ?_
  refine gv_if_lt (off := 8) (tgt := 13) (pc' := 8) (by decide +kernel) (by decide) rfl (fun c5 => ?_) (fun c5 => ?_)
  · replace h := gd_T c5 h
    exact gv_throw th_0_83 (by decide +kernel) (by decide +kernel) (by decide +kernel) (by decide +kernel) (by decide) (by decide) (by decide) (by decide) (gd_rE h)
  · replace h := gd_F c5 h
    refine gv_iload_n (n := 1) (pc' := 9) (by decide +kernel) rfl rfl ?_
    refine gv_iconst (n := 3) (v := 3) (pc' := 10) (by decide +kernel) (by decide) rfl ?_
    refine gv_icmp_le (off := 11) (tgt := 21) (pc' := 13) (by decide +kernel) (by decide) rfl (fun c10 => ?_) (fun c10 => ?_)
    · replace h := gd_T c10 h
      refine gv_aload_n (n := 0) (pc' := 22) (by decide +kernel) rfl rfl ?_
      refine gv_getr lk_0_25 (by decide +kernel) rfl rfl (pc' := 25) rfl ?_
      refine gv_iload_n (n := 1) (pc' := 26) (by decide +kernel) rfl rfl ?_
      refine gd_cvi (w' := false) (pc' := 29) (X_Machine_obey _ _) h md_Machine_obey vd_Machine_obey (Or.inl ml_0_132) (by decide +kernel) (by decide) rfl rfl rfl (Nat.le_of_ble_eq_true rfl) (Nat.le_of_ble_eq_true rfl) (by decide) rfl (fun z => by cases z) (by decide) rfl (fun r1 s2 h => ?_)
      exact gv_iret .int (by decide +kernel) rfl rfl (by decide) (by decide) (gd_rE h)
    · replace h := gd_F c10 h
      exact gv_throw th_0_83 (by decide +kernel) (by decide +kernel) (by decide +kernel) (by decide +kernel) (by decide) (by decide) (by decide) (by decide) (gd_rE h)
def F_G_window (a : Int32) (σ : gS) : gR :=
 if a < 1 then
  some (.inr 3, σ)
 else
  if a ≤ 64 then
   gd_s (gs_I σ 10 6 a) fun s1 =>
   some (.inl (some (.int (gI σ 10 6))), s1)
  else
   some (.inr 3, σ)
set_option maxRecDepth 20000 in
theorem X_G_window (a : Int32) (σ : gS) (r0 : gQ × gS) (h : F_G_window a σ = some r0) : gv_K m_G_window [.ref 0, .int a] σ (gv_is r0.1 r0.2) := by
  unfold F_G_window at h
  show gv_V m_G_window 1 true 0 [some (.ref 0), some (.int a), none] [] σ (gv_is r0.1 r0.2)
  refine gv_iload_n (n := 1) (pc' := 1) (by decide +kernel) rfl rfl ?_
  refine gv_iconst (n := 1) (v := 1) (pc' := 2) (by decide +kernel) (by decide) rfl ?_
  refine gv_icmp_lt (off := 9) (tgt := 11) (pc' := 5) (by decide +kernel) (by decide) rfl (fun c2 => ?_) (fun c2 => ?_)
  · replace h := gd_T c2 h
    exact gv_throw th_0_83 (by decide +kernel) (by decide +kernel) (by decide +kernel) (by decide +kernel) (by decide) (by decide) (by decide) (by decide) (gd_rE h)
  · replace h := gd_F c2 h
    refine gv_iload_n (n := 1) (pc' := 6) (by decide +kernel) rfl rfl ?_
    refine gv_bipush (n := 64) (v := 64) (pc' := 8) (by decide +kernel) (by decide) rfl ?_
    refine gv_icmp_le (off := 11) (tgt := 19) (pc' := 11) (by decide +kernel) (by decide) rfl (fun c8 => ?_) (fun c8 => ?_)
    · replace h := gd_T c8 h
      refine gv_aload_n (n := 0) (pc' := 20) (by decide +kernel) rfl rfl ?_
      refine gv_getr lk_0_25 (by decide +kernel) rfl rfl (pc' := 23) rfl ?_
      refine gv_getj lk_0_135 (by decide +kernel) rfl rfl (pc' := 26) rfl ?_
      refine gv_istore_n (n := 2) (pc' := 27) (by decide +kernel) (by decide) rfl ?_
      refine gv_aload_n (n := 0) (pc' := 28) (by decide +kernel) rfl rfl ?_
      refine gv_getr lk_0_25 (by decide +kernel) rfl rfl (pc' := 31) rfl ?_
      refine gv_iload_n (n := 1) (pc' := 32) (by decide +kernel) rfl rfl ?_
      refine gd_puti lp_0_135 (by decide +kernel) rfl rfl rfl rfl (pc' := 35) rfl h (fun s1 h => ?_)
      refine gv_iload_n (n := 2) (pc' := 36) (by decide +kernel) rfl rfl ?_
      exact gv_iret .int (by decide +kernel) rfl rfl (by decide) (by decide) (gd_rE h)
    · replace h := gd_F c8 h
      exact gv_throw th_0_83 (by decide +kernel) (by decide +kernel) (by decide +kernel) (by decide +kernel) (by decide) (by decide) (by decide) (by decide) (gd_rE h)
def R_Machine_figure (a : Int32) (σ : gS) : gP :=
 if a = 0 then
  some (.inl (some (.int (gI σ 10 5))))
 else if a = 1 then
  some (.inl (some (.int (gI σ 15 6))))
 else if a = 2 then
  gd_pi (R_Guesses_distance σ) fun r1 =>
  some (.inl (some (.int r1)))
 else 
  some (.inl (some (.int (gI σ 13 1))))
set_option maxRecDepth 20000 in
theorem X_Machine_figure (a : Int32) (σ : gS) (r0 : gQ) (h : R_Machine_figure a σ = some r0) : gv_K m_Machine_figure [.ref 10, .int a] σ (gv_is r0 σ) := by
  unfold R_Machine_figure at h
  show gv_V m_Machine_figure 1 true 0 [some (.ref 10), some (.int a)] [] σ (gv_is r0 σ)
  refine gv_iload_n (n := 1) (pc' := 1) (by decide +kernel) rfl rfl ?_
  by_cases q1_0 : a = 0
  · replace h := gd_T q1_0 h
    refine gd_tbT (dflt := 48) (lo := 0) (hi := 2) (offs := #[27, 32, 40]) (len := 27) (off := 27) (tgt := 28) q1_0 (by decide +kernel) (by decide) (by decide) rfl (by decide) ?_
    refine gv_aload_n (n := 0) (pc' := 29) (by decide +kernel) rfl rfl ?_
    refine gv_getj lk_2_33 (by decide +kernel) rfl rfl (pc' := 32) rfl ?_
    exact gv_iret .int (by decide +kernel) rfl rfl (by decide) (by decide) (gd_pE h)
  replace h := gd_F q1_0 h
  by_cases q1_1 : a = 1
  · replace h := gd_T q1_1 h
    refine gd_tbT (dflt := 48) (lo := 0) (hi := 2) (offs := #[27, 32, 40]) (len := 27) (off := 32) (tgt := 33) q1_1 (by decide +kernel) (by decide) (by decide) rfl (by decide) ?_
    refine gv_aload_n (n := 0) (pc' := 34) (by decide +kernel) rfl rfl ?_
    refine gv_getr lk_2_29 (by decide +kernel) rfl rfl (pc' := 37) rfl ?_
    refine gv_getj lk_2_59 (by decide +kernel) rfl rfl (pc' := 40) rfl ?_
    exact gv_iret .int (by decide +kernel) rfl rfl (by decide) (by decide) (gd_pE h)
  replace h := gd_F q1_1 h
  by_cases q1_2 : a = 2
  · replace h := gd_T q1_2 h
    refine gd_tbT (dflt := 48) (lo := 0) (hi := 2) (offs := #[27, 32, 40]) (len := 27) (off := 40) (tgt := 41) q1_2 (by decide +kernel) (by decide) (by decide) rfl (by decide) ?_
    refine gv_aload_n (n := 0) (pc' := 42) (by decide +kernel) rfl rfl ?_
    refine gv_getr lk_2_29 (by decide +kernel) rfl rfl (pc' := 45) rfl ?_
    refine gd_evi (w' := true) (pc' := 48) (X_Guesses_distance _) h md_Guesses_distance vd_Guesses_distance (Or.inl ml_2_62) (by decide +kernel) (by decide) rfl rfl rfl (Nat.le_of_ble_eq_true rfl) (Nat.le_of_ble_eq_true rfl) (by decide) rfl (fun z => ⟨rfl, z⟩) (by decide) rfl (fun r1 h => ?_)
    exact gv_iret .int (by decide +kernel) rfl rfl (by decide) (by decide) (gd_pE h)
  replace h := gd_F q1_2 h
  refine gv_tableOut (dflt := 48) (lo := 0) (hi := 2) (offs := #[27, 32, 40]) (len := 27) (tgt := 49) (by decide +kernel) (gd_tbs (a := 2) (gd_tbs (a := 1) (gd_tbs (a := 0) (gd_tb0 (lo := 0)) q1_0 (by decide) (by decide)) q1_1 (by decide) (by decide)) q1_2 (by decide) (by decide)) (by decide) ?_
  refine gv_aload_n (n := 0) (pc' := 50) (by decide +kernel) rfl rfl ?_
  refine gv_getr lk_2_22 (by decide +kernel) rfl rfl (pc' := 53) rfl ?_
  refine gv_getj lk_2_65 (by decide +kernel) rfl rfl (pc' := 56) rfl ?_
  exact gv_iret .int (by decide +kernel) rfl rfl (by decide) (by decide) (gd_pE h)
def R_G_state (a : Int32) (σ : gS) : gP :=
 gd_p0 (R_G_needLoaded σ) <|
 if a < 0 then
  some (.inr 3)
 else
  if a ≤ 3 then
   gd_pi (R_Machine_figure a σ) fun r1 =>
   some (.inl (some (.int r1)))
  else
   some (.inr 3)
set_option maxRecDepth 20000 in
theorem X_G_state (a : Int32) (σ : gS) (r0 : gQ) (h : R_G_state a σ = some r0) : gv_K m_G_state [.ref 0, .int a] σ (gv_is r0 σ) := by
  unfold R_G_state at h
  show gv_V m_G_state 1 true 0 [some (.ref 0), some (.int a)] [] σ (gv_is r0 σ)
  refine gv_aload_n (n := 0) (pc' := 1) (by decide +kernel) rfl rfl ?_
  refine gd_ev0 (w' := true) (pc' := 4) (X_G_needLoaded _) h md_G_needLoaded vd_G_needLoaded (Or.inl ml_0_100) (by decide +kernel) (by decide) rfl rfl rfl (Nat.le_of_ble_eq_true rfl) (Nat.le_of_ble_eq_true rfl) (by decide) rfl (fun z => ⟨rfl, z⟩) (by decide) rfl (fun h => ?_)
  refine gv_iload_n (n := 1) (pc' := 5) (by decide +kernel) rfl rfl ?_
  refine gv_if_lt (off := 8) (tgt := 13) (pc' := 8) (by decide +kernel) (by decide) rfl (fun c5 => ?_) (fun c5 => ?_)
  · replace h := gd_T c5 h
    exact gv_throw th_0_83 (by decide +kernel) (by decide +kernel) (by decide +kernel) (by decide +kernel) (by decide) (by decide) (by decide) (by decide) (gd_pE h)
  · replace h := gd_F c5 h
    refine gv_iload_n (n := 1) (pc' := 9) (by decide +kernel) rfl rfl ?_
    refine gv_iconst (n := 3) (v := 3) (pc' := 10) (by decide +kernel) (by decide) rfl ?_
    refine gv_icmp_le (off := 11) (tgt := 21) (pc' := 13) (by decide +kernel) (by decide) rfl (fun c10 => ?_) (fun c10 => ?_)
    · replace h := gd_T c10 h
      refine gv_aload_n (n := 0) (pc' := 22) (by decide +kernel) rfl rfl ?_
      refine gv_getr lk_0_25 (by decide +kernel) rfl rfl (pc' := 25) rfl ?_
      refine gv_iload_n (n := 1) (pc' := 26) (by decide +kernel) rfl rfl ?_
      refine gd_evi (w' := true) (pc' := 29) (X_Machine_figure _ _) h md_Machine_figure vd_Machine_figure (Or.inl ml_0_138) (by decide +kernel) (by decide) rfl rfl rfl (Nat.le_of_ble_eq_true rfl) (Nat.le_of_ble_eq_true rfl) (by decide) rfl (fun z => ⟨rfl, z⟩) (by decide) rfl (fun r1 h => ?_)
      exact gv_iret .int (by decide +kernel) rfl rfl (by decide) (by decide) (gd_pE h)
    · replace h := gd_F c10 h
      exact gv_throw th_0_83 (by decide +kernel) (by decide +kernel) (by decide +kernel) (by decide +kernel) (by decide) (by decide) (by decide) (by decide) (gd_pE h)
def F_G_forget (σ : gS) : gR :=
 gd_q0 (R_G_needLoaded σ) σ <|
 gd_i (F_Leaks_drop σ) fun r1 s2 =>
 some (.inl (some (.int r1)), s2)
set_option maxRecDepth 20000 in
theorem X_G_forget (σ : gS) (r0 : gQ × gS) (h : F_G_forget σ = some r0) : gv_K m_G_forget [.ref 0] σ (gv_is r0.1 r0.2) := by
  unfold F_G_forget at h
  show gv_V m_G_forget 1 true 0 [some (.ref 0)] [] σ (gv_is r0.1 r0.2)
  refine gv_aload_n (n := 0) (pc' := 1) (by decide +kernel) rfl rfl ?_
  refine gd_dv0 (w' := true) (pc' := 4) (X_G_needLoaded _) h md_G_needLoaded vd_G_needLoaded (Or.inl ml_0_100) (by decide +kernel) (by decide) rfl rfl rfl (Nat.le_of_ble_eq_true rfl) (Nat.le_of_ble_eq_true rfl) (by decide) rfl (fun z => ⟨rfl, z⟩) (by decide) rfl (fun h => ?_)
  refine gv_aload_n (n := 0) (pc' := 5) (by decide +kernel) rfl rfl ?_
  refine gv_getr lk_0_25 (by decide +kernel) rfl rfl (pc' := 8) rfl ?_
  refine gv_getr lk_0_141 (by decide +kernel) rfl rfl (pc' := 11) rfl ?_
  refine gd_cvi (w' := false) (pc' := 14) (X_Leaks_drop _) h md_Leaks_drop vd_Leaks_drop (Or.inl ml_0_151) (by decide +kernel) (by decide) rfl rfl rfl (Nat.le_of_ble_eq_true rfl) (Nat.le_of_ble_eq_true rfl) (by decide) rfl (fun z => by cases z) (by decide) rfl (fun r1 s2 h => ?_)
  exact gv_iret .int (by decide +kernel) rfl rfl (by decide) (by decide) (gd_rE h)
def R_Listing_handsOn (a : Int32) (σ : gS) : gP :=
 gd_g (gd_in a 1040) <|
 gd_j (α := gP) (
  gd_g (gd_in a 1040) <|
  if (gA σ 5 a.toNatClampNeg) = 0 then
   some (.inl (some (.int 0)))
  else
   some (.inl (some (.int 1)))) fun J1 =>
 if (gA σ 3 a.toNatClampNeg) = 0 then
  J1
 else
  gd_g (gd_in a 1040) <|
  if (gA σ 3 a.toNatClampNeg) = 1 then
   J1
  else
   some (.inl (some (.int 0)))
set_option maxRecDepth 20000 in
theorem X_Listing_handsOn (a : Int32) (σ : gS) (r0 : gQ) (h : R_Listing_handsOn a σ = some r0) : gv_K m_Listing_handsOn [.ref 2, .int a] σ (gv_is r0 σ) := by
  unfold R_Listing_handsOn at h
  show gv_V m_Listing_handsOn 1 true 0 [some (.ref 2), some (.int a)] [] σ (gv_is r0 σ)
  refine gv_aload_n (n := 0) (pc' := 1) (by decide +kernel) rfl rfl ?_
  refine gv_getr lk_1_9 (by decide +kernel) rfl rfl (pc' := 4) rfl ?_
  refine gv_iload_n (n := 1) (pc' := 5) (by decide +kernel) rfl rfl ?_
  obtain ⟨g5, h⟩ := gd_gE h
  refine gj_iald _ (pc' := 6) (by decide +kernel) rfl (gd_inv g5) rfl rfl ?_
  refine gd_jC (fun J1 => J1 = some r0 → gv_V m_Listing_handsOn 1 true 19 [some (.ref 2), some (.int a)] [] σ (gv_is r0 σ)) h (fun  h => ?_) (fun J1 hJ1 h => ?_)
  · refine gv_aload_n (n := 0) (pc' := 20) (by decide +kernel) rfl rfl ?_
    refine gv_getr lk_1_18 (by decide +kernel) rfl rfl (pc' := 23) rfl ?_
    refine gv_iload_n (n := 1) (pc' := 24) (by decide +kernel) rfl rfl ?_
    obtain ⟨g24, h⟩ := gd_gE h
    refine gj_iald _ (pc' := 25) (by decide +kernel) rfl (gd_inv g24) rfl rfl ?_
    refine gv_if_eq (off := 7) (tgt := 32) (pc' := 28) (by decide +kernel) (by decide) rfl (fun c25 => ?_) (fun c25 => ?_)
    · replace h := gd_T c25 h
      refine gv_iconst (n := 0) (v := 0) (pc' := 33) (by decide +kernel) (by decide) rfl ?_
      exact gv_iret .boolean (by decide +kernel) rfl rfl (by decide) (by decide) (gd_pE h)
    · replace h := gd_F c25 h
      refine gv_iconst (n := 1) (v := 1) (pc' := 29) (by decide +kernel) (by decide) rfl ?_
      refine gv_goto (off := 4) (tgt := 33) (by decide +kernel) (by decide) ?_
      exact gv_iret .boolean (by decide +kernel) rfl rfl (by decide) (by decide) (gd_pE h)
  · refine gv_if_eq (off := 13) (tgt := 19) (pc' := 9) (by decide +kernel) (by decide) rfl (fun c6 => ?_) (fun c6 => ?_)
    · replace h := gd_T c6 h
      exact gd_ar (gl_s (gl_s gl_z)) (fun _ => rfl) (hJ1  h)
    · replace h := gd_F c6 h
      refine gv_aload_n (n := 0) (pc' := 10) (by decide +kernel) rfl rfl ?_
      refine gv_getr lk_1_9 (by decide +kernel) rfl rfl (pc' := 13) rfl ?_
      refine gv_iload_n (n := 1) (pc' := 14) (by decide +kernel) rfl rfl ?_
      obtain ⟨g14, h⟩ := gd_gE h
      refine gj_iald _ (pc' := 15) (by decide +kernel) rfl (gd_inv g14) rfl rfl ?_
      refine gv_iconst (n := 1) (v := 1) (pc' := 16) (by decide +kernel) (by decide) rfl ?_
      refine gv_icmp_ne (off := 16) (tgt := 32) (pc' := 19) (by decide +kernel) (by decide) rfl (fun c16 => ?_) (fun c16 => ?_)
      · replace h := gd_F c16 h
        refine gv_iconst (n := 0) (v := 0) (pc' := 33) (by decide +kernel) (by decide) rfl ?_
        exact gv_iret .boolean (by decide +kernel) rfl rfl (by decide) (by decide) (gd_pE h)
      · replace h := gd_T c16 h
        exact gd_ar (gl_s (gl_s gl_z)) (fun _ => rfl) (hJ1  h)
def B_Taint_prepare_41 (ag9 : Int32 → gS → gR) (n_1_7 : Int32) (s8 : gS) : gR :=
 if (gI s8 2 7) ≤ n_1_7 then
  some (.inl none, s8)
 else
  gd_g (gd_in n_1_7 1040) <|
  gd_j (α := Int32 → gR) (fun (v12 : Int32) =>
   gd_g (gd_in n_1_7 1040) <|
   gd_s (gs_A s8 30 n_1_7.toNatClampNeg (vp_nar .boolean 0)) fun s13 =>
   gd_g (gd_in (n_1_7 >>> ((6 : Int32) &&& 31)) 17) <|
   gd_qi (R_Listing_handsOn n_1_7 s13) s13 fun r14 =>
   gd_t (α := Int64) (if r14 = 0 then
     0
    else
     ((1 : Int64) <<< (Int32.toInt64 (n_1_7 &&& (63 : Int32)) &&& 63))) fun v16 =>
   gd_g (gd_in (n_1_7 >>> ((6 : Int32) &&& 31)) 17) <|
   gd_s (gs_L s13 31 (n_1_7 >>> ((6 : Int32) &&& 31)).toNatClampNeg ((gL s13 31 (n_1_7 >>> ((6 : Int32) &&& 31)).toNatClampNeg) ||| v16)) fun s17 =>
   gd_g (gd_in (n_1_7 >>> ((6 : Int32) &&& 31)) 17) <|
   gd_t (α := Int64) (if v12 = 0 then
     0
    else
     ((1 : Int64) <<< (Int32.toInt64 (n_1_7 &&& (63 : Int32)) &&& 63))) fun v19 =>
   gd_g (gd_in (n_1_7 >>> ((6 : Int32) &&& 31)) 17) <|
   gd_s (gs_L s17 32 (n_1_7 >>> ((6 : Int32) &&& 31)).toNatClampNeg ((gL s17 32 (n_1_7 >>> ((6 : Int32) &&& 31)).toNatClampNeg) ||| v19)) fun s20 =>
   ag9 (n_1_7 + 1) s20) fun J10 =>
  if (gA s8 3 n_1_7.toNatClampNeg) = 3 then
   J10 1
  else
   if (gA s8 3 n_1_7.toNatClampNeg) = 4 then
    J10 1
   else
    if (gA s8 3 n_1_7.toNatClampNeg) = 5 then
     J10 1
    else
     gd_qi (R_Listing_isDivision n_1_7 s8) s8 fun r11 =>
     if r11 = 0 then
      J10 0
     else
      J10 1
set_option maxRecDepth 20000 in
theorem L_Taint_prepare_41 (r0 : gQ × gS) (n : Nat) : ∀ (n_1_7 : Int32) (s8 : gS), gd_lp (fun _ _ => none) (B_Taint_prepare_41) n n_1_7 s8 = some r0 → gv_V m_Taint_prepare 1 false 41 [some (.ref 26), some (.int n_1_7), none, none, none, none] [] s8 (gv_is r0.1 r0.2) := by
  refine gd_lpC (fun (ag9 : Int32 → gS → gR) => ∀ (n_1_7 : Int32) (s8 : gS), ag9 n_1_7 s8 = some r0 → gv_V m_Taint_prepare 1 false 41 [some (.ref 26), some (.int n_1_7), none, none, none, none] [] s8 (gv_is r0.1 r0.2)) (fun n_1_7 s8 h => by cases h) (fun ag9 ih n_1_7 s8 h => ?_) n
  unfold B_Taint_prepare_41 at h
  refine gv_iload_n (n := 1) (pc' := 42) (by decide +kernel) rfl rfl ?_
  refine gv_aload_n (n := 0) (pc' := 43) (by decide +kernel) rfl rfl ?_
  refine gv_getr lk_6_42 (by decide +kernel) rfl rfl (pc' := 46) rfl ?_
  refine gv_getj lk_6_56 (by decide +kernel) rfl rfl (pc' := 49) rfl ?_
  refine gv_icmp_ge (off := 120) (tgt := 169) (pc' := 52) (by decide +kernel) (by decide) rfl (fun c49 => ?_) (fun c49 => ?_)
  · replace h := gd_T c49 h
    exact gv_ret (by decide +kernel) rfl (by decide) (by decide) (gd_rE h)
  · replace h := gd_F c49 h
    refine gv_lconst (n := 1) (v := 1) (pc' := 53) (by decide +kernel) (by decide) rfl ?_
    refine gv_iload_n (n := 1) (pc' := 54) (by decide +kernel) rfl rfl ?_
    refine gv_bipush (n := 63) (v := 63) (pc' := 56) (by decide +kernel) (by decide) rfl ?_
    refine gv_iand (pc' := 57) (by decide +kernel) rfl ?_
    refine gv_lshl (pc' := 58) (by decide +kernel) rfl ?_
    refine gv_lstore_n (n := 2) (pc' := 59) (by decide +kernel) (by decide) rfl ?_
    refine gv_aload_n (n := 0) (pc' := 60) (by decide +kernel) rfl rfl ?_
    refine gv_getr lk_6_42 (by decide +kernel) rfl rfl (pc' := 63) rfl ?_
    refine gv_getr lk_6_61 (by decide +kernel) rfl rfl (pc' := 66) rfl ?_
    refine gv_iload_n (n := 1) (pc' := 67) (by decide +kernel) rfl rfl ?_
    obtain ⟨g67, h⟩ := gd_gE h
    refine gj_iald _ (pc' := 68) (by decide +kernel) rfl (gd_inv g67) rfl rfl ?_
    refine gv_istore (n := 4) (pc' := 70) (by decide +kernel) (by decide) rfl ?_
    refine gv_iload (n := 4) (pc' := 72) (by decide +kernel) rfl rfl ?_
    refine gv_iconst (n := 3) (v := 3) (pc' := 73) (by decide +kernel) (by decide) rfl ?_
    refine gd_jC (fun J10 => ∀ (v12 : Int32), J10 v12 = some r0 → gv_V m_Taint_prepare 1 false 104 [some (.ref 26), some (.int n_1_7), some (.long ((1 : Int64) <<< (Int32.toInt64 (n_1_7 &&& (63 : Int32)) &&& 63))), none, none, none] [.int v12] s8 (gv_is r0.1 r0.2)) h (fun v12 h => ?_) (fun J10 hJ10 h => ?_)
    · refine gv_istore (n := 5) (pc' := 106) (by decide +kernel) (by decide) rfl ?_
      refine gv_aload_n (n := 0) (pc' := 107) (by decide +kernel) rfl rfl ?_
      refine gv_getr lk_6_21 (by decide +kernel) rfl rfl (pc' := 110) rfl ?_
      refine gv_iload_n (n := 1) (pc' := 111) (by decide +kernel) rfl rfl ?_
      refine gv_iconst (n := 0) (v := 0) (pc' := 112) (by decide +kernel) (by decide) rfl ?_
      obtain ⟨g112, h⟩ := gd_gE h
      refine gd_zast (pc' := 113) (by decide +kernel) rfl (gd_inv g112) rfl h (fun s13 h => ?_)
      refine gv_aload_n (n := 0) (pc' := 114) (by decide +kernel) rfl rfl ?_
      refine gv_getr lk_6_25 (by decide +kernel) rfl rfl (pc' := 117) rfl ?_
      refine gv_iload_n (n := 1) (pc' := 118) (by decide +kernel) rfl rfl ?_
      refine gv_bipush (n := 6) (v := 6) (pc' := 120) (by decide +kernel) (by decide) rfl ?_
      refine gv_ishr (pc' := 121) (by decide +kernel) rfl ?_
      refine gv_dup2_11 (pc' := 122) (by decide +kernel) rfl rfl rfl ?_
      obtain ⟨g122, h⟩ := gd_gE h
      refine gj_lald _ (pc' := 123) (by decide +kernel) rfl (gd_inv g122) rfl rfl ?_
      refine gv_aload_n (n := 0) (pc' := 124) (by decide +kernel) rfl rfl ?_
      refine gv_getr lk_6_42 (by decide +kernel) rfl rfl (pc' := 127) rfl ?_
      refine gv_iload_n (n := 1) (pc' := 128) (by decide +kernel) rfl rfl ?_
      refine gd_dvi (w' := false) (pc' := 131) (X_Listing_handsOn _ _) h md_Listing_handsOn vd_Listing_handsOn (Or.inl ml_6_90) (by decide +kernel) (by decide) rfl rfl rfl (Nat.le_of_ble_eq_true rfl) (Nat.le_of_ble_eq_true rfl) (by decide) rfl (fun z => by cases z) (by decide) rfl (fun r14 h => ?_)
      refine gd_tC (fun (v16 : Int64) => gv_V m_Taint_prepare 1 false 139 [some (.ref 26), some (.int n_1_7), some (.long ((1 : Int64) <<< (Int32.toInt64 (n_1_7 &&& (63 : Int32)) &&& 63))), none, none, some (.int v12)] [.long v16, .long (gL s13 31 (n_1_7 >>> ((6 : Int32) &&& 31)).toNatClampNeg), .int (n_1_7 >>> ((6 : Int32) &&& 31)), .ref 31] s13 (gv_is r0.1 r0.2)) h (fun v16 h => ?_) (fun KJ15 hJ15 h => ?_)
      · refine gv_lor (pc' := 140) (by decide +kernel) rfl ?_
        obtain ⟨g140, h⟩ := gd_gE h
        refine gd_last (pc' := 141) (by decide +kernel) rfl (gd_inv g140) rfl h (fun s17 h => ?_)
        refine gv_aload_n (n := 0) (pc' := 142) (by decide +kernel) rfl rfl ?_
        refine gv_getr lk_6_29 (by decide +kernel) rfl rfl (pc' := 145) rfl ?_
        refine gv_iload_n (n := 1) (pc' := 146) (by decide +kernel) rfl rfl ?_
        refine gv_bipush (n := 6) (v := 6) (pc' := 148) (by decide +kernel) (by decide) rfl ?_
        refine gv_ishr (pc' := 149) (by decide +kernel) rfl ?_
        refine gv_dup2_11 (pc' := 150) (by decide +kernel) rfl rfl rfl ?_
        obtain ⟨g150, h⟩ := gd_gE h
        refine gj_lald _ (pc' := 151) (by decide +kernel) rfl (gd_inv g150) rfl rfl ?_
        refine gv_iload (n := 5) (pc' := 153) (by decide +kernel) rfl rfl ?_
        refine gd_tC (fun (v19 : Int64) => gv_V m_Taint_prepare 1 false 161 [some (.ref 26), some (.int n_1_7), none, none, none, none] [.long v19, .long (gL s17 32 (n_1_7 >>> ((6 : Int32) &&& 31)).toNatClampNeg), .int (n_1_7 >>> ((6 : Int32) &&& 31)), .ref 32] s17 (gv_is r0.1 r0.2)) h (fun v19 h => ?_) (fun KJ18 hJ18 h => ?_)
        · refine gv_lor (pc' := 162) (by decide +kernel) rfl ?_
          obtain ⟨g162, h⟩ := gd_gE h
          refine gd_last (pc' := 163) (by decide +kernel) rfl (gd_inv g162) rfl h (fun s20 h => ?_)
          refine gv_iincc (i := 1) (n := 1) (c := 1) (pc' := 166) (by decide +kernel) rfl (by decide) (by decide) rfl ?_
          refine gv_goto (off := -125) (tgt := 41) (by decide +kernel) (by decide) ?_
          exact gd_ar (gl_s (gl_s (gl_n (gl_n (gl_n (gl_n gl_z)))))) (fun z => by cases z) (ih _ _ h)
        · refine gv_if_eq (off := 7) (tgt := 160) (pc' := 156) (by decide +kernel) (by decide) rfl (fun c153 => ?_) (fun c153 => ?_)
          · replace h := gd_tT c153 h
            refine gv_lconst (n := 0) (v := 0) (pc' := 161) (by decide +kernel) (by decide) rfl ?_
            exact gd_ar (gl_s (gl_s (gl_n (gl_n (gl_n (gl_n gl_z)))))) (fun z => by cases z) (hJ18 _ h)
          · replace h := gd_tF c153 h
            refine gv_lload_n (n := 2) (pc' := 157) (by decide +kernel) rfl rfl ?_
            refine gv_goto (off := 4) (tgt := 161) (by decide +kernel) (by decide) ?_
            exact gd_ar (gl_s (gl_s (gl_n (gl_n (gl_n (gl_n gl_z)))))) (fun z => by cases z) (hJ18 _ h)
      · refine gv_if_eq (off := 7) (tgt := 138) (pc' := 134) (by decide +kernel) (by decide) rfl (fun c131 => ?_) (fun c131 => ?_)
        · replace h := gd_tT c131 h
          refine gv_lconst (n := 0) (v := 0) (pc' := 139) (by decide +kernel) (by decide) rfl ?_
          exact gd_ar (gl_s (gl_s (gl_s (gl_n (gl_n (gl_s gl_z)))))) (fun z => by cases z) (hJ15 _ h)
        · replace h := gd_tF c131 h
          refine gv_lload_n (n := 2) (pc' := 135) (by decide +kernel) rfl rfl ?_
          refine gv_goto (off := 4) (tgt := 139) (by decide +kernel) (by decide) ?_
          exact gd_ar (gl_s (gl_s (gl_s (gl_n (gl_n (gl_s gl_z)))))) (fun z => by cases z) (hJ15 _ h)
    · refine gv_icmp_eq (off := 26) (tgt := 99) (pc' := 76) (by decide +kernel) (by decide) rfl (fun c73 => ?_) (fun c73 => ?_)
      · replace h := gd_T c73 h
        refine gv_iconst (n := 1) (v := 1) (pc' := 100) (by decide +kernel) (by decide) rfl ?_
        refine gv_goto (off := 4) (tgt := 104) (by decide +kernel) (by decide) ?_
        exact gd_ar (gl_s (gl_s (gl_s (gl_n (gl_n (gl_n gl_z)))))) (fun z => by cases z) (hJ10 _ h)
      · replace h := gd_F c73 h
        refine gv_iload (n := 4) (pc' := 78) (by decide +kernel) rfl rfl ?_
        refine gv_iconst (n := 4) (v := 4) (pc' := 79) (by decide +kernel) (by decide) rfl ?_
        refine gv_icmp_eq (off := 20) (tgt := 99) (pc' := 82) (by decide +kernel) (by decide) rfl (fun c79 => ?_) (fun c79 => ?_)
        · replace h := gd_T c79 h
          refine gv_iconst (n := 1) (v := 1) (pc' := 100) (by decide +kernel) (by decide) rfl ?_
          refine gv_goto (off := 4) (tgt := 104) (by decide +kernel) (by decide) ?_
          exact gd_ar (gl_s (gl_s (gl_s (gl_n (gl_n (gl_n gl_z)))))) (fun z => by cases z) (hJ10 _ h)
        · replace h := gd_F c79 h
          refine gv_iload (n := 4) (pc' := 84) (by decide +kernel) rfl rfl ?_
          refine gv_iconst (n := 5) (v := 5) (pc' := 85) (by decide +kernel) (by decide) rfl ?_
          refine gv_icmp_eq (off := 14) (tgt := 99) (pc' := 88) (by decide +kernel) (by decide) rfl (fun c85 => ?_) (fun c85 => ?_)
          · replace h := gd_T c85 h
            refine gv_iconst (n := 1) (v := 1) (pc' := 100) (by decide +kernel) (by decide) rfl ?_
            refine gv_goto (off := 4) (tgt := 104) (by decide +kernel) (by decide) ?_
            exact gd_ar (gl_s (gl_s (gl_s (gl_n (gl_n (gl_n gl_z)))))) (fun z => by cases z) (hJ10 _ h)
          · replace h := gd_F c85 h
            refine gv_aload_n (n := 0) (pc' := 89) (by decide +kernel) rfl rfl ?_
            refine gv_getr lk_6_42 (by decide +kernel) rfl rfl (pc' := 92) rfl ?_
            refine gv_iload_n (n := 1) (pc' := 93) (by decide +kernel) rfl rfl ?_
            refine gd_dvi (w' := false) (pc' := 96) (X_Listing_isDivision _ _) h md_Listing_isDivision vd_Listing_isDivision (Or.inl ml_6_86) (by decide +kernel) (by decide) rfl rfl rfl (Nat.le_of_ble_eq_true rfl) (Nat.le_of_ble_eq_true rfl) (by decide) rfl (fun z => by cases z) (by decide) rfl (fun r11 h => ?_)
            refine gv_if_eq (off := 7) (tgt := 103) (pc' := 99) (by decide +kernel) (by decide) rfl (fun c96 => ?_) (fun c96 => ?_)
            · replace h := gd_T c96 h
              refine gv_iconst (n := 0) (v := 0) (pc' := 104) (by decide +kernel) (by decide) rfl ?_
              exact gd_ar (gl_s (gl_s (gl_s (gl_n (gl_n (gl_n gl_z)))))) (fun z => by cases z) (hJ10 _ h)
            · replace h := gd_F c96 h
              refine gv_iconst (n := 1) (v := 1) (pc' := 100) (by decide +kernel) (by decide) rfl ?_
              refine gv_goto (off := 4) (tgt := 104) (by decide +kernel) (by decide) ?_
              exact gd_ar (gl_s (gl_s (gl_s (gl_n (gl_n (gl_n gl_z)))))) (fun z => by cases z) (hJ10 _ h)
def F_Taint_prepare (σ : gS) : gR :=
 gd_s (gs_I σ 26 8 0) fun s1 =>
 gd_s (gs_I s1 26 9 0) fun s2 =>
 gd_s (gs_I s2 26 10 0) fun s3 =>
 gd_s (gs_row s3 27 (f_fill (gA s3 27) 0 1040 0)) fun s4 =>
 gd_s (gs_rowL s4 31 (f_fillL (gL s4 31) 0 17 0)) fun s5 =>
 gd_s (gs_rowL s5 32 (f_fillL (gL s5 32) 0 17 0)) fun s6 =>
 gd_lp (fun _ _ => none) (B_Taint_prepare_41) gd_N 0 s6
set_option maxRecDepth 20000 in
theorem X_Taint_prepare (σ : gS) (r0 : gQ × gS) (h : F_Taint_prepare σ = some r0) : gv_K m_Taint_prepare [.ref 26] σ (gv_is r0.1 r0.2) := by
  unfold F_Taint_prepare at h
  show gv_V m_Taint_prepare 1 true 0 [some (.ref 26), none, none, none, none, none] [] σ (gv_is r0.1 r0.2)
  refine gv_aload_n (n := 0) (pc' := 1) (by decide +kernel) rfl rfl ?_
  refine gv_iconst (n := 0) (v := 0) (pc' := 2) (by decide +kernel) (by decide) rfl ?_
  refine gd_puti lp_6_32 (by decide +kernel) rfl rfl rfl rfl (pc' := 5) rfl h (fun s1 h => ?_)
  refine gv_aload_n (n := 0) (pc' := 6) (by decide +kernel) rfl rfl ?_
  refine gv_iconst (n := 0) (v := 0) (pc' := 7) (by decide +kernel) (by decide) rfl ?_
  refine gd_puti lp_6_36 (by decide +kernel) rfl rfl rfl rfl (pc' := 10) rfl h (fun s2 h => ?_)
  refine gv_aload_n (n := 0) (pc' := 11) (by decide +kernel) rfl rfl ?_
  refine gv_iconst (n := 0) (v := 0) (pc' := 12) (by decide +kernel) (by decide) rfl ?_
  refine gd_puti lp_6_39 (by decide +kernel) rfl rfl rfl rfl (pc' := 15) rfl h (fun s3 h => ?_)
  refine gv_aload_n (n := 0) (pc' := 16) (by decide +kernel) rfl rfl ?_
  refine gv_getr lk_6_9 (by decide +kernel) rfl rfl (pc' := 19) rfl ?_
  refine gv_iconst (n := 0) (v := 0) (pc' := 20) (by decide +kernel) (by decide) rfl ?_
  refine gd_cs0s (w' := false) (pc' := 23) (c_A_fill_aII 27 1040 _ _ rfl (by decide)) md_A_fill_aII sd_A_fill_aII (Or.inl ml_6_77) (by decide +kernel) (by decide) rfl (Nat.le_of_ble_eq_true rfl) (Nat.le_of_ble_eq_true rfl) (by decide) rfl (fun z => by cases z) (by decide) rfl h (fun s4 h => ?_)
  refine gv_aload_n (n := 0) (pc' := 24) (by decide +kernel) rfl rfl ?_
  refine gv_getr lk_6_25 (by decide +kernel) rfl rfl (pc' := 27) rfl ?_
  refine gv_lconst (n := 0) (v := 0) (pc' := 28) (by decide +kernel) (by decide) rfl ?_
  refine gd_cs0s (w' := false) (pc' := 31) (c_A_fill_aJJ 31 17 _ _ rfl (by decide)) md_A_fill_aJJ sd_A_fill_aJJ (Or.inl ml_6_83) (by decide +kernel) (by decide) rfl (Nat.le_of_ble_eq_true rfl) (Nat.le_of_ble_eq_true rfl) (by decide) rfl (fun z => by cases z) (by decide) rfl h (fun s5 h => ?_)
  refine gv_aload_n (n := 0) (pc' := 32) (by decide +kernel) rfl rfl ?_
  refine gv_getr lk_6_29 (by decide +kernel) rfl rfl (pc' := 35) rfl ?_
  refine gv_lconst (n := 0) (v := 0) (pc' := 36) (by decide +kernel) (by decide) rfl ?_
  refine gd_cs0s (w' := false) (pc' := 39) (c_A_fill_aJJ 32 17 _ _ rfl (by decide)) md_A_fill_aJJ sd_A_fill_aJJ (Or.inl ml_6_83) (by decide +kernel) (by decide) rfl (Nat.le_of_ble_eq_true rfl) (Nat.le_of_ble_eq_true rfl) (by decide) rfl (fun z => by cases z) (by decide) rfl h (fun s6 h => ?_)
  refine gv_iconst (n := 0) (v := 0) (pc' := 40) (by decide +kernel) (by decide) rfl ?_
  refine gv_istore_n (n := 1) (pc' := 41) (by decide +kernel) (by decide) rfl ?_
  exact gd_ar (gl_s (gl_s (gl_n (gl_n (gl_n (gl_n gl_z)))))) (fun z => by cases z) (L_Taint_prepare_41 r0 _ _ _ h)
def R_Listing_nextBehind (a : Int32) (σ : gS) : gP :=
 gd_g (gd_in a 1040) <|
 gd_j (α := Int32 → gP) (fun (v2 : Int32) =>
  if v2 = 0 then
   if (a + (1 : Int32)) < (gI σ 2 7) then
    some (.inl (some (.int (a + (1 : Int32)))))
   else
    some (.inl (some (.int (-1))))
  else
   some (.inl (some (.int (-1))))) fun J1 =>
 if (gA σ 3 a.toNatClampNeg) = 6 then
  J1 1
 else
  gd_g (gd_in a 1040) <|
  if (gA σ 3 a.toNatClampNeg) = 8 then
   J1 1
  else
   J1 0
set_option maxRecDepth 20000 in
theorem X_Listing_nextBehind (a : Int32) (σ : gS) (r0 : gQ) (h : R_Listing_nextBehind a σ = some r0) : gv_K m_Listing_nextBehind [.ref 2, .int a] σ (gv_is r0 σ) := by
  unfold R_Listing_nextBehind at h
  show gv_V m_Listing_nextBehind 1 true 0 [some (.ref 2), some (.int a), none] [] σ (gv_is r0 σ)
  refine gv_aload_n (n := 0) (pc' := 1) (by decide +kernel) rfl rfl ?_
  refine gv_getr lk_1_9 (by decide +kernel) rfl rfl (pc' := 4) rfl ?_
  refine gv_iload_n (n := 1) (pc' := 5) (by decide +kernel) rfl rfl ?_
  obtain ⟨g5, h⟩ := gd_gE h
  refine gj_iald _ (pc' := 6) (by decide +kernel) rfl (gd_inv g5) rfl rfl ?_
  refine gv_bipush (n := 6) (v := 6) (pc' := 8) (by decide +kernel) (by decide) rfl ?_
  refine gd_jC (fun J1 => ∀ (v2 : Int32), J1 v2 = some r0 → gv_V m_Listing_nextBehind 1 true 27 [some (.ref 2), some (.int a), none] [.int v2] σ (gv_is r0 σ)) h (fun v2 h => ?_) (fun J1 hJ1 h => ?_)
  · refine gv_istore_n (n := 2) (pc' := 28) (by decide +kernel) (by decide) rfl ?_
    refine gv_iload_n (n := 2) (pc' := 29) (by decide +kernel) rfl rfl ?_
    refine gv_if_ne (off := 13) (tgt := 42) (pc' := 32) (by decide +kernel) (by decide) rfl (fun c29 => ?_) (fun c29 => ?_)
    · replace h := gd_F c29 h
      refine gv_iconst (n := (-1)) (v := (-1)) (pc' := 43) (by decide +kernel) (by decide) rfl ?_
      refine gv_goto (off := 6) (tgt := 49) (by decide +kernel) (by decide) ?_
      exact gv_iret .int (by decide +kernel) rfl rfl (by decide) (by decide) (gd_pE h)
    · replace h := gd_T c29 h
      refine gv_iload_n (n := 1) (pc' := 33) (by decide +kernel) rfl rfl ?_
      refine gv_iconst (n := 1) (v := 1) (pc' := 34) (by decide +kernel) (by decide) rfl ?_
      refine gv_iadd (pc' := 35) (by decide +kernel) rfl ?_
      refine gv_aload_n (n := 0) (pc' := 36) (by decide +kernel) rfl rfl ?_
      refine gv_getj lk_1_33 (by decide +kernel) rfl rfl (pc' := 39) rfl ?_
      refine gv_icmp_lt (off := 7) (tgt := 46) (pc' := 42) (by decide +kernel) (by decide) rfl (fun c39 => ?_) (fun c39 => ?_)
      · replace h := gd_T c39 h
        refine gv_iload_n (n := 1) (pc' := 47) (by decide +kernel) rfl rfl ?_
        refine gv_iconst (n := 1) (v := 1) (pc' := 48) (by decide +kernel) (by decide) rfl ?_
        refine gv_iadd (pc' := 49) (by decide +kernel) rfl ?_
        exact gv_iret .int (by decide +kernel) rfl rfl (by decide) (by decide) (gd_pE h)
      · replace h := gd_F c39 h
        refine gv_iconst (n := (-1)) (v := (-1)) (pc' := 43) (by decide +kernel) (by decide) rfl ?_
        refine gv_goto (off := 6) (tgt := 49) (by decide +kernel) (by decide) ?_
        exact gv_iret .int (by decide +kernel) rfl rfl (by decide) (by decide) (gd_pE h)
  · refine gv_icmp_eq (off := 14) (tgt := 22) (pc' := 11) (by decide +kernel) (by decide) rfl (fun c8 => ?_) (fun c8 => ?_)
    · replace h := gd_T c8 h
      refine gv_iconst (n := 1) (v := 1) (pc' := 23) (by decide +kernel) (by decide) rfl ?_
      refine gv_goto (off := 4) (tgt := 27) (by decide +kernel) (by decide) ?_
      exact gd_ar (gl_s (gl_s (gl_n gl_z))) (fun _ => rfl) (hJ1 _ h)
    · replace h := gd_F c8 h
      refine gv_aload_n (n := 0) (pc' := 12) (by decide +kernel) rfl rfl ?_
      refine gv_getr lk_1_9 (by decide +kernel) rfl rfl (pc' := 15) rfl ?_
      refine gv_iload_n (n := 1) (pc' := 16) (by decide +kernel) rfl rfl ?_
      obtain ⟨g16, h⟩ := gd_gE h
      refine gj_iald _ (pc' := 17) (by decide +kernel) rfl (gd_inv g16) rfl rfl ?_
      refine gv_bipush (n := 8) (v := 8) (pc' := 19) (by decide +kernel) (by decide) rfl ?_
      refine gv_icmp_ne (off := 7) (tgt := 26) (pc' := 22) (by decide +kernel) (by decide) rfl (fun c19 => ?_) (fun c19 => ?_)
      · replace h := gd_F c19 h
        refine gv_iconst (n := 0) (v := 0) (pc' := 27) (by decide +kernel) (by decide) rfl ?_
        exact gd_ar (gl_s (gl_s (gl_n gl_z))) (fun _ => rfl) (hJ1 _ h)
      · replace h := gd_T c19 h
        refine gv_iconst (n := 1) (v := 1) (pc' := 23) (by decide +kernel) (by decide) rfl ?_
        refine gv_goto (off := 4) (tgt := 27) (by decide +kernel) (by decide) ?_
        exact gd_ar (gl_s (gl_s (gl_n gl_z))) (fun _ => rfl) (hJ1 _ h)
def F_Taint_addGuessed (a : Int32) (σ : gS) : gR :=
 if a = (-1) then
  some (.inl none, σ)
 else
  gd_g (gd_in a 1040) <|
  if ((gA σ 27 a.toNatClampNeg) &&& (1 : Int32)) = 0 then
   gd_g (gd_in a 1040) <|
   gd_g (gd_in a 1040) <|
   gd_s (gs_A σ 27 a.toNatClampNeg ((gA σ 27 a.toNatClampNeg) ||| (1 : Int32))) fun s1 =>
   gd_g (gd_in (gI s1 26 8) 1040) <|
   gd_s (gs_A s1 28 (gI s1 26 8).toNatClampNeg a) fun s2 =>
   gd_s (gs_I s2 26 8 ((gI s2 26 8) + (1 : Int32))) fun s3 =>
   some (.inl none, s3)
  else
   some (.inl none, σ)
set_option maxRecDepth 20000 in
theorem X_Taint_addGuessed (a : Int32) (σ : gS) (r0 : gQ × gS) (h : F_Taint_addGuessed a σ = some r0) : gv_K m_Taint_addGuessed [.ref 26, .int a] σ (gv_is r0.1 r0.2) := by
  unfold F_Taint_addGuessed at h
  show gv_V m_Taint_addGuessed 1 true 0 [some (.ref 26), some (.int a)] [] σ (gv_is r0.1 r0.2)
  refine gv_iload_n (n := 1) (pc' := 1) (by decide +kernel) rfl rfl ?_
  refine gv_iconst (n := (-1)) (v := (-1)) (pc' := 2) (by decide +kernel) (by decide) rfl ?_
  refine gv_icmp_eq (off := 44) (tgt := 46) (pc' := 5) (by decide +kernel) (by decide) rfl (fun c2 => ?_) (fun c2 => ?_)
  · replace h := gd_T c2 h
    exact gv_ret (by decide +kernel) rfl (by decide) (by decide) (gd_rE h)
  · replace h := gd_F c2 h
    refine gv_aload_n (n := 0) (pc' := 6) (by decide +kernel) rfl rfl ?_
    refine gv_getr lk_6_9 (by decide +kernel) rfl rfl (pc' := 9) rfl ?_
    refine gv_iload_n (n := 1) (pc' := 10) (by decide +kernel) rfl rfl ?_
    obtain ⟨g10, h⟩ := gd_gE h
    refine gj_iald _ (pc' := 11) (by decide +kernel) rfl (gd_inv g10) rfl rfl ?_
    refine gv_iconst (n := 1) (v := 1) (pc' := 12) (by decide +kernel) (by decide) rfl ?_
    refine gv_iand (pc' := 13) (by decide +kernel) rfl ?_
    refine gv_if_ne (off := 33) (tgt := 46) (pc' := 16) (by decide +kernel) (by decide) rfl (fun c13 => ?_) (fun c13 => ?_)
    · replace h := gd_F c13 h
      exact gv_ret (by decide +kernel) rfl (by decide) (by decide) (gd_rE h)
    · replace h := gd_T c13 h
      refine gv_aload_n (n := 0) (pc' := 17) (by decide +kernel) rfl rfl ?_
      refine gv_getr lk_6_9 (by decide +kernel) rfl rfl (pc' := 20) rfl ?_
      refine gv_iload_n (n := 1) (pc' := 21) (by decide +kernel) rfl rfl ?_
      refine gv_dup2_11 (pc' := 22) (by decide +kernel) rfl rfl rfl ?_
      obtain ⟨g22, h⟩ := gd_gE h
      refine gj_iald _ (pc' := 23) (by decide +kernel) rfl (gd_inv g22) rfl rfl ?_
      refine gv_iconst (n := 1) (v := 1) (pc' := 24) (by decide +kernel) (by decide) rfl ?_
      refine gv_ior (pc' := 25) (by decide +kernel) rfl ?_
      obtain ⟨g25, h⟩ := gd_gE h
      refine gd_iast (pc' := 26) (by decide +kernel) rfl (gd_inv g25) rfl h (fun s1 h => ?_)
      refine gv_aload_n (n := 0) (pc' := 27) (by decide +kernel) rfl rfl ?_
      refine gv_getr lk_6_15 (by decide +kernel) rfl rfl (pc' := 30) rfl ?_
      refine gv_aload_n (n := 0) (pc' := 31) (by decide +kernel) rfl rfl ?_
      refine gv_getj lk_6_32 (by decide +kernel) rfl rfl (pc' := 34) rfl ?_
      refine gv_iload_n (n := 1) (pc' := 35) (by decide +kernel) rfl rfl ?_
      obtain ⟨g35, h⟩ := gd_gE h
      refine gd_iast (pc' := 36) (by decide +kernel) rfl (gd_inv g35) rfl h (fun s2 h => ?_)
      refine gv_aload_n (n := 0) (pc' := 37) (by decide +kernel) rfl rfl ?_
      refine gv_dup (pc' := 38) (by decide +kernel) rfl rfl ?_
      refine gv_getj lk_6_32 (by decide +kernel) rfl rfl (pc' := 41) rfl ?_
      refine gv_iconst (n := 1) (v := 1) (pc' := 42) (by decide +kernel) (by decide) rfl ?_
      refine gv_iadd (pc' := 43) (by decide +kernel) rfl ?_
      refine gd_puti lp_6_32 (by decide +kernel) rfl rfl rfl rfl (pc' := 46) rfl h (fun s3 h => ?_)
      exact gv_ret (by decide +kernel) rfl (by decide) (by decide) (gd_rE h)
def R_Listing_nextAside (a : Int32) (σ : gS) : gP :=
 gd_g (gd_in a 1040) <|
 if (gI σ 2 7) ≤ (gA σ 9 a.toNatClampNeg) then
  some (.inl (some (.int (-1))))
 else
  gd_g (gd_in a 1040) <|
  some (.inl (some (.int (gA σ 9 a.toNatClampNeg))))
set_option maxRecDepth 20000 in
theorem X_Listing_nextAside (a : Int32) (σ : gS) (r0 : gQ) (h : R_Listing_nextAside a σ = some r0) : gv_K m_Listing_nextAside [.ref 2, .int a] σ (gv_is r0 σ) := by
  unfold R_Listing_nextAside at h
  show gv_V m_Listing_nextAside 1 true 0 [some (.ref 2), some (.int a)] [] σ (gv_is r0 σ)
  refine gv_aload_n (n := 0) (pc' := 1) (by decide +kernel) rfl rfl ?_
  refine gv_getr lk_1_30 (by decide +kernel) rfl rfl (pc' := 4) rfl ?_
  refine gv_iload_n (n := 1) (pc' := 5) (by decide +kernel) rfl rfl ?_
  obtain ⟨g5, h⟩ := gd_gE h
  refine gj_iald _ (pc' := 6) (by decide +kernel) rfl (gd_inv g5) rfl rfl ?_
  refine gv_aload_n (n := 0) (pc' := 7) (by decide +kernel) rfl rfl ?_
  refine gv_getj lk_1_33 (by decide +kernel) rfl rfl (pc' := 10) rfl ?_
  refine gv_icmp_ge (off := 12) (tgt := 22) (pc' := 13) (by decide +kernel) (by decide) rfl (fun c10 => ?_) (fun c10 => ?_)
  · replace h := gd_T c10 h
    refine gv_iconst (n := (-1)) (v := (-1)) (pc' := 23) (by decide +kernel) (by decide) rfl ?_
    exact gv_iret .int (by decide +kernel) rfl rfl (by decide) (by decide) (gd_pE h)
  · replace h := gd_F c10 h
    refine gv_aload_n (n := 0) (pc' := 14) (by decide +kernel) rfl rfl ?_
    refine gv_getr lk_1_30 (by decide +kernel) rfl rfl (pc' := 17) rfl ?_
    refine gv_iload_n (n := 1) (pc' := 18) (by decide +kernel) rfl rfl ?_
    obtain ⟨g18, h⟩ := gd_gE h
    refine gj_iald _ (pc' := 19) (by decide +kernel) rfl (gd_inv g18) rfl rfl ?_
    refine gv_goto (off := 4) (tgt := 23) (by decide +kernel) (by decide) ?_
    exact gv_iret .int (by decide +kernel) rfl rfl (by decide) (by decide) (gd_pE h)
def F_Taint_addGuessedNexts (a : Int32) (σ : gS) : gR :=
 gd_qi (R_Listing_nextBehind a σ) σ fun r1 =>
 gd_0 (F_Taint_addGuessed r1 σ) fun s2 =>
 gd_qi (R_Listing_nextAside a s2) s2 fun r3 =>
 gd_0 (F_Taint_addGuessed r3 s2) fun s4 =>
 some (.inl none, s4)
set_option maxRecDepth 20000 in
theorem X_Taint_addGuessedNexts (a : Int32) (σ : gS) (r0 : gQ × gS) (h : F_Taint_addGuessedNexts a σ = some r0) : gv_K m_Taint_addGuessedNexts [.ref 26, .int a] σ (gv_is r0.1 r0.2) := by
  unfold F_Taint_addGuessedNexts at h
  show gv_V m_Taint_addGuessedNexts 1 true 0 [some (.ref 26), some (.int a)] [] σ (gv_is r0.1 r0.2)
  refine gv_aload_n (n := 0) (pc' := 1) (by decide +kernel) rfl rfl ?_
  refine gv_aload_n (n := 0) (pc' := 2) (by decide +kernel) rfl rfl ?_
  refine gv_getr lk_6_42 (by decide +kernel) rfl rfl (pc' := 5) rfl ?_
  refine gv_iload_n (n := 1) (pc' := 6) (by decide +kernel) rfl rfl ?_
  refine gd_dvi (w' := true) (pc' := 9) (X_Listing_nextBehind _ _) h md_Listing_nextBehind vd_Listing_nextBehind (Or.inl ml_6_96) (by decide +kernel) (by decide) rfl rfl rfl (Nat.le_of_ble_eq_true rfl) (Nat.le_of_ble_eq_true rfl) (by decide) rfl (fun z => ⟨rfl, z⟩) (by decide) rfl (fun r1 h => ?_)
  refine gd_cv0 (w' := false) (pc' := 12) (X_Taint_addGuessed _ _) h md_Taint_addGuessed vd_Taint_addGuessed (Or.inl ml_6_100) (by decide +kernel) (by decide) rfl rfl rfl (Nat.le_of_ble_eq_true rfl) (Nat.le_of_ble_eq_true rfl) (by decide) rfl (fun z => by cases z) (by decide) rfl (fun s2 h => ?_)
  refine gv_aload_n (n := 0) (pc' := 13) (by decide +kernel) rfl rfl ?_
  refine gv_aload_n (n := 0) (pc' := 14) (by decide +kernel) rfl rfl ?_
  refine gv_getr lk_6_42 (by decide +kernel) rfl rfl (pc' := 17) rfl ?_
  refine gv_iload_n (n := 1) (pc' := 18) (by decide +kernel) rfl rfl ?_
  refine gd_dvi (w' := false) (pc' := 21) (X_Listing_nextAside _ _) h md_Listing_nextAside vd_Listing_nextAside (Or.inl ml_6_103) (by decide +kernel) (by decide) rfl rfl rfl (Nat.le_of_ble_eq_true rfl) (Nat.le_of_ble_eq_true rfl) (by decide) rfl (fun z => by cases z) (by decide) rfl (fun r3 h => ?_)
  refine gd_cv0 (w' := false) (pc' := 24) (X_Taint_addGuessed _ _) h md_Taint_addGuessed vd_Taint_addGuessed (Or.inl ml_6_100) (by decide +kernel) (by decide) rfl rfl rfl (Nat.le_of_ble_eq_true rfl) (Nat.le_of_ble_eq_true rfl) (by decide) rfl (fun z => by cases z) (by decide) rfl (fun s4 h => ?_)
  exact gv_ret (by decide +kernel) rfl (by decide) (by decide) (gd_rE h)
def B_Taint_markGuessed_39 (ag11 : Int32 → gS → gR) (n_1_9 : Int32) (s10 : gS) : gR :=
 if (gI s10 26 8) ≤ n_1_9 then
  some (.inl none, s10)
 else
  if 1040 ≤ n_1_9 then
   some (.inl none, s10)
  else
   gd_g (gd_in n_1_9 1040) <|
   gd_g (gd_in (gA s10 28 n_1_9.toNatClampNeg) 1040) <|
   gd_j (α := gS → gR) (fun (s14 : gS) =>
    ag11 (n_1_9 + 1) s14) fun J12 =>
   if (gA s10 3 (gA s10 28 n_1_9.toNatClampNeg).toNatClampNeg) = 7 then
    J12 s10
   else
    gd_g (gd_in n_1_9 1040) <|
    gd_0 (F_Taint_addGuessedNexts (gA s10 28 n_1_9.toNatClampNeg) s10) fun s13 =>
    J12 s13
set_option maxRecDepth 20000 in
theorem L_Taint_markGuessed_39 (r0 : gQ × gS) (n : Nat) : ∀ (n_1_9 : Int32) (s10 : gS), gd_lp (fun _ _ => none) (B_Taint_markGuessed_39) n n_1_9 s10 = some r0 → gv_V m_Taint_markGuessed 1 false 39 [some (.ref 26), some (.int n_1_9)] [] s10 (gv_is r0.1 r0.2) := by
  refine gd_lpC (fun (ag11 : Int32 → gS → gR) => ∀ (n_1_9 : Int32) (s10 : gS), ag11 n_1_9 s10 = some r0 → gv_V m_Taint_markGuessed 1 false 39 [some (.ref 26), some (.int n_1_9)] [] s10 (gv_is r0.1 r0.2)) (fun n_1_9 s10 h => by cases h) (fun ag11 ih n_1_9 s10 h => ?_) n
  unfold B_Taint_markGuessed_39 at h
  refine gv_iload_n (n := 1) (pc' := 40) (by decide +kernel) rfl rfl ?_
  refine gv_aload_n (n := 0) (pc' := 41) (by decide +kernel) rfl rfl ?_
  refine gv_getj lk_6_32 (by decide +kernel) rfl rfl (pc' := 44) rfl ?_
  refine gv_icmp_ge (off := 45) (tgt := 89) (pc' := 47) (by decide +kernel) (by decide) rfl (fun c44 => ?_) (fun c44 => ?_)
  · replace h := gd_T c44 h
    exact gv_ret (by decide +kernel) rfl (by decide) (by decide) (gd_rE h)
  · replace h := gd_F c44 h
    refine gv_iload_n (n := 1) (pc' := 48) (by decide +kernel) rfl rfl ?_
    refine gv_sipush (n := 1040) (v := 1040) (pc' := 51) (by decide +kernel) (by decide) rfl ?_
    refine gv_icmp_ge (off := 38) (tgt := 89) (pc' := 54) (by decide +kernel) (by decide) rfl (fun c51 => ?_) (fun c51 => ?_)
    · replace h := gd_T c51 h
      exact gv_ret (by decide +kernel) rfl (by decide) (by decide) (gd_rE h)
    · replace h := gd_F c51 h
      refine gv_aload_n (n := 0) (pc' := 55) (by decide +kernel) rfl rfl ?_
      refine gv_getr lk_6_42 (by decide +kernel) rfl rfl (pc' := 58) rfl ?_
      refine gv_getr lk_6_61 (by decide +kernel) rfl rfl (pc' := 61) rfl ?_
      refine gv_aload_n (n := 0) (pc' := 62) (by decide +kernel) rfl rfl ?_
      refine gv_getr lk_6_15 (by decide +kernel) rfl rfl (pc' := 65) rfl ?_
      refine gv_iload_n (n := 1) (pc' := 66) (by decide +kernel) rfl rfl ?_
      obtain ⟨g66, h⟩ := gd_gE h
      refine gj_iald _ (pc' := 67) (by decide +kernel) rfl (gd_inv g66) rfl rfl ?_
      obtain ⟨g67, h⟩ := gd_gE h
      refine gj_iald _ (pc' := 68) (by decide +kernel) rfl (gd_inv g67) rfl rfl ?_
      refine gv_bipush (n := 7) (v := 7) (pc' := 70) (by decide +kernel) (by decide) rfl ?_
      refine gd_jC (fun J12 => ∀ (s14 : gS), J12 s14 = some r0 → gv_V m_Taint_markGuessed 1 false 83 [some (.ref 26), some (.int n_1_9)] [] s14 (gv_is r0.1 r0.2)) h (fun s14 h => ?_) (fun J12 hJ12 h => ?_)
      · refine gv_iincc (i := 1) (n := 1) (c := 1) (pc' := 86) (by decide +kernel) rfl (by decide) (by decide) rfl ?_
        refine gv_goto (off := -47) (tgt := 39) (by decide +kernel) (by decide) ?_
        exact gd_ar (gl_s (gl_s gl_z)) (fun z => by cases z) (ih _ _ h)
      · refine gv_icmp_eq (off := 13) (tgt := 83) (pc' := 73) (by decide +kernel) (by decide) rfl (fun c70 => ?_) (fun c70 => ?_)
        · replace h := gd_T c70 h
          exact gd_ar (gl_s (gl_s gl_z)) (fun z => by cases z) (hJ12 _ h)
        · replace h := gd_F c70 h
          refine gv_aload_n (n := 0) (pc' := 74) (by decide +kernel) rfl rfl ?_
          refine gv_aload_n (n := 0) (pc' := 75) (by decide +kernel) rfl rfl ?_
          refine gv_getr lk_6_15 (by decide +kernel) rfl rfl (pc' := 78) rfl ?_
          refine gv_iload_n (n := 1) (pc' := 79) (by decide +kernel) rfl rfl ?_
          obtain ⟨g79, h⟩ := gd_gE h
          refine gj_iald _ (pc' := 80) (by decide +kernel) rfl (gd_inv g79) rfl rfl ?_
          refine gd_cv0 (w' := false) (pc' := 83) (X_Taint_addGuessedNexts _ _) h md_Taint_addGuessedNexts vd_Taint_addGuessedNexts (Or.inl ml_6_93) (by decide +kernel) (by decide) rfl rfl rfl (Nat.le_of_ble_eq_true rfl) (Nat.le_of_ble_eq_true rfl) (by decide) rfl (fun z => by cases z) (by decide) rfl (fun s13 h => ?_)
          exact gd_ar (gl_s (gl_s gl_z)) (fun z => by cases z) (hJ12 _ h)
def B_Taint_markGuessed_2 (k4 : gS → gR) (ag3 : Int32 → gS → gR) (n_1_1 : Int32) (s2 : gS) : gR :=
 if (gI s2 2 7) ≤ n_1_1 then
  k4 s2
 else
  gd_g (gd_in n_1_1 1040) <|
  gd_j (α := gS → gR) (fun (s7 : gS) =>
   ag3 (n_1_1 + 1) s7) fun J5 =>
  if (gA s2 3 n_1_1.toNatClampNeg) = 5 then
   gd_0 (F_Taint_addGuessedNexts n_1_1 s2) fun s6 =>
   J5 s6
  else
   J5 s2
set_option maxRecDepth 20000 in
theorem L_Taint_markGuessed_2 (k4 : gS → gR) (r0 : gQ × gS) (hk4 : ∀ (s8 : gS), k4 s8 = some r0 → gv_V m_Taint_markGuessed 1 false 37 [some (.ref 26), none] [] s8 (gv_is r0.1 r0.2)) (n : Nat) : ∀ (n_1_1 : Int32) (s2 : gS), gd_lp (fun _ _ => none) (B_Taint_markGuessed_2 k4) n n_1_1 s2 = some r0 → gv_V m_Taint_markGuessed 1 false 2 [some (.ref 26), some (.int n_1_1)] [] s2 (gv_is r0.1 r0.2) := by
  refine gd_lpC (fun (ag3 : Int32 → gS → gR) => ∀ (n_1_1 : Int32) (s2 : gS), ag3 n_1_1 s2 = some r0 → gv_V m_Taint_markGuessed 1 false 2 [some (.ref 26), some (.int n_1_1)] [] s2 (gv_is r0.1 r0.2)) (fun n_1_1 s2 h => by cases h) (fun ag3 ih n_1_1 s2 h => ?_) n
  unfold B_Taint_markGuessed_2 at h
  refine gv_iload_n (n := 1) (pc' := 3) (by decide +kernel) rfl rfl ?_
  refine gv_aload_n (n := 0) (pc' := 4) (by decide +kernel) rfl rfl ?_
  refine gv_getr lk_6_42 (by decide +kernel) rfl rfl (pc' := 7) rfl ?_
  refine gv_getj lk_6_56 (by decide +kernel) rfl rfl (pc' := 10) rfl ?_
  refine gv_icmp_ge (off := 27) (tgt := 37) (pc' := 13) (by decide +kernel) (by decide) rfl (fun c10 => ?_) (fun c10 => ?_)
  · replace h := gd_T c10 h
    exact gd_ar (gl_s (gl_n gl_z)) (fun z => by cases z) (hk4 _ h)
  · replace h := gd_F c10 h
    refine gv_aload_n (n := 0) (pc' := 14) (by decide +kernel) rfl rfl ?_
    refine gv_getr lk_6_42 (by decide +kernel) rfl rfl (pc' := 17) rfl ?_
    refine gv_getr lk_6_61 (by decide +kernel) rfl rfl (pc' := 20) rfl ?_
    refine gv_iload_n (n := 1) (pc' := 21) (by decide +kernel) rfl rfl ?_
    obtain ⟨g21, h⟩ := gd_gE h
    refine gj_iald _ (pc' := 22) (by decide +kernel) rfl (gd_inv g21) rfl rfl ?_
    refine gv_iconst (n := 5) (v := 5) (pc' := 23) (by decide +kernel) (by decide) rfl ?_
    refine gd_jC (fun J5 => ∀ (s7 : gS), J5 s7 = some r0 → gv_V m_Taint_markGuessed 1 false 31 [some (.ref 26), some (.int n_1_1)] [] s7 (gv_is r0.1 r0.2)) h (fun s7 h => ?_) (fun J5 hJ5 h => ?_)
    · refine gv_iincc (i := 1) (n := 1) (c := 1) (pc' := 34) (by decide +kernel) rfl (by decide) (by decide) rfl ?_
      refine gv_goto (off := -32) (tgt := 2) (by decide +kernel) (by decide) ?_
      exact gd_ar (gl_s (gl_s gl_z)) (fun z => by cases z) (ih _ _ h)
    · refine gv_icmp_ne (off := 8) (tgt := 31) (pc' := 26) (by decide +kernel) (by decide) rfl (fun c23 => ?_) (fun c23 => ?_)
      · replace h := gd_F c23 h
        exact gd_ar (gl_s (gl_s gl_z)) (fun z => by cases z) (hJ5 _ h)
      · replace h := gd_T c23 h
        refine gv_aload_n (n := 0) (pc' := 27) (by decide +kernel) rfl rfl ?_
        refine gv_iload_n (n := 1) (pc' := 28) (by decide +kernel) rfl rfl ?_
        refine gd_cv0 (w' := false) (pc' := 31) (X_Taint_addGuessedNexts _ _) h md_Taint_addGuessedNexts vd_Taint_addGuessedNexts (Or.inl ml_6_93) (by decide +kernel) (by decide) rfl rfl rfl (Nat.le_of_ble_eq_true rfl) (Nat.le_of_ble_eq_true rfl) (by decide) rfl (fun z => by cases z) (by decide) rfl (fun s6 h => ?_)
        exact gd_ar (gl_s (gl_s gl_z)) (fun z => by cases z) (hJ5 _ h)
def F_Taint_markGuessed (σ : gS) : gR :=
 gd_j (α := gS → gR) (fun (s8 : gS) =>
  gd_lp (fun _ _ => none) (B_Taint_markGuessed_39) gd_N 0 s8) fun k4 =>
 gd_lp (fun _ _ => none) (B_Taint_markGuessed_2 k4) gd_N 0 σ
set_option maxRecDepth 20000 in
theorem X_Taint_markGuessed (σ : gS) (r0 : gQ × gS) (h : F_Taint_markGuessed σ = some r0) : gv_K m_Taint_markGuessed [.ref 26] σ (gv_is r0.1 r0.2) := by
  unfold F_Taint_markGuessed at h
  show gv_V m_Taint_markGuessed 1 true 0 [some (.ref 26), none] [] σ (gv_is r0.1 r0.2)
  refine gv_iconst (n := 0) (v := 0) (pc' := 1) (by decide +kernel) (by decide) rfl ?_
  refine gv_istore_n (n := 1) (pc' := 2) (by decide +kernel) (by decide) rfl ?_
  refine gd_jC (fun k4 => ∀ (s8 : gS), k4 s8 = some r0 → gv_V m_Taint_markGuessed 1 false 37 [some (.ref 26), none] [] s8 (gv_is r0.1 r0.2)) h (fun s8 h => ?_) (fun k4 hk4 h => ?_)
  · refine gv_iconst (n := 0) (v := 0) (pc' := 38) (by decide +kernel) (by decide) rfl ?_
    refine gv_istore_n (n := 1) (pc' := 39) (by decide +kernel) (by decide) rfl ?_
    exact gd_ar (gl_s (gl_s gl_z)) (fun z => by cases z) (L_Taint_markGuessed_39 r0 _ _ _ h)
  exact gd_ar (gl_s (gl_s gl_z)) (fun z => by cases z) (L_Taint_markGuessed_2 _ r0 hk4 _ _ _ h)
def F_Taint_addResult (a : Int32) (σ : gS) : gR :=
 gd_g (gd_in a 1040) <|
 gd_g (gd_in a 1040) <|
 gd_s (gs_A σ 27 a.toNatClampNeg ((gA σ 27 a.toNatClampNeg) ||| (2 : Int32))) fun s1 =>
 gd_g (gd_in (gI s1 26 9) 1040) <|
 gd_s (gs_A s1 29 (gI s1 26 9).toNatClampNeg a) fun s2 =>
 gd_s (gs_I s2 26 9 ((gI s2 26 9) + (1 : Int32))) fun s3 =>
 some (.inl none, s3)
set_option maxRecDepth 20000 in
theorem X_Taint_addResult (a : Int32) (σ : gS) (r0 : gQ × gS) (h : F_Taint_addResult a σ = some r0) : gv_K m_Taint_addResult [.ref 26, .int a] σ (gv_is r0.1 r0.2) := by
  unfold F_Taint_addResult at h
  show gv_V m_Taint_addResult 1 true 0 [some (.ref 26), some (.int a)] [] σ (gv_is r0.1 r0.2)
  refine gv_aload_n (n := 0) (pc' := 1) (by decide +kernel) rfl rfl ?_
  refine gv_getr lk_6_9 (by decide +kernel) rfl rfl (pc' := 4) rfl ?_
  refine gv_iload_n (n := 1) (pc' := 5) (by decide +kernel) rfl rfl ?_
  refine gv_dup2_11 (pc' := 6) (by decide +kernel) rfl rfl rfl ?_
  obtain ⟨g6, h⟩ := gd_gE h
  refine gj_iald _ (pc' := 7) (by decide +kernel) rfl (gd_inv g6) rfl rfl ?_
  refine gv_iconst (n := 2) (v := 2) (pc' := 8) (by decide +kernel) (by decide) rfl ?_
  refine gv_ior (pc' := 9) (by decide +kernel) rfl ?_
  obtain ⟨g9, h⟩ := gd_gE h
  refine gd_iast (pc' := 10) (by decide +kernel) rfl (gd_inv g9) rfl h (fun s1 h => ?_)
  refine gv_aload_n (n := 0) (pc' := 11) (by decide +kernel) rfl rfl ?_
  refine gv_getr lk_6_18 (by decide +kernel) rfl rfl (pc' := 14) rfl ?_
  refine gv_aload_n (n := 0) (pc' := 15) (by decide +kernel) rfl rfl ?_
  refine gv_getj lk_6_36 (by decide +kernel) rfl rfl (pc' := 18) rfl ?_
  refine gv_iload_n (n := 1) (pc' := 19) (by decide +kernel) rfl rfl ?_
  obtain ⟨g19, h⟩ := gd_gE h
  refine gd_iast (pc' := 20) (by decide +kernel) rfl (gd_inv g19) rfl h (fun s2 h => ?_)
  refine gv_aload_n (n := 0) (pc' := 21) (by decide +kernel) rfl rfl ?_
  refine gv_dup (pc' := 22) (by decide +kernel) rfl rfl ?_
  refine gv_getj lk_6_36 (by decide +kernel) rfl rfl (pc' := 25) rfl ?_
  refine gv_iconst (n := 1) (v := 1) (pc' := 26) (by decide +kernel) (by decide) rfl ?_
  refine gv_iadd (pc' := 27) (by decide +kernel) rfl ?_
  refine gd_puti lp_6_36 (by decide +kernel) rfl rfl rfl rfl (pc' := 30) rfl h (fun s3 h => ?_)
  exact gv_ret (by decide +kernel) rfl (by decide) (by decide) (gd_rE h)
def F_Reach_addOnce (a : Int32) (b : Int32) (σ : gS) : gR :=
 if a = (-1) then
  some (.inl none, σ)
 else
  gd_g (gd_in a 1040) <|
  if (gA σ 24 a.toNatClampNeg) = (b + (1 : Int32)) then
   some (.inl none, σ)
  else
   gd_g (gd_in a 1040) <|
   gd_s (gs_A σ 24 a.toNatClampNeg (b + (1 : Int32))) fun s1 =>
   gd_g (gd_in (gI s1 21 5) 1040) <|
   gd_s (gs_A s1 25 (gI s1 21 5).toNatClampNeg a) fun s2 =>
   gd_s (gs_I s2 21 5 ((gI s2 21 5) + (1 : Int32))) fun s3 =>
   some (.inl none, s3)
set_option maxRecDepth 20000 in
theorem X_Reach_addOnce (a : Int32) (b : Int32) (σ : gS) (r0 : gQ × gS) (h : F_Reach_addOnce a b σ = some r0) : gv_K m_Reach_addOnce [.ref 21, .int a, .int b] σ (gv_is r0.1 r0.2) := by
  unfold F_Reach_addOnce at h
  show gv_V m_Reach_addOnce 1 true 0 [some (.ref 21), some (.int a), some (.int b)] [] σ (gv_is r0.1 r0.2)
  refine gv_iload_n (n := 1) (pc' := 1) (by decide +kernel) rfl rfl ?_
  refine gv_iconst (n := (-1)) (v := (-1)) (pc' := 2) (by decide +kernel) (by decide) rfl ?_
  refine gv_icmp_eq (off := 44) (tgt := 46) (pc' := 5) (by decide +kernel) (by decide) rfl (fun c2 => ?_) (fun c2 => ?_)
  · replace h := gd_T c2 h
    exact gv_ret (by decide +kernel) rfl (by decide) (by decide) (gd_rE h)
  · replace h := gd_F c2 h
    refine gv_aload_n (n := 0) (pc' := 6) (by decide +kernel) rfl rfl ?_
    refine gv_getr lk_5_19 (by decide +kernel) rfl rfl (pc' := 9) rfl ?_
    refine gv_iload_n (n := 1) (pc' := 10) (by decide +kernel) rfl rfl ?_
    obtain ⟨g10, h⟩ := gd_gE h
    refine gj_iald _ (pc' := 11) (by decide +kernel) rfl (gd_inv g10) rfl rfl ?_
    refine gv_iload_n (n := 2) (pc' := 12) (by decide +kernel) rfl rfl ?_
    refine gv_iconst (n := 1) (v := 1) (pc' := 13) (by decide +kernel) (by decide) rfl ?_
    refine gv_iadd (pc' := 14) (by decide +kernel) rfl ?_
    refine gv_icmp_eq (off := 32) (tgt := 46) (pc' := 17) (by decide +kernel) (by decide) rfl (fun c14 => ?_) (fun c14 => ?_)
    · replace h := gd_T c14 h
      exact gv_ret (by decide +kernel) rfl (by decide) (by decide) (gd_rE h)
    · replace h := gd_F c14 h
      refine gv_aload_n (n := 0) (pc' := 18) (by decide +kernel) rfl rfl ?_
      refine gv_getr lk_5_19 (by decide +kernel) rfl rfl (pc' := 21) rfl ?_
      refine gv_iload_n (n := 1) (pc' := 22) (by decide +kernel) rfl rfl ?_
      refine gv_iload_n (n := 2) (pc' := 23) (by decide +kernel) rfl rfl ?_
      refine gv_iconst (n := 1) (v := 1) (pc' := 24) (by decide +kernel) (by decide) rfl ?_
      refine gv_iadd (pc' := 25) (by decide +kernel) rfl ?_
      obtain ⟨g25, h⟩ := gd_gE h
      refine gd_iast (pc' := 26) (by decide +kernel) rfl (gd_inv g25) rfl h (fun s1 h => ?_)
      refine gv_aload_n (n := 0) (pc' := 27) (by decide +kernel) rfl rfl ?_
      refine gv_getr lk_5_22 (by decide +kernel) rfl rfl (pc' := 30) rfl ?_
      refine gv_aload_n (n := 0) (pc' := 31) (by decide +kernel) rfl rfl ?_
      refine gv_getj lk_5_25 (by decide +kernel) rfl rfl (pc' := 34) rfl ?_
      refine gv_iload_n (n := 1) (pc' := 35) (by decide +kernel) rfl rfl ?_
      obtain ⟨g35, h⟩ := gd_gE h
      refine gd_iast (pc' := 36) (by decide +kernel) rfl (gd_inv g35) rfl h (fun s2 h => ?_)
      refine gv_aload_n (n := 0) (pc' := 37) (by decide +kernel) rfl rfl ?_
      refine gv_dup (pc' := 38) (by decide +kernel) rfl rfl ?_
      refine gv_getj lk_5_25 (by decide +kernel) rfl rfl (pc' := 41) rfl ?_
      refine gv_iconst (n := 1) (v := 1) (pc' := 42) (by decide +kernel) (by decide) rfl ?_
      refine gv_iadd (pc' := 43) (by decide +kernel) rfl ?_
      refine gd_puti lp_5_25 (by decide +kernel) rfl rfl rfl rfl (pc' := 46) rfl h (fun s3 h => ?_)
      exact gv_ret (by decide +kernel) rfl (by decide) (by decide) (gd_rE h)
def F_Reach_addNexts (a : Int32) (b : Int32) (σ : gS) : gR :=
 gd_qi (R_Listing_nextBehind a σ) σ fun r1 =>
 gd_0 (F_Reach_addOnce r1 b σ) fun s2 =>
 gd_qi (R_Listing_nextAside a s2) s2 fun r3 =>
 gd_0 (F_Reach_addOnce r3 b s2) fun s4 =>
 some (.inl none, s4)
set_option maxRecDepth 20000 in
theorem X_Reach_addNexts (a : Int32) (b : Int32) (σ : gS) (r0 : gQ × gS) (h : F_Reach_addNexts a b σ = some r0) : gv_K m_Reach_addNexts [.ref 21, .int a, .int b] σ (gv_is r0.1 r0.2) := by
  unfold F_Reach_addNexts at h
  show gv_V m_Reach_addNexts 1 true 0 [some (.ref 21), some (.int a), some (.int b)] [] σ (gv_is r0.1 r0.2)
  refine gv_aload_n (n := 0) (pc' := 1) (by decide +kernel) rfl rfl ?_
  refine gv_aload_n (n := 0) (pc' := 2) (by decide +kernel) rfl rfl ?_
  refine gv_getr lk_5_29 (by decide +kernel) rfl rfl (pc' := 5) rfl ?_
  refine gv_iload_n (n := 1) (pc' := 6) (by decide +kernel) rfl rfl ?_
  refine gd_dvi (w' := true) (pc' := 9) (X_Listing_nextBehind _ _) h md_Listing_nextBehind vd_Listing_nextBehind (Or.inl ml_5_61) (by decide +kernel) (by decide) rfl rfl rfl (Nat.le_of_ble_eq_true rfl) (Nat.le_of_ble_eq_true rfl) (by decide) rfl (fun z => ⟨rfl, z⟩) (by decide) rfl (fun r1 h => ?_)
  refine gv_iload_n (n := 2) (pc' := 10) (by decide +kernel) rfl rfl ?_
  refine gd_cv0 (w' := false) (pc' := 13) (X_Reach_addOnce _ _ _) h md_Reach_addOnce vd_Reach_addOnce (Or.inl ml_5_65) (by decide +kernel) (by decide) rfl rfl rfl (Nat.le_of_ble_eq_true rfl) (Nat.le_of_ble_eq_true rfl) (by decide) rfl (fun z => by cases z) (by decide) rfl (fun s2 h => ?_)
  refine gv_aload_n (n := 0) (pc' := 14) (by decide +kernel) rfl rfl ?_
  refine gv_aload_n (n := 0) (pc' := 15) (by decide +kernel) rfl rfl ?_
  refine gv_getr lk_5_29 (by decide +kernel) rfl rfl (pc' := 18) rfl ?_
  refine gv_iload_n (n := 1) (pc' := 19) (by decide +kernel) rfl rfl ?_
  refine gd_dvi (w' := false) (pc' := 22) (X_Listing_nextAside _ _) h md_Listing_nextAside vd_Listing_nextAside (Or.inl ml_5_68) (by decide +kernel) (by decide) rfl rfl rfl (Nat.le_of_ble_eq_true rfl) (Nat.le_of_ble_eq_true rfl) (by decide) rfl (fun z => by cases z) (by decide) rfl (fun r3 h => ?_)
  refine gv_iload_n (n := 2) (pc' := 23) (by decide +kernel) rfl rfl ?_
  refine gd_cv0 (w' := false) (pc' := 26) (X_Reach_addOnce _ _ _) h md_Reach_addOnce vd_Reach_addOnce (Or.inl ml_5_65) (by decide +kernel) (by decide) rfl rfl rfl (Nat.le_of_ble_eq_true rfl) (Nat.le_of_ble_eq_true rfl) (by decide) rfl (fun z => by cases z) (by decide) rfl (fun s4 h => ?_)
  exact gv_ret (by decide +kernel) rfl (by decide) (by decide) (gd_rE h)
def R_Listing_uses (a : Int32) (b : Int32) (σ : gS) : gP :=
 gd_g (gd_in a 1040) <|
 if (gA σ 6 a.toNatClampNeg) = b then
  some (.inl (some (.int 1)))
 else
  gd_g (gd_in a 1040) <|
  if (gA σ 7 a.toNatClampNeg) = b then
   some (.inl (some (.int 1)))
  else
   some (.inl (some (.int 0)))
set_option maxRecDepth 20000 in
theorem X_Listing_uses (a : Int32) (b : Int32) (σ : gS) (r0 : gQ) (h : R_Listing_uses a b σ = some r0) : gv_K m_Listing_uses [.ref 2, .int a, .int b] σ (gv_is r0 σ) := by
  unfold R_Listing_uses at h
  show gv_V m_Listing_uses 1 true 0 [some (.ref 2), some (.int a), some (.int b)] [] σ (gv_is r0 σ)
  refine gv_aload_n (n := 0) (pc' := 1) (by decide +kernel) rfl rfl ?_
  refine gv_getr lk_1_21 (by decide +kernel) rfl rfl (pc' := 4) rfl ?_
  refine gv_iload_n (n := 1) (pc' := 5) (by decide +kernel) rfl rfl ?_
  obtain ⟨g5, h⟩ := gd_gE h
  refine gj_iald _ (pc' := 6) (by decide +kernel) rfl (gd_inv g5) rfl rfl ?_
  refine gv_iload_n (n := 2) (pc' := 7) (by decide +kernel) rfl rfl ?_
  refine gv_icmp_eq (off := 13) (tgt := 20) (pc' := 10) (by decide +kernel) (by decide) rfl (fun c7 => ?_) (fun c7 => ?_)
  · replace h := gd_T c7 h
    refine gv_iconst (n := 1) (v := 1) (pc' := 21) (by decide +kernel) (by decide) rfl ?_
    refine gv_goto (off := 4) (tgt := 25) (by decide +kernel) (by decide) ?_
    exact gv_iret .boolean (by decide +kernel) rfl rfl (by decide) (by decide) (gd_pE h)
  · replace h := gd_F c7 h
    refine gv_aload_n (n := 0) (pc' := 11) (by decide +kernel) rfl rfl ?_
    refine gv_getr lk_1_24 (by decide +kernel) rfl rfl (pc' := 14) rfl ?_
    refine gv_iload_n (n := 1) (pc' := 15) (by decide +kernel) rfl rfl ?_
    obtain ⟨g15, h⟩ := gd_gE h
    refine gj_iald _ (pc' := 16) (by decide +kernel) rfl (gd_inv g15) rfl rfl ?_
    refine gv_iload_n (n := 2) (pc' := 17) (by decide +kernel) rfl rfl ?_
    refine gv_icmp_ne (off := 7) (tgt := 24) (pc' := 20) (by decide +kernel) (by decide) rfl (fun c17 => ?_) (fun c17 => ?_)
    · replace h := gd_F c17 h
      refine gv_iconst (n := 0) (v := 0) (pc' := 25) (by decide +kernel) (by decide) rfl ?_
      exact gv_iret .boolean (by decide +kernel) rfl rfl (by decide) (by decide) (gd_pE h)
    · replace h := gd_T c17 h
      refine gv_iconst (n := 1) (v := 1) (pc' := 21) (by decide +kernel) (by decide) rfl ?_
      refine gv_goto (off := 4) (tgt := 25) (by decide +kernel) (by decide) ?_
      exact gv_iret .boolean (by decide +kernel) rfl rfl (by decide) (by decide) (gd_pE h)
def B_Reach_follow_13 (x_1_3 : Int32) (x_2_4 : Int32) (ag7 : Int32 → gS → gR) (n_3_5 : Int32) (s6 : gS) : gR :=
 if (gI s6 21 5) ≤ n_3_5 then
  some (.inl none, s6)
 else
  if 1040 ≤ n_3_5 then
   some (.inl none, s6)
  else
   gd_g (gd_in n_3_5 1040) <|
   gd_qi (R_Listing_uses (gA s6 25 n_3_5.toNatClampNeg) x_2_4 s6) s6 fun r8 =>
   gd_j (α := gS → gR) (fun (s11 : gS) =>
    gd_g (gd_in (gA s6 25 n_3_5.toNatClampNeg) 1040) <|
    gd_j (α := gS → gR) (fun (s14 : gS) =>
     ag7 (n_3_5 + 1) s14) fun J12 =>
    if (gA s11 3 (gA s6 25 n_3_5.toNatClampNeg).toNatClampNeg) = 7 then
     J12 s11
    else
     gd_g (gd_in (gA s6 25 n_3_5.toNatClampNeg) 1040) <|
     if (gA s11 5 (gA s6 25 n_3_5.toNatClampNeg).toNatClampNeg) = x_2_4 then
      J12 s11
     else
      gd_0 (F_Reach_addNexts (gA s6 25 n_3_5.toNatClampNeg) x_1_3 s11) fun s13 =>
      J12 s13) fun J9 =>
   if r8 = 0 then
    J9 s6
   else
    gd_g (gd_in ((x_1_3 * (17 : Int32)) + ((gA s6 25 n_3_5.toNatClampNeg) >>> ((6 : Int32) &&& 31))) 17680) <|
    gd_g (gd_in ((x_1_3 * (17 : Int32)) + ((gA s6 25 n_3_5.toNatClampNeg) >>> ((6 : Int32) &&& 31))) 17680) <|
    gd_s (gs_L s6 22 ((x_1_3 * (17 : Int32)) + ((gA s6 25 n_3_5.toNatClampNeg) >>> ((6 : Int32) &&& 31))).toNatClampNeg ((gL s6 22 ((x_1_3 * (17 : Int32)) + ((gA s6 25 n_3_5.toNatClampNeg) >>> ((6 : Int32) &&& 31))).toNatClampNeg) ||| ((1 : Int64) <<< (Int32.toInt64 ((gA s6 25 n_3_5.toNatClampNeg) &&& (63 : Int32)) &&& 63)))) fun s10 =>
    J9 s10
set_option maxRecDepth 20000 in
theorem L_Reach_follow_13 (x_1_3 : Int32) (x_2_4 : Int32) (r0 : gQ × gS) (n : Nat) : ∀ (n_3_5 : Int32) (s6 : gS), gd_lp (fun _ _ => none) (B_Reach_follow_13 x_1_3 x_2_4) n n_3_5 s6 = some r0 → gv_V m_Reach_follow 1 false 13 [some (.ref 21), some (.int x_1_3), some (.int x_2_4), some (.int n_3_5), none] [] s6 (gv_is r0.1 r0.2) := by
  refine gd_lpC (fun (ag7 : Int32 → gS → gR) => ∀ (n_3_5 : Int32) (s6 : gS), ag7 n_3_5 s6 = some r0 → gv_V m_Reach_follow 1 false 13 [some (.ref 21), some (.int x_1_3), some (.int x_2_4), some (.int n_3_5), none] [] s6 (gv_is r0.1 r0.2)) (fun n_3_5 s6 h => by cases h) (fun ag7 ih n_3_5 s6 h => ?_) n
  unfold B_Reach_follow_13 at h
  refine gv_iload_n (n := 3) (pc' := 14) (by decide +kernel) rfl rfl ?_
  refine gv_aload_n (n := 0) (pc' := 15) (by decide +kernel) rfl rfl ?_
  refine gv_getj lk_5_25 (by decide +kernel) rfl rfl (pc' := 18) rfl ?_
  refine gv_icmp_ge (off := 98) (tgt := 116) (pc' := 21) (by decide +kernel) (by decide) rfl (fun c18 => ?_) (fun c18 => ?_)
  · replace h := gd_T c18 h
    exact gv_ret (by decide +kernel) rfl (by decide) (by decide) (gd_rE h)
  · replace h := gd_F c18 h
    refine gv_iload_n (n := 3) (pc' := 22) (by decide +kernel) rfl rfl ?_
    refine gv_sipush (n := 1040) (v := 1040) (pc' := 25) (by decide +kernel) (by decide) rfl ?_
    refine gv_icmp_ge (off := 91) (tgt := 116) (pc' := 28) (by decide +kernel) (by decide) rfl (fun c25 => ?_) (fun c25 => ?_)
    · replace h := gd_T c25 h
      exact gv_ret (by decide +kernel) rfl (by decide) (by decide) (gd_rE h)
    · replace h := gd_F c25 h
      refine gv_aload_n (n := 0) (pc' := 29) (by decide +kernel) rfl rfl ?_
      refine gv_getr lk_5_22 (by decide +kernel) rfl rfl (pc' := 32) rfl ?_
      refine gv_iload_n (n := 3) (pc' := 33) (by decide +kernel) rfl rfl ?_
      obtain ⟨g33, h⟩ := gd_gE h
      refine gj_iald _ (pc' := 34) (by decide +kernel) rfl (gd_inv g33) rfl rfl ?_
      refine gv_istore (n := 4) (pc' := 36) (by decide +kernel) (by decide) rfl ?_
      refine gv_aload_n (n := 0) (pc' := 37) (by decide +kernel) rfl rfl ?_
      refine gv_getr lk_5_29 (by decide +kernel) rfl rfl (pc' := 40) rfl ?_
      refine gv_iload (n := 4) (pc' := 42) (by decide +kernel) rfl rfl ?_
      refine gv_iload_n (n := 2) (pc' := 43) (by decide +kernel) rfl rfl ?_
      refine gd_dvi (w' := false) (pc' := 46) (X_Listing_uses _ _ _) h md_Listing_uses vd_Listing_uses (Or.inl ml_5_54) (by decide +kernel) (by decide) rfl rfl rfl (Nat.le_of_ble_eq_true rfl) (Nat.le_of_ble_eq_true rfl) (by decide) rfl (fun z => by cases z) (by decide) rfl (fun r8 h => ?_)
      refine gd_jC (fun J9 => ∀ (s11 : gS), J9 s11 = some r0 → gv_V m_Reach_follow 1 false 74 [some (.ref 21), some (.int x_1_3), some (.int x_2_4), some (.int n_3_5), some (.int (gA s6 25 n_3_5.toNatClampNeg))] [] s11 (gv_is r0.1 r0.2)) h (fun s11 h => ?_) (fun J9 hJ9 h => ?_)
      · refine gv_aload_n (n := 0) (pc' := 75) (by decide +kernel) rfl rfl ?_
        refine gv_getr lk_5_29 (by decide +kernel) rfl rfl (pc' := 78) rfl ?_
        refine gv_getr lk_5_58 (by decide +kernel) rfl rfl (pc' := 81) rfl ?_
        refine gv_iload (n := 4) (pc' := 83) (by decide +kernel) rfl rfl ?_
        obtain ⟨g83, h⟩ := gd_gE h
        refine gj_iald _ (pc' := 84) (by decide +kernel) rfl (gd_inv g83) rfl rfl ?_
        refine gv_bipush (n := 7) (v := 7) (pc' := 86) (by decide +kernel) (by decide) rfl ?_
        refine gd_jC (fun J12 => ∀ (s14 : gS), J12 s14 = some r0 → gv_V m_Reach_follow 1 false 110 [some (.ref 21), some (.int x_1_3), some (.int x_2_4), some (.int n_3_5), none] [] s14 (gv_is r0.1 r0.2)) h (fun s14 h => ?_) (fun J12 hJ12 h => ?_)
        · refine gv_iincc (i := 3) (n := 1) (c := 1) (pc' := 113) (by decide +kernel) rfl (by decide) (by decide) rfl ?_
          refine gv_goto (off := -100) (tgt := 13) (by decide +kernel) (by decide) ?_
          exact gd_ar (gl_s (gl_s (gl_s (gl_s (gl_n gl_z))))) (fun z => by cases z) (ih _ _ h)
        · refine gv_icmp_eq (off := 24) (tgt := 110) (pc' := 89) (by decide +kernel) (by decide) rfl (fun c86 => ?_) (fun c86 => ?_)
          · replace h := gd_T c86 h
            exact gd_ar (gl_s (gl_s (gl_s (gl_s (gl_n gl_z))))) (fun z => by cases z) (hJ12 _ h)
          · replace h := gd_F c86 h
            refine gv_aload_n (n := 0) (pc' := 90) (by decide +kernel) rfl rfl ?_
            refine gv_getr lk_5_29 (by decide +kernel) rfl rfl (pc' := 93) rfl ?_
            refine gv_getr lk_5_42 (by decide +kernel) rfl rfl (pc' := 96) rfl ?_
            refine gv_iload (n := 4) (pc' := 98) (by decide +kernel) rfl rfl ?_
            obtain ⟨g98, h⟩ := gd_gE h
            refine gj_iald _ (pc' := 99) (by decide +kernel) rfl (gd_inv g98) rfl rfl ?_
            refine gv_iload_n (n := 2) (pc' := 100) (by decide +kernel) rfl rfl ?_
            refine gv_icmp_eq (off := 10) (tgt := 110) (pc' := 103) (by decide +kernel) (by decide) rfl (fun c100 => ?_) (fun c100 => ?_)
            · replace h := gd_T c100 h
              exact gd_ar (gl_s (gl_s (gl_s (gl_s (gl_n gl_z))))) (fun z => by cases z) (hJ12 _ h)
            · replace h := gd_F c100 h
              refine gv_aload_n (n := 0) (pc' := 104) (by decide +kernel) rfl rfl ?_
              refine gv_iload (n := 4) (pc' := 106) (by decide +kernel) rfl rfl ?_
              refine gv_iload_n (n := 1) (pc' := 107) (by decide +kernel) rfl rfl ?_
              refine gd_cv0 (w' := false) (pc' := 110) (X_Reach_addNexts _ _ _) h md_Reach_addNexts vd_Reach_addNexts (Or.inl ml_5_51) (by decide +kernel) (by decide) rfl rfl rfl (Nat.le_of_ble_eq_true rfl) (Nat.le_of_ble_eq_true rfl) (by decide) rfl (fun z => by cases z) (by decide) rfl (fun s13 h => ?_)
              exact gd_ar (gl_s (gl_s (gl_s (gl_s (gl_n gl_z))))) (fun z => by cases z) (hJ12 _ h)
      · refine gv_if_eq (off := 28) (tgt := 74) (pc' := 49) (by decide +kernel) (by decide) rfl (fun c46 => ?_) (fun c46 => ?_)
        · replace h := gd_T c46 h
          exact gd_ar (gl_s (gl_s (gl_s (gl_s (gl_s gl_z))))) (fun z => by cases z) (hJ9 _ h)
        · replace h := gd_F c46 h
          refine gv_aload_n (n := 0) (pc' := 50) (by decide +kernel) rfl rfl ?_
          refine gv_getr lk_5_9 (by decide +kernel) rfl rfl (pc' := 53) rfl ?_
          refine gv_iload_n (n := 1) (pc' := 54) (by decide +kernel) rfl rfl ?_
          refine gv_bipush (n := 17) (v := 17) (pc' := 56) (by decide +kernel) (by decide) rfl ?_
          refine gv_imul (pc' := 57) (by decide +kernel) rfl ?_
          refine gv_iload (n := 4) (pc' := 59) (by decide +kernel) rfl rfl ?_
          refine gv_bipush (n := 6) (v := 6) (pc' := 61) (by decide +kernel) (by decide) rfl ?_
          refine gv_ishr (pc' := 62) (by decide +kernel) rfl ?_
          refine gv_iadd (pc' := 63) (by decide +kernel) rfl ?_
          refine gv_dup2_11 (pc' := 64) (by decide +kernel) rfl rfl rfl ?_
          obtain ⟨g64, h⟩ := gd_gE h
          refine gj_lald _ (pc' := 65) (by decide +kernel) rfl (gd_inv g64) rfl rfl ?_
          refine gv_lconst (n := 1) (v := 1) (pc' := 66) (by decide +kernel) (by decide) rfl ?_
          refine gv_iload (n := 4) (pc' := 68) (by decide +kernel) rfl rfl ?_
          refine gv_bipush (n := 63) (v := 63) (pc' := 70) (by decide +kernel) (by decide) rfl ?_
          refine gv_iand (pc' := 71) (by decide +kernel) rfl ?_
          refine gv_lshl (pc' := 72) (by decide +kernel) rfl ?_
          refine gv_lor (pc' := 73) (by decide +kernel) rfl ?_
          obtain ⟨g73, h⟩ := gd_gE h
          refine gd_last (pc' := 74) (by decide +kernel) rfl (gd_inv g73) rfl h (fun s10 h => ?_)
          exact gd_ar (gl_s (gl_s (gl_s (gl_s (gl_s gl_z))))) (fun z => by cases z) (hJ9 _ h)
def F_Reach_follow (a : Int32) (b : Int32) (σ : gS) : gR :=
 gd_s (gs_I σ 21 5 0) fun s1 =>
 gd_0 (F_Reach_addNexts a a s1) fun s2 =>
 gd_lp (fun _ _ => none) (B_Reach_follow_13 a b) gd_N 0 s2
set_option maxRecDepth 20000 in
theorem X_Reach_follow (a : Int32) (b : Int32) (σ : gS) (r0 : gQ × gS) (h : F_Reach_follow a b σ = some r0) : gv_K m_Reach_follow [.ref 21, .int a, .int b] σ (gv_is r0.1 r0.2) := by
  unfold F_Reach_follow at h
  show gv_V m_Reach_follow 1 true 0 [some (.ref 21), some (.int a), some (.int b), none, none] [] σ (gv_is r0.1 r0.2)
  refine gv_aload_n (n := 0) (pc' := 1) (by decide +kernel) rfl rfl ?_
  refine gv_iconst (n := 0) (v := 0) (pc' := 2) (by decide +kernel) (by decide) rfl ?_
  refine gd_puti lp_5_25 (by decide +kernel) rfl rfl rfl rfl (pc' := 5) rfl h (fun s1 h => ?_)
  refine gv_aload_n (n := 0) (pc' := 6) (by decide +kernel) rfl rfl ?_
  refine gv_iload_n (n := 1) (pc' := 7) (by decide +kernel) rfl rfl ?_
  refine gv_iload_n (n := 1) (pc' := 8) (by decide +kernel) rfl rfl ?_
  refine gd_cv0 (w' := false) (pc' := 11) (X_Reach_addNexts _ _ _) h md_Reach_addNexts vd_Reach_addNexts (Or.inl ml_5_51) (by decide +kernel) (by decide) rfl rfl rfl (Nat.le_of_ble_eq_true rfl) (Nat.le_of_ble_eq_true rfl) (by decide) rfl (fun z => by cases z) (by decide) rfl (fun s2 h => ?_)
  refine gv_iconst (n := 0) (v := 0) (pc' := 12) (by decide +kernel) (by decide) rfl ?_
  refine gv_istore_n (n := 3) (pc' := 13) (by decide +kernel) (by decide) rfl ?_
  exact gd_ar (gl_s (gl_s (gl_s (gl_s (gl_n gl_z))))) (fun z => by cases z) (L_Reach_follow_13 _ _ r0 _ _ _ h)
def F_Reach_trace (a : Int32) (σ : gS) : gR :=
 gd_g (gd_in a 1040) <|
 if (gA σ 23 a.toNatClampNeg) = 0 then
  gd_g (gd_in a 1040) <|
  gd_s (gs_A σ 23 a.toNatClampNeg 1) fun s1 =>
  gd_g (gd_fr (a * (17 : Int32)) ((a * (17 : Int32)) + (17 : Int32)) 17680) <|
  gd_s (gs_rowL s1 22 (f_fillL (gL s1 22) (a * (17 : Int32)).toNatClampNeg ((a * (17 : Int32)) + (17 : Int32)).toNatClampNeg 0)) fun s2 =>
  gd_g (gd_in a 1040) <|
  if (gA s2 5 a.toNatClampNeg) = 0 then
   some (.inl none, s2)
  else
   gd_g (gd_in a 1040) <|
   gd_0 (F_Reach_follow a (gA s2 5 a.toNatClampNeg) s2) fun s3 =>
   some (.inl none, s3)
 else
  some (.inl none, σ)
set_option maxRecDepth 20000 in
theorem X_Reach_trace (a : Int32) (σ : gS) (r0 : gQ × gS) (h : F_Reach_trace a σ = some r0) : gv_K m_Reach_trace [.ref 21, .int a] σ (gv_is r0.1 r0.2) := by
  unfold F_Reach_trace at h
  show gv_V m_Reach_trace 1 true 0 [some (.ref 21), some (.int a)] [] σ (gv_is r0.1 r0.2)
  refine gv_aload_n (n := 0) (pc' := 1) (by decide +kernel) rfl rfl ?_
  refine gv_getr lk_5_15 (by decide +kernel) rfl rfl (pc' := 4) rfl ?_
  refine gv_iload_n (n := 1) (pc' := 5) (by decide +kernel) rfl rfl ?_
  obtain ⟨g5, h⟩ := gd_gE h
  refine gj_iald _ (pc' := 6) (by decide +kernel) rfl (gd_inv g5) rfl rfl ?_
  refine gv_if_eq (off := 4) (tgt := 10) (pc' := 9) (by decide +kernel) (by decide) rfl (fun c6 => ?_) (fun c6 => ?_)
  · replace h := gd_T c6 h
    refine gv_aload_n (n := 0) (pc' := 11) (by decide +kernel) rfl rfl ?_
    refine gv_getr lk_5_15 (by decide +kernel) rfl rfl (pc' := 14) rfl ?_
    refine gv_iload_n (n := 1) (pc' := 15) (by decide +kernel) rfl rfl ?_
    refine gv_iconst (n := 1) (v := 1) (pc' := 16) (by decide +kernel) (by decide) rfl ?_
    obtain ⟨g16, h⟩ := gd_gE h
    refine gd_iast (pc' := 17) (by decide +kernel) rfl (gd_inv g16) rfl h (fun s1 h => ?_)
    refine gv_aload_n (n := 0) (pc' := 18) (by decide +kernel) rfl rfl ?_
    refine gv_getr lk_5_9 (by decide +kernel) rfl rfl (pc' := 21) rfl ?_
    refine gv_iload_n (n := 1) (pc' := 22) (by decide +kernel) rfl rfl ?_
    refine gv_bipush (n := 17) (v := 17) (pc' := 24) (by decide +kernel) (by decide) rfl ?_
    refine gv_imul (pc' := 25) (by decide +kernel) rfl ?_
    refine gv_iload_n (n := 1) (pc' := 26) (by decide +kernel) rfl rfl ?_
    refine gv_bipush (n := 17) (v := 17) (pc' := 28) (by decide +kernel) (by decide) rfl ?_
    refine gv_imul (pc' := 29) (by decide +kernel) rfl ?_
    refine gv_bipush (n := 17) (v := 17) (pc' := 31) (by decide +kernel) (by decide) rfl ?_
    refine gv_iadd (pc' := 32) (by decide +kernel) rfl ?_
    refine gv_lconst (n := 0) (v := 0) (pc' := 33) (by decide +kernel) (by decide) rfl ?_
    obtain ⟨g33, h⟩ := gd_gE h
    refine gd_cs0s (w' := false) (pc' := 36) (gd_fillJ 22 17680 _ _ _ _ rfl (by decide) g33) md_A_fill_aJIIJ sd_A_fill_aJIIJ (Or.inl ml_5_39) (by decide +kernel) (by decide) rfl (Nat.le_of_ble_eq_true rfl) (Nat.le_of_ble_eq_true rfl) (by decide) rfl (fun z => by cases z) (by decide) rfl h (fun s2 h => ?_)
    refine gv_aload_n (n := 0) (pc' := 37) (by decide +kernel) rfl rfl ?_
    refine gv_getr lk_5_29 (by decide +kernel) rfl rfl (pc' := 40) rfl ?_
    refine gv_getr lk_5_42 (by decide +kernel) rfl rfl (pc' := 43) rfl ?_
    refine gv_iload_n (n := 1) (pc' := 44) (by decide +kernel) rfl rfl ?_
    obtain ⟨g44, h⟩ := gd_gE h
    refine gj_iald _ (pc' := 45) (by decide +kernel) rfl (gd_inv g44) rfl rfl ?_
    refine gv_if_eq (off := 17) (tgt := 62) (pc' := 48) (by decide +kernel) (by decide) rfl (fun c45 => ?_) (fun c45 => ?_)
    · replace h := gd_T c45 h
      exact gv_ret (by decide +kernel) rfl (by decide) (by decide) (gd_rE h)
    · replace h := gd_F c45 h
      refine gv_aload_n (n := 0) (pc' := 49) (by decide +kernel) rfl rfl ?_
      refine gv_iload_n (n := 1) (pc' := 50) (by decide +kernel) rfl rfl ?_
      refine gv_aload_n (n := 0) (pc' := 51) (by decide +kernel) rfl rfl ?_
      refine gv_getr lk_5_29 (by decide +kernel) rfl rfl (pc' := 54) rfl ?_
      refine gv_getr lk_5_42 (by decide +kernel) rfl rfl (pc' := 57) rfl ?_
      refine gv_iload_n (n := 1) (pc' := 58) (by decide +kernel) rfl rfl ?_
      obtain ⟨g58, h⟩ := gd_gE h
      refine gj_iald _ (pc' := 59) (by decide +kernel) rfl (gd_inv g58) rfl rfl ?_
      refine gd_cv0 (w' := false) (pc' := 62) (X_Reach_follow _ _ _) h md_Reach_follow vd_Reach_follow (Or.inl ml_5_47) (by decide +kernel) (by decide) rfl rfl rfl (Nat.le_of_ble_eq_true rfl) (Nat.le_of_ble_eq_true rfl) (by decide) rfl (fun z => by cases z) (by decide) rfl (fun s3 h => ?_)
      exact gv_ret (by decide +kernel) rfl (by decide) (by decide) (gd_rE h)
  · replace h := gd_F c6 h
    exact gv_ret (by decide +kernel) rfl (by decide) (by decide) (gd_rE h)
