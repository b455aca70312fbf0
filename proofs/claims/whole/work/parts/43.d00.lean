def F_G_noteNewWords (σ : gS) : gR :=
 gd_s (gs_I σ 0 9 0) fun s1 =>
 gd_s (gs_I s1 0 11 0) fun s2 =>
 some (.inl none, s2)
set_option maxRecDepth 20000 in
theorem X_G_noteNewWords (σ : gS) (r0 : gQ × gS) (h : F_G_noteNewWords σ = some r0) : gv_K m_G_noteNewWords [.ref 0] σ (gv_is r0.1 r0.2) := by
  unfold F_G_noteNewWords at h
  show gv_V m_G_noteNewWords 1 true 0 [some (.ref 0)] [] σ (gv_is r0.1 r0.2)
  refine gv_aload_n (n := 0) (pc' := 1) (by decide +kernel) rfl rfl ?_
  refine gv_iconst (n := 0) (v := 0) (pc' := 2) (by decide +kernel) (by decide) rfl ?_
  refine gd_puti lp_0_70 (by decide +kernel) rfl rfl rfl rfl (pc' := 5) rfl h (fun s1 h => ?_)
  refine gv_aload_n (n := 0) (pc' := 6) (by decide +kernel) rfl rfl ?_
  refine gv_iconst (n := 0) (v := 0) (pc' := 7) (by decide +kernel) (by decide) rfl ?_
  refine gd_puti lp_0_77 (by decide +kernel) rfl rfl rfl rfl (pc' := 10) rfl h (fun s2 h => ?_)
  exact gv_ret (by decide +kernel) rfl (by decide) (by decide) (gd_rE h)
def F_G_word (a : Int32) (σ : gS) : gR :=
 if (gI σ 0 7) < 520 then
  gd_g (gd_in (gI σ 0 7) 1040) <|
  gd_s (gs_A σ 1 (gI σ 0 7).toNatClampNeg a) fun s1 =>
  gd_s (gs_I s1 0 7 ((gI s1 0 7) + (1 : Int32))) fun s2 =>
  gd_0 (F_G_noteNewWords s2) fun s3 =>
  some (.inl (some (.int (gI s3 0 7))), s3)
 else
  some (.inl (some (.int (-1))), σ)
set_option maxRecDepth 20000 in
theorem X_G_word (a : Int32) (σ : gS) (r0 : gQ × gS) (h : F_G_word a σ = some r0) : gv_K m_G_word [.ref 0, .int a] σ (gv_is r0.1 r0.2) := by
  unfold F_G_word at h
  show gv_V m_G_word 1 true 0 [some (.ref 0), some (.int a)] [] σ (gv_is r0.1 r0.2)
  refine gv_aload_n (n := 0) (pc' := 1) (by decide +kernel) rfl rfl ?_
  refine gv_getj lk_0_63 (by decide +kernel) rfl rfl (pc' := 4) rfl ?_
  refine gv_sipush (n := 520) (v := 520) (pc' := 7) (by decide +kernel) (by decide) rfl ?_
  refine gv_icmp_lt (off := 5) (tgt := 12) (pc' := 10) (by decide +kernel) (by decide) rfl (fun c7 => ?_) (fun c7 => ?_)
  · replace h := gd_T c7 h
    refine gv_aload_n (n := 0) (pc' := 13) (by decide +kernel) rfl rfl ?_
    refine gv_getr lk_0_9 (by decide +kernel) rfl rfl (pc' := 16) rfl ?_
    refine gv_aload_n (n := 0) (pc' := 17) (by decide +kernel) rfl rfl ?_
    refine gv_getj lk_0_63 (by decide +kernel) rfl rfl (pc' := 20) rfl ?_
    refine gv_iload_n (n := 1) (pc' := 21) (by decide +kernel) rfl rfl ?_
    obtain ⟨g21, h⟩ := gd_gE h
    refine gd_iast (pc' := 22) (by decide +kernel) rfl (gd_inv g21) rfl h (fun s1 h => ?_)
    refine gv_aload_n (n := 0) (pc' := 23) (by decide +kernel) rfl rfl ?_
    refine gv_dup (pc' := 24) (by decide +kernel) rfl rfl ?_
    refine gv_getj lk_0_63 (by decide +kernel) rfl rfl (pc' := 27) rfl ?_
    refine gv_iconst (n := 1) (v := 1) (pc' := 28) (by decide +kernel) (by decide) rfl ?_
    refine gv_iadd (pc' := 29) (by decide +kernel) rfl ?_
    refine gd_puti lp_0_63 (by decide +kernel) rfl rfl rfl rfl (pc' := 32) rfl h (fun s2 h => ?_)
    refine gv_aload_n (n := 0) (pc' := 33) (by decide +kernel) rfl rfl ?_
    refine gd_cv0 (w' := false) (pc' := 36) (X_G_noteNewWords _) h md_G_noteNewWords vd_G_noteNewWords (Or.inl ml_0_80) (by decide +kernel) (by decide) rfl rfl rfl (Nat.le_of_ble_eq_true rfl) (Nat.le_of_ble_eq_true rfl) (by decide) rfl (fun z => by cases z) (by decide) rfl (fun s3 h => ?_)
    refine gv_aload_n (n := 0) (pc' := 37) (by decide +kernel) rfl rfl ?_
    refine gv_getj lk_0_63 (by decide +kernel) rfl rfl (pc' := 40) rfl ?_
    exact gv_iret .int (by decide +kernel) rfl rfl (by decide) (by decide) (gd_rE h)
  · replace h := gd_F c7 h
    refine gv_iconst (n := (-1)) (v := (-1)) (pc' := 11) (by decide +kernel) (by decide) rfl ?_
    exact gv_iret .int (by decide +kernel) rfl rfl (by decide) (by decide) (gd_rE h)
def F_G_clear (σ : gS) : gR :=
 gd_s (gs_I σ 0 7 0) fun s1 =>
 gd_0 (F_G_noteNewWords s1) fun s2 =>
 some (.inl (some (.int (gI σ 0 7))), s2)
set_option maxRecDepth 20000 in
theorem X_G_clear (σ : gS) (r0 : gQ × gS) (h : F_G_clear σ = some r0) : gv_K m_G_clear [.ref 0] σ (gv_is r0.1 r0.2) := by
  unfold F_G_clear at h
  show gv_V m_G_clear 1 true 0 [some (.ref 0), none] [] σ (gv_is r0.1 r0.2)
  refine gv_aload_n (n := 0) (pc' := 1) (by decide +kernel) rfl rfl ?_
  refine gv_getj lk_0_63 (by decide +kernel) rfl rfl (pc' := 4) rfl ?_
  refine gv_istore_n (n := 1) (pc' := 5) (by decide +kernel) (by decide) rfl ?_
  refine gv_aload_n (n := 0) (pc' := 6) (by decide +kernel) rfl rfl ?_
  refine gv_iconst (n := 0) (v := 0) (pc' := 7) (by decide +kernel) (by decide) rfl ?_
  refine gd_puti lp_0_63 (by decide +kernel) rfl rfl rfl rfl (pc' := 10) rfl h (fun s1 h => ?_)
  refine gv_aload_n (n := 0) (pc' := 11) (by decide +kernel) rfl rfl ?_
  refine gd_cv0 (w' := false) (pc' := 14) (X_G_noteNewWords _) h md_G_noteNewWords vd_G_noteNewWords (Or.inl ml_0_80) (by decide +kernel) (by decide) rfl rfl rfl (Nat.le_of_ble_eq_true rfl) (Nat.le_of_ble_eq_true rfl) (by decide) rfl (fun z => by cases z) (by decide) rfl (fun s2 h => ?_)
  refine gv_iload_n (n := 1) (pc' := 15) (by decide +kernel) rfl rfl ?_
  exact gv_iret .int (by decide +kernel) rfl rfl (by decide) (by decide) (gd_rE h)
def R_G_hasWord (a : Int32) (σ : gS) : gP :=
 if a < 0 then
  some (.inl (some (.int 0)))
 else
  if (gI σ 0 7) ≤ a then
   some (.inl (some (.int 0)))
  else
   some (.inl (some (.int 1)))
set_option maxRecDepth 20000 in
theorem X_G_hasWord (a : Int32) (σ : gS) (r0 : gQ) (h : R_G_hasWord a σ = some r0) : gv_K m_G_hasWord [.ref 0, .int a] σ (gv_is r0 σ) := by
  unfold R_G_hasWord at h
  show gv_V m_G_hasWord 1 true 0 [some (.ref 0), some (.int a)] [] σ (gv_is r0 σ)
  refine gv_iload_n (n := 1) (pc' := 1) (by decide +kernel) rfl rfl ?_
  refine gv_if_lt (off := 15) (tgt := 16) (pc' := 4) (by decide +kernel) (by decide) rfl (fun c1 => ?_) (fun c1 => ?_)
  · replace h := gd_T c1 h
    refine gv_iconst (n := 0) (v := 0) (pc' := 17) (by decide +kernel) (by decide) rfl ?_
    exact gv_iret .boolean (by decide +kernel) rfl rfl (by decide) (by decide) (gd_pE h)
  · replace h := gd_F c1 h
    refine gv_iload_n (n := 1) (pc' := 5) (by decide +kernel) rfl rfl ?_
    refine gv_aload_n (n := 0) (pc' := 6) (by decide +kernel) rfl rfl ?_
    refine gv_getj lk_0_63 (by decide +kernel) rfl rfl (pc' := 9) rfl ?_
    refine gv_icmp_ge (off := 7) (tgt := 16) (pc' := 12) (by decide +kernel) (by decide) rfl (fun c9 => ?_) (fun c9 => ?_)
    · replace h := gd_T c9 h
      refine gv_iconst (n := 0) (v := 0) (pc' := 17) (by decide +kernel) (by decide) rfl ?_
      exact gv_iret .boolean (by decide +kernel) rfl rfl (by decide) (by decide) (gd_pE h)
    · replace h := gd_F c9 h
      refine gv_iconst (n := 1) (v := 1) (pc' := 13) (by decide +kernel) (by decide) rfl ?_
      refine gv_goto (off := 4) (tgt := 17) (by decide +kernel) (by decide) ?_
      exact gv_iret .boolean (by decide +kernel) rfl rfl (by decide) (by decide) (gd_pE h)
def R_G_wordAt (a : Int32) (σ : gS) : gP :=
 gd_pi (R_G_hasWord a σ) fun r1 =>
 if r1 = 0 then
  some (.inl (some (.long (-1))))
 else
  gd_g (gd_in a 1040) <|
  some (.inl (some (.long ((Int32.toInt64 (gA σ 1 a.toNatClampNeg)) &&& (4294967295 : Int64)))))
set_option maxRecDepth 20000 in
theorem X_G_wordAt (a : Int32) (σ : gS) (r0 : gQ) (h : R_G_wordAt a σ = some r0) : gv_K m_G_wordAt [.ref 0, .int a] σ (gv_is r0 σ) := by
  unfold R_G_wordAt at h
  show gv_V m_G_wordAt 1 true 0 [some (.ref 0), some (.int a)] [] σ (gv_is r0 σ)
  refine gv_aload_n (n := 0) (pc' := 1) (by decide +kernel) rfl rfl ?_
  refine gv_iload_n (n := 1) (pc' := 2) (by decide +kernel) rfl rfl ?_
  refine gd_evi (w' := true) (pc' := 5) (X_G_hasWord _ _) h md_G_hasWord vd_G_hasWord (Or.inl ml_0_88) (by decide +kernel) (by decide) rfl rfl rfl (Nat.le_of_ble_eq_true rfl) (Nat.le_of_ble_eq_true rfl) (by decide) rfl (fun z => ⟨rfl, z⟩) (by decide) rfl (fun r1 h => ?_)
  refine gv_if_eq (off := 17) (tgt := 22) (pc' := 8) (by decide +kernel) (by decide) rfl (fun c5 => ?_) (fun c5 => ?_)
  · replace h := gd_T c5 h
    refine gv_ldc2 (v := (-1)) (pc' := 25) (by decide +kernel) cn_0_94 rfl ?_
    exact gv_lret (by decide +kernel) rfl (by decide) (by decide) (gd_pE h)
  · replace h := gd_F c5 h
    refine gv_aload_n (n := 0) (pc' := 9) (by decide +kernel) rfl rfl ?_
    refine gv_getr lk_0_9 (by decide +kernel) rfl rfl (pc' := 12) rfl ?_
    refine gv_iload_n (n := 1) (pc' := 13) (by decide +kernel) rfl rfl ?_
    obtain ⟨g13, h⟩ := gd_gE h
    refine gj_iald _ (pc' := 14) (by decide +kernel) rfl (gd_inv g13) rfl rfl ?_
    refine gv_i2l (pc' := 15) (by decide +kernel) rfl ?_
    refine gv_ldc2 (v := 4294967295) (pc' := 18) (by decide +kernel) cn_0_92 rfl ?_
    refine gv_land (pc' := 19) (by decide +kernel) rfl ?_
    refine gv_goto (off := 6) (tgt := 25) (by decide +kernel) (by decide) ?_
    exact gv_lret (by decide +kernel) rfl (by decide) (by decide) (gd_pE h)
def f_Word_code (a : Int32) : Int32 :=
 a &&& (127 : Int32)
set_option maxRecDepth 20000 in
theorem y_Word_code (a : Int32) (σ : gS) : gv_K m_Word_code [.int a] σ (gv_is (.inl (some (.int (f_Word_code a)))) σ) := by
  generalize h : f_Word_code a = r0
  unfold f_Word_code at h
  show gv_V m_Word_code 1 true 0 [some (.int a)] [] σ (gv_is (.inl (some (.int r0))) σ)
  refine gv_iload_n (n := 0) (pc' := 1) (by decide +kernel) rfl rfl ?_
  refine gv_bipush (n := 127) (v := 127) (pc' := 3) (by decide +kernel) (by decide) rfl ?_
  refine gv_iand (pc' := 4) (by decide +kernel) rfl ?_
  exact gv_iret .int (by decide +kernel) rfl rfl (by decide) (by decide) (gd_vE h)
def f_Word_d (a : Int32) : Int32 :=
 ((Int32.toUInt32 a >>> (Int32.toUInt32 (7 : Int32) &&& Int32.toUInt32 31)).toInt32) &&& (31 : Int32)
set_option maxRecDepth 20000 in
theorem y_Word_d (a : Int32) (σ : gS) : gv_K m_Word_d [.int a] σ (gv_is (.inl (some (.int (f_Word_d a)))) σ) := by
  generalize h : f_Word_d a = r0
  unfold f_Word_d at h
  show gv_V m_Word_d 1 true 0 [some (.int a)] [] σ (gv_is (.inl (some (.int r0))) σ)
  refine gv_iload_n (n := 0) (pc' := 1) (by decide +kernel) rfl rfl ?_
  refine gv_bipush (n := 7) (v := 7) (pc' := 3) (by decide +kernel) (by decide) rfl ?_
  refine gv_iushr (pc' := 4) (by decide +kernel) rfl ?_
  refine gv_bipush (n := 31) (v := 31) (pc' := 6) (by decide +kernel) (by decide) rfl ?_
  refine gv_iand (pc' := 7) (by decide +kernel) rfl ?_
  exact gv_iret .int (by decide +kernel) rfl rfl (by decide) (by decide) (gd_vE h)
def f_Word_f (a : Int32) : Int32 :=
 ((Int32.toUInt32 a >>> (Int32.toUInt32 (12 : Int32) &&& Int32.toUInt32 31)).toInt32) &&& (7 : Int32)
set_option maxRecDepth 20000 in
theorem y_Word_f (a : Int32) (σ : gS) : gv_K m_Word_f [.int a] σ (gv_is (.inl (some (.int (f_Word_f a)))) σ) := by
  generalize h : f_Word_f a = r0
  unfold f_Word_f at h
  show gv_V m_Word_f 1 true 0 [some (.int a)] [] σ (gv_is (.inl (some (.int r0))) σ)
  refine gv_iload_n (n := 0) (pc' := 1) (by decide +kernel) rfl rfl ?_
  refine gv_bipush (n := 12) (v := 12) (pc' := 3) (by decide +kernel) (by decide) rfl ?_
  refine gv_iushr (pc' := 4) (by decide +kernel) rfl ?_
  refine gv_bipush (n := 7) (v := 7) (pc' := 6) (by decide +kernel) (by decide) rfl ?_
  refine gv_iand (pc' := 7) (by decide +kernel) rfl ?_
  exact gv_iret .int (by decide +kernel) rfl rfl (by decide) (by decide) (gd_vE h)
def f_Word_g (a : Int32) : Int32 :=
 (Int32.toUInt32 a >>> (Int32.toUInt32 (25 : Int32) &&& Int32.toUInt32 31)).toInt32
set_option maxRecDepth 20000 in
theorem y_Word_g (a : Int32) (σ : gS) : gv_K m_Word_g [.int a] σ (gv_is (.inl (some (.int (f_Word_g a)))) σ) := by
  generalize h : f_Word_g a = r0
  unfold f_Word_g at h
  show gv_V m_Word_g 1 true 0 [some (.int a)] [] σ (gv_is (.inl (some (.int r0))) σ)
  refine gv_iload_n (n := 0) (pc' := 1) (by decide +kernel) rfl rfl ?_
  refine gv_bipush (n := 25) (v := 25) (pc' := 3) (by decide +kernel) (by decide) rfl ?_
  refine gv_iushr (pc' := 4) (by decide +kernel) rfl ?_
  exact gv_iret .int (by decide +kernel) rfl rfl (by decide) (by decide) (gd_vE h)
def f_Word_isImmForm (a : Int32) (b : Int32) : Int32 :=
 if a = 1 then
  if b = 0 then
   1
  else
   0
 else
  if a = 5 then
   if b = 0 then
    1
   else
    if b = 32 then
     1
    else
     0
  else
   1
set_option maxRecDepth 20000 in
theorem y_Word_isImmForm (a : Int32) (b : Int32) (σ : gS) : gv_K m_Word_isImmForm [.int a, .int b] σ (gv_is (.inl (some (.int (f_Word_isImmForm a b)))) σ) := by
  generalize h : f_Word_isImmForm a b = r0
  unfold f_Word_isImmForm at h
  show gv_V m_Word_isImmForm 1 true 0 [some (.int a), some (.int b)] [] σ (gv_is (.inl (some (.int r0))) σ)
  refine gv_iload_n (n := 0) (pc' := 1) (by decide +kernel) rfl rfl ?_
  refine gv_iconst (n := 1) (v := 1) (pc' := 2) (by decide +kernel) (by decide) rfl ?_
  refine gv_icmp_ne (off := 13) (tgt := 15) (pc' := 5) (by decide +kernel) (by decide) rfl (fun c2 => ?_) (fun c2 => ?_)
  · replace h := gd_F c2 h
    refine gv_iload_n (n := 0) (pc' := 16) (by decide +kernel) rfl rfl ?_
    refine gv_iconst (n := 5) (v := 5) (pc' := 17) (by decide +kernel) (by decide) rfl ?_
    refine gv_icmp_ne (off := 13) (tgt := 30) (pc' := 20) (by decide +kernel) (by decide) rfl (fun c17 => ?_) (fun c17 => ?_)
    · replace h := gd_F c17 h
      refine gv_iconst (n := 1) (v := 1) (pc' := 31) (by decide +kernel) (by decide) rfl ?_
      refine gv_goto (off := 4) (tgt := 35) (by decide +kernel) (by decide) ?_
      exact gv_iret .boolean (by decide +kernel) rfl rfl (by decide) (by decide) (gd_vE h)
    · replace h := gd_T c17 h
      refine gv_iload_n (n := 1) (pc' := 21) (by decide +kernel) rfl rfl ?_
      refine gv_if_eq (off := 9) (tgt := 30) (pc' := 24) (by decide +kernel) (by decide) rfl (fun c21 => ?_) (fun c21 => ?_)
      · replace h := gd_T c21 h
        refine gv_iconst (n := 1) (v := 1) (pc' := 31) (by decide +kernel) (by decide) rfl ?_
        refine gv_goto (off := 4) (tgt := 35) (by decide +kernel) (by decide) ?_
        exact gv_iret .boolean (by decide +kernel) rfl rfl (by decide) (by decide) (gd_vE h)
      · replace h := gd_F c21 h
        refine gv_iload_n (n := 1) (pc' := 25) (by decide +kernel) rfl rfl ?_
        refine gv_bipush (n := 32) (v := 32) (pc' := 27) (by decide +kernel) (by decide) rfl ?_
        refine gv_icmp_ne (off := 7) (tgt := 34) (pc' := 30) (by decide +kernel) (by decide) rfl (fun c27 => ?_) (fun c27 => ?_)
        · replace h := gd_F c27 h
          refine gv_iconst (n := 0) (v := 0) (pc' := 35) (by decide +kernel) (by decide) rfl ?_
          exact gv_iret .boolean (by decide +kernel) rfl rfl (by decide) (by decide) (gd_vE h)
        · replace h := gd_T c27 h
          refine gv_iconst (n := 1) (v := 1) (pc' := 31) (by decide +kernel) (by decide) rfl ?_
          refine gv_goto (off := 4) (tgt := 35) (by decide +kernel) (by decide) ?_
          exact gv_iret .boolean (by decide +kernel) rfl rfl (by decide) (by decide) (gd_vE h)
  · replace h := gd_T c2 h
    refine gv_iload_n (n := 1) (pc' := 6) (by decide +kernel) rfl rfl ?_
    refine gv_if_ne (off := 7) (tgt := 13) (pc' := 9) (by decide +kernel) (by decide) rfl (fun c6 => ?_) (fun c6 => ?_)
    · replace h := gd_F c6 h
      refine gv_iconst (n := 0) (v := 0) (pc' := 14) (by decide +kernel) (by decide) rfl ?_
      exact gv_iret .boolean (by decide +kernel) rfl rfl (by decide) (by decide) (gd_vE h)
    · replace h := gd_T c6 h
      refine gv_iconst (n := 1) (v := 1) (pc' := 10) (by decide +kernel) (by decide) rfl ?_
      refine gv_goto (off := 4) (tgt := 14) (by decide +kernel) (by decide) ?_
      exact gv_iret .boolean (by decide +kernel) rfl rfl (by decide) (by decide) (gd_vE h)
theorem z_Word_isImmForm (a : Int32) (b : Int32) : f_Word_isImmForm a b = 0 ∨ f_Word_isImmForm a b = 1 := by
  unfold f_Word_isImmForm
  repeat' split
  all_goals first | exact Or.inl rfl | exact Or.inr rfl
def f_Word_isRegForm (a : Int32) (b : Int32) : Int32 :=
 if b = 0 then
  1
 else
  if b = 1 then
   1
  else
   if b = 32 then
    if a = 0 then
     1
    else
     if a = 5 then
      1
     else
      0
   else
    0
set_option maxRecDepth 20000 in
theorem y_Word_isRegForm (a : Int32) (b : Int32) (σ : gS) : gv_K m_Word_isRegForm [.int a, .int b] σ (gv_is (.inl (some (.int (f_Word_isRegForm a b)))) σ) := by
  generalize h : f_Word_isRegForm a b = r0
  unfold f_Word_isRegForm at h
  show gv_V m_Word_isRegForm 1 true 0 [some (.int a), some (.int b)] [] σ (gv_is (.inl (some (.int r0))) σ)
  refine gv_iload_n (n := 1) (pc' := 1) (by decide +kernel) rfl rfl ?_
  refine gv_if_eq (off := 23) (tgt := 24) (pc' := 4) (by decide +kernel) (by decide) rfl (fun c1 => ?_) (fun c1 => ?_)
  · replace h := gd_T c1 h
    refine gv_iconst (n := 1) (v := 1) (pc' := 25) (by decide +kernel) (by decide) rfl ?_
    refine gv_goto (off := 4) (tgt := 29) (by decide +kernel) (by decide) ?_
    exact gv_iret .boolean (by decide +kernel) rfl rfl (by decide) (by decide) (gd_vE h)
  · replace h := gd_F c1 h
    refine gv_iload_n (n := 1) (pc' := 5) (by decide +kernel) rfl rfl ?_
    refine gv_iconst (n := 1) (v := 1) (pc' := 6) (by decide +kernel) (by decide) rfl ?_
    refine gv_icmp_eq (off := 18) (tgt := 24) (pc' := 9) (by decide +kernel) (by decide) rfl (fun c6 => ?_) (fun c6 => ?_)
    · replace h := gd_T c6 h
      refine gv_iconst (n := 1) (v := 1) (pc' := 25) (by decide +kernel) (by decide) rfl ?_
      refine gv_goto (off := 4) (tgt := 29) (by decide +kernel) (by decide) ?_
      exact gv_iret .boolean (by decide +kernel) rfl rfl (by decide) (by decide) (gd_vE h)
    · replace h := gd_F c6 h
      refine gv_iload_n (n := 1) (pc' := 10) (by decide +kernel) rfl rfl ?_
      refine gv_bipush (n := 32) (v := 32) (pc' := 12) (by decide +kernel) (by decide) rfl ?_
      refine gv_icmp_ne (off := 16) (tgt := 28) (pc' := 15) (by decide +kernel) (by decide) rfl (fun c12 => ?_) (fun c12 => ?_)
      · replace h := gd_F c12 h
        refine gv_iconst (n := 0) (v := 0) (pc' := 29) (by decide +kernel) (by decide) rfl ?_
        exact gv_iret .boolean (by decide +kernel) rfl rfl (by decide) (by decide) (gd_vE h)
      · replace h := gd_T c12 h
        refine gv_iload_n (n := 0) (pc' := 16) (by decide +kernel) rfl rfl ?_
        refine gv_if_eq (off := 8) (tgt := 24) (pc' := 19) (by decide +kernel) (by decide) rfl (fun c16 => ?_) (fun c16 => ?_)
        · replace h := gd_T c16 h
          refine gv_iconst (n := 1) (v := 1) (pc' := 25) (by decide +kernel) (by decide) rfl ?_
          refine gv_goto (off := 4) (tgt := 29) (by decide +kernel) (by decide) ?_
          exact gv_iret .boolean (by decide +kernel) rfl rfl (by decide) (by decide) (gd_vE h)
        · replace h := gd_F c16 h
          refine gv_iload_n (n := 0) (pc' := 20) (by decide +kernel) rfl rfl ?_
          refine gv_iconst (n := 5) (v := 5) (pc' := 21) (by decide +kernel) (by decide) rfl ?_
          refine gv_icmp_ne (off := 7) (tgt := 28) (pc' := 24) (by decide +kernel) (by decide) rfl (fun c21 => ?_) (fun c21 => ?_)
          · replace h := gd_F c21 h
            refine gv_iconst (n := 0) (v := 0) (pc' := 29) (by decide +kernel) (by decide) rfl ?_
            exact gv_iret .boolean (by decide +kernel) rfl rfl (by decide) (by decide) (gd_vE h)
          · replace h := gd_T c21 h
            refine gv_iconst (n := 1) (v := 1) (pc' := 25) (by decide +kernel) (by decide) rfl ?_
            refine gv_goto (off := 4) (tgt := 29) (by decide +kernel) (by decide) ?_
            exact gv_iret .boolean (by decide +kernel) rfl rfl (by decide) (by decide) (gd_vE h)
theorem z_Word_isRegForm (a : Int32) (b : Int32) : f_Word_isRegForm a b = 0 ∨ f_Word_isRegForm a b = 1 := by
  unfold f_Word_isRegForm
  repeat' split
  all_goals first | exact Or.inl rfl | exact Or.inr rfl
def f_Word_kind (a : Int32) : Int32 :=
 if (f_Word_code a) = 3 then
  if (f_Word_f a) ≤ 2 then
   3
  else
   if (f_Word_f a) = 4 then
    3
   else
    if (f_Word_f a) = 5 then
     3
    else
     (-1)
 else if (f_Word_code a) = 15 then
  if (f_Word_f a) = 0 then
   7
  else
   (-1)
 else if (f_Word_code a) = 19 then
  if (f_Word_isImmForm (f_Word_f a) (f_Word_g a)) = 0 then
   (-1)
  else
   1
 else if (f_Word_code a) = 35 then
  if 2 < (f_Word_f a) then
   (-1)
  else
   4
 else if (f_Word_code a) = 51 then
  if (f_Word_isRegForm (f_Word_f a) (f_Word_g a)) = 0 then
   (-1)
  else
   0
 else if (f_Word_code a) = 55 then
  2
 else if (f_Word_code a) = 99 then
  if (f_Word_f a) = 2 then
   (-1)
  else
   if (f_Word_f a) = 3 then
    (-1)
   else
    5
 else if (f_Word_code a) = 111 then
  if (f_Word_d a) = 0 then
   6
  else
   (-1)
 else 
  if a = 115 then
   8
  else
   (-1)
set_option maxRecDepth 20000 in
theorem y_Word_kind (a : Int32) (σ : gS) : gv_K m_Word_kind [.int a] σ (gv_is (.inl (some (.int (f_Word_kind a)))) σ) := by
  generalize h : f_Word_kind a = r0
  unfold f_Word_kind at h
  show gv_V m_Word_kind 1 true 0 [some (.int a), none] [] σ (gv_is (.inl (some (.int r0))) σ)
  refine gv_iload_n (n := 0) (pc' := 1) (by decide +kernel) rfl rfl ?_
  refine gv_csi (w' := true) (pc' := 4) (y_Word_f _ _) md_Word_f sd_Word_f (Or.inl ml_10_26) (by decide +kernel) (by decide) rfl (Nat.le_of_ble_eq_true rfl) (Nat.le_of_ble_eq_true rfl) (by decide) rfl (fun z => ⟨rfl, z⟩) (by decide) rfl ?_
  refine gv_istore_n (n := 1) (pc' := 5) (by decide +kernel) (by decide) rfl ?_
  refine gv_iload_n (n := 0) (pc' := 6) (by decide +kernel) rfl rfl ?_
  refine gv_csi (w' := true) (pc' := 9) (y_Word_code _ _) md_Word_code sd_Word_code (Or.inl ml_10_15) (by decide +kernel) (by decide) rfl (Nat.le_of_ble_eq_true rfl) (Nat.le_of_ble_eq_true rfl) (by decide) rfl (fun z => ⟨rfl, z⟩) (by decide) rfl ?_
  by_cases q9_0 : (f_Word_code a) = 3
  · replace h := gd_T q9_0 h
    refine gv_lookup (dflt := 184) (ps := #[(3, 111), (15, 173), (19, 92), (35, 132), (51, 75), (55, 109), (99, 143), (111, 159)]) (len := 75) (off := 111) (tgt := 120) (by decide +kernel) (by decide) (gd_lkT q9_0 (by decide +kernel)) (by decide) ?_
    refine gv_iload_n (n := 1) (pc' := 121) (by decide +kernel) rfl rfl ?_
    refine gv_iconst (n := 2) (v := 2) (pc' := 122) (by decide +kernel) (by decide) rfl ?_
    refine gv_icmp_le (off := 13) (tgt := 135) (pc' := 125) (by decide +kernel) (by decide) rfl (fun c122 => ?_) (fun c122 => ?_)
    · replace h := gd_T c122 h
      refine gv_iconst (n := 3) (v := 3) (pc' := 136) (by decide +kernel) (by decide) rfl ?_
      refine gv_goto (off := 4) (tgt := 140) (by decide +kernel) (by decide) ?_
      exact gv_iret .int (by decide +kernel) rfl rfl (by decide) (by decide) (gd_vE h)
    · replace h := gd_F c122 h
      refine gv_iload_n (n := 1) (pc' := 126) (by decide +kernel) rfl rfl ?_
      refine gv_iconst (n := 4) (v := 4) (pc' := 127) (by decide +kernel) (by decide) rfl ?_
      refine gv_icmp_eq (off := 8) (tgt := 135) (pc' := 130) (by decide +kernel) (by decide) rfl (fun c127 => ?_) (fun c127 => ?_)
      · replace h := gd_T c127 h
        refine gv_iconst (n := 3) (v := 3) (pc' := 136) (by decide +kernel) (by decide) rfl ?_
        refine gv_goto (off := 4) (tgt := 140) (by decide +kernel) (by decide) ?_
        exact gv_iret .int (by decide +kernel) rfl rfl (by decide) (by decide) (gd_vE h)
      · replace h := gd_F c127 h
        refine gv_iload_n (n := 1) (pc' := 131) (by decide +kernel) rfl rfl ?_
        refine gv_iconst (n := 5) (v := 5) (pc' := 132) (by decide +kernel) (by decide) rfl ?_
        refine gv_icmp_ne (off := 7) (tgt := 139) (pc' := 135) (by decide +kernel) (by decide) rfl (fun c132 => ?_) (fun c132 => ?_)
        · replace h := gd_F c132 h
          refine gv_iconst (n := (-1)) (v := (-1)) (pc' := 140) (by decide +kernel) (by decide) rfl ?_
          exact gv_iret .int (by decide +kernel) rfl rfl (by decide) (by decide) (gd_vE h)
        · replace h := gd_T c132 h
          refine gv_iconst (n := 3) (v := 3) (pc' := 136) (by decide +kernel) (by decide) rfl ?_
          refine gv_goto (off := 4) (tgt := 140) (by decide +kernel) (by decide) ?_
          exact gv_iret .int (by decide +kernel) rfl rfl (by decide) (by decide) (gd_vE h)
  replace h := gd_F q9_0 h
  by_cases q9_1 : (f_Word_code a) = 15
  · replace h := gd_T q9_1 h
    refine gv_lookup (dflt := 184) (ps := #[(3, 111), (15, 173), (19, 92), (35, 132), (51, 75), (55, 109), (99, 143), (111, 159)]) (len := 75) (off := 173) (tgt := 182) (by decide +kernel) (by decide) (gd_lkT q9_1 (by decide +kernel)) (by decide) ?_
    refine gv_iload_n (n := 1) (pc' := 183) (by decide +kernel) rfl rfl ?_
    refine gv_if_ne (off := 8) (tgt := 191) (pc' := 186) (by decide +kernel) (by decide) rfl (fun c183 => ?_) (fun c183 => ?_)
    · replace h := gd_F c183 h
      refine gv_iconst (n := (-1)) (v := (-1)) (pc' := 192) (by decide +kernel) (by decide) rfl ?_
      exact gv_iret .int (by decide +kernel) rfl rfl (by decide) (by decide) (gd_vE h)
    · replace h := gd_T c183 h
      refine gv_bipush (n := 7) (v := 7) (pc' := 188) (by decide +kernel) (by decide) rfl ?_
      refine gv_goto (off := 4) (tgt := 192) (by decide +kernel) (by decide) ?_
      exact gv_iret .int (by decide +kernel) rfl rfl (by decide) (by decide) (gd_vE h)
  replace h := gd_F q9_1 h
  by_cases q9_2 : (f_Word_code a) = 19
  · replace h := gd_T q9_2 h
    refine gv_lookup (dflt := 184) (ps := #[(3, 111), (15, 173), (19, 92), (35, 132), (51, 75), (55, 109), (99, 143), (111, 159)]) (len := 75) (off := 92) (tgt := 101) (by decide +kernel) (by decide) (gd_lkT q9_2 (by decide +kernel)) (by decide) ?_
    refine gv_iload_n (n := 1) (pc' := 102) (by decide +kernel) rfl rfl ?_
    refine gv_iload_n (n := 0) (pc' := 103) (by decide +kernel) rfl rfl ?_
    refine gv_csi (w' := true) (pc' := 106) (y_Word_g _ _) md_Word_g sd_Word_g (Or.inl ml_10_29) (by decide +kernel) (by decide) rfl (Nat.le_of_ble_eq_true rfl) (Nat.le_of_ble_eq_true rfl) (by decide) rfl (fun z => ⟨rfl, z⟩) (by decide) rfl ?_
    refine gv_csi (w' := true) (pc' := 109) (y_Word_isImmForm _ _ _) md_Word_isImmForm sd_Word_isImmForm (Or.inl ml_10_36) (by decide +kernel) (by decide) rfl (Nat.le_of_ble_eq_true rfl) (Nat.le_of_ble_eq_true rfl) (by decide) rfl (fun z => ⟨rfl, z⟩) (by decide) rfl ?_
    refine gv_if_eq (off := 7) (tgt := 116) (pc' := 112) (by decide +kernel) (by decide) rfl (fun c109 => ?_) (fun c109 => ?_)
    · replace h := gd_T c109 h
      refine gv_iconst (n := (-1)) (v := (-1)) (pc' := 117) (by decide +kernel) (by decide) rfl ?_
      exact gv_iret .int (by decide +kernel) rfl rfl (by decide) (by decide) (gd_vE h)
    · replace h := gd_F c109 h
      refine gv_iconst (n := 1) (v := 1) (pc' := 113) (by decide +kernel) (by decide) rfl ?_
      refine gv_goto (off := 4) (tgt := 117) (by decide +kernel) (by decide) ?_
      exact gv_iret .int (by decide +kernel) rfl rfl (by decide) (by decide) (gd_vE h)
  replace h := gd_F q9_2 h
  by_cases q9_3 : (f_Word_code a) = 35
  · replace h := gd_T q9_3 h
    refine gv_lookup (dflt := 184) (ps := #[(3, 111), (15, 173), (19, 92), (35, 132), (51, 75), (55, 109), (99, 143), (111, 159)]) (len := 75) (off := 132) (tgt := 141) (by decide +kernel) (by decide) (gd_lkT q9_3 (by decide +kernel)) (by decide) ?_
    refine gv_iload_n (n := 1) (pc' := 142) (by decide +kernel) rfl rfl ?_
    refine gv_iconst (n := 2) (v := 2) (pc' := 143) (by decide +kernel) (by decide) rfl ?_
    refine gv_icmp_gt (off := 7) (tgt := 150) (pc' := 146) (by decide +kernel) (by decide) rfl (fun c143 => ?_) (fun c143 => ?_)
    · replace h := gd_T c143 h
      refine gv_iconst (n := (-1)) (v := (-1)) (pc' := 151) (by decide +kernel) (by decide) rfl ?_
      exact gv_iret .int (by decide +kernel) rfl rfl (by decide) (by decide) (gd_vE h)
    · replace h := gd_F c143 h
      refine gv_iconst (n := 4) (v := 4) (pc' := 147) (by decide +kernel) (by decide) rfl ?_
      refine gv_goto (off := 4) (tgt := 151) (by decide +kernel) (by decide) ?_
      exact gv_iret .int (by decide +kernel) rfl rfl (by decide) (by decide) (gd_vE h)
  replace h := gd_F q9_3 h
  by_cases q9_4 : (f_Word_code a) = 51
  · replace h := gd_T q9_4 h
    refine gv_lookup (dflt := 184) (ps := #[(3, 111), (15, 173), (19, 92), (35, 132), (51, 75), (55, 109), (99, 143), (111, 159)]) (len := 75) (off := 75) (tgt := 84) (by decide +kernel) (by decide) (gd_lkT q9_4 (by decide +kernel)) (by decide) ?_
    refine gv_iload_n (n := 1) (pc' := 85) (by decide +kernel) rfl rfl ?_
    refine gv_iload_n (n := 0) (pc' := 86) (by decide +kernel) rfl rfl ?_
    refine gv_csi (w' := true) (pc' := 89) (y_Word_g _ _) md_Word_g sd_Word_g (Or.inl ml_10_29) (by decide +kernel) (by decide) rfl (Nat.le_of_ble_eq_true rfl) (Nat.le_of_ble_eq_true rfl) (by decide) rfl (fun z => ⟨rfl, z⟩) (by decide) rfl ?_
    refine gv_csi (w' := true) (pc' := 92) (y_Word_isRegForm _ _ _) md_Word_isRegForm sd_Word_isRegForm (Or.inl ml_10_32) (by decide +kernel) (by decide) rfl (Nat.le_of_ble_eq_true rfl) (Nat.le_of_ble_eq_true rfl) (by decide) rfl (fun z => ⟨rfl, z⟩) (by decide) rfl ?_
    refine gv_if_eq (off := 7) (tgt := 99) (pc' := 95) (by decide +kernel) (by decide) rfl (fun c92 => ?_) (fun c92 => ?_)
    · replace h := gd_T c92 h
      refine gv_iconst (n := (-1)) (v := (-1)) (pc' := 100) (by decide +kernel) (by decide) rfl ?_
      exact gv_iret .int (by decide +kernel) rfl rfl (by decide) (by decide) (gd_vE h)
    · replace h := gd_F c92 h
      refine gv_iconst (n := 0) (v := 0) (pc' := 96) (by decide +kernel) (by decide) rfl ?_
      refine gv_goto (off := 4) (tgt := 100) (by decide +kernel) (by decide) ?_
      exact gv_iret .int (by decide +kernel) rfl rfl (by decide) (by decide) (gd_vE h)
  replace h := gd_F q9_4 h
  by_cases q9_5 : (f_Word_code a) = 55
  · replace h := gd_T q9_5 h
    refine gv_lookup (dflt := 184) (ps := #[(3, 111), (15, 173), (19, 92), (35, 132), (51, 75), (55, 109), (99, 143), (111, 159)]) (len := 75) (off := 109) (tgt := 118) (by decide +kernel) (by decide) (gd_lkT q9_5 (by decide +kernel)) (by decide) ?_
    refine gv_iconst (n := 2) (v := 2) (pc' := 119) (by decide +kernel) (by decide) rfl ?_
    exact gv_iret .int (by decide +kernel) rfl rfl (by decide) (by decide) (gd_vE h)
  replace h := gd_F q9_5 h
  by_cases q9_6 : (f_Word_code a) = 99
  · replace h := gd_T q9_6 h
    refine gv_lookup (dflt := 184) (ps := #[(3, 111), (15, 173), (19, 92), (35, 132), (51, 75), (55, 109), (99, 143), (111, 159)]) (len := 75) (off := 143) (tgt := 152) (by decide +kernel) (by decide) (gd_lkT q9_6 (by decide +kernel)) (by decide) ?_
    refine gv_iload_n (n := 1) (pc' := 153) (by decide +kernel) rfl rfl ?_
    refine gv_iconst (n := 2) (v := 2) (pc' := 154) (by decide +kernel) (by decide) rfl ?_
    refine gv_icmp_eq (off := 12) (tgt := 166) (pc' := 157) (by decide +kernel) (by decide) rfl (fun c154 => ?_) (fun c154 => ?_)
    · replace h := gd_T c154 h
      refine gv_iconst (n := (-1)) (v := (-1)) (pc' := 167) (by decide +kernel) (by decide) rfl ?_
      exact gv_iret .int (by decide +kernel) rfl rfl (by decide) (by decide) (gd_vE h)
    · replace h := gd_F c154 h
      refine gv_iload_n (n := 1) (pc' := 158) (by decide +kernel) rfl rfl ?_
      refine gv_iconst (n := 3) (v := 3) (pc' := 159) (by decide +kernel) (by decide) rfl ?_
      refine gv_icmp_eq (off := 7) (tgt := 166) (pc' := 162) (by decide +kernel) (by decide) rfl (fun c159 => ?_) (fun c159 => ?_)
      · replace h := gd_T c159 h
        refine gv_iconst (n := (-1)) (v := (-1)) (pc' := 167) (by decide +kernel) (by decide) rfl ?_
        exact gv_iret .int (by decide +kernel) rfl rfl (by decide) (by decide) (gd_vE h)
      · replace h := gd_F c159 h
        refine gv_iconst (n := 5) (v := 5) (pc' := 163) (by decide +kernel) (by decide) rfl ?_
        refine gv_goto (off := 4) (tgt := 167) (by decide +kernel) (by decide) ?_
        exact gv_iret .int (by decide +kernel) rfl rfl (by decide) (by decide) (gd_vE h)
  replace h := gd_F q9_6 h
  by_cases q9_7 : (f_Word_code a) = 111
  · replace h := gd_T q9_7 h
    refine gv_lookup (dflt := 184) (ps := #[(3, 111), (15, 173), (19, 92), (35, 132), (51, 75), (55, 109), (99, 143), (111, 159)]) (len := 75) (off := 159) (tgt := 168) (by decide +kernel) (by decide) (gd_lkT q9_7 (by decide +kernel)) (by decide) ?_
    refine gv_iload_n (n := 0) (pc' := 169) (by decide +kernel) rfl rfl ?_
    refine gv_csi (w' := true) (pc' := 172) (y_Word_d _ _) md_Word_d sd_Word_d (Or.inl ml_10_9) (by decide +kernel) (by decide) rfl (Nat.le_of_ble_eq_true rfl) (Nat.le_of_ble_eq_true rfl) (by decide) rfl (fun z => ⟨rfl, z⟩) (by decide) rfl ?_
    refine gv_if_ne (off := 8) (tgt := 180) (pc' := 175) (by decide +kernel) (by decide) rfl (fun c172 => ?_) (fun c172 => ?_)
    · replace h := gd_F c172 h
      refine gv_iconst (n := (-1)) (v := (-1)) (pc' := 181) (by decide +kernel) (by decide) rfl ?_
      exact gv_iret .int (by decide +kernel) rfl rfl (by decide) (by decide) (gd_vE h)
    · replace h := gd_T c172 h
      refine gv_bipush (n := 6) (v := 6) (pc' := 177) (by decide +kernel) (by decide) rfl ?_
      refine gv_goto (off := 4) (tgt := 181) (by decide +kernel) (by decide) ?_
      exact gv_iret .int (by decide +kernel) rfl rfl (by decide) (by decide) (gd_vE h)
  replace h := gd_F q9_7 h
  refine gv_lookup (dflt := 184) (ps := #[(3, 111), (15, 173), (19, 92), (35, 132), (51, 75), (55, 109), (99, 143), (111, 159)]) (len := 75) (off := 184) (tgt := 193) (by decide +kernel) (by decide) (gd_lk1 q9_0 (by decide) (gd_lk1 q9_1 (by decide) (gd_lk1 q9_2 (by decide) (gd_lk1 q9_3 (by decide) (gd_lk1 q9_4 (by decide) (gd_lk1 q9_5 (by decide) (gd_lk1 q9_6 (by decide) (gd_lk1 q9_7 (by decide) (gd_lk0 _ _))))))))) (by decide) ?_
  refine gv_iload_n (n := 0) (pc' := 194) (by decide +kernel) rfl rfl ?_
  refine gv_bipush (n := 115) (v := 115) (pc' := 196) (by decide +kernel) (by decide) rfl ?_
  refine gv_icmp_ne (off := 8) (tgt := 204) (pc' := 199) (by decide +kernel) (by decide) rfl (fun c196 => ?_) (fun c196 => ?_)
  · replace h := gd_F c196 h
    refine gv_iconst (n := (-1)) (v := (-1)) (pc' := 205) (by decide +kernel) (by decide) rfl ?_
    exact gv_iret .int (by decide +kernel) rfl rfl (by decide) (by decide) (gd_vE h)
  · replace h := gd_T c196 h
    refine gv_bipush (n := 8) (v := 8) (pc' := 201) (by decide +kernel) (by decide) rfl ?_
    refine gv_goto (off := 4) (tgt := 205) (by decide +kernel) (by decide) ?_
    exact gv_iret .int (by decide +kernel) rfl rfl (by decide) (by decide) (gd_vE h)
def f_Word_jumpOffset (a : Int32) : Int32 :=
 ((((a >>> ((31 : Int32) &&& 31)) <<< ((20 : Int32) &&& 31)) ||| (a &&& (1044480 : Int32))) ||| ((((Int32.toUInt32 a >>> (Int32.toUInt32 (20 : Int32) &&& Int32.toUInt32 31)).toInt32) &&& (1 : Int32)) <<< ((11 : Int32) &&& 31))) ||| ((((Int32.toUInt32 a >>> (Int32.toUInt32 (21 : Int32) &&& Int32.toUInt32 31)).toInt32) &&& (1023 : Int32)) <<< ((1 : Int32) &&& 31))
set_option maxRecDepth 20000 in
theorem y_Word_jumpOffset (a : Int32) (σ : gS) : gv_K m_Word_jumpOffset [.int a] σ (gv_is (.inl (some (.int (f_Word_jumpOffset a)))) σ) := by
  generalize h : f_Word_jumpOffset a = r0
  unfold f_Word_jumpOffset at h
  show gv_V m_Word_jumpOffset 1 true 0 [some (.int a)] [] σ (gv_is (.inl (some (.int r0))) σ)
  refine gv_iload_n (n := 0) (pc' := 1) (by decide +kernel) rfl rfl ?_
  refine gv_bipush (n := 31) (v := 31) (pc' := 3) (by decide +kernel) (by decide) rfl ?_
  refine gv_ishr (pc' := 4) (by decide +kernel) rfl ?_
  refine gv_bipush (n := 20) (v := 20) (pc' := 6) (by decide +kernel) (by decide) rfl ?_
  refine gv_ishl (pc' := 7) (by decide +kernel) rfl ?_
  refine gv_iload_n (n := 0) (pc' := 8) (by decide +kernel) rfl rfl ?_
  refine gv_ldc (v := 1044480) (pc' := 10) (by decide +kernel) cn_10_24 rfl ?_
  refine gv_iand (pc' := 11) (by decide +kernel) rfl ?_
  refine gv_ior (pc' := 12) (by decide +kernel) rfl ?_
  refine gv_iload_n (n := 0) (pc' := 13) (by decide +kernel) rfl rfl ?_
  refine gv_bipush (n := 20) (v := 20) (pc' := 15) (by decide +kernel) (by decide) rfl ?_
  refine gv_iushr (pc' := 16) (by decide +kernel) rfl ?_
  refine gv_iconst (n := 1) (v := 1) (pc' := 17) (by decide +kernel) (by decide) rfl ?_
  refine gv_iand (pc' := 18) (by decide +kernel) rfl ?_
  refine gv_bipush (n := 11) (v := 11) (pc' := 20) (by decide +kernel) (by decide) rfl ?_
  refine gv_ishl (pc' := 21) (by decide +kernel) rfl ?_
  refine gv_ior (pc' := 22) (by decide +kernel) rfl ?_
  refine gv_iload_n (n := 0) (pc' := 23) (by decide +kernel) rfl rfl ?_
  refine gv_bipush (n := 21) (v := 21) (pc' := 25) (by decide +kernel) (by decide) rfl ?_
  refine gv_iushr (pc' := 26) (by decide +kernel) rfl ?_
  refine gv_sipush (n := 1023) (v := 1023) (pc' := 29) (by decide +kernel) (by decide) rfl ?_
  refine gv_iand (pc' := 30) (by decide +kernel) rfl ?_
  refine gv_iconst (n := 1) (v := 1) (pc' := 31) (by decide +kernel) (by decide) rfl ?_
  refine gv_ishl (pc' := 32) (by decide +kernel) rfl ?_
  refine gv_ior (pc' := 33) (by decide +kernel) rfl ?_
  exact gv_iret .int (by decide +kernel) rfl rfl (by decide) (by decide) (gd_vE h)
def f_Word_branchOffset (a : Int32) : Int32 :=
 ((((a >>> ((31 : Int32) &&& 31)) <<< ((12 : Int32) &&& 31)) ||| ((((Int32.toUInt32 a >>> (Int32.toUInt32 (7 : Int32) &&& Int32.toUInt32 31)).toInt32) &&& (1 : Int32)) <<< ((11 : Int32) &&& 31))) ||| ((((Int32.toUInt32 a >>> (Int32.toUInt32 (25 : Int32) &&& Int32.toUInt32 31)).toInt32) &&& (63 : Int32)) <<< ((5 : Int32) &&& 31))) ||| ((((Int32.toUInt32 a >>> (Int32.toUInt32 (8 : Int32) &&& Int32.toUInt32 31)).toInt32) &&& (15 : Int32)) <<< ((1 : Int32) &&& 31))
set_option maxRecDepth 20000 in
theorem y_Word_branchOffset (a : Int32) (σ : gS) : gv_K m_Word_branchOffset [.int a] σ (gv_is (.inl (some (.int (f_Word_branchOffset a)))) σ) := by
  generalize h : f_Word_branchOffset a = r0
  unfold f_Word_branchOffset at h
  show gv_V m_Word_branchOffset 1 true 0 [some (.int a)] [] σ (gv_is (.inl (some (.int r0))) σ)
  refine gv_iload_n (n := 0) (pc' := 1) (by decide +kernel) rfl rfl ?_
  refine gv_bipush (n := 31) (v := 31) (pc' := 3) (by decide +kernel) (by decide) rfl ?_
  refine gv_ishr (pc' := 4) (by decide +kernel) rfl ?_
  refine gv_bipush (n := 12) (v := 12) (pc' := 6) (by decide +kernel) (by decide) rfl ?_
  refine gv_ishl (pc' := 7) (by decide +kernel) rfl ?_
  refine gv_iload_n (n := 0) (pc' := 8) (by decide +kernel) rfl rfl ?_
  refine gv_bipush (n := 7) (v := 7) (pc' := 10) (by decide +kernel) (by decide) rfl ?_
  refine gv_iushr (pc' := 11) (by decide +kernel) rfl ?_
  refine gv_iconst (n := 1) (v := 1) (pc' := 12) (by decide +kernel) (by decide) rfl ?_
  refine gv_iand (pc' := 13) (by decide +kernel) rfl ?_
  refine gv_bipush (n := 11) (v := 11) (pc' := 15) (by decide +kernel) (by decide) rfl ?_
  refine gv_ishl (pc' := 16) (by decide +kernel) rfl ?_
  refine gv_ior (pc' := 17) (by decide +kernel) rfl ?_
  refine gv_iload_n (n := 0) (pc' := 18) (by decide +kernel) rfl rfl ?_
  refine gv_bipush (n := 25) (v := 25) (pc' := 20) (by decide +kernel) (by decide) rfl ?_
  refine gv_iushr (pc' := 21) (by decide +kernel) rfl ?_
  refine gv_bipush (n := 63) (v := 63) (pc' := 23) (by decide +kernel) (by decide) rfl ?_
  refine gv_iand (pc' := 24) (by decide +kernel) rfl ?_
  refine gv_iconst (n := 5) (v := 5) (pc' := 25) (by decide +kernel) (by decide) rfl ?_
  refine gv_ishl (pc' := 26) (by decide +kernel) rfl ?_
  refine gv_ior (pc' := 27) (by decide +kernel) rfl ?_
  refine gv_iload_n (n := 0) (pc' := 28) (by decide +kernel) rfl rfl ?_
  refine gv_bipush (n := 8) (v := 8) (pc' := 30) (by decide +kernel) (by decide) rfl ?_
  refine gv_iushr (pc' := 31) (by decide +kernel) rfl ?_
  refine gv_bipush (n := 15) (v := 15) (pc' := 33) (by decide +kernel) (by decide) rfl ?_
  refine gv_iand (pc' := 34) (by decide +kernel) rfl ?_
  refine gv_iconst (n := 1) (v := 1) (pc' := 35) (by decide +kernel) (by decide) rfl ?_
  refine gv_ishl (pc' := 36) (by decide +kernel) rfl ?_
  refine gv_ior (pc' := 37) (by decide +kernel) rfl ?_
  exact gv_iret .int (by decide +kernel) rfl rfl (by decide) (by decide) (gd_vE h)
def f_Word_offset (a : Int32) : Int32 :=
 if (f_Word_code a) = 99 then
  f_Word_branchOffset a
 else
  f_Word_jumpOffset a
set_option maxRecDepth 20000 in
theorem y_Word_offset (a : Int32) (σ : gS) : gv_K m_Word_offset [.int a] σ (gv_is (.inl (some (.int (f_Word_offset a)))) σ) := by
  generalize h : f_Word_offset a = r0
  unfold f_Word_offset at h
  show gv_V m_Word_offset 1 true 0 [some (.int a)] [] σ (gv_is (.inl (some (.int r0))) σ)
  refine gv_iload_n (n := 0) (pc' := 1) (by decide +kernel) rfl rfl ?_
  refine gv_csi (w' := true) (pc' := 4) (y_Word_code _ _) md_Word_code sd_Word_code (Or.inl ml_10_15) (by decide +kernel) (by decide) rfl (Nat.le_of_ble_eq_true rfl) (Nat.le_of_ble_eq_true rfl) (by decide) rfl (fun z => ⟨rfl, z⟩) (by decide) rfl ?_
  refine gv_bipush (n := 99) (v := 99) (pc' := 6) (by decide +kernel) (by decide) rfl ?_
  refine gv_icmp_ne (off := 10) (tgt := 16) (pc' := 9) (by decide +kernel) (by decide) rfl (fun c6 => ?_) (fun c6 => ?_)
  · replace h := gd_F c6 h
    refine gv_iload_n (n := 0) (pc' := 17) (by decide +kernel) rfl rfl ?_
    refine gv_csi (w' := true) (pc' := 20) (y_Word_jumpOffset _ _) md_Word_jumpOffset sd_Word_jumpOffset (Or.inl ml_10_21) (by decide +kernel) (by decide) rfl (Nat.le_of_ble_eq_true rfl) (Nat.le_of_ble_eq_true rfl) (by decide) rfl (fun z => ⟨rfl, z⟩) (by decide) rfl ?_
    exact gv_iret .int (by decide +kernel) rfl rfl (by decide) (by decide) (gd_vE h)
  · replace h := gd_T c6 h
    refine gv_iload_n (n := 0) (pc' := 10) (by decide +kernel) rfl rfl ?_
    refine gv_csi (w' := true) (pc' := 13) (y_Word_branchOffset _ _) md_Word_branchOffset sd_Word_branchOffset (Or.inl ml_10_18) (by decide +kernel) (by decide) rfl (Nat.le_of_ble_eq_true rfl) (Nat.le_of_ble_eq_true rfl) (by decide) rfl (fun z => ⟨rfl, z⟩) (by decide) rfl ?_
    refine gv_goto (off := 7) (tgt := 20) (by decide +kernel) (by decide) ?_
    exact gv_iret .int (by decide +kernel) rfl rfl (by decide) (by decide) (gd_vE h)
def f_Word_goesInside (a : Int32) (b : Int32) (c : Int32) : Int32 :=
 if (b &&& (3 : Int32)) = 0 then
  if (a + (b >>> ((2 : Int32) &&& 31))) < 0 then
   0
  else
   if c < (a + (b >>> ((2 : Int32) &&& 31))) then
    0
   else
    1
 else
  0
set_option maxRecDepth 20000 in
theorem y_Word_goesInside (a : Int32) (b : Int32) (c : Int32) (σ : gS) : gv_K m_Word_goesInside [.int a, .int b, .int c] σ (gv_is (.inl (some (.int (f_Word_goesInside a b c)))) σ) := by
  generalize h : f_Word_goesInside a b c = r0
  unfold f_Word_goesInside at h
  show gv_V m_Word_goesInside 1 true 0 [some (.int a), some (.int b), some (.int c), none] [] σ (gv_is (.inl (some (.int r0))) σ)
  refine gv_iload_n (n := 0) (pc' := 1) (by decide +kernel) rfl rfl ?_
  refine gv_iload_n (n := 1) (pc' := 2) (by decide +kernel) rfl rfl ?_
  refine gv_iconst (n := 2) (v := 2) (pc' := 3) (by decide +kernel) (by decide) rfl ?_
  refine gv_ishr (pc' := 4) (by decide +kernel) rfl ?_
  refine gv_iadd (pc' := 5) (by decide +kernel) rfl ?_
  refine gv_istore_n (n := 3) (pc' := 6) (by decide +kernel) (by decide) rfl ?_
  refine gv_iload_n (n := 1) (pc' := 7) (by decide +kernel) rfl rfl ?_
  refine gv_iconst (n := 3) (v := 3) (pc' := 8) (by decide +kernel) (by decide) rfl ?_
  refine gv_iand (pc' := 9) (by decide +kernel) rfl ?_
  refine gv_if_ne (off := 16) (tgt := 25) (pc' := 12) (by decide +kernel) (by decide) rfl (fun c9 => ?_) (fun c9 => ?_)
  · replace h := gd_F c9 h
    refine gv_iconst (n := 0) (v := 0) (pc' := 26) (by decide +kernel) (by decide) rfl ?_
    exact gv_iret .boolean (by decide +kernel) rfl rfl (by decide) (by decide) (gd_vE h)
  · replace h := gd_T c9 h
    refine gv_iload_n (n := 3) (pc' := 13) (by decide +kernel) rfl rfl ?_
    refine gv_if_lt (off := 12) (tgt := 25) (pc' := 16) (by decide +kernel) (by decide) rfl (fun c13 => ?_) (fun c13 => ?_)
    · replace h := gd_T c13 h
      refine gv_iconst (n := 0) (v := 0) (pc' := 26) (by decide +kernel) (by decide) rfl ?_
      exact gv_iret .boolean (by decide +kernel) rfl rfl (by decide) (by decide) (gd_vE h)
    · replace h := gd_F c13 h
      refine gv_iload_n (n := 3) (pc' := 17) (by decide +kernel) rfl rfl ?_
      refine gv_iload_n (n := 2) (pc' := 18) (by decide +kernel) rfl rfl ?_
      refine gv_icmp_gt (off := 7) (tgt := 25) (pc' := 21) (by decide +kernel) (by decide) rfl (fun c18 => ?_) (fun c18 => ?_)
      · replace h := gd_T c18 h
        refine gv_iconst (n := 0) (v := 0) (pc' := 26) (by decide +kernel) (by decide) rfl ?_
        exact gv_iret .boolean (by decide +kernel) rfl rfl (by decide) (by decide) (gd_vE h)
      · replace h := gd_F c18 h
        refine gv_iconst (n := 1) (v := 1) (pc' := 22) (by decide +kernel) (by decide) rfl ?_
        refine gv_goto (off := 4) (tgt := 26) (by decide +kernel) (by decide) ?_
        exact gv_iret .boolean (by decide +kernel) rfl rfl (by decide) (by decide) (gd_vE h)
theorem z_Word_goesInside (a : Int32) (b : Int32) (c : Int32) : f_Word_goesInside a b c = 0 ∨ f_Word_goesInside a b c = 1 := by
  unfold f_Word_goesInside
  repeat' split
  all_goals first | exact Or.inl rfl | exact Or.inr rfl
def f_Word_fault (a : Int32) (b : Int32) (c : Int32) : Int32 :=
 if (f_Word_code a) = 103 then
  1
 else
  if (f_Word_code a) = 23 then
   2
  else
   gd_j (α := Int32) (
    if (f_Word_kind a) = (-1) then
     4
    else
     gd_t (α := Int32) (if (f_Word_kind a) = 5 then
       1
      else
       if (f_Word_kind a) = 6 then
        1
       else
        0) fun v3 =>
     if v3 = 0 then
      0
     else
      if (f_Word_goesInside b (f_Word_offset a) c) = 0 then
       5
      else
       0) fun J1 =>
   if (f_Word_code a) = 111 then
    if (f_Word_d a) = 0 then
     J1
    else
     3
   else
    J1
set_option maxRecDepth 20000 in
theorem y_Word_fault (a : Int32) (b : Int32) (c : Int32) (σ : gS) : gv_K m_Word_fault [.int a, .int b, .int c] σ (gv_is (.inl (some (.int (f_Word_fault a b c)))) σ) := by
  generalize h : f_Word_fault a b c = r0
  unfold f_Word_fault at h
  show gv_V m_Word_fault 1 true 0 [some (.int a), some (.int b), some (.int c), none, none, none] [] σ (gv_is (.inl (some (.int r0))) σ)
  refine gv_iload_n (n := 0) (pc' := 1) (by decide +kernel) rfl rfl ?_
  refine gv_csi (w' := true) (pc' := 4) (y_Word_code _ _) md_Word_code sd_Word_code (Or.inl ml_10_15) (by decide +kernel) (by decide) rfl (Nat.le_of_ble_eq_true rfl) (Nat.le_of_ble_eq_true rfl) (by decide) rfl (fun z => ⟨rfl, z⟩) (by decide) rfl ?_
  refine gv_istore_n (n := 3) (pc' := 5) (by decide +kernel) (by decide) rfl ?_
  refine gv_iload_n (n := 3) (pc' := 6) (by decide +kernel) rfl rfl ?_
  refine gv_bipush (n := 103) (v := 103) (pc' := 8) (by decide +kernel) (by decide) rfl ?_
  refine gv_icmp_ne (off := 5) (tgt := 13) (pc' := 11) (by decide +kernel) (by decide) rfl (fun c8 => ?_) (fun c8 => ?_)
  · replace h := gd_F c8 h
    refine gv_iload_n (n := 3) (pc' := 14) (by decide +kernel) rfl rfl ?_
    refine gv_bipush (n := 23) (v := 23) (pc' := 16) (by decide +kernel) (by decide) rfl ?_
    refine gv_icmp_ne (off := 5) (tgt := 21) (pc' := 19) (by decide +kernel) (by decide) rfl (fun c16 => ?_) (fun c16 => ?_)
    · replace h := gd_F c16 h
      refine gv_iload_n (n := 3) (pc' := 22) (by decide +kernel) rfl rfl ?_
      refine gv_bipush (n := 111) (v := 111) (pc' := 24) (by decide +kernel) (by decide) rfl ?_
      refine gd_jC (fun J1 => J1 = r0 → gv_V m_Word_fault 1 true 36 [some (.int a), some (.int b), some (.int c), none, none, none] [] σ (gv_is (.inl (some (.int r0))) σ)) h (fun  h => ?_) (fun J1 hJ1 h => ?_)
      · refine gv_iload_n (n := 0) (pc' := 37) (by decide +kernel) rfl rfl ?_
        refine gv_csi (w' := true) (pc' := 40) (y_Word_kind _ _) md_Word_kind sd_Word_kind (Or.inl ml_10_39) (by decide +kernel) (by decide) rfl (Nat.le_of_ble_eq_true rfl) (Nat.le_of_ble_eq_true rfl) (by decide) rfl (fun z => ⟨rfl, z⟩) (by decide) rfl ?_
        refine gv_istore (n := 4) (pc' := 42) (by decide +kernel) (by decide) rfl ?_
        refine gv_iload (n := 4) (pc' := 44) (by decide +kernel) rfl rfl ?_
        refine gv_iconst (n := (-1)) (v := (-1)) (pc' := 45) (by decide +kernel) (by decide) rfl ?_
        refine gv_icmp_ne (off := 5) (tgt := 50) (pc' := 48) (by decide +kernel) (by decide) rfl (fun c45 => ?_) (fun c45 => ?_)
        · replace h := gd_F c45 h
          refine gv_iload (n := 4) (pc' := 52) (by decide +kernel) rfl rfl ?_
          refine gv_iconst (n := 5) (v := 5) (pc' := 53) (by decide +kernel) (by decide) rfl ?_
          refine gd_tC (fun (v3 : Int32) => gv_V m_Word_fault 1 true 68 [some (.int a), some (.int b), some (.int c), none, none, none] [.int v3] σ (gv_is (.inl (some (.int r0))) σ)) h (fun v3 h => ?_) (fun KJ2 hJ2 h => ?_)
          · refine gv_istore (n := 5) (pc' := 70) (by decide +kernel) (by decide) rfl ?_
            refine gv_iload (n := 5) (pc' := 72) (by decide +kernel) rfl rfl ?_
            refine gv_if_eq (off := 19) (tgt := 91) (pc' := 75) (by decide +kernel) (by decide) rfl (fun c72 => ?_) (fun c72 => ?_)
            · replace h := gd_T c72 h
              refine gv_iconst (n := 0) (v := 0) (pc' := 92) (by decide +kernel) (by decide) rfl ?_
              exact gv_iret .int (by decide +kernel) rfl rfl (by decide) (by decide) (gd_vE h)
            · replace h := gd_F c72 h
              refine gv_iload_n (n := 1) (pc' := 76) (by decide +kernel) rfl rfl ?_
              refine gv_iload_n (n := 0) (pc' := 77) (by decide +kernel) rfl rfl ?_
              refine gv_csi (w' := true) (pc' := 80) (y_Word_offset _ _) md_Word_offset sd_Word_offset (Or.inl ml_10_42) (by decide +kernel) (by decide) rfl (Nat.le_of_ble_eq_true rfl) (Nat.le_of_ble_eq_true rfl) (by decide) rfl (fun z => ⟨rfl, z⟩) (by decide) rfl ?_
              refine gv_iload_n (n := 2) (pc' := 81) (by decide +kernel) rfl rfl ?_
              refine gv_csi (w' := true) (pc' := 84) (y_Word_goesInside _ _ _ _) md_Word_goesInside sd_Word_goesInside (Or.inl ml_10_45) (by decide +kernel) (by decide) rfl (Nat.le_of_ble_eq_true rfl) (Nat.le_of_ble_eq_true rfl) (by decide) rfl (fun z => ⟨rfl, z⟩) (by decide) rfl ?_
              refine gv_if_ne (off := 7) (tgt := 91) (pc' := 87) (by decide +kernel) (by decide) rfl (fun c84 => ?_) (fun c84 => ?_)
              · replace h := gd_F c84 h
                refine gv_iconst (n := 0) (v := 0) (pc' := 92) (by decide +kernel) (by decide) rfl ?_
                exact gv_iret .int (by decide +kernel) rfl rfl (by decide) (by decide) (gd_vE h)
              · replace h := gd_T c84 h
                refine gv_iconst (n := 5) (v := 5) (pc' := 88) (by decide +kernel) (by decide) rfl ?_
                refine gv_goto (off := 4) (tgt := 92) (by decide +kernel) (by decide) ?_
                exact gv_iret .int (by decide +kernel) rfl rfl (by decide) (by decide) (gd_vE h)
          · refine gv_icmp_eq (off := 10) (tgt := 63) (pc' := 56) (by decide +kernel) (by decide) rfl (fun c53 => ?_) (fun c53 => ?_)
            · replace h := gd_tT c53 h
              refine gv_iconst (n := 1) (v := 1) (pc' := 64) (by decide +kernel) (by decide) rfl ?_
              refine gv_goto (off := 4) (tgt := 68) (by decide +kernel) (by decide) ?_
              exact gd_ar (gl_s (gl_s (gl_s (gl_n (gl_n (gl_n gl_z)))))) (fun _ => rfl) (hJ2 _ h)
            · replace h := gd_tF c53 h
              refine gv_iload (n := 4) (pc' := 58) (by decide +kernel) rfl rfl ?_
              refine gv_bipush (n := 6) (v := 6) (pc' := 60) (by decide +kernel) (by decide) rfl ?_
              refine gv_icmp_ne (off := 7) (tgt := 67) (pc' := 63) (by decide +kernel) (by decide) rfl (fun c60 => ?_) (fun c60 => ?_)
              · replace h := gd_tF c60 h
                refine gv_iconst (n := 0) (v := 0) (pc' := 68) (by decide +kernel) (by decide) rfl ?_
                exact gd_ar (gl_s (gl_s (gl_s (gl_n (gl_n (gl_n gl_z)))))) (fun _ => rfl) (hJ2 _ h)
              · replace h := gd_tT c60 h
                refine gv_iconst (n := 1) (v := 1) (pc' := 64) (by decide +kernel) (by decide) rfl ?_
                refine gv_goto (off := 4) (tgt := 68) (by decide +kernel) (by decide) ?_
                exact gd_ar (gl_s (gl_s (gl_s (gl_n (gl_n (gl_n gl_z)))))) (fun _ => rfl) (hJ2 _ h)
        · replace h := gd_T c45 h
          refine gv_iconst (n := 4) (v := 4) (pc' := 49) (by decide +kernel) (by decide) rfl ?_
          exact gv_iret .int (by decide +kernel) rfl rfl (by decide) (by decide) (gd_vE h)
      · refine gv_icmp_ne (off := 12) (tgt := 36) (pc' := 27) (by decide +kernel) (by decide) rfl (fun c24 => ?_) (fun c24 => ?_)
        · replace h := gd_F c24 h
          exact gd_ar (gl_s (gl_s (gl_s (gl_n (gl_n (gl_n gl_z)))))) (fun _ => rfl) (hJ1  h)
        · replace h := gd_T c24 h
          refine gv_iload_n (n := 0) (pc' := 28) (by decide +kernel) rfl rfl ?_
          refine gv_csi (w' := true) (pc' := 31) (y_Word_d _ _) md_Word_d sd_Word_d (Or.inl ml_10_9) (by decide +kernel) (by decide) rfl (Nat.le_of_ble_eq_true rfl) (Nat.le_of_ble_eq_true rfl) (by decide) rfl (fun z => ⟨rfl, z⟩) (by decide) rfl ?_
          refine gv_if_eq (off := 5) (tgt := 36) (pc' := 34) (by decide +kernel) (by decide) rfl (fun c31 => ?_) (fun c31 => ?_)
          · replace h := gd_T c31 h
            exact gd_ar (gl_s (gl_s (gl_s (gl_n (gl_n (gl_n gl_z)))))) (fun _ => rfl) (hJ1  h)
          · replace h := gd_F c31 h
            refine gv_iconst (n := 3) (v := 3) (pc' := 35) (by decide +kernel) (by decide) rfl ?_
            exact gv_iret .int (by decide +kernel) rfl rfl (by decide) (by decide) (gd_vE h)
    · replace h := gd_T c16 h
      refine gv_iconst (n := 2) (v := 2) (pc' := 20) (by decide +kernel) (by decide) rfl ?_
      exact gv_iret .int (by decide +kernel) rfl rfl (by decide) (by decide) (gd_vE h)
  · replace h := gd_T c8 h
    refine gv_iconst (n := 1) (v := 1) (pc' := 12) (by decide +kernel) (by decide) rfl ?_
    exact gv_iret .int (by decide +kernel) rfl rfl (by decide) (by decide) (gd_vE h)
def f_Listing_operationOf (a : Int32) (b : Int32) : Int32 :=
 gd_j (α := Int32) (
  gd_j (α := Int32) (
   gd_t (α := Int32) (if (f_Word_f b) = 5 then
     if (f_Word_g b) = 32 then
      1
     else
      0
    else
     0) fun v4 =>
   if v4 = 0 then
    f_Word_f b
   else
    if a = 0 then
     17
    else
     if a = 1 then
      17
     else
      f_Word_f b) fun J2 =>
  if a = 0 then
   if (f_Word_g b) = 32 then
    if (f_Word_f b) = 0 then
     16
    else
     J2
   else
    J2
  else
   J2) fun J1 =>
 if a = 0 then
  if (f_Word_g b) = 1 then
   (8 : Int32) + (f_Word_f b)
  else
   J1
 else
  J1
set_option maxRecDepth 20000 in
theorem y_Listing_operationOf (a : Int32) (b : Int32) (σ : gS) : gv_K m_Listing_operationOf [.int a, .int b] σ (gv_is (.inl (some (.int (f_Listing_operationOf a b)))) σ) := by
  generalize h : f_Listing_operationOf a b = r0
  unfold f_Listing_operationOf at h
  show gv_V m_Listing_operationOf 1 true 0 [some (.int a), some (.int b), none, none, none] [] σ (gv_is (.inl (some (.int r0))) σ)
  refine gv_iload_n (n := 1) (pc' := 1) (by decide +kernel) rfl rfl ?_
  refine gv_csi (w' := true) (pc' := 4) (y_Word_f _ _) md_Word_f sd_Word_f (Or.inl ml_1_61) (by decide +kernel) (by decide) rfl (Nat.le_of_ble_eq_true rfl) (Nat.le_of_ble_eq_true rfl) (by decide) rfl (fun z => ⟨rfl, z⟩) (by decide) rfl ?_
  refine gv_istore_n (n := 2) (pc' := 5) (by decide +kernel) (by decide) rfl ?_
  refine gv_iload_n (n := 1) (pc' := 6) (by decide +kernel) rfl rfl ?_
  refine gv_csi (w' := true) (pc' := 9) (y_Word_g _ _) md_Word_g sd_Word_g (Or.inl ml_1_64) (by decide +kernel) (by decide) rfl (Nat.le_of_ble_eq_true rfl) (Nat.le_of_ble_eq_true rfl) (by decide) rfl (fun z => ⟨rfl, z⟩) (by decide) rfl ?_
  refine gv_istore_n (n := 3) (pc' := 10) (by decide +kernel) (by decide) rfl ?_
  refine gv_iload_n (n := 0) (pc' := 11) (by decide +kernel) rfl rfl ?_
  refine gd_jC (fun J1 => J1 = r0 → gv_V m_Listing_operationOf 1 true 24 [some (.int a), none, some (.int (f_Word_f b)), some (.int (f_Word_g b)), none] [] σ (gv_is (.inl (some (.int r0))) σ)) h (fun  h => ?_) (fun J1 hJ1 h => ?_)
  · refine gv_iload_n (n := 0) (pc' := 25) (by decide +kernel) rfl rfl ?_
    refine gd_jC (fun J2 => J2 = r0 → gv_V m_Listing_operationOf 1 true 41 [some (.int a), none, some (.int (f_Word_f b)), some (.int (f_Word_g b)), none] [] σ (gv_is (.inl (some (.int r0))) σ)) h (fun  h => ?_) (fun J2 hJ2 h => ?_)
    · refine gv_iload_n (n := 2) (pc' := 42) (by decide +kernel) rfl rfl ?_
      refine gv_iconst (n := 5) (v := 5) (pc' := 43) (by decide +kernel) (by decide) rfl ?_
      refine gd_tC (fun (v4 : Int32) => gv_V m_Listing_operationOf 1 true 57 [some (.int a), none, some (.int (f_Word_f b)), none, none] [.int v4] σ (gv_is (.inl (some (.int r0))) σ)) h (fun v4 h => ?_) (fun KJ3 hJ3 h => ?_)
      · refine gv_istore (n := 4) (pc' := 59) (by decide +kernel) (by decide) rfl ?_
        refine gv_iload (n := 4) (pc' := 61) (by decide +kernel) rfl rfl ?_
        refine gv_if_eq (off := 17) (tgt := 78) (pc' := 64) (by decide +kernel) (by decide) rfl (fun c61 => ?_) (fun c61 => ?_)
        · replace h := gd_T c61 h
          refine gv_iload_n (n := 2) (pc' := 79) (by decide +kernel) rfl rfl ?_
          exact gv_iret .int (by decide +kernel) rfl rfl (by decide) (by decide) (gd_vE h)
        · replace h := gd_F c61 h
          refine gv_iload_n (n := 0) (pc' := 65) (by decide +kernel) rfl rfl ?_
          refine gv_if_eq (off := 8) (tgt := 73) (pc' := 68) (by decide +kernel) (by decide) rfl (fun c65 => ?_) (fun c65 => ?_)
          · replace h := gd_T c65 h
            refine gv_bipush (n := 17) (v := 17) (pc' := 75) (by decide +kernel) (by decide) rfl ?_
            refine gv_goto (off := 4) (tgt := 79) (by decide +kernel) (by decide) ?_
            exact gv_iret .int (by decide +kernel) rfl rfl (by decide) (by decide) (gd_vE h)
          · replace h := gd_F c65 h
            refine gv_iload_n (n := 0) (pc' := 69) (by decide +kernel) rfl rfl ?_
            refine gv_iconst (n := 1) (v := 1) (pc' := 70) (by decide +kernel) (by decide) rfl ?_
            refine gv_icmp_ne (off := 8) (tgt := 78) (pc' := 73) (by decide +kernel) (by decide) rfl (fun c70 => ?_) (fun c70 => ?_)
            · replace h := gd_F c70 h
              refine gv_iload_n (n := 2) (pc' := 79) (by decide +kernel) rfl rfl ?_
              exact gv_iret .int (by decide +kernel) rfl rfl (by decide) (by decide) (gd_vE h)
            · replace h := gd_T c70 h
              refine gv_bipush (n := 17) (v := 17) (pc' := 75) (by decide +kernel) (by decide) rfl ?_
              refine gv_goto (off := 4) (tgt := 79) (by decide +kernel) (by decide) ?_
              exact gv_iret .int (by decide +kernel) rfl rfl (by decide) (by decide) (gd_vE h)
      · refine gv_icmp_ne (off := 13) (tgt := 56) (pc' := 46) (by decide +kernel) (by decide) rfl (fun c43 => ?_) (fun c43 => ?_)
        · replace h := gd_tF c43 h
          refine gv_iconst (n := 0) (v := 0) (pc' := 57) (by decide +kernel) (by decide) rfl ?_
          exact gd_ar (gl_s (gl_n (gl_s (gl_n (gl_n gl_z))))) (fun _ => rfl) (hJ3 _ h)
        · replace h := gd_tT c43 h
          refine gv_iload_n (n := 3) (pc' := 47) (by decide +kernel) rfl rfl ?_
          refine gv_bipush (n := 32) (v := 32) (pc' := 49) (by decide +kernel) (by decide) rfl ?_
          refine gv_icmp_ne (off := 7) (tgt := 56) (pc' := 52) (by decide +kernel) (by decide) rfl (fun c49 => ?_) (fun c49 => ?_)
          · replace h := gd_tF c49 h
            refine gv_iconst (n := 0) (v := 0) (pc' := 57) (by decide +kernel) (by decide) rfl ?_
            exact gd_ar (gl_s (gl_n (gl_s (gl_n (gl_n gl_z))))) (fun _ => rfl) (hJ3 _ h)
          · replace h := gd_tT c49 h
            refine gv_iconst (n := 1) (v := 1) (pc' := 53) (by decide +kernel) (by decide) rfl ?_
            refine gv_goto (off := 4) (tgt := 57) (by decide +kernel) (by decide) ?_
            exact gd_ar (gl_s (gl_n (gl_s (gl_n (gl_n gl_z))))) (fun _ => rfl) (hJ3 _ h)
    · refine gv_if_ne (off := 16) (tgt := 41) (pc' := 28) (by decide +kernel) (by decide) rfl (fun c25 => ?_) (fun c25 => ?_)
      · replace h := gd_F c25 h
        exact gd_ar (gl_s (gl_n (gl_s (gl_s (gl_n gl_z))))) (fun _ => rfl) (hJ2  h)
      · replace h := gd_T c25 h
        refine gv_iload_n (n := 3) (pc' := 29) (by decide +kernel) rfl rfl ?_
        refine gv_bipush (n := 32) (v := 32) (pc' := 31) (by decide +kernel) (by decide) rfl ?_
        refine gv_icmp_ne (off := 10) (tgt := 41) (pc' := 34) (by decide +kernel) (by decide) rfl (fun c31 => ?_) (fun c31 => ?_)
        · replace h := gd_F c31 h
          exact gd_ar (gl_s (gl_n (gl_s (gl_s (gl_n gl_z))))) (fun _ => rfl) (hJ2  h)
        · replace h := gd_T c31 h
          refine gv_iload_n (n := 2) (pc' := 35) (by decide +kernel) rfl rfl ?_
          refine gv_if_ne (off := 6) (tgt := 41) (pc' := 38) (by decide +kernel) (by decide) rfl (fun c35 => ?_) (fun c35 => ?_)
          · replace h := gd_F c35 h
            exact gd_ar (gl_s (gl_n (gl_s (gl_s (gl_n gl_z))))) (fun _ => rfl) (hJ2  h)
          · replace h := gd_T c35 h
            refine gv_bipush (n := 16) (v := 16) (pc' := 40) (by decide +kernel) (by decide) rfl ?_
            exact gv_iret .int (by decide +kernel) rfl rfl (by decide) (by decide) (gd_vE h)
  · refine gv_if_ne (off := 13) (tgt := 24) (pc' := 14) (by decide +kernel) (by decide) rfl (fun c11 => ?_) (fun c11 => ?_)
    · replace h := gd_F c11 h
      exact gd_ar (gl_s (gl_n (gl_s (gl_s (gl_n gl_z))))) (fun _ => rfl) (hJ1  h)
    · replace h := gd_T c11 h
      refine gv_iload_n (n := 3) (pc' := 15) (by decide +kernel) rfl rfl ?_
      refine gv_iconst (n := 1) (v := 1) (pc' := 16) (by decide +kernel) (by decide) rfl ?_
      refine gv_icmp_ne (off := 8) (tgt := 24) (pc' := 19) (by decide +kernel) (by decide) rfl (fun c16 => ?_) (fun c16 => ?_)
      · replace h := gd_F c16 h
        exact gd_ar (gl_s (gl_n (gl_s (gl_s (gl_n gl_z))))) (fun _ => rfl) (hJ1  h)
      · replace h := gd_T c16 h
        refine gv_bipush (n := 8) (v := 8) (pc' := 21) (by decide +kernel) (by decide) rfl ?_
        refine gv_iload_n (n := 2) (pc' := 22) (by decide +kernel) rfl rfl ?_
        refine gv_iadd (pc' := 23) (by decide +kernel) rfl ?_
        exact gv_iret .int (by decide +kernel) rfl rfl (by decide) (by decide) (gd_vE h)
def f_Word_a (a : Int32) : Int32 :=
 ((Int32.toUInt32 a >>> (Int32.toUInt32 (15 : Int32) &&& Int32.toUInt32 31)).toInt32) &&& (31 : Int32)
set_option maxRecDepth 20000 in
theorem y_Word_a (a : Int32) (σ : gS) : gv_K m_Word_a [.int a] σ (gv_is (.inl (some (.int (f_Word_a a)))) σ) := by
  generalize h : f_Word_a a = r0
  unfold f_Word_a at h
  show gv_V m_Word_a 1 true 0 [some (.int a)] [] σ (gv_is (.inl (some (.int r0))) σ)
  refine gv_iload_n (n := 0) (pc' := 1) (by decide +kernel) rfl rfl ?_
  refine gv_bipush (n := 15) (v := 15) (pc' := 3) (by decide +kernel) (by decide) rfl ?_
  refine gv_iushr (pc' := 4) (by decide +kernel) rfl ?_
  refine gv_bipush (n := 31) (v := 31) (pc' := 6) (by decide +kernel) (by decide) rfl ?_
  refine gv_iand (pc' := 7) (by decide +kernel) rfl ?_
  exact gv_iret .int (by decide +kernel) rfl rfl (by decide) (by decide) (gd_vE h)
def f_Word_b (a : Int32) : Int32 :=
 ((Int32.toUInt32 a >>> (Int32.toUInt32 (20 : Int32) &&& Int32.toUInt32 31)).toInt32) &&& (31 : Int32)
set_option maxRecDepth 20000 in
theorem y_Word_b (a : Int32) (σ : gS) : gv_K m_Word_b [.int a] σ (gv_is (.inl (some (.int (f_Word_b a)))) σ) := by
  generalize h : f_Word_b a = r0
  unfold f_Word_b at h
  show gv_V m_Word_b 1 true 0 [some (.int a)] [] σ (gv_is (.inl (some (.int r0))) σ)
  refine gv_iload_n (n := 0) (pc' := 1) (by decide +kernel) rfl rfl ?_
  refine gv_bipush (n := 20) (v := 20) (pc' := 3) (by decide +kernel) (by decide) rfl ?_
  refine gv_iushr (pc' := 4) (by decide +kernel) rfl ?_
  refine gv_bipush (n := 31) (v := 31) (pc' := 6) (by decide +kernel) (by decide) rfl ?_
  refine gv_iand (pc' := 7) (by decide +kernel) rfl ?_
  exact gv_iret .int (by decide +kernel) rfl rfl (by decide) (by decide) (gd_vE h)
def f_Word_i (a : Int32) : Int32 :=
 a >>> ((20 : Int32) &&& 31)
set_option maxRecDepth 20000 in
theorem y_Word_i (a : Int32) (σ : gS) : gv_K m_Word_i [.int a] σ (gv_is (.inl (some (.int (f_Word_i a)))) σ) := by
  generalize h : f_Word_i a = r0
  unfold f_Word_i at h
  show gv_V m_Word_i 1 true 0 [some (.int a)] [] σ (gv_is (.inl (some (.int r0))) σ)
  refine gv_iload_n (n := 0) (pc' := 1) (by decide +kernel) rfl rfl ?_
  refine gv_bipush (n := 20) (v := 20) (pc' := 3) (by decide +kernel) (by decide) rfl ?_
  refine gv_ishr (pc' := 4) (by decide +kernel) rfl ?_
  exact gv_iret .int (by decide +kernel) rfl rfl (by decide) (by decide) (gd_vE h)
def f_Word_storeNumber (a : Int32) : Int32 :=
 ((a >>> ((25 : Int32) &&& 31)) <<< ((5 : Int32) &&& 31)) ||| (f_Word_d a)
set_option maxRecDepth 20000 in
theorem y_Word_storeNumber (a : Int32) (σ : gS) : gv_K m_Word_storeNumber [.int a] σ (gv_is (.inl (some (.int (f_Word_storeNumber a)))) σ) := by
  generalize h : f_Word_storeNumber a = r0
  unfold f_Word_storeNumber at h
  show gv_V m_Word_storeNumber 1 true 0 [some (.int a)] [] σ (gv_is (.inl (some (.int r0))) σ)
  refine gv_iload_n (n := 0) (pc' := 1) (by decide +kernel) rfl rfl ?_
  refine gv_bipush (n := 25) (v := 25) (pc' := 3) (by decide +kernel) (by decide) rfl ?_
  refine gv_ishr (pc' := 4) (by decide +kernel) rfl ?_
  refine gv_iconst (n := 5) (v := 5) (pc' := 5) (by decide +kernel) (by decide) rfl ?_
  refine gv_ishl (pc' := 6) (by decide +kernel) rfl ?_
  refine gv_iload_n (n := 0) (pc' := 7) (by decide +kernel) rfl rfl ?_
  refine gv_csi (w' := true) (pc' := 10) (y_Word_d _ _) md_Word_d sd_Word_d (Or.inl ml_10_9) (by decide +kernel) (by decide) rfl (Nat.le_of_ble_eq_true rfl) (Nat.le_of_ble_eq_true rfl) (by decide) rfl (fun z => ⟨rfl, z⟩) (by decide) rfl ?_
  refine gv_ior (pc' := 11) (by decide +kernel) rfl ?_
  exact gv_iret .int (by decide +kernel) rfl rfl (by decide) (by decide) (gd_vE h)
def f_Listing_numberOf (a : Int32) (b : Int32) : Int32 :=
 if a = 1 then
  gd_j (α := Int32) (
   f_Word_b b) fun J1 =>
  if (f_Word_f b) = 1 then
   J1
  else
   if (f_Word_f b) = 5 then
    J1
   else
    f_Word_i b
 else if a = 2 then
  b &&& (-4096 : Int32)
 else if a = 3 then
  f_Word_i b
 else if a = 4 then
  f_Word_storeNumber b
 else 
  0
set_option maxRecDepth 20000 in
theorem y_Listing_numberOf (a : Int32) (b : Int32) (σ : gS) : gv_K m_Listing_numberOf [.int a, .int b] σ (gv_is (.inl (some (.int (f_Listing_numberOf a b)))) σ) := by
  generalize h : f_Listing_numberOf a b = r0
  unfold f_Listing_numberOf at h
  show gv_V m_Listing_numberOf 1 true 0 [some (.int a), some (.int b)] [] σ (gv_is (.inl (some (.int r0))) σ)
  refine gv_iload_n (n := 0) (pc' := 1) (by decide +kernel) rfl rfl ?_
  by_cases q1_0 : a = 1
  · replace h := gd_T q1_0 h
    refine gd_tbT (dflt := 75) (lo := 1) (hi := 4) (offs := #[31, 59, 65, 70]) (len := 31) (off := 31) (tgt := 32) q1_0 (by decide +kernel) (by decide) (by decide) rfl (by decide) ?_
    refine gv_iload_n (n := 1) (pc' := 33) (by decide +kernel) rfl rfl ?_
    refine gv_csi (w' := true) (pc' := 36) (y_Word_f _ _) md_Word_f sd_Word_f (Or.inl ml_1_61) (by decide +kernel) (by decide) rfl (Nat.le_of_ble_eq_true rfl) (Nat.le_of_ble_eq_true rfl) (by decide) rfl (fun z => ⟨rfl, z⟩) (by decide) rfl ?_
    refine gv_iconst (n := 1) (v := 1) (pc' := 37) (by decide +kernel) (by decide) rfl ?_
    refine gd_jC (fun J1 => J1 = r0 → gv_V m_Listing_numberOf 1 true 48 [none, some (.int b)] [] σ (gv_is (.inl (some (.int r0))) σ)) h (fun  h => ?_) (fun J1 hJ1 h => ?_)
    · refine gv_iload_n (n := 1) (pc' := 49) (by decide +kernel) rfl rfl ?_
      refine gv_csi (w' := true) (pc' := 52) (y_Word_b _ _) md_Word_b sd_Word_b (Or.inl ml_1_52) (by decide +kernel) (by decide) rfl (Nat.le_of_ble_eq_true rfl) (Nat.le_of_ble_eq_true rfl) (by decide) rfl (fun z => ⟨rfl, z⟩) (by decide) rfl ?_
      refine gv_goto (off := 7) (tgt := 59) (by decide +kernel) (by decide) ?_
      exact gv_iret .int (by decide +kernel) rfl rfl (by decide) (by decide) (gd_vE h)
    · refine gv_icmp_eq (off := 11) (tgt := 48) (pc' := 40) (by decide +kernel) (by decide) rfl (fun c37 => ?_) (fun c37 => ?_)
      · replace h := gd_T c37 h
        exact gd_ar (gl_n (gl_s gl_z)) (fun _ => rfl) (hJ1  h)
      · replace h := gd_F c37 h
        refine gv_iload_n (n := 1) (pc' := 41) (by decide +kernel) rfl rfl ?_
        refine gv_csi (w' := true) (pc' := 44) (y_Word_f _ _) md_Word_f sd_Word_f (Or.inl ml_1_61) (by decide +kernel) (by decide) rfl (Nat.le_of_ble_eq_true rfl) (Nat.le_of_ble_eq_true rfl) (by decide) rfl (fun z => ⟨rfl, z⟩) (by decide) rfl ?_
        refine gv_iconst (n := 5) (v := 5) (pc' := 45) (by decide +kernel) (by decide) rfl ?_
        refine gv_icmp_ne (off := 10) (tgt := 55) (pc' := 48) (by decide +kernel) (by decide) rfl (fun c45 => ?_) (fun c45 => ?_)
        · replace h := gd_F c45 h
          refine gv_iload_n (n := 1) (pc' := 56) (by decide +kernel) rfl rfl ?_
          refine gv_csi (w' := true) (pc' := 59) (y_Word_i _ _) md_Word_i sd_Word_i (Or.inl ml_1_69) (by decide +kernel) (by decide) rfl (Nat.le_of_ble_eq_true rfl) (Nat.le_of_ble_eq_true rfl) (by decide) rfl (fun z => ⟨rfl, z⟩) (by decide) rfl ?_
          exact gv_iret .int (by decide +kernel) rfl rfl (by decide) (by decide) (gd_vE h)
        · replace h := gd_T c45 h
          exact gd_ar (gl_n (gl_s gl_z)) (fun _ => rfl) (hJ1  h)
  replace h := gd_F q1_0 h
  by_cases q1_1 : a = 2
  · replace h := gd_T q1_1 h
    refine gd_tbT (dflt := 75) (lo := 1) (hi := 4) (offs := #[31, 59, 65, 70]) (len := 31) (off := 59) (tgt := 60) q1_1 (by decide +kernel) (by decide) (by decide) rfl (by decide) ?_
    refine gv_iload_n (n := 1) (pc' := 61) (by decide +kernel) rfl rfl ?_
    refine gv_sipush (n := (-4096)) (v := (-4096)) (pc' := 64) (by decide +kernel) (by decide) rfl ?_
    refine gv_iand (pc' := 65) (by decide +kernel) rfl ?_
    exact gv_iret .int (by decide +kernel) rfl rfl (by decide) (by decide) (gd_vE h)
  replace h := gd_F q1_1 h
  by_cases q1_2 : a = 3
  · replace h := gd_T q1_2 h
    refine gd_tbT (dflt := 75) (lo := 1) (hi := 4) (offs := #[31, 59, 65, 70]) (len := 31) (off := 65) (tgt := 66) q1_2 (by decide +kernel) (by decide) (by decide) rfl (by decide) ?_
    refine gv_iload_n (n := 1) (pc' := 67) (by decide +kernel) rfl rfl ?_
    refine gv_csi (w' := true) (pc' := 70) (y_Word_i _ _) md_Word_i sd_Word_i (Or.inl ml_1_69) (by decide +kernel) (by decide) rfl (Nat.le_of_ble_eq_true rfl) (Nat.le_of_ble_eq_true rfl) (by decide) rfl (fun z => ⟨rfl, z⟩) (by decide) rfl ?_
    exact gv_iret .int (by decide +kernel) rfl rfl (by decide) (by decide) (gd_vE h)
  replace h := gd_F q1_2 h
  by_cases q1_3 : a = 4
  · replace h := gd_T q1_3 h
    refine gd_tbT (dflt := 75) (lo := 1) (hi := 4) (offs := #[31, 59, 65, 70]) (len := 31) (off := 70) (tgt := 71) q1_3 (by decide +kernel) (by decide) (by decide) rfl (by decide) ?_
    refine gv_iload_n (n := 1) (pc' := 72) (by decide +kernel) rfl rfl ?_
    refine gv_csi (w' := true) (pc' := 75) (y_Word_storeNumber _ _) md_Word_storeNumber sd_Word_storeNumber (Or.inl ml_1_72) (by decide +kernel) (by decide) rfl (Nat.le_of_ble_eq_true rfl) (Nat.le_of_ble_eq_true rfl) (by decide) rfl (fun z => ⟨rfl, z⟩) (by decide) rfl ?_
    exact gv_iret .int (by decide +kernel) rfl rfl (by decide) (by decide) (gd_vE h)
  replace h := gd_F q1_3 h
  refine gv_tableOut (dflt := 75) (lo := 1) (hi := 4) (offs := #[31, 59, 65, 70]) (len := 31) (tgt := 76) (by decide +kernel) (gd_tbs (a := 4) (gd_tbs (a := 3) (gd_tbs (a := 2) (gd_tbs (a := 1) (gd_tb0 (lo := 1)) q1_0 (by decide) (by decide)) q1_1 (by decide) (by decide)) q1_2 (by decide) (by decide)) q1_3 (by decide) (by decide)) (by decide) ?_
  refine gv_iconst (n := 0) (v := 0) (pc' := 77) (by decide +kernel) (by decide) rfl ?_
  exact gv_iret .int (by decide +kernel) rfl rfl (by decide) (by decide) (gd_vE h)
def F_Listing_put (a : Int32) (b : Int32) (σ : gS) : gR :=
 gd_t (α := Int32) (if (f_Word_kind b) = 0 then
   1
  else
   if (f_Word_kind b) = 4 then
    1
   else
    if (f_Word_kind b) = 5 then
     1
    else
     0) fun v2 =>
 gd_t (α := Int32) (if v2 = 0 then
   if (f_Word_kind b) = 1 then
    1
   else
    if (f_Word_kind b) = 3 then
     1
    else
     0
  else
   1) fun v4 =>
 gd_t (α := Int32) (if (f_Word_kind b) = 5 then
   1
  else
   if (f_Word_kind b) = 6 then
    1
   else
    0) fun v6 =>
 gd_g (gd_in a 1040) <|
 gd_s (gs_A σ 3 a.toNatClampNeg (f_Word_kind b)) fun s7 =>
 gd_g (gd_in a 1040) <|
 gd_s (gs_A s7 4 a.toNatClampNeg (f_Listing_operationOf (f_Word_kind b) b)) fun s8 =>
 gd_t (α := Int32) (if 3 < (f_Word_kind b) then
   0
  else
   (f_Word_d b)) fun v10 =>
 gd_g (gd_in a 1040) <|
 gd_s (gs_A s8 5 a.toNatClampNeg v10) fun s11 =>
 gd_t (α := Int32) (if v4 = 0 then
   (-1)
  else
   (f_Word_a b)) fun v13 =>
 gd_g (gd_in a 1040) <|
 gd_s (gs_A s11 6 a.toNatClampNeg v13) fun s14 =>
 gd_t (α := Int32) (if v2 = 0 then
   (-1)
  else
   (f_Word_b b)) fun v16 =>
 gd_g (gd_in a 1040) <|
 gd_s (gs_A s14 7 a.toNatClampNeg v16) fun s17 =>
 gd_g (gd_in a 1040) <|
 gd_s (gs_A s17 8 a.toNatClampNeg (f_Listing_numberOf (f_Word_kind b) b)) fun s18 =>
 gd_t (α := Int32) (if v6 = 0 then
   (-1)
  else
   (a + ((f_Word_offset b) >>> ((2 : Int32) &&& 31)))) fun v20 =>
 gd_g (gd_in a 1040) <|
 gd_s (gs_A s18 9 a.toNatClampNeg v20) fun s21 =>
 some (.inl none, s21)
set_option maxRecDepth 20000 in
theorem X_Listing_put (a : Int32) (b : Int32) (σ : gS) (r0 : gQ × gS) (h : F_Listing_put a b σ = some r0) : gv_K m_Listing_put [.ref 2, .int a, .int b] σ (gv_is r0.1 r0.2) := by
  unfold F_Listing_put at h
  show gv_V m_Listing_put 1 true 0 [some (.ref 2), some (.int a), some (.int b), none, none, none, none] [] σ (gv_is r0.1 r0.2)
  refine gv_iload_n (n := 2) (pc' := 1) (by decide +kernel) rfl rfl ?_
  refine gv_csi (w' := true) (pc' := 4) (y_Word_kind _ _) md_Word_kind sd_Word_kind (Or.inl ml_1_37) (by decide +kernel) (by decide) rfl (Nat.le_of_ble_eq_true rfl) (Nat.le_of_ble_eq_true rfl) (by decide) rfl (fun z => ⟨rfl, z⟩) (by decide) rfl ?_
  refine gv_istore_n (n := 3) (pc' := 5) (by decide +kernel) (by decide) rfl ?_
  refine gv_iload_n (n := 3) (pc' := 6) (by decide +kernel) rfl rfl ?_
  refine gd_tC (fun (v2 : Int32) => gv_V m_Listing_put 1 true 24 [some (.ref 2), some (.int a), some (.int b), some (.int (f_Word_kind b)), none, none, none] [.int v2] σ (gv_is r0.1 r0.2)) h (fun v2 h => ?_) (fun KJ1 hJ1 h => ?_)
  · refine gv_istore (n := 4) (pc' := 26) (by decide +kernel) (by decide) rfl ?_
    refine gv_iload (n := 4) (pc' := 28) (by decide +kernel) rfl rfl ?_
    refine gd_tC (fun (v4 : Int32) => gv_V m_Listing_put 1 true 46 [some (.ref 2), some (.int a), some (.int b), some (.int (f_Word_kind b)), some (.int v2), none, none] [.int v4] σ (gv_is r0.1 r0.2)) h (fun v4 h => ?_) (fun KJ3 hJ3 h => ?_)
    · refine gv_istore (n := 5) (pc' := 48) (by decide +kernel) (by decide) rfl ?_
      refine gv_iload_n (n := 3) (pc' := 49) (by decide +kernel) rfl rfl ?_
      refine gv_iconst (n := 5) (v := 5) (pc' := 50) (by decide +kernel) (by decide) rfl ?_
      refine gd_tC (fun (v6 : Int32) => gv_V m_Listing_put 1 true 64 [some (.ref 2), some (.int a), some (.int b), some (.int (f_Word_kind b)), some (.int v2), some (.int v4), none] [.int v6] σ (gv_is r0.1 r0.2)) h (fun v6 h => ?_) (fun KJ5 hJ5 h => ?_)
      · refine gv_istore (n := 6) (pc' := 66) (by decide +kernel) (by decide) rfl ?_
        refine gv_aload_n (n := 0) (pc' := 67) (by decide +kernel) rfl rfl ?_
        refine gv_getr lk_1_9 (by decide +kernel) rfl rfl (pc' := 70) rfl ?_
        refine gv_iload_n (n := 1) (pc' := 71) (by decide +kernel) rfl rfl ?_
        refine gv_iload_n (n := 3) (pc' := 72) (by decide +kernel) rfl rfl ?_
        obtain ⟨g72, h⟩ := gd_gE h
        refine gd_iast (pc' := 73) (by decide +kernel) rfl (gd_inv g72) rfl h (fun s7 h => ?_)
        refine gv_aload_n (n := 0) (pc' := 74) (by decide +kernel) rfl rfl ?_
        refine gv_getr lk_1_15 (by decide +kernel) rfl rfl (pc' := 77) rfl ?_
        refine gv_iload_n (n := 1) (pc' := 78) (by decide +kernel) rfl rfl ?_
        refine gv_iload_n (n := 3) (pc' := 79) (by decide +kernel) rfl rfl ?_
        refine gv_iload_n (n := 2) (pc' := 80) (by decide +kernel) rfl rfl ?_
        refine gv_csi (w' := false) (pc' := 83) (y_Listing_operationOf _ _ _) md_Listing_operationOf sd_Listing_operationOf (Or.inl ml_1_42) (by decide +kernel) (by decide) rfl (Nat.le_of_ble_eq_true rfl) (Nat.le_of_ble_eq_true rfl) (by decide) rfl (fun z => by cases z) (by decide) rfl ?_
        obtain ⟨g83, h⟩ := gd_gE h
        refine gd_iast (pc' := 84) (by decide +kernel) rfl (gd_inv g83) rfl h (fun s8 h => ?_)
        refine gv_aload_n (n := 0) (pc' := 85) (by decide +kernel) rfl rfl ?_
        refine gv_getr lk_1_18 (by decide +kernel) rfl rfl (pc' := 88) rfl ?_
        refine gv_iload_n (n := 1) (pc' := 89) (by decide +kernel) rfl rfl ?_
        refine gv_iload_n (n := 3) (pc' := 90) (by decide +kernel) rfl rfl ?_
        refine gv_iconst (n := 3) (v := 3) (pc' := 91) (by decide +kernel) (by decide) rfl ?_
        refine gd_tC (fun (v10 : Int32) => gv_V m_Listing_put 1 false 102 [some (.ref 2), some (.int a), some (.int b), some (.int (f_Word_kind b)), some (.int v2), some (.int v4), some (.int v6)] [.int v10, .int a, .ref 5] s8 (gv_is r0.1 r0.2)) h (fun v10 h => ?_) (fun KJ9 hJ9 h => ?_)
        · obtain ⟨g102, h⟩ := gd_gE h
          refine gd_iast (pc' := 103) (by decide +kernel) rfl (gd_inv g102) rfl h (fun s11 h => ?_)
          refine gv_aload_n (n := 0) (pc' := 104) (by decide +kernel) rfl rfl ?_
          refine gv_getr lk_1_21 (by decide +kernel) rfl rfl (pc' := 107) rfl ?_
          refine gv_iload_n (n := 1) (pc' := 108) (by decide +kernel) rfl rfl ?_
          refine gv_iload (n := 5) (pc' := 110) (by decide +kernel) rfl rfl ?_
          refine gd_tC (fun (v13 : Int32) => gv_V m_Listing_put 1 false 121 [some (.ref 2), some (.int a), some (.int b), some (.int (f_Word_kind b)), some (.int v2), none, some (.int v6)] [.int v13, .int a, .ref 6] s11 (gv_is r0.1 r0.2)) h (fun v13 h => ?_) (fun KJ12 hJ12 h => ?_)
          · obtain ⟨g121, h⟩ := gd_gE h
            refine gd_iast (pc' := 122) (by decide +kernel) rfl (gd_inv g121) rfl h (fun s14 h => ?_)
            refine gv_aload_n (n := 0) (pc' := 123) (by decide +kernel) rfl rfl ?_
            refine gv_getr lk_1_24 (by decide +kernel) rfl rfl (pc' := 126) rfl ?_
            refine gv_iload_n (n := 1) (pc' := 127) (by decide +kernel) rfl rfl ?_
            refine gv_iload (n := 4) (pc' := 129) (by decide +kernel) rfl rfl ?_
            refine gd_tC (fun (v16 : Int32) => gv_V m_Listing_put 1 false 140 [some (.ref 2), some (.int a), some (.int b), some (.int (f_Word_kind b)), none, none, some (.int v6)] [.int v16, .int a, .ref 7] s14 (gv_is r0.1 r0.2)) h (fun v16 h => ?_) (fun KJ15 hJ15 h => ?_)
            · obtain ⟨g140, h⟩ := gd_gE h
              refine gd_iast (pc' := 141) (by decide +kernel) rfl (gd_inv g140) rfl h (fun s17 h => ?_)
              refine gv_aload_n (n := 0) (pc' := 142) (by decide +kernel) rfl rfl ?_
              refine gv_getr lk_1_27 (by decide +kernel) rfl rfl (pc' := 145) rfl ?_
              refine gv_iload_n (n := 1) (pc' := 146) (by decide +kernel) rfl rfl ?_
              refine gv_iload_n (n := 3) (pc' := 147) (by decide +kernel) rfl rfl ?_
              refine gv_iload_n (n := 2) (pc' := 148) (by decide +kernel) rfl rfl ?_
              refine gv_csi (w' := false) (pc' := 151) (y_Listing_numberOf _ _ _) md_Listing_numberOf sd_Listing_numberOf (Or.inl ml_1_55) (by decide +kernel) (by decide) rfl (Nat.le_of_ble_eq_true rfl) (Nat.le_of_ble_eq_true rfl) (by decide) rfl (fun z => by cases z) (by decide) rfl ?_
              obtain ⟨g151, h⟩ := gd_gE h
              refine gd_iast (pc' := 152) (by decide +kernel) rfl (gd_inv g151) rfl h (fun s18 h => ?_)
              refine gv_aload_n (n := 0) (pc' := 153) (by decide +kernel) rfl rfl ?_
              refine gv_getr lk_1_30 (by decide +kernel) rfl rfl (pc' := 156) rfl ?_
              refine gv_iload_n (n := 1) (pc' := 157) (by decide +kernel) rfl rfl ?_
              refine gv_iload (n := 6) (pc' := 159) (by decide +kernel) rfl rfl ?_
              refine gd_tC (fun (v20 : Int32) => gv_V m_Listing_put 1 false 174 [none, none, none, none, none, none, none] [.int v20, .int a, .ref 9] s18 (gv_is r0.1 r0.2)) h (fun v20 h => ?_) (fun KJ19 hJ19 h => ?_)
              · obtain ⟨g174, h⟩ := gd_gE h
                refine gd_iast (pc' := 175) (by decide +kernel) rfl (gd_inv g174) rfl h (fun s21 h => ?_)
                exact gv_ret (by decide +kernel) rfl (by decide) (by decide) (gd_rE h)
              · refine gv_if_eq (off := 14) (tgt := 173) (pc' := 162) (by decide +kernel) (by decide) rfl (fun c159 => ?_) (fun c159 => ?_)
                · replace h := gd_tT c159 h
                  refine gv_iconst (n := (-1)) (v := (-1)) (pc' := 174) (by decide +kernel) (by decide) rfl ?_
                  exact gd_ar (gl_n (gl_n (gl_n (gl_n (gl_n (gl_n (gl_n gl_z))))))) (fun z => by cases z) (hJ19 _ h)
                · replace h := gd_tF c159 h
                  refine gv_iload_n (n := 1) (pc' := 163) (by decide +kernel) rfl rfl ?_
                  refine gv_iload_n (n := 2) (pc' := 164) (by decide +kernel) rfl rfl ?_
                  refine gv_csi (w' := false) (pc' := 167) (y_Word_offset _ _) md_Word_offset sd_Word_offset (Or.inl ml_1_58) (by decide +kernel) (by decide) rfl (Nat.le_of_ble_eq_true rfl) (Nat.le_of_ble_eq_true rfl) (by decide) rfl (fun z => by cases z) (by decide) rfl ?_
                  refine gv_iconst (n := 2) (v := 2) (pc' := 168) (by decide +kernel) (by decide) rfl ?_
                  refine gv_ishr (pc' := 169) (by decide +kernel) rfl ?_
                  refine gv_iadd (pc' := 170) (by decide +kernel) rfl ?_
                  refine gv_goto (off := 4) (tgt := 174) (by decide +kernel) (by decide) ?_
                  exact gd_ar (gl_n (gl_n (gl_n (gl_n (gl_n (gl_n (gl_n gl_z))))))) (fun z => by cases z) (hJ19 _ h)
            · refine gv_if_eq (off := 10) (tgt := 139) (pc' := 132) (by decide +kernel) (by decide) rfl (fun c129 => ?_) (fun c129 => ?_)
              · replace h := gd_tT c129 h
                refine gv_iconst (n := (-1)) (v := (-1)) (pc' := 140) (by decide +kernel) (by decide) rfl ?_
                exact gd_ar (gl_s (gl_s (gl_s (gl_s (gl_n (gl_n (gl_s gl_z))))))) (fun z => by cases z) (hJ15 _ h)
              · replace h := gd_tF c129 h
                refine gv_iload_n (n := 2) (pc' := 133) (by decide +kernel) rfl rfl ?_
                refine gv_csi (w' := false) (pc' := 136) (y_Word_b _ _) md_Word_b sd_Word_b (Or.inl ml_1_52) (by decide +kernel) (by decide) rfl (Nat.le_of_ble_eq_true rfl) (Nat.le_of_ble_eq_true rfl) (by decide) rfl (fun z => by cases z) (by decide) rfl ?_
                refine gv_goto (off := 4) (tgt := 140) (by decide +kernel) (by decide) ?_
                exact gd_ar (gl_s (gl_s (gl_s (gl_s (gl_n (gl_n (gl_s gl_z))))))) (fun z => by cases z) (hJ15 _ h)
          · refine gv_if_eq (off := 10) (tgt := 120) (pc' := 113) (by decide +kernel) (by decide) rfl (fun c110 => ?_) (fun c110 => ?_)
            · replace h := gd_tT c110 h
              refine gv_iconst (n := (-1)) (v := (-1)) (pc' := 121) (by decide +kernel) (by decide) rfl ?_
              exact gd_ar (gl_s (gl_s (gl_s (gl_s (gl_s (gl_n (gl_s gl_z))))))) (fun z => by cases z) (hJ12 _ h)
            · replace h := gd_tF c110 h
              refine gv_iload_n (n := 2) (pc' := 114) (by decide +kernel) rfl rfl ?_
              refine gv_csi (w' := false) (pc' := 117) (y_Word_a _ _) md_Word_a sd_Word_a (Or.inl ml_1_49) (by decide +kernel) (by decide) rfl (Nat.le_of_ble_eq_true rfl) (Nat.le_of_ble_eq_true rfl) (by decide) rfl (fun z => by cases z) (by decide) rfl ?_
              refine gv_goto (off := 4) (tgt := 121) (by decide +kernel) (by decide) ?_
              exact gd_ar (gl_s (gl_s (gl_s (gl_s (gl_s (gl_n (gl_s gl_z))))))) (fun z => by cases z) (hJ12 _ h)
        · refine gv_icmp_gt (off := 10) (tgt := 101) (pc' := 94) (by decide +kernel) (by decide) rfl (fun c91 => ?_) (fun c91 => ?_)
          · replace h := gd_tT c91 h
            refine gv_iconst (n := 0) (v := 0) (pc' := 102) (by decide +kernel) (by decide) rfl ?_
            exact gd_ar (gl_s (gl_s (gl_s (gl_s (gl_s (gl_s (gl_s gl_z))))))) (fun z => by cases z) (hJ9 _ h)
          · replace h := gd_tF c91 h
            refine gv_iload_n (n := 2) (pc' := 95) (by decide +kernel) rfl rfl ?_
            refine gv_csi (w' := false) (pc' := 98) (y_Word_d _ _) md_Word_d sd_Word_d (Or.inl ml_1_46) (by decide +kernel) (by decide) rfl (Nat.le_of_ble_eq_true rfl) (Nat.le_of_ble_eq_true rfl) (by decide) rfl (fun z => by cases z) (by decide) rfl ?_
            refine gv_goto (off := 4) (tgt := 102) (by decide +kernel) (by decide) ?_
            exact gd_ar (gl_s (gl_s (gl_s (gl_s (gl_s (gl_s (gl_s gl_z))))))) (fun z => by cases z) (hJ9 _ h)
      · refine gv_icmp_eq (off := 9) (tgt := 59) (pc' := 53) (by decide +kernel) (by decide) rfl (fun c50 => ?_) (fun c50 => ?_)
        · replace h := gd_tT c50 h
          refine gv_iconst (n := 1) (v := 1) (pc' := 60) (by decide +kernel) (by decide) rfl ?_
          refine gv_goto (off := 4) (tgt := 64) (by decide +kernel) (by decide) ?_
          exact gd_ar (gl_s (gl_s (gl_s (gl_s (gl_s (gl_s (gl_n gl_z))))))) (fun _ => rfl) (hJ5 _ h)
        · replace h := gd_tF c50 h
          refine gv_iload_n (n := 3) (pc' := 54) (by decide +kernel) rfl rfl ?_
          refine gv_bipush (n := 6) (v := 6) (pc' := 56) (by decide +kernel) (by decide) rfl ?_
          refine gv_icmp_ne (off := 7) (tgt := 63) (pc' := 59) (by decide +kernel) (by decide) rfl (fun c56 => ?_) (fun c56 => ?_)
          · replace h := gd_tF c56 h
            refine gv_iconst (n := 0) (v := 0) (pc' := 64) (by decide +kernel) (by decide) rfl ?_
            exact gd_ar (gl_s (gl_s (gl_s (gl_s (gl_s (gl_s (gl_n gl_z))))))) (fun _ => rfl) (hJ5 _ h)
          · replace h := gd_tT c56 h
            refine gv_iconst (n := 1) (v := 1) (pc' := 60) (by decide +kernel) (by decide) rfl ?_
            refine gv_goto (off := 4) (tgt := 64) (by decide +kernel) (by decide) ?_
            exact gd_ar (gl_s (gl_s (gl_s (gl_s (gl_s (gl_s (gl_n gl_z))))))) (fun _ => rfl) (hJ5 _ h)
    · refine gv_if_ne (off := 13) (tgt := 41) (pc' := 31) (by decide +kernel) (by decide) rfl (fun c28 => ?_) (fun c28 => ?_)
      · replace h := gd_tF c28 h
        refine gv_iconst (n := 1) (v := 1) (pc' := 42) (by decide +kernel) (by decide) rfl ?_
        refine gv_goto (off := 4) (tgt := 46) (by decide +kernel) (by decide) ?_
        exact gd_ar (gl_s (gl_s (gl_s (gl_s (gl_s (gl_n (gl_n gl_z))))))) (fun _ => rfl) (hJ3 _ h)
      · replace h := gd_tT c28 h
        refine gv_iload_n (n := 3) (pc' := 32) (by decide +kernel) rfl rfl ?_
        refine gv_iconst (n := 1) (v := 1) (pc' := 33) (by decide +kernel) (by decide) rfl ?_
        refine gv_icmp_eq (off := 8) (tgt := 41) (pc' := 36) (by decide +kernel) (by decide) rfl (fun c33 => ?_) (fun c33 => ?_)
        · replace h := gd_tT c33 h
          refine gv_iconst (n := 1) (v := 1) (pc' := 42) (by decide +kernel) (by decide) rfl ?_
          refine gv_goto (off := 4) (tgt := 46) (by decide +kernel) (by decide) ?_
          exact gd_ar (gl_s (gl_s (gl_s (gl_s (gl_s (gl_n (gl_n gl_z))))))) (fun _ => rfl) (hJ3 _ h)
        · replace h := gd_tF c33 h
          refine gv_iload_n (n := 3) (pc' := 37) (by decide +kernel) rfl rfl ?_
          refine gv_iconst (n := 3) (v := 3) (pc' := 38) (by decide +kernel) (by decide) rfl ?_
          refine gv_icmp_ne (off := 7) (tgt := 45) (pc' := 41) (by decide +kernel) (by decide) rfl (fun c38 => ?_) (fun c38 => ?_)
          · replace h := gd_tF c38 h
            refine gv_iconst (n := 0) (v := 0) (pc' := 46) (by decide +kernel) (by decide) rfl ?_
            exact gd_ar (gl_s (gl_s (gl_s (gl_s (gl_s (gl_n (gl_n gl_z))))))) (fun _ => rfl) (hJ3 _ h)
          · replace h := gd_tT c38 h
            refine gv_iconst (n := 1) (v := 1) (pc' := 42) (by decide +kernel) (by decide) rfl ?_
            refine gv_goto (off := 4) (tgt := 46) (by decide +kernel) (by decide) ?_
            exact gd_ar (gl_s (gl_s (gl_s (gl_s (gl_s (gl_n (gl_n gl_z))))))) (fun _ => rfl) (hJ3 _ h)
  · refine gv_if_eq (off := 13) (tgt := 19) (pc' := 9) (by decide +kernel) (by decide) rfl (fun c6 => ?_) (fun c6 => ?_)
    · replace h := gd_tT c6 h
      refine gv_iconst (n := 1) (v := 1) (pc' := 20) (by decide +kernel) (by decide) rfl ?_
      refine gv_goto (off := 4) (tgt := 24) (by decide +kernel) (by decide) ?_
      exact gd_ar (gl_s (gl_s (gl_s (gl_s (gl_n (gl_n (gl_n gl_z))))))) (fun _ => rfl) (hJ1 _ h)
    · replace h := gd_tF c6 h
      refine gv_iload_n (n := 3) (pc' := 10) (by decide +kernel) rfl rfl ?_
      refine gv_iconst (n := 4) (v := 4) (pc' := 11) (by decide +kernel) (by decide) rfl ?_
      refine gv_icmp_eq (off := 8) (tgt := 19) (pc' := 14) (by decide +kernel) (by decide) rfl (fun c11 => ?_) (fun c11 => ?_)
      · replace h := gd_tT c11 h
        refine gv_iconst (n := 1) (v := 1) (pc' := 20) (by decide +kernel) (by decide) rfl ?_
        refine gv_goto (off := 4) (tgt := 24) (by decide +kernel) (by decide) ?_
        exact gd_ar (gl_s (gl_s (gl_s (gl_s (gl_n (gl_n (gl_n gl_z))))))) (fun _ => rfl) (hJ1 _ h)
      · replace h := gd_tF c11 h
        refine gv_iload_n (n := 3) (pc' := 15) (by decide +kernel) rfl rfl ?_
        refine gv_iconst (n := 5) (v := 5) (pc' := 16) (by decide +kernel) (by decide) rfl ?_
        refine gv_icmp_ne (off := 7) (tgt := 23) (pc' := 19) (by decide +kernel) (by decide) rfl (fun c16 => ?_) (fun c16 => ?_)
        · replace h := gd_tF c16 h
          refine gv_iconst (n := 0) (v := 0) (pc' := 24) (by decide +kernel) (by decide) rfl ?_
          exact gd_ar (gl_s (gl_s (gl_s (gl_s (gl_n (gl_n (gl_n gl_z))))))) (fun _ => rfl) (hJ1 _ h)
        · replace h := gd_tT c16 h
          refine gv_iconst (n := 1) (v := 1) (pc' := 20) (by decide +kernel) (by decide) rfl ?_
          refine gv_goto (off := 4) (tgt := 24) (by decide +kernel) (by decide) ?_
          exact gd_ar (gl_s (gl_s (gl_s (gl_s (gl_n (gl_n (gl_n gl_z))))))) (fun _ => rfl) (hJ1 _ h)
def F_Leaks_drop (σ : gS) : gR :=
 gd_s (gs_I σ 13 1 0) fun s1 =>
 some (.inl (some (.int (gI σ 13 1))), s1)
set_option maxRecDepth 20000 in
theorem X_Leaks_drop (σ : gS) (r0 : gQ × gS) (h : F_Leaks_drop σ = some r0) : gv_K m_Leaks_drop [.ref 13] σ (gv_is r0.1 r0.2) := by
  unfold F_Leaks_drop at h
  show gv_V m_Leaks_drop 1 true 0 [some (.ref 13), none] [] σ (gv_is r0.1 r0.2)
  refine gv_aload_n (n := 0) (pc' := 1) (by decide +kernel) rfl rfl ?_
  refine gv_getj lk_3_15 (by decide +kernel) rfl rfl (pc' := 4) rfl ?_
  refine gv_istore_n (n := 1) (pc' := 5) (by decide +kernel) (by decide) rfl ?_
  refine gv_aload_n (n := 0) (pc' := 6) (by decide +kernel) rfl rfl ?_
  refine gv_iconst (n := 0) (v := 0) (pc' := 7) (by decide +kernel) (by decide) rfl ?_
  refine gd_puti lp_3_15 (by decide +kernel) rfl rfl rfl rfl (pc' := 10) rfl h (fun s1 h => ?_)
  refine gv_iload_n (n := 1) (pc' := 11) (by decide +kernel) rfl rfl ?_
  exact gv_iret .int (by decide +kernel) rfl rfl (by decide) (by decide) (gd_rE h)
def F_Guesses_drop (σ : gS) : gR :=
 gd_s (gs_I σ 15 5 0) fun s1 =>
 gd_s (gs_I s1 15 6 0) fun s2 =>
 gd_s (gs_I s2 15 7 0) fun s3 =>
 some (.inl none, s3)
set_option maxRecDepth 20000 in
theorem X_Guesses_drop (σ : gS) (r0 : gQ × gS) (h : F_Guesses_drop σ = some r0) : gv_K m_Guesses_drop [.ref 15] σ (gv_is r0.1 r0.2) := by
  unfold F_Guesses_drop at h
  show gv_V m_Guesses_drop 1 true 0 [some (.ref 15)] [] σ (gv_is r0.1 r0.2)
  refine gv_aload_n (n := 0) (pc' := 1) (by decide +kernel) rfl rfl ?_
  refine gv_iconst (n := 0) (v := 0) (pc' := 2) (by decide +kernel) (by decide) rfl ?_
  refine gd_puti lp_4_28 (by decide +kernel) rfl rfl rfl rfl (pc' := 5) rfl h (fun s1 h => ?_)
  refine gv_aload_n (n := 0) (pc' := 6) (by decide +kernel) rfl rfl ?_
  refine gv_iconst (n := 0) (v := 0) (pc' := 7) (by decide +kernel) (by decide) rfl ?_
  refine gd_puti lp_4_32 (by decide +kernel) rfl rfl rfl rfl (pc' := 10) rfl h (fun s2 h => ?_)
  refine gv_aload_n (n := 0) (pc' := 11) (by decide +kernel) rfl rfl ?_
  refine gv_iconst (n := 0) (v := 0) (pc' := 12) (by decide +kernel) (by decide) rfl ?_
  refine gd_puti lp_4_35 (by decide +kernel) rfl rfl rfl rfl (pc' := 15) rfl h (fun s3 h => ?_)
  exact gv_ret (by decide +kernel) rfl (by decide) (by decide) (gd_rE h)
def F_Machine_begin (σ : gS) : gR :=
 gd_s (gs_row σ 11 (f_fill (gA σ 11) 0 32 0)) fun s1 =>
 gd_s (gs_row s1 12 (f_fill (gA s1 12) 0 256 (vp_nar .byte 0))) fun s2 =>
 gd_i (F_Leaks_drop s2) fun r3 s4 =>
 gd_0 (F_Guesses_drop s4) fun s5 =>
 gd_s (gs_I s5 10 5 0) fun s6 =>
 some (.inl none, s6)
set_option maxRecDepth 20000 in
theorem X_Machine_begin (σ : gS) (r0 : gQ × gS) (h : F_Machine_begin σ = some r0) : gv_K m_Machine_begin [.ref 10] σ (gv_is r0.1 r0.2) := by
  unfold F_Machine_begin at h
  show gv_V m_Machine_begin 1 true 0 [some (.ref 10)] [] σ (gv_is r0.1 r0.2)
  refine gv_aload_n (n := 0) (pc' := 1) (by decide +kernel) rfl rfl ?_
  refine gv_getr lk_2_9 (by decide +kernel) rfl rfl (pc' := 4) rfl ?_
  refine gv_iconst (n := 0) (v := 0) (pc' := 5) (by decide +kernel) (by decide) rfl ?_
  refine gd_cs0s (w' := false) (pc' := 8) (c_A_fill_aII 11 32 _ _ rfl (by decide)) md_A_fill_aII sd_A_fill_aII (Or.inl ml_2_44) (by decide +kernel) (by decide) rfl (Nat.le_of_ble_eq_true rfl) (Nat.le_of_ble_eq_true rfl) (by decide) rfl (fun z => by cases z) (by decide) rfl h (fun s1 h => ?_)
  refine gv_aload_n (n := 0) (pc' := 9) (by decide +kernel) rfl rfl ?_
  refine gv_getr lk_2_15 (by decide +kernel) rfl rfl (pc' := 12) rfl ?_
  refine gv_iconst (n := 0) (v := 0) (pc' := 13) (by decide +kernel) (by decide) rfl ?_
  refine gd_cs0s (w' := false) (pc' := 16) (c_A_fill_aBB 12 256 _ _ rfl (by decide)) md_A_fill_aBB sd_A_fill_aBB (Or.inl ml_2_50) (by decide +kernel) (by decide) rfl (Nat.le_of_ble_eq_true rfl) (Nat.le_of_ble_eq_true rfl) (by decide) rfl (fun z => by cases z) (by decide) rfl h (fun s2 h => ?_)
  refine gv_aload_n (n := 0) (pc' := 17) (by decide +kernel) rfl rfl ?_
  refine gv_getr lk_2_22 (by decide +kernel) rfl rfl (pc' := 20) rfl ?_
  refine gd_cvi (w' := false) (pc' := 23) (X_Leaks_drop _) h md_Leaks_drop vd_Leaks_drop (Or.inl ml_2_53) (by decide +kernel) (by decide) rfl rfl rfl (Nat.le_of_ble_eq_true rfl) (Nat.le_of_ble_eq_true rfl) (by decide) rfl (fun z => by cases z) (by decide) rfl (fun r3 s4 h => ?_)
  refine gv_pop (pc' := 24) (by decide +kernel) rfl rfl ?_
  refine gv_aload_n (n := 0) (pc' := 25) (by decide +kernel) rfl rfl ?_
  refine gv_getr lk_2_29 (by decide +kernel) rfl rfl (pc' := 28) rfl ?_
  refine gd_cv0 (w' := false) (pc' := 31) (X_Guesses_drop _) h md_Guesses_drop vd_Guesses_drop (Or.inl ml_2_57) (by decide +kernel) (by decide) rfl rfl rfl (Nat.le_of_ble_eq_true rfl) (Nat.le_of_ble_eq_true rfl) (by decide) rfl (fun z => by cases z) (by decide) rfl (fun s5 h => ?_)
  refine gv_aload_n (n := 0) (pc' := 32) (by decide +kernel) rfl rfl ?_
  refine gv_iconst (n := 0) (v := 0) (pc' := 33) (by decide +kernel) (by decide) rfl ?_
  refine gd_puti lp_2_33 (by decide +kernel) rfl rfl rfl rfl (pc' := 36) rfl h (fun s6 h => ?_)
  exact gv_ret (by decide +kernel) rfl (by decide) (by decide) (gd_rE h)
def F_Reach_dropRows (σ : gS) : gR :=
 gd_s (gs_row σ 23 (f_fill (gA σ 23) 0 1040 0)) fun s1 =>
 gd_s (gs_row s1 24 (f_fill (gA s1 24) 0 1040 0)) fun s2 =>
 some (.inl none, s2)
set_option maxRecDepth 20000 in
theorem X_Reach_dropRows (σ : gS) (r0 : gQ × gS) (h : F_Reach_dropRows σ = some r0) : gv_K m_Reach_dropRows [.ref 21] σ (gv_is r0.1 r0.2) := by
  unfold F_Reach_dropRows at h
  show gv_V m_Reach_dropRows 1 true 0 [some (.ref 21)] [] σ (gv_is r0.1 r0.2)
  refine gv_aload_n (n := 0) (pc' := 1) (by decide +kernel) rfl rfl ?_
  refine gv_getr lk_5_15 (by decide +kernel) rfl rfl (pc' := 4) rfl ?_
  refine gv_iconst (n := 0) (v := 0) (pc' := 5) (by decide +kernel) (by decide) rfl ?_
  refine gd_cs0s (w' := false) (pc' := 8) (c_A_fill_aII 23 1040 _ _ rfl (by decide)) md_A_fill_aII sd_A_fill_aII (Or.inl ml_5_33) (by decide +kernel) (by decide) rfl (Nat.le_of_ble_eq_true rfl) (Nat.le_of_ble_eq_true rfl) (by decide) rfl (fun z => by cases z) (by decide) rfl h (fun s1 h => ?_)
  refine gv_aload_n (n := 0) (pc' := 9) (by decide +kernel) rfl rfl ?_
  refine gv_getr lk_5_19 (by decide +kernel) rfl rfl (pc' := 12) rfl ?_
  refine gv_iconst (n := 0) (v := 0) (pc' := 13) (by decide +kernel) (by decide) rfl ?_
  refine gd_cs0s (w' := false) (pc' := 16) (c_A_fill_aII 24 1040 _ _ rfl (by decide)) md_A_fill_aII sd_A_fill_aII (Or.inl ml_5_33) (by decide +kernel) (by decide) rfl (Nat.le_of_ble_eq_true rfl) (Nat.le_of_ble_eq_true rfl) (by decide) rfl (fun z => by cases z) (by decide) rfl h (fun s2 h => ?_)
  exact gv_ret (by decide +kernel) rfl (by decide) (by decide) (gd_rE h)
def B_G_takeUp_12 (k6 : Int32 → Int32 → gS → gR) (k7 : gS → gR) (ag5 : Int32 → gS → gR) (n_1_3 : Int32) (s4 : gS) : gR :=
 if (gI s4 0 7) ≤ n_1_3 then
  k7 s4
 else
  gd_g (gd_in n_1_3 1040) <|
  if (f_Word_fault (gA s4 1 n_1_3.toNatClampNeg) n_1_3 (gI s4 0 7)) = 0 then
   gd_g (gd_in n_1_3 1040) <|
   gd_0 (F_Listing_put n_1_3 (gA s4 1 n_1_3.toNatClampNeg) s4) fun s8 =>
   ag5 (n_1_3 + 1) s8
  else
   k6 n_1_3 (f_Word_fault (gA s4 1 n_1_3.toNatClampNeg) n_1_3 (gI s4 0 7)) s4
set_option maxRecDepth 20000 in
theorem L_G_takeUp_12 (k6 : Int32 → Int32 → gS → gR) (k7 : gS → gR) (r0 : gQ × gS) (hk6 : ∀ (v10 : Int32) (v11 : Int32) (s9 : gS), k6 v10 v11 s9 = some r0 → gv_V m_G_takeUp 1 false 39 [some (.ref 0), some (.int v10), some (.int v11)] [] s9 (gv_is r0.1 r0.2)) (hk7 : ∀ (s13 : gS), k7 s13 = some r0 → gv_V m_G_takeUp 1 false 66 [some (.ref 0), none, none] [] s13 (gv_is r0.1 r0.2)) (n : Nat) : ∀ (n_1_3 : Int32) (s4 : gS), gd_lp (fun _ _ => none) (B_G_takeUp_12 k6 k7) n n_1_3 s4 = some r0 → gv_V m_G_takeUp 1 false 12 [some (.ref 0), some (.int n_1_3), none] [] s4 (gv_is r0.1 r0.2) := by
  refine gd_lpC (fun (ag5 : Int32 → gS → gR) => ∀ (n_1_3 : Int32) (s4 : gS), ag5 n_1_3 s4 = some r0 → gv_V m_G_takeUp 1 false 12 [some (.ref 0), some (.int n_1_3), none] [] s4 (gv_is r0.1 r0.2)) (fun n_1_3 s4 h => by cases h) (fun ag5 ih n_1_3 s4 h => ?_) n
  unfold B_G_takeUp_12 at h
  refine gv_iload_n (n := 1) (pc' := 13) (by decide +kernel) rfl rfl ?_
  refine gv_aload_n (n := 0) (pc' := 14) (by decide +kernel) rfl rfl ?_
  refine gv_getj lk_0_63 (by decide +kernel) rfl rfl (pc' := 17) rfl ?_
  refine gv_icmp_ge (off := 49) (tgt := 66) (pc' := 20) (by decide +kernel) (by decide) rfl (fun c17 => ?_) (fun c17 => ?_)
  · replace h := gd_T c17 h
    exact gd_ar (gl_s (gl_n (gl_n gl_z))) (fun z => by cases z) (hk7 _ h)
  · replace h := gd_F c17 h
    refine gv_aload_n (n := 0) (pc' := 21) (by decide +kernel) rfl rfl ?_
    refine gv_getr lk_0_9 (by decide +kernel) rfl rfl (pc' := 24) rfl ?_
    refine gv_iload_n (n := 1) (pc' := 25) (by decide +kernel) rfl rfl ?_
    obtain ⟨g25, h⟩ := gd_gE h
    refine gj_iald _ (pc' := 26) (by decide +kernel) rfl (gd_inv g25) rfl rfl ?_
    refine gv_iload_n (n := 1) (pc' := 27) (by decide +kernel) rfl rfl ?_
    refine gv_aload_n (n := 0) (pc' := 28) (by decide +kernel) rfl rfl ?_
    refine gv_getj lk_0_63 (by decide +kernel) rfl rfl (pc' := 31) rfl ?_
    refine gv_csi (w' := false) (pc' := 34) (y_Word_fault _ _ _ _) md_Word_fault sd_Word_fault (Or.inl ml_0_198) (by decide +kernel) (by decide) rfl (Nat.le_of_ble_eq_true rfl) (Nat.le_of_ble_eq_true rfl) (by decide) rfl (fun z => by cases z) (by decide) rfl ?_
    refine gv_istore_n (n := 2) (pc' := 35) (by decide +kernel) (by decide) rfl ?_
    refine gv_iload_n (n := 2) (pc' := 36) (by decide +kernel) rfl rfl ?_
    refine gv_if_eq (off := 10) (tgt := 46) (pc' := 39) (by decide +kernel) (by decide) rfl (fun c36 => ?_) (fun c36 => ?_)
    · replace h := gd_T c36 h
      refine gv_aload_n (n := 0) (pc' := 47) (by decide +kernel) rfl rfl ?_
      refine gv_getr lk_0_16 (by decide +kernel) rfl rfl (pc' := 50) rfl ?_
      refine gv_iload_n (n := 1) (pc' := 51) (by decide +kernel) rfl rfl ?_
      refine gv_aload_n (n := 0) (pc' := 52) (by decide +kernel) rfl rfl ?_
      refine gv_getr lk_0_9 (by decide +kernel) rfl rfl (pc' := 55) rfl ?_
      refine gv_iload_n (n := 1) (pc' := 56) (by decide +kernel) rfl rfl ?_
      obtain ⟨g56, h⟩ := gd_gE h
      refine gj_iald _ (pc' := 57) (by decide +kernel) rfl (gd_inv g56) rfl rfl ?_
      refine gd_cv0 (w' := false) (pc' := 60) (X_Listing_put _ _ _) h md_Listing_put vd_Listing_put (Or.inl ml_0_204) (by decide +kernel) (by decide) rfl rfl rfl (Nat.le_of_ble_eq_true rfl) (Nat.le_of_ble_eq_true rfl) (by decide) rfl (fun z => by cases z) (by decide) rfl (fun s8 h => ?_)
      refine gv_iincc (i := 1) (n := 1) (c := 1) (pc' := 63) (by decide +kernel) rfl (by decide) (by decide) rfl ?_
      refine gv_goto (off := -51) (tgt := 12) (by decide +kernel) (by decide) ?_
      exact gd_ar (gl_s (gl_s (gl_n gl_z))) (fun z => by cases z) (ih _ _ h)
    · replace h := gd_F c36 h
      exact gd_ar (gl_s (gl_s (gl_s gl_z))) (fun z => by cases z) (hk6 _ _ _ h)
def F_G_takeUp (σ : gS) : gR :=
 gd_s (gs_I σ 0 9 0) fun s1 =>
 gd_s (gs_I s1 0 8 (-1)) fun s2 =>
 gd_j (α := Int32 → Int32 → gS → gR) (fun (v10 : Int32) (v11 : Int32) (s9 : gS) =>
  gd_s (gs_I s9 0 8 v10) fun s12 =>
  some (.inl (some (.int v11)), s12)) fun k6 =>
 gd_j (α := gS → gR) (fun (s13 : gS) =>
  gd_s (gs_I s13 2 7 (gI s13 0 7)) fun s14 =>
  gd_0 (F_Machine_begin s14) fun s15 =>
  gd_0 (F_Reach_dropRows s15) fun s16 =>
  gd_s (gs_I s16 0 10 0) fun s17 =>
  gd_s (gs_I s17 0 9 1) fun s18 =>
  some (.inl (some (.int 0)), s18)) fun k7 =>
 gd_lp (fun _ _ => none) (B_G_takeUp_12 k6 k7) gd_N 0 s2
set_option maxRecDepth 20000 in
theorem X_G_takeUp (σ : gS) (r0 : gQ × gS) (h : F_G_takeUp σ = some r0) : gv_K m_G_takeUp [.ref 0] σ (gv_is r0.1 r0.2) := by
  unfold F_G_takeUp at h
  show gv_V m_G_takeUp 1 true 0 [some (.ref 0), none, none] [] σ (gv_is r0.1 r0.2)
  refine gv_aload_n (n := 0) (pc' := 1) (by decide +kernel) rfl rfl ?_
  refine gv_iconst (n := 0) (v := 0) (pc' := 2) (by decide +kernel) (by decide) rfl ?_
  refine gd_puti lp_0_70 (by decide +kernel) rfl rfl rfl rfl (pc' := 5) rfl h (fun s1 h => ?_)
  refine gv_aload_n (n := 0) (pc' := 6) (by decide +kernel) rfl rfl ?_
  refine gv_iconst (n := (-1)) (v := (-1)) (pc' := 7) (by decide +kernel) (by decide) rfl ?_
  refine gd_puti lp_0_67 (by decide +kernel) rfl rfl rfl rfl (pc' := 10) rfl h (fun s2 h => ?_)
  refine gv_iconst (n := 0) (v := 0) (pc' := 11) (by decide +kernel) (by decide) rfl ?_
  refine gv_istore_n (n := 1) (pc' := 12) (by decide +kernel) (by decide) rfl ?_
  refine gd_jC (fun k6 => ∀ (v10 : Int32) (v11 : Int32) (s9 : gS), k6 v10 v11 s9 = some r0 → gv_V m_G_takeUp 1 false 39 [some (.ref 0), some (.int v10), some (.int v11)] [] s9 (gv_is r0.1 r0.2)) h (fun v10 v11 s9 h => ?_) (fun k6 hk6 h => ?_)
  · refine gv_aload_n (n := 0) (pc' := 40) (by decide +kernel) rfl rfl ?_
    refine gv_iload_n (n := 1) (pc' := 41) (by decide +kernel) rfl rfl ?_
    refine gd_puti lp_0_67 (by decide +kernel) rfl rfl rfl rfl (pc' := 44) rfl h (fun s12 h => ?_)
    refine gv_iload_n (n := 2) (pc' := 45) (by decide +kernel) rfl rfl ?_
    exact gv_iret .int (by decide +kernel) rfl rfl (by decide) (by decide) (gd_rE h)
  refine gd_jC (fun k7 => ∀ (s13 : gS), k7 s13 = some r0 → gv_V m_G_takeUp 1 false 66 [some (.ref 0), none, none] [] s13 (gv_is r0.1 r0.2)) h (fun s13 h => ?_) (fun k7 hk7 h => ?_)
  · refine gv_aload_n (n := 0) (pc' := 67) (by decide +kernel) rfl rfl ?_
    refine gv_getr lk_0_16 (by decide +kernel) rfl rfl (pc' := 70) rfl ?_
    refine gv_aload_n (n := 0) (pc' := 71) (by decide +kernel) rfl rfl ?_
    refine gv_getj lk_0_63 (by decide +kernel) rfl rfl (pc' := 74) rfl ?_
    refine gd_puti lp_0_205 (by decide +kernel) rfl rfl rfl rfl (pc' := 77) rfl h (fun s14 h => ?_)
    refine gv_aload_n (n := 0) (pc' := 78) (by decide +kernel) rfl rfl ?_
    refine gv_getr lk_0_25 (by decide +kernel) rfl rfl (pc' := 81) rfl ?_
    refine gd_cv0 (w' := false) (pc' := 84) (X_Machine_begin _) h md_Machine_begin vd_Machine_begin (Or.inl ml_0_206) (by decide +kernel) (by decide) rfl rfl rfl (Nat.le_of_ble_eq_true rfl) (Nat.le_of_ble_eq_true rfl) (by decide) rfl (fun z => by cases z) (by decide) rfl (fun s15 h => ?_)
    refine gv_aload_n (n := 0) (pc' := 85) (by decide +kernel) rfl rfl ?_
    refine gv_getr lk_0_32 (by decide +kernel) rfl rfl (pc' := 88) rfl ?_
    refine gd_cv0 (w' := false) (pc' := 91) (X_Reach_dropRows _) h md_Reach_dropRows vd_Reach_dropRows (Or.inl ml_0_209) (by decide +kernel) (by decide) rfl rfl rfl (Nat.le_of_ble_eq_true rfl) (Nat.le_of_ble_eq_true rfl) (by decide) rfl (fun z => by cases z) (by decide) rfl (fun s16 h => ?_)
    refine gv_aload_n (n := 0) (pc' := 92) (by decide +kernel) rfl rfl ?_
    refine gv_iconst (n := 0) (v := 0) (pc' := 93) (by decide +kernel) (by decide) rfl ?_
    refine gd_puti lp_0_74 (by decide +kernel) rfl rfl rfl rfl (pc' := 96) rfl h (fun s17 h => ?_)
    refine gv_aload_n (n := 0) (pc' := 97) (by decide +kernel) rfl rfl ?_
    refine gv_iconst (n := 1) (v := 1) (pc' := 98) (by decide +kernel) (by decide) rfl ?_
    refine gd_puti lp_0_70 (by decide +kernel) rfl rfl rfl rfl (pc' := 101) rfl h (fun s18 h => ?_)
    refine gv_iconst (n := 0) (v := 0) (pc' := 102) (by decide +kernel) (by decide) rfl ?_
    exact gv_iret .int (by decide +kernel) rfl rfl (by decide) (by decide) (gd_rE h)
  exact gd_ar (gl_s (gl_s (gl_n gl_z))) (fun z => by cases z) (L_G_takeUp_12 _ _ r0 hk6 hk7 _ _ _ h)
def F_G_load (σ : gS) : gR :=
 gd_i (F_G_takeUp σ) fun r1 s2 =>
 some (.inl (some (.int r1)), s2)
set_option maxRecDepth 20000 in
theorem X_G_load (σ : gS) (r0 : gQ × gS) (h : F_G_load σ = some r0) : gv_K m_G_load [.ref 0] σ (gv_is r0.1 r0.2) := by
  unfold F_G_load at h
  show gv_V m_G_load 1 true 0 [some (.ref 0)] [] σ (gv_is r0.1 r0.2)
  refine gv_aload_n (n := 0) (pc' := 1) (by decide +kernel) rfl rfl ?_
  refine gd_cvi (w' := false) (pc' := 4) (X_G_takeUp _) h md_G_takeUp vd_G_takeUp (Or.inl ml_0_96) (by decide +kernel) (by decide) rfl rfl rfl (Nat.le_of_ble_eq_true rfl) (Nat.le_of_ble_eq_true rfl) (by decide) rfl (fun z => by cases z) (by decide) rfl (fun r1 s2 h => ?_)
  exact gv_iret .int (by decide +kernel) rfl rfl (by decide) (by decide) (gd_rE h)
def R_G_faultAt (σ : gS) : gP :=
 some (.inl (some (.int (gI σ 0 8))))
set_option maxRecDepth 20000 in
theorem X_G_faultAt (σ : gS) (r0 : gQ) (h : R_G_faultAt σ = some r0) : gv_K m_G_faultAt [.ref 0] σ (gv_is r0 σ) := by
  unfold R_G_faultAt at h
  show gv_V m_G_faultAt 1 true 0 [some (.ref 0)] [] σ (gv_is r0 σ)
  refine gv_aload_n (n := 0) (pc' := 1) (by decide +kernel) rfl rfl ?_
  refine gv_getj lk_0_67 (by decide +kernel) rfl rfl (pc' := 4) rfl ?_
  exact gv_iret .int (by decide +kernel) rfl rfl (by decide) (by decide) (gd_pE h)
def R_Leaks_pair (a : Int32) (σ : gS) : gP :=
 if a < 0 then
  some (.inl (some (.long (-1))))
 else
  if (gI σ 13 1) ≤ a then
   some (.inl (some (.long (-1))))
  else
   gd_g (gd_in a 2048) <|
   some (.inl (some (.long (gL σ 14 a.toNatClampNeg))))
set_option maxRecDepth 20000 in
theorem X_Leaks_pair (a : Int32) (σ : gS) (r0 : gQ) (h : R_Leaks_pair a σ = some r0) : gv_K m_Leaks_pair [.ref 13, .int a] σ (gv_is r0 σ) := by
  unfold R_Leaks_pair at h
  show gv_V m_Leaks_pair 1 true 0 [some (.ref 13), some (.int a)] [] σ (gv_is r0 σ)
  refine gv_iload_n (n := 1) (pc' := 1) (by decide +kernel) rfl rfl ?_
  refine gv_if_lt (off := 20) (tgt := 21) (pc' := 4) (by decide +kernel) (by decide) rfl (fun c1 => ?_) (fun c1 => ?_)
  · replace h := gd_T c1 h
    refine gv_ldc2 (v := (-1)) (pc' := 24) (by decide +kernel) cn_3_21 rfl ?_
    exact gv_lret (by decide +kernel) rfl (by decide) (by decide) (gd_pE h)
  · replace h := gd_F c1 h
    refine gv_iload_n (n := 1) (pc' := 5) (by decide +kernel) rfl rfl ?_
    refine gv_aload_n (n := 0) (pc' := 6) (by decide +kernel) rfl rfl ?_
    refine gv_getj lk_3_15 (by decide +kernel) rfl rfl (pc' := 9) rfl ?_
    refine gv_icmp_ge (off := 12) (tgt := 21) (pc' := 12) (by decide +kernel) (by decide) rfl (fun c9 => ?_) (fun c9 => ?_)
    · replace h := gd_T c9 h
      refine gv_ldc2 (v := (-1)) (pc' := 24) (by decide +kernel) cn_3_21 rfl ?_
      exact gv_lret (by decide +kernel) rfl (by decide) (by decide) (gd_pE h)
    · replace h := gd_F c9 h
      refine gv_aload_n (n := 0) (pc' := 13) (by decide +kernel) rfl rfl ?_
      refine gv_getr lk_3_11 (by decide +kernel) rfl rfl (pc' := 16) rfl ?_
      refine gv_iload_n (n := 1) (pc' := 17) (by decide +kernel) rfl rfl ?_
      obtain ⟨g17, h⟩ := gd_gE h
      refine gj_lald _ (pc' := 18) (by decide +kernel) rfl (gd_inv g17) rfl rfl ?_
      refine gv_goto (off := 6) (tgt := 24) (by decide +kernel) (by decide) ?_
      exact gv_lret (by decide +kernel) rfl (by decide) (by decide) (gd_pE h)
def R_G_leak (a : Int32) (σ : gS) : gP :=
 if (gI σ 0 9) = 0 then
  some (.inl (some (.long (-1))))
 else
  gd_pl (R_Leaks_pair a σ) fun r1 =>
  some (.inl (some (.long r1)))
set_option maxRecDepth 20000 in
theorem X_G_leak (a : Int32) (σ : gS) (r0 : gQ) (h : R_G_leak a σ = some r0) : gv_K m_G_leak [.ref 0, .int a] σ (gv_is r0 σ) := by
  unfold R_G_leak at h
  show gv_V m_G_leak 1 true 0 [some (.ref 0), some (.int a)] [] σ (gv_is r0 σ)
  refine gv_aload_n (n := 0) (pc' := 1) (by decide +kernel) rfl rfl ?_
  refine gv_getj lk_0_70 (by decide +kernel) rfl rfl (pc' := 4) rfl ?_
  refine gv_if_eq (off := 17) (tgt := 21) (pc' := 7) (by decide +kernel) (by decide) rfl (fun c4 => ?_) (fun c4 => ?_)
  · replace h := gd_T c4 h
    refine gv_ldc2 (v := (-1)) (pc' := 24) (by decide +kernel) cn_0_94 rfl ?_
    exact gv_lret (by decide +kernel) rfl (by decide) (by decide) (gd_pE h)
  · replace h := gd_F c4 h
    refine gv_aload_n (n := 0) (pc' := 8) (by decide +kernel) rfl rfl ?_
    refine gv_getr lk_0_25 (by decide +kernel) rfl rfl (pc' := 11) rfl ?_
    refine gv_getr lk_0_141 (by decide +kernel) rfl rfl (pc' := 14) rfl ?_
    refine gv_iload_n (n := 1) (pc' := 15) (by decide +kernel) rfl rfl ?_
    refine gd_evl (w' := true) (pc' := 18) (X_Leaks_pair _ _) h md_Leaks_pair vd_Leaks_pair (Or.inl ml_0_145) (by decide +kernel) (by decide) rfl rfl rfl (Nat.le_of_ble_eq_true rfl) (Nat.le_of_ble_eq_true rfl) (by decide) rfl (fun z => ⟨rfl, z⟩) (by decide) rfl (fun r1 h => ?_)
    refine gv_goto (off := 6) (tgt := 24) (by decide +kernel) (by decide) ?_
    exact gv_lret (by decide +kernel) rfl (by decide) (by decide) (gd_pE h)
def B_G_again_54 (k6 : gS → gR) (x_1_1 : Int32) (x_3_2 : Int64) (ag5 : Int32 → gS → gR) (n_5_3 : Int32) (s4 : gS) : gR :=
 if 0 ≤ (lg_cmp (Int32.toInt64 n_5_3) x_3_2) then
  k6 s4
 else
  gd_g (gd_in (n_5_3 - x_1_1) 1040) <|
  gd_g (gd_in n_5_3 1040) <|
  gd_s (gs_A s4 1 n_5_3.toNatClampNeg (gA s4 1 (n_5_3 - x_1_1).toNatClampNeg)) fun s7 =>
  ag5 (n_5_3 + 1) s7
set_option maxRecDepth 20000 in
theorem L_G_again_54 (k6 : gS → gR) (x_1_1 : Int32) (x_3_2 : Int64) (r0 : gQ × gS) (hk6 : ∀ (s8 : gS), k6 s8 = some r0 → gv_V m_G_again 1 false 84 [some (.ref 0), none, none, some (.long x_3_2), none, none] [] s8 (gv_is r0.1 r0.2)) (n : Nat) : ∀ (n_5_3 : Int32) (s4 : gS), gd_lp (fun _ _ => none) (B_G_again_54 k6 x_1_1 x_3_2) n n_5_3 s4 = some r0 → gv_V m_G_again 1 false 54 [some (.ref 0), some (.int x_1_1), none, some (.long x_3_2), none, some (.int n_5_3)] [] s4 (gv_is r0.1 r0.2) := by
  refine gd_lpC (fun (ag5 : Int32 → gS → gR) => ∀ (n_5_3 : Int32) (s4 : gS), ag5 n_5_3 s4 = some r0 → gv_V m_G_again 1 false 54 [some (.ref 0), some (.int x_1_1), none, some (.long x_3_2), none, some (.int n_5_3)] [] s4 (gv_is r0.1 r0.2)) (fun n_5_3 s4 h => by cases h) (fun ag5 ih n_5_3 s4 h => ?_) n
  unfold B_G_again_54 at h
  refine gv_iload (n := 5) (pc' := 56) (by decide +kernel) rfl rfl ?_
  refine gv_i2l (pc' := 57) (by decide +kernel) rfl ?_
  refine gv_lload_n (n := 3) (pc' := 58) (by decide +kernel) rfl rfl ?_
  refine gv_lcmp (pc' := 59) (by decide +kernel) rfl ?_
  refine gv_if_ge (off := 25) (tgt := 84) (pc' := 62) (by decide +kernel) (by decide) rfl (fun c59 => ?_) (fun c59 => ?_)
  · replace h := gd_T c59 h
    exact gd_ar (gl_s (gl_n (gl_n (gl_s (gl_n (gl_n gl_z)))))) (fun z => by cases z) (hk6 _ h)
  · replace h := gd_F c59 h
    refine gv_aload_n (n := 0) (pc' := 63) (by decide +kernel) rfl rfl ?_
    refine gv_getr lk_0_9 (by decide +kernel) rfl rfl (pc' := 66) rfl ?_
    refine gv_iload (n := 5) (pc' := 68) (by decide +kernel) rfl rfl ?_
    refine gv_aload_n (n := 0) (pc' := 69) (by decide +kernel) rfl rfl ?_
    refine gv_getr lk_0_9 (by decide +kernel) rfl rfl (pc' := 72) rfl ?_
    refine gv_iload (n := 5) (pc' := 74) (by decide +kernel) rfl rfl ?_
    refine gv_iload_n (n := 1) (pc' := 75) (by decide +kernel) rfl rfl ?_
    refine gv_isub (pc' := 76) (by decide +kernel) rfl ?_
    obtain ⟨g76, h⟩ := gd_gE h
    refine gj_iald _ (pc' := 77) (by decide +kernel) rfl (gd_inv g76) rfl rfl ?_
    obtain ⟨g77, h⟩ := gd_gE h
    refine gd_iast (pc' := 78) (by decide +kernel) rfl (gd_inv g77) rfl h (fun s7 h => ?_)
    refine gv_iincc (i := 5) (n := 1) (c := 1) (pc' := 81) (by decide +kernel) rfl (by decide) (by decide) rfl ?_
    refine gv_goto (off := -27) (tgt := 54) (by decide +kernel) (by decide) ?_
    exact gd_ar (gl_s (gl_s (gl_n (gl_s (gl_n (gl_s gl_z)))))) (fun z => by cases z) (ih _ _ h)
def F_G_again (a : Int32) (b : Int32) (σ : gS) : gR :=
 if a < 1 then
  some (.inr 3, σ)
 else
  if (gI σ 0 7) < a then
   some (.inr 3, σ)
  else
   if 1 ≤ b then
    if (lg_cmp ((Int32.toInt64 (gI σ 0 7)) + ((Int32.toInt64 a) * (Int32.toInt64 b))) (520 : Int64)) ≤ 0 then
     gd_j (α := gS → gR) (fun (s8 : gS) =>
      gd_s (gs_I s8 0 7 (Int64.toInt32 ((Int32.toInt64 (gI σ 0 7)) + ((Int32.toInt64 a) * (Int32.toInt64 b))))) fun s9 =>
      gd_0 (F_G_noteNewWords s9) fun s10 =>
      some (.inl (some (.int (gI s10 0 7))), s10)) fun k6 =>
     gd_lp (fun _ _ => none) (B_G_again_54 k6 a ((Int32.toInt64 (gI σ 0 7)) + ((Int32.toInt64 a) * (Int32.toInt64 b)))) gd_N (gI σ 0 7) σ
    else
     some (.inl (some (.int (-1))), σ)
   else
    some (.inr 3, σ)
set_option maxRecDepth 20000 in
theorem X_G_again (a : Int32) (b : Int32) (σ : gS) (r0 : gQ × gS) (h : F_G_again a b σ = some r0) : gv_K m_G_again [.ref 0, .int a, .int b] σ (gv_is r0.1 r0.2) := by
  unfold F_G_again at h
  show gv_V m_G_again 1 true 0 [some (.ref 0), some (.int a), some (.int b), none, none, none] [] σ (gv_is r0.1 r0.2)
  refine gv_iload_n (n := 1) (pc' := 1) (by decide +kernel) rfl rfl ?_
  refine gv_iconst (n := 1) (v := 1) (pc' := 2) (by decide +kernel) (by decide) rfl ?_
  refine gv_icmp_lt (off := 16) (tgt := 18) (pc' := 5) (by decide +kernel) (by decide) rfl (fun c2 => ?_) (fun c2 => ?_)
  · replace h := gd_T c2 h
    exact gv_throw th_0_83 (by decide +kernel) (by decide +kernel) (by decide +kernel) (by decide +kernel) (by decide) (by decide) (by decide) (by decide) (gd_rE h)
  · replace h := gd_F c2 h
    refine gv_iload_n (n := 1) (pc' := 6) (by decide +kernel) rfl rfl ?_
    refine gv_aload_n (n := 0) (pc' := 7) (by decide +kernel) rfl rfl ?_
    refine gv_getj lk_0_63 (by decide +kernel) rfl rfl (pc' := 10) rfl ?_
    refine gv_icmp_gt (off := 8) (tgt := 18) (pc' := 13) (by decide +kernel) (by decide) rfl (fun c10 => ?_) (fun c10 => ?_)
    · replace h := gd_T c10 h
      exact gv_throw th_0_83 (by decide +kernel) (by decide +kernel) (by decide +kernel) (by decide +kernel) (by decide) (by decide) (by decide) (by decide) (gd_rE h)
    · replace h := gd_F c10 h
      refine gv_iload_n (n := 2) (pc' := 14) (by decide +kernel) rfl rfl ?_
      refine gv_iconst (n := 1) (v := 1) (pc' := 15) (by decide +kernel) (by decide) rfl ?_
      refine gv_icmp_ge (off := 11) (tgt := 26) (pc' := 18) (by decide +kernel) (by decide) rfl (fun c15 => ?_) (fun c15 => ?_)
      · replace h := gd_T c15 h
        refine gv_aload_n (n := 0) (pc' := 27) (by decide +kernel) rfl rfl ?_
        refine gv_getj lk_0_63 (by decide +kernel) rfl rfl (pc' := 30) rfl ?_
        refine gv_i2l (pc' := 31) (by decide +kernel) rfl ?_
        refine gv_iload_n (n := 1) (pc' := 32) (by decide +kernel) rfl rfl ?_
        refine gv_i2l (pc' := 33) (by decide +kernel) rfl ?_
        refine gv_iload_n (n := 2) (pc' := 34) (by decide +kernel) rfl rfl ?_
        refine gv_i2l (pc' := 35) (by decide +kernel) rfl ?_
        refine gv_lmul (pc' := 36) (by decide +kernel) rfl ?_
        refine gv_ladd (pc' := 37) (by decide +kernel) rfl ?_
        refine gv_lstore_n (n := 3) (pc' := 38) (by decide +kernel) (by decide) rfl ?_
        refine gv_lload_n (n := 3) (pc' := 39) (by decide +kernel) rfl rfl ?_
        refine gv_ldc2 (v := 520) (pc' := 42) (by decide +kernel) cn_0_86 rfl ?_
        refine gv_lcmp (pc' := 43) (by decide +kernel) rfl ?_
        refine gv_if_le (off := 5) (tgt := 48) (pc' := 46) (by decide +kernel) (by decide) rfl (fun c43 => ?_) (fun c43 => ?_)
        · replace h := gd_T c43 h
          refine gv_aload_n (n := 0) (pc' := 49) (by decide +kernel) rfl rfl ?_
          refine gv_getj lk_0_63 (by decide +kernel) rfl rfl (pc' := 52) rfl ?_
          refine gv_istore (n := 5) (pc' := 54) (by decide +kernel) (by decide) rfl ?_
          refine gd_jC (fun k6 => ∀ (s8 : gS), k6 s8 = some r0 → gv_V m_G_again 1 false 84 [some (.ref 0), none, none, some (.long ((Int32.toInt64 (gI σ 0 7)) + ((Int32.toInt64 a) * (Int32.toInt64 b)))), none, none] [] s8 (gv_is r0.1 r0.2)) h (fun s8 h => ?_) (fun k6 hk6 h => ?_)
          · refine gv_aload_n (n := 0) (pc' := 85) (by decide +kernel) rfl rfl ?_
            refine gv_lload_n (n := 3) (pc' := 86) (by decide +kernel) rfl rfl ?_
            refine gv_l2i (pc' := 87) (by decide +kernel) rfl ?_
            refine gd_puti lp_0_63 (by decide +kernel) rfl rfl rfl rfl (pc' := 90) rfl h (fun s9 h => ?_)
            refine gv_aload_n (n := 0) (pc' := 91) (by decide +kernel) rfl rfl ?_
            refine gd_cv0 (w' := false) (pc' := 94) (X_G_noteNewWords _) h md_G_noteNewWords vd_G_noteNewWords (Or.inl ml_0_80) (by decide +kernel) (by decide) rfl rfl rfl (Nat.le_of_ble_eq_true rfl) (Nat.le_of_ble_eq_true rfl) (by decide) rfl (fun z => by cases z) (by decide) rfl (fun s10 h => ?_)
            refine gv_aload_n (n := 0) (pc' := 95) (by decide +kernel) rfl rfl ?_
            refine gv_getj lk_0_63 (by decide +kernel) rfl rfl (pc' := 98) rfl ?_
            exact gv_iret .int (by decide +kernel) rfl rfl (by decide) (by decide) (gd_rE h)
          exact gd_ar (gl_s (gl_s (gl_n (gl_s (gl_n (gl_s gl_z)))))) (fun z => by cases z) (L_G_again_54 _ _ _ r0 hk6 _ _ _ h)
        · replace h := gd_F c43 h
          refine gv_iconst (n := (-1)) (v := (-1)) (pc' := 47) (by decide +kernel) (by decide) rfl ?_
          exact gv_iret .int (by decide +kernel) rfl rfl (by decide) (by decide) (gd_rE h)
      · replace h := gd_F c15 h
        exact gv_throw th_0_83 (by decide +kernel) (by decide +kernel) (by decide +kernel) (by decide +kernel) (by decide) (by decide) (by decide) (by decide) (gd_rE h)
def R_G_needLoaded (σ : gS) : gP :=
 if (gI σ 0 9) = 0 then
  some (.inr 1)
 else
  some (.inl none)
set_option maxRecDepth 20000 in
theorem X_G_needLoaded (σ : gS) (r0 : gQ) (h : R_G_needLoaded σ = some r0) : gv_K m_G_needLoaded [.ref 0] σ (gv_is r0 σ) := by
  unfold R_G_needLoaded at h
  show gv_V m_G_needLoaded 1 true 0 [some (.ref 0)] [] σ (gv_is r0 σ)
  refine gv_aload_n (n := 0) (pc' := 1) (by decide +kernel) rfl rfl ?_
  refine gv_getj lk_0_70 (by decide +kernel) rfl rfl (pc' := 4) rfl ?_
  refine gv_if_ne (off := 11) (tgt := 15) (pc' := 7) (by decide +kernel) (by decide) rfl (fun c4 => ?_) (fun c4 => ?_)
  · replace h := gd_F c4 h
    exact gv_ret (by decide +kernel) rfl (by decide) (by decide) (gd_pE h)
  · replace h := gd_T c4 h
    exact gv_throw th_0_186 (by decide +kernel) (by decide +kernel) (by decide +kernel) (by decide +kernel) (by decide) (by decide) (by decide) (by decide) (gd_pE h)
def R_G_needWord (a : Int32) (σ : gS) : gP :=
 gd_pi (R_G_hasWord a σ) fun r1 =>
 if r1 = 0 then
  some (.inr 2)
 else
  some (.inl none)
set_option maxRecDepth 20000 in
theorem X_G_needWord (a : Int32) (σ : gS) (r0 : gQ) (h : R_G_needWord a σ = some r0) : gv_K m_G_needWord [.ref 0, .int a] σ (gv_is r0 σ) := by
  unfold R_G_needWord at h
  show gv_V m_G_needWord 1 true 0 [some (.ref 0), some (.int a)] [] σ (gv_is r0 σ)
  refine gv_aload_n (n := 0) (pc' := 1) (by decide +kernel) rfl rfl ?_
  refine gv_iload_n (n := 1) (pc' := 2) (by decide +kernel) rfl rfl ?_
  refine gd_evi (w' := true) (pc' := 5) (X_G_hasWord _ _) h md_G_hasWord vd_G_hasWord (Or.inl ml_0_88) (by decide +kernel) (by decide) rfl rfl rfl (Nat.le_of_ble_eq_true rfl) (Nat.le_of_ble_eq_true rfl) (by decide) rfl (fun z => ⟨rfl, z⟩) (by decide) rfl (fun r1 h => ?_)
  refine gv_if_ne (off := 11) (tgt := 16) (pc' := 8) (by decide +kernel) (by decide) rfl (fun c5 => ?_) (fun c5 => ?_)
  · replace h := gd_F c5 h
    exact gv_ret (by decide +kernel) rfl (by decide) (by decide) (gd_pE h)
  · replace h := gd_T c5 h
    exact gv_throw th_0_183 (by decide +kernel) (by decide +kernel) (by decide +kernel) (by decide +kernel) (by decide) (by decide) (by decide) (by decide) (gd_pE h)
def R_Listing_part (a : Int32) (b : Int32) (σ : gS) : gP :=
 if b = 0 then
  gd_g (gd_in a 1040) <|
  some (.inl (some (.int (gA σ 3 a.toNatClampNeg))))
 else if b = 1 then
  gd_g (gd_in a 1040) <|
  if (gA σ 5 a.toNatClampNeg) = 0 then
   some (.inl (some (.int (-1))))
  else
   gd_g (gd_in a 1040) <|
   some (.inl (some (.int (gA σ 5 a.toNatClampNeg))))
 else if b = 2 then
  gd_g (gd_in a 1040) <|
  some (.inl (some (.int (gA σ 6 a.toNatClampNeg))))
 else if b = 3 then
  gd_g (gd_in a 1040) <|
  some (.inl (some (.int (gA σ 7 a.toNatClampNeg))))
 else if b = 4 then
  gd_g (gd_in a 1040) <|
  some (.inl (some (.int (gA σ 8 a.toNatClampNeg))))
 else 
  gd_g (gd_in a 1040) <|
  some (.inl (some (.int (gA σ 9 a.toNatClampNeg))))
set_option maxRecDepth 20000 in
theorem X_Listing_part (a : Int32) (b : Int32) (σ : gS) (r0 : gQ) (h : R_Listing_part a b σ = some r0) : gv_K m_Listing_part [.ref 2, .int a, .int b] σ (gv_is r0 σ) := by
  unfold R_Listing_part at h
  show gv_V m_Listing_part 1 true 0 [some (.ref 2), some (.int a), some (.int b)] [] σ (gv_is r0 σ)
  refine gv_iload_n (n := 2) (pc' := 1) (by decide +kernel) rfl rfl ?_
  by_cases q1_0 : b = 0
  · replace h := gd_T q1_0 h
    refine gd_tbT (dflt := 83) (lo := 0) (hi := 4) (offs := #[35, 42, 62, 69, 76]) (len := 35) (off := 35) (tgt := 36) q1_0 (by decide +kernel) (by decide) (by decide) rfl (by decide) ?_
    refine gv_aload_n (n := 0) (pc' := 37) (by decide +kernel) rfl rfl ?_
    refine gv_getr lk_1_9 (by decide +kernel) rfl rfl (pc' := 40) rfl ?_
    refine gv_iload_n (n := 1) (pc' := 41) (by decide +kernel) rfl rfl ?_
    obtain ⟨g41, h⟩ := gd_gE h
    refine gj_iald _ (pc' := 42) (by decide +kernel) rfl (gd_inv g41) rfl rfl ?_
    exact gv_iret .int (by decide +kernel) rfl rfl (by decide) (by decide) (gd_pE h)
  replace h := gd_F q1_0 h
  by_cases q1_1 : b = 1
  · replace h := gd_T q1_1 h
    refine gd_tbT (dflt := 83) (lo := 0) (hi := 4) (offs := #[35, 42, 62, 69, 76]) (len := 35) (off := 42) (tgt := 43) q1_1 (by decide +kernel) (by decide) (by decide) rfl (by decide) ?_
    refine gv_aload_n (n := 0) (pc' := 44) (by decide +kernel) rfl rfl ?_
    refine gv_getr lk_1_18 (by decide +kernel) rfl rfl (pc' := 47) rfl ?_
    refine gv_iload_n (n := 1) (pc' := 48) (by decide +kernel) rfl rfl ?_
    obtain ⟨g48, h⟩ := gd_gE h
    refine gj_iald _ (pc' := 49) (by decide +kernel) rfl (gd_inv g48) rfl rfl ?_
    refine gv_if_ne (off := 7) (tgt := 56) (pc' := 52) (by decide +kernel) (by decide) rfl (fun c49 => ?_) (fun c49 => ?_)
    · replace h := gd_F c49 h
      refine gv_aload_n (n := 0) (pc' := 57) (by decide +kernel) rfl rfl ?_
      refine gv_getr lk_1_18 (by decide +kernel) rfl rfl (pc' := 60) rfl ?_
      refine gv_iload_n (n := 1) (pc' := 61) (by decide +kernel) rfl rfl ?_
      obtain ⟨g61, h⟩ := gd_gE h
      refine gj_iald _ (pc' := 62) (by decide +kernel) rfl (gd_inv g61) rfl rfl ?_
      exact gv_iret .int (by decide +kernel) rfl rfl (by decide) (by decide) (gd_pE h)
    · replace h := gd_T c49 h
      refine gv_iconst (n := (-1)) (v := (-1)) (pc' := 53) (by decide +kernel) (by decide) rfl ?_
      refine gv_goto (off := 9) (tgt := 62) (by decide +kernel) (by decide) ?_
      exact gv_iret .int (by decide +kernel) rfl rfl (by decide) (by decide) (gd_pE h)
  replace h := gd_F q1_1 h
  by_cases q1_2 : b = 2
  · replace h := gd_T q1_2 h
    refine gd_tbT (dflt := 83) (lo := 0) (hi := 4) (offs := #[35, 42, 62, 69, 76]) (len := 35) (off := 62) (tgt := 63) q1_2 (by decide +kernel) (by decide) (by decide) rfl (by decide) ?_
    refine gv_aload_n (n := 0) (pc' := 64) (by decide +kernel) rfl rfl ?_
    refine gv_getr lk_1_21 (by decide +kernel) rfl rfl (pc' := 67) rfl ?_
    refine gv_iload_n (n := 1) (pc' := 68) (by decide +kernel) rfl rfl ?_
    obtain ⟨g68, h⟩ := gd_gE h
    refine gj_iald _ (pc' := 69) (by decide +kernel) rfl (gd_inv g68) rfl rfl ?_
    exact gv_iret .int (by decide +kernel) rfl rfl (by decide) (by decide) (gd_pE h)
  replace h := gd_F q1_2 h
  by_cases q1_3 : b = 3
  · replace h := gd_T q1_3 h
    refine gd_tbT (dflt := 83) (lo := 0) (hi := 4) (offs := #[35, 42, 62, 69, 76]) (len := 35) (off := 69) (tgt := 70) q1_3 (by decide +kernel) (by decide) (by decide) rfl (by decide) ?_
    refine gv_aload_n (n := 0) (pc' := 71) (by decide +kernel) rfl rfl ?_
    refine gv_getr lk_1_24 (by decide +kernel) rfl rfl (pc' := 74) rfl ?_
    refine gv_iload_n (n := 1) (pc' := 75) (by decide +kernel) rfl rfl ?_
    obtain ⟨g75, h⟩ := gd_gE h
    refine gj_iald _ (pc' := 76) (by decide +kernel) rfl (gd_inv g75) rfl rfl ?_
    exact gv_iret .int (by decide +kernel) rfl rfl (by decide) (by decide) (gd_pE h)
  replace h := gd_F q1_3 h
  by_cases q1_4 : b = 4
  · replace h := gd_T q1_4 h
    refine gd_tbT (dflt := 83) (lo := 0) (hi := 4) (offs := #[35, 42, 62, 69, 76]) (len := 35) (off := 76) (tgt := 77) q1_4 (by decide +kernel) (by decide) (by decide) rfl (by decide) ?_
    refine gv_aload_n (n := 0) (pc' := 78) (by decide +kernel) rfl rfl ?_
    refine gv_getr lk_1_27 (by decide +kernel) rfl rfl (pc' := 81) rfl ?_
    refine gv_iload_n (n := 1) (pc' := 82) (by decide +kernel) rfl rfl ?_
    obtain ⟨g82, h⟩ := gd_gE h
    refine gj_iald _ (pc' := 83) (by decide +kernel) rfl (gd_inv g82) rfl rfl ?_
    exact gv_iret .int (by decide +kernel) rfl rfl (by decide) (by decide) (gd_pE h)
  replace h := gd_F q1_4 h
  refine gv_tableOut (dflt := 83) (lo := 0) (hi := 4) (offs := #[35, 42, 62, 69, 76]) (len := 35) (tgt := 84) (by decide +kernel) (gd_tbs (a := 4) (gd_tbs (a := 3) (gd_tbs (a := 2) (gd_tbs (a := 1) (gd_tbs (a := 0) (gd_tb0 (lo := 0)) q1_0 (by decide) (by decide)) q1_1 (by decide) (by decide)) q1_2 (by decide) (by decide)) q1_3 (by decide) (by decide)) q1_4 (by decide) (by decide)) (by decide) ?_
  refine gv_aload_n (n := 0) (pc' := 85) (by decide +kernel) rfl rfl ?_
  refine gv_getr lk_1_30 (by decide +kernel) rfl rfl (pc' := 88) rfl ?_
  refine gv_iload_n (n := 1) (pc' := 89) (by decide +kernel) rfl rfl ?_
  obtain ⟨g89, h⟩ := gd_gE h
  refine gj_iald _ (pc' := 90) (by decide +kernel) rfl (gd_inv g89) rfl rfl ?_
  exact gv_iret .int (by decide +kernel) rfl rfl (by decide) (by decide) (gd_pE h)
def R_G_decoded (a : Int32) (b : Int32) (σ : gS) : gP :=
 gd_p0 (R_G_needLoaded σ) <|
 gd_p0 (R_G_needWord a σ) <|
 if b < 0 then
  some (.inr 3)
 else
  if b ≤ 5 then
   gd_pi (R_Listing_part a b σ) fun r1 =>
   some (.inl (some (.int r1)))
  else
   some (.inr 3)
set_option maxRecDepth 20000 in
theorem X_G_decoded (a : Int32) (b : Int32) (σ : gS) (r0 : gQ) (h : R_G_decoded a b σ = some r0) : gv_K m_G_decoded [.ref 0, .int a, .int b] σ (gv_is r0 σ) := by
  unfold R_G_decoded at h
  show gv_V m_G_decoded 1 true 0 [some (.ref 0), some (.int a), some (.int b)] [] σ (gv_is r0 σ)
  refine gv_aload_n (n := 0) (pc' := 1) (by decide +kernel) rfl rfl ?_
  refine gd_ev0 (w' := true) (pc' := 4) (X_G_needLoaded _) h md_G_needLoaded vd_G_needLoaded (Or.inl ml_0_100) (by decide +kernel) (by decide) rfl rfl rfl (Nat.le_of_ble_eq_true rfl) (Nat.le_of_ble_eq_true rfl) (by decide) rfl (fun z => ⟨rfl, z⟩) (by decide) rfl (fun h => ?_)
  refine gv_aload_n (n := 0) (pc' := 5) (by decide +kernel) rfl rfl ?_
  refine gv_iload_n (n := 1) (pc' := 6) (by decide +kernel) rfl rfl ?_
  refine gd_ev0 (w' := true) (pc' := 9) (X_G_needWord _ _) h md_G_needWord vd_G_needWord (Or.inl ml_0_103) (by decide +kernel) (by decide) rfl rfl rfl (Nat.le_of_ble_eq_true rfl) (Nat.le_of_ble_eq_true rfl) (by decide) rfl (fun z => ⟨rfl, z⟩) (by decide) rfl (fun h => ?_)
  refine gv_iload_n (n := 2) (pc' := 10) (by decide +kernel) rfl rfl ?_
  refine gv_if_lt (off := 8) (tgt := 18) (pc' := 13) (by decide +kernel) (by decide) rfl (fun c10 => ?_) (fun c10 => ?_)
  · replace h := gd_T c10 h
    exact gv_throw th_0_83 (by decide +kernel) (by decide +kernel) (by decide +kernel) (by decide +kernel) (by decide) (by decide) (by decide) (by decide) (gd_pE h)
  · replace h := gd_F c10 h
    refine gv_iload_n (n := 2) (pc' := 14) (by decide +kernel) rfl rfl ?_
    refine gv_iconst (n := 5) (v := 5) (pc' := 15) (by decide +kernel) (by decide) rfl ?_
    refine gv_icmp_le (off := 11) (tgt := 26) (pc' := 18) (by decide +kernel) (by decide) rfl (fun c15 => ?_) (fun c15 => ?_)
    · replace h := gd_T c15 h
      refine gv_aload_n (n := 0) (pc' := 27) (by decide +kernel) rfl rfl ?_
      refine gv_getr lk_0_16 (by decide +kernel) rfl rfl (pc' := 30) rfl ?_
      refine gv_iload_n (n := 1) (pc' := 31) (by decide +kernel) rfl rfl ?_
      refine gv_iload_n (n := 2) (pc' := 32) (by decide +kernel) rfl rfl ?_
      refine gd_evi (w' := true) (pc' := 35) (X_Listing_part _ _ _) h md_Listing_part vd_Listing_part (Or.inl ml_0_107) (by decide +kernel) (by decide) rfl rfl rfl (Nat.le_of_ble_eq_true rfl) (Nat.le_of_ble_eq_true rfl) (by decide) rfl (fun z => ⟨rfl, z⟩) (by decide) rfl (fun r1 h => ?_)
      exact gv_iret .int (by decide +kernel) rfl rfl (by decide) (by decide) (gd_pE h)
    · replace h := gd_F c15 h
      exact gv_throw th_0_83 (by decide +kernel) (by decide +kernel) (by decide +kernel) (by decide +kernel) (by decide) (by decide) (by decide) (by decide) (gd_pE h)
