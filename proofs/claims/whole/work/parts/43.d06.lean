def F_M_reg (a : Int32) (σ : gS) : gR :=
 gd_g (gd_in (f_M_a a) 32) <|
 gd_g (gd_in (f_M_b a) 32) <|
 if (f_M_g a) = 1 then
  if 4 ≤ (f_M_f a) then
   gd_0 (F_M_tell 3 (gA σ 44 (f_M_a a).toNatClampNeg) σ) fun s1 =>
   gd_0 (F_M_tell 4 (gA σ 44 (f_M_b a).toNatClampNeg) s1) fun s2 =>
   gd_qi (R_M_divided (f_M_f a) (gA σ 44 (f_M_a a).toNatClampNeg) (gA σ 44 (f_M_b a).toNatClampNeg) s2) s2 fun r3 =>
   some (.inl (some (.int r3)), s2)
  else
   some (.inl (some (.int (f_M_multiplied (f_M_f a) (gA σ 44 (f_M_a a).toNatClampNeg) (gA σ 44 (f_M_b a).toNatClampNeg)))), σ)
 else
  gd_t (α := Int32) (if (f_M_g a) = 32 then
    1
   else
    0) fun v5 =>
  some (.inl (some (.int (f_M_made (f_M_f a) (gA σ 44 (f_M_a a).toNatClampNeg) (gA σ 44 (f_M_b a).toNatClampNeg) v5))), σ)
set_option maxRecDepth 20000 in
theorem X_M_reg (a : Int32) (σ : gS) (r0 : gQ × gS) (h : F_M_reg a σ = some r0) : gv_K m_M_reg [.ref 41, .int a] σ (gv_is r0.1 r0.2) := by
  unfold F_M_reg at h
  show gv_V m_M_reg 1 true 0 [some (.ref 41), some (.int a), none, none] [] σ (gv_is r0.1 r0.2)
  refine gv_aload_n (n := 0) (pc' := 1) (by decide +kernel) rfl rfl ?_
  refine gv_getr lk_9_20 (by decide +kernel) rfl rfl (pc' := 4) rfl ?_
  refine gv_iload_n (n := 1) (pc' := 5) (by decide +kernel) rfl rfl ?_
  refine gv_csi (w' := true) (pc' := 8) (y_M_a _ _) md_M_a sd_M_a (Or.inl ml_9_136) (by decide +kernel) (by decide) rfl (Nat.le_of_ble_eq_true rfl) (Nat.le_of_ble_eq_true rfl) (by decide) rfl (fun z => ⟨rfl, z⟩) (by decide) rfl ?_
  obtain ⟨g8, h⟩ := gd_gE h
  refine gj_iald _ (pc' := 9) (by decide +kernel) rfl (gd_inv g8) rfl rfl ?_
  refine gv_istore_n (n := 2) (pc' := 10) (by decide +kernel) (by decide) rfl ?_
  refine gv_aload_n (n := 0) (pc' := 11) (by decide +kernel) rfl rfl ?_
  refine gv_getr lk_9_20 (by decide +kernel) rfl rfl (pc' := 14) rfl ?_
  refine gv_iload_n (n := 1) (pc' := 15) (by decide +kernel) rfl rfl ?_
  refine gv_csi (w' := true) (pc' := 18) (y_M_b _ _) md_M_b sd_M_b (Or.inl ml_9_139) (by decide +kernel) (by decide) rfl (Nat.le_of_ble_eq_true rfl) (Nat.le_of_ble_eq_true rfl) (by decide) rfl (fun z => ⟨rfl, z⟩) (by decide) rfl ?_
  obtain ⟨g18, h⟩ := gd_gE h
  refine gj_iald _ (pc' := 19) (by decide +kernel) rfl (gd_inv g18) rfl rfl ?_
  refine gv_istore_n (n := 3) (pc' := 20) (by decide +kernel) (by decide) rfl ?_
  refine gv_iload_n (n := 1) (pc' := 21) (by decide +kernel) rfl rfl ?_
  refine gv_csi (w' := true) (pc' := 24) (y_M_g _ _) md_M_g sd_M_g (Or.inl ml_9_118) (by decide +kernel) (by decide) rfl (Nat.le_of_ble_eq_true rfl) (Nat.le_of_ble_eq_true rfl) (by decide) rfl (fun z => ⟨rfl, z⟩) (by decide) rfl ?_
  refine gv_iconst (n := 1) (v := 1) (pc' := 25) (by decide +kernel) (by decide) rfl ?_
  refine gv_icmp_eq (off := 27) (tgt := 52) (pc' := 28) (by decide +kernel) (by decide) rfl (fun c25 => ?_) (fun c25 => ?_)
  · replace h := gd_T c25 h
    refine gv_iload_n (n := 1) (pc' := 53) (by decide +kernel) rfl rfl ?_
    refine gv_csi (w' := true) (pc' := 56) (y_M_f _ _) md_M_f sd_M_f (Or.inl ml_9_114) (by decide +kernel) (by decide) rfl (Nat.le_of_ble_eq_true rfl) (Nat.le_of_ble_eq_true rfl) (by decide) rfl (fun z => ⟨rfl, z⟩) (by decide) rfl ?_
    refine gv_iconst (n := 4) (v := 4) (pc' := 57) (by decide +kernel) (by decide) rfl ?_
    refine gv_icmp_ge (off := 13) (tgt := 70) (pc' := 60) (by decide +kernel) (by decide) rfl (fun c57 => ?_) (fun c57 => ?_)
    · replace h := gd_T c57 h
      refine gv_aload_n (n := 0) (pc' := 71) (by decide +kernel) rfl rfl ?_
      refine gv_iconst (n := 3) (v := 3) (pc' := 72) (by decide +kernel) (by decide) rfl ?_
      refine gv_iload_n (n := 2) (pc' := 73) (by decide +kernel) rfl rfl ?_
      refine gd_cv0 (w' := false) (pc' := 76) (X_M_tell _ _ _) h md_M_tell vd_M_tell (Or.inl ml_9_201) (by decide +kernel) (by decide) rfl rfl rfl (Nat.le_of_ble_eq_true rfl) (Nat.le_of_ble_eq_true rfl) (by decide) rfl (fun z => by cases z) (by decide) rfl (fun s1 h => ?_)
      refine gv_aload_n (n := 0) (pc' := 77) (by decide +kernel) rfl rfl ?_
      refine gv_iconst (n := 4) (v := 4) (pc' := 78) (by decide +kernel) (by decide) rfl ?_
      refine gv_iload_n (n := 3) (pc' := 79) (by decide +kernel) rfl rfl ?_
      refine gd_cv0 (w' := false) (pc' := 82) (X_M_tell _ _ _) h md_M_tell vd_M_tell (Or.inl ml_9_201) (by decide +kernel) (by decide) rfl rfl rfl (Nat.le_of_ble_eq_true rfl) (Nat.le_of_ble_eq_true rfl) (by decide) rfl (fun z => by cases z) (by decide) rfl (fun s2 h => ?_)
      refine gv_iload_n (n := 1) (pc' := 83) (by decide +kernel) rfl rfl ?_
      refine gv_csi (w' := false) (pc' := 86) (y_M_f _ _) md_M_f sd_M_f (Or.inl ml_9_114) (by decide +kernel) (by decide) rfl (Nat.le_of_ble_eq_true rfl) (Nat.le_of_ble_eq_true rfl) (by decide) rfl (fun z => by cases z) (by decide) rfl ?_
      refine gv_iload_n (n := 2) (pc' := 87) (by decide +kernel) rfl rfl ?_
      refine gv_iload_n (n := 3) (pc' := 88) (by decide +kernel) rfl rfl ?_
      refine gd_dsi (w' := false) (pc' := 91) (X_M_divided _ _ _ _) h md_M_divided sd_M_divided (Or.inl ml_9_205) (by decide +kernel) (by decide) rfl (Nat.le_of_ble_eq_true rfl) (Nat.le_of_ble_eq_true rfl) (by decide) rfl (fun z => by cases z) (by decide) rfl (fun r3 h => ?_)
      exact gv_iret .int (by decide +kernel) rfl rfl (by decide) (by decide) (gd_rE h)
    · replace h := gd_F c57 h
      refine gv_iload_n (n := 1) (pc' := 61) (by decide +kernel) rfl rfl ?_
      refine gv_csi (w' := true) (pc' := 64) (y_M_f _ _) md_M_f sd_M_f (Or.inl ml_9_114) (by decide +kernel) (by decide) rfl (Nat.le_of_ble_eq_true rfl) (Nat.le_of_ble_eq_true rfl) (by decide) rfl (fun z => ⟨rfl, z⟩) (by decide) rfl ?_
      refine gv_iload_n (n := 2) (pc' := 65) (by decide +kernel) rfl rfl ?_
      refine gv_iload_n (n := 3) (pc' := 66) (by decide +kernel) rfl rfl ?_
      refine gv_csi (w' := true) (pc' := 69) (y_M_multiplied _ _ _ _) md_M_multiplied sd_M_multiplied (Or.inl ml_9_197) (by decide +kernel) (by decide) rfl (Nat.le_of_ble_eq_true rfl) (Nat.le_of_ble_eq_true rfl) (by decide) rfl (fun z => ⟨rfl, z⟩) (by decide) rfl ?_
      exact gv_iret .int (by decide +kernel) rfl rfl (by decide) (by decide) (gd_rE h)
  · replace h := gd_F c25 h
    refine gv_iload_n (n := 1) (pc' := 29) (by decide +kernel) rfl rfl ?_
    refine gv_csi (w' := true) (pc' := 32) (y_M_f _ _) md_M_f sd_M_f (Or.inl ml_9_114) (by decide +kernel) (by decide) rfl (Nat.le_of_ble_eq_true rfl) (Nat.le_of_ble_eq_true rfl) (by decide) rfl (fun z => ⟨rfl, z⟩) (by decide) rfl ?_
    refine gv_iload_n (n := 2) (pc' := 33) (by decide +kernel) rfl rfl ?_
    refine gv_iload_n (n := 3) (pc' := 34) (by decide +kernel) rfl rfl ?_
    refine gv_iload_n (n := 1) (pc' := 35) (by decide +kernel) rfl rfl ?_
    refine gv_csi (w' := true) (pc' := 38) (y_M_g _ _) md_M_g sd_M_g (Or.inl ml_9_118) (by decide +kernel) (by decide) rfl (Nat.le_of_ble_eq_true rfl) (Nat.le_of_ble_eq_true rfl) (by decide) rfl (fun z => ⟨rfl, z⟩) (by decide) rfl ?_
    refine gv_bipush (n := 32) (v := 32) (pc' := 40) (by decide +kernel) (by decide) rfl ?_
    refine gd_tC (fun (v5 : Int32) => gv_V m_M_reg 1 true 48 [none, none, none, none] [.int v5, .int (gA σ 44 (f_M_b a).toNatClampNeg), .int (gA σ 44 (f_M_a a).toNatClampNeg), .int (f_M_f a)] σ (gv_is r0.1 r0.2)) h (fun v5 h => ?_) (fun KJ4 hJ4 h => ?_)
    · refine gv_csi (w' := true) (pc' := 51) (y_M_made _ _ _ _ _) md_M_made sd_M_made (Or.inl ml_9_193) (by decide +kernel) (by decide) rfl (Nat.le_of_ble_eq_true rfl) (Nat.le_of_ble_eq_true rfl) (by decide) rfl (fun z => ⟨rfl, z⟩) (by decide) rfl ?_
      exact gv_iret .int (by decide +kernel) rfl rfl (by decide) (by decide) (gd_rE h)
    · refine gv_icmp_ne (off := 7) (tgt := 47) (pc' := 43) (by decide +kernel) (by decide) rfl (fun c40 => ?_) (fun c40 => ?_)
      · replace h := gd_tF c40 h
        refine gv_iconst (n := 0) (v := 0) (pc' := 48) (by decide +kernel) (by decide) rfl ?_
        exact gd_ar (gl_n (gl_n (gl_n (gl_n gl_z)))) (fun _ => rfl) (hJ4 _ h)
      · replace h := gd_tT c40 h
        refine gv_iconst (n := 1) (v := 1) (pc' := 44) (by decide +kernel) (by decide) rfl ?_
        refine gv_goto (off := 4) (tgt := 48) (by decide +kernel) (by decide) ?_
        exact gd_ar (gl_n (gl_n (gl_n (gl_n gl_z)))) (fun _ => rfl) (hJ4 _ h)
def F_M_runOne (σ : gS) : gR :=
 gd_g (gd_in (gI σ 41 7) 1040) <|
 gd_qi (R_M_kind (gI σ 41 7) σ) σ fun r1 =>
 gd_s (gs_I σ 41 7 ((gI σ 41 7) + (1 : Int32))) fun s2 =>
 gd_j (α := Int32 → gS → gR) (fun (v22 : Int32) (s23 : gS) =>
  gd_qi (R_M_result (gI σ 41 7) s23) s23 fun r24 =>
  if r24 ≤ 0 then
   some (.inl none, s23)
  else
   gd_qi (R_M_result (gI σ 41 7) s23) s23 fun r25 =>
   gd_g (gd_in r25 32) <|
   gd_s (gs_A s23 44 r25.toNatClampNeg v22) fun s26 =>
   some (.inl none, s26)) fun J3 =>
 if r1 = 0 then
  gd_i (F_M_reg (gA σ 42 (gI σ 41 7).toNatClampNeg) s2) fun r20 s21 =>
  J3 r20 s21
 else
  if r1 = 1 then
   gd_g (gd_in (f_M_a (gA σ 42 (gI σ 41 7).toNatClampNeg)) 32) <|
   gd_qi (R_M_number (gI σ 41 7) s2) s2 fun r17 =>
   gd_t (α := Int32) (if (f_M_f (gA σ 42 (gI σ 41 7).toNatClampNeg)) = 5 then
     if (f_M_g (gA σ 42 (gI σ 41 7).toNatClampNeg)) = 32 then
      1
     else
      0
    else
     0) fun v19 =>
   J3 (f_M_made (f_M_f (gA σ 42 (gI σ 41 7).toNatClampNeg)) (gA s2 44 (f_M_a (gA σ 42 (gI σ 41 7).toNatClampNeg)).toNatClampNeg) r17 v19) s2
  else
   if r1 = 2 then
    gd_qi (R_M_number (gI σ 41 7) s2) s2 fun r16 =>
    J3 r16 s2
   else
    if r1 = 3 then
     gd_g (gd_in (f_M_a (gA σ 42 (gI σ 41 7).toNatClampNeg)) 32) <|
     gd_qi (R_M_number (gI σ 41 7) s2) s2 fun r13 =>
     gd_i (F_M_loadedValue (gA σ 42 (gI σ 41 7).toNatClampNeg) ((gA s2 44 (f_M_a (gA σ 42 (gI σ 41 7).toNatClampNeg)).toNatClampNeg) + r13) s2) fun r14 s15 =>
     J3 r14 s15
    else
     if r1 = 4 then
      gd_g (gd_in (f_M_a (gA σ 42 (gI σ 41 7).toNatClampNeg)) 32) <|
      gd_qi (R_M_number (gI σ 41 7) s2) s2 fun r10 =>
      gd_0 (F_M_tell 2 ((gA s2 44 (f_M_a (gA σ 42 (gI σ 41 7).toNatClampNeg)).toNatClampNeg) + r10) s2) fun s11 =>
      gd_g (gd_in (f_M_b (gA σ 42 (gI σ 41 7).toNatClampNeg)) 32) <|
      gd_0 (F_M_write ((gA s2 44 (f_M_a (gA σ 42 (gI σ 41 7).toNatClampNeg)).toNatClampNeg) + r10) ((1 : Int32) <<< ((f_M_f (gA σ 42 (gI σ 41 7).toNatClampNeg)) &&& 31)) (gA s11 44 (f_M_b (gA σ 42 (gI σ 41 7).toNatClampNeg)).toNatClampNeg) s11) fun s12 =>
      J3 0 s12
     else
      if r1 = 5 then
       gd_g (gd_in (f_M_a (gA σ 42 (gI σ 41 7).toNatClampNeg)) 32) <|
       gd_g (gd_in (f_M_b (gA σ 42 (gI σ 41 7).toNatClampNeg)) 32) <|
       gd_qi (R_M_goal (gI σ 41 7) (gA s2 44 (f_M_a (gA σ 42 (gI σ 41 7).toNatClampNeg)).toNatClampNeg) (gA s2 44 (f_M_b (gA σ 42 (gI σ 41 7).toNatClampNeg)).toNatClampNeg) s2) s2 fun r7 =>
       gd_s (gs_I s2 41 7 r7) fun s8 =>
       gd_0 (F_M_tell 0 (gI s8 41 7) s8) fun s9 =>
       J3 0 s9
      else
       if r1 = 6 then
        gd_qi (R_M_target (gI σ 41 7) s2) s2 fun r4 =>
        gd_s (gs_I s2 41 7 r4) fun s5 =>
        gd_0 (F_M_tell 0 (gI s5 41 7) s5) fun s6 =>
        J3 0 s6
       else
        J3 0 s2
set_option maxRecDepth 20000 in
theorem X_M_runOne (σ : gS) (r0 : gQ × gS) (h : F_M_runOne σ = some r0) : gv_K m_M_runOne [.ref 41] σ (gv_is r0.1 r0.2) := by
  unfold F_M_runOne at h
  show gv_V m_M_runOne 1 true 0 [some (.ref 41), none, none, none, none, none] [] σ (gv_is r0.1 r0.2)
  refine gv_aload_n (n := 0) (pc' := 1) (by decide +kernel) rfl rfl ?_
  refine gv_getj lk_9_145 (by decide +kernel) rfl rfl (pc' := 4) rfl ?_
  refine gv_istore_n (n := 1) (pc' := 5) (by decide +kernel) (by decide) rfl ?_
  refine gv_aload_n (n := 0) (pc' := 6) (by decide +kernel) rfl rfl ?_
  refine gv_getr lk_9_7 (by decide +kernel) rfl rfl (pc' := 9) rfl ?_
  refine gv_iload_n (n := 1) (pc' := 10) (by decide +kernel) rfl rfl ?_
  obtain ⟨g10, h⟩ := gd_gE h
  refine gj_iald _ (pc' := 11) (by decide +kernel) rfl (gd_inv g10) rfl rfl ?_
  refine gv_istore_n (n := 2) (pc' := 12) (by decide +kernel) (by decide) rfl ?_
  refine gv_aload_n (n := 0) (pc' := 13) (by decide +kernel) rfl rfl ?_
  refine gv_iload_n (n := 1) (pc' := 14) (by decide +kernel) rfl rfl ?_
  refine gd_dvi (w' := true) (pc' := 17) (X_M_kind _ _) h md_M_kind vd_M_kind (Or.inl ml_9_130) (by decide +kernel) (by decide) rfl rfl rfl (Nat.le_of_ble_eq_true rfl) (Nat.le_of_ble_eq_true rfl) (by decide) rfl (fun z => ⟨rfl, z⟩) (by decide) rfl (fun r1 h => ?_)
  refine gv_istore_n (n := 3) (pc' := 18) (by decide +kernel) (by decide) rfl ?_
  refine gv_iconst (n := 0) (v := 0) (pc' := 19) (by decide +kernel) (by decide) rfl ?_
  refine gv_istore (n := 4) (pc' := 21) (by decide +kernel) (by decide) rfl ?_
  refine gv_aload_n (n := 0) (pc' := 22) (by decide +kernel) rfl rfl ?_
  refine gv_iload_n (n := 1) (pc' := 23) (by decide +kernel) rfl rfl ?_
  refine gv_iconst (n := 1) (v := 1) (pc' := 24) (by decide +kernel) (by decide) rfl ?_
  refine gv_iadd (pc' := 25) (by decide +kernel) rfl ?_
  refine gd_puti lp_9_145 (by decide +kernel) rfl rfl rfl rfl (pc' := 28) rfl h (fun s2 h => ?_)
  refine gv_iload_n (n := 3) (pc' := 29) (by decide +kernel) rfl rfl ?_
  refine gd_jC (fun J3 => ∀ (v22 : Int32) (s23 : gS), J3 v22 s23 = some r0 → gv_V m_M_runOne 1 false 261 [some (.ref 41), some (.int (gI σ 41 7)), none, none, some (.int v22), none] [] s23 (gv_is r0.1 r0.2)) h (fun v22 s23 h => ?_) (fun J3 hJ3 h => ?_)
  · refine gv_aload_n (n := 0) (pc' := 262) (by decide +kernel) rfl rfl ?_
    refine gv_iload_n (n := 1) (pc' := 263) (by decide +kernel) rfl rfl ?_
    refine gd_dvi (w' := false) (pc' := 266) (X_M_result _ _) h md_M_result vd_M_result (Or.inl ml_9_167) (by decide +kernel) (by decide) rfl rfl rfl (Nat.le_of_ble_eq_true rfl) (Nat.le_of_ble_eq_true rfl) (by decide) rfl (fun z => by cases z) (by decide) rfl (fun r24 h => ?_)
    refine gv_if_le (off := 15) (tgt := 281) (pc' := 269) (by decide +kernel) (by decide) rfl (fun c266 => ?_) (fun c266 => ?_)
    · replace h := gd_T c266 h
      exact gv_ret (by decide +kernel) rfl (by decide) (by decide) (gd_rE h)
    · replace h := gd_F c266 h
      refine gv_aload_n (n := 0) (pc' := 270) (by decide +kernel) rfl rfl ?_
      refine gv_getr lk_9_20 (by decide +kernel) rfl rfl (pc' := 273) rfl ?_
      refine gv_aload_n (n := 0) (pc' := 274) (by decide +kernel) rfl rfl ?_
      refine gv_iload_n (n := 1) (pc' := 275) (by decide +kernel) rfl rfl ?_
      refine gd_dvi (w' := false) (pc' := 278) (X_M_result _ _) h md_M_result vd_M_result (Or.inl ml_9_167) (by decide +kernel) (by decide) rfl rfl rfl (Nat.le_of_ble_eq_true rfl) (Nat.le_of_ble_eq_true rfl) (by decide) rfl (fun z => by cases z) (by decide) rfl (fun r25 h => ?_)
      refine gv_iload (n := 4) (pc' := 280) (by decide +kernel) rfl rfl ?_
      obtain ⟨g280, h⟩ := gd_gE h
      refine gd_iast (pc' := 281) (by decide +kernel) rfl (gd_inv g280) rfl h (fun s26 h => ?_)
      exact gv_ret (by decide +kernel) rfl (by decide) (by decide) (gd_rE h)
  · refine gv_if_ne (off := 13) (tgt := 42) (pc' := 32) (by decide +kernel) (by decide) rfl (fun c29 => ?_) (fun c29 => ?_)
    · replace h := gd_F c29 h
      refine gv_iload_n (n := 3) (pc' := 43) (by decide +kernel) rfl rfl ?_
      refine gv_iconst (n := 1) (v := 1) (pc' := 44) (by decide +kernel) (by decide) rfl ?_
      refine gv_icmp_ne (off := 51) (tgt := 95) (pc' := 47) (by decide +kernel) (by decide) rfl (fun c44 => ?_) (fun c44 => ?_)
      · replace h := gd_F c44 h
        refine gv_iload_n (n := 3) (pc' := 96) (by decide +kernel) rfl rfl ?_
        refine gv_iconst (n := 2) (v := 2) (pc' := 97) (by decide +kernel) (by decide) rfl ?_
        refine gv_icmp_ne (off := 13) (tgt := 110) (pc' := 100) (by decide +kernel) (by decide) rfl (fun c97 => ?_) (fun c97 => ?_)
        · replace h := gd_F c97 h
          refine gv_iload_n (n := 3) (pc' := 111) (by decide +kernel) rfl rfl ?_
          refine gv_iconst (n := 3) (v := 3) (pc' := 112) (by decide +kernel) (by decide) rfl ?_
          refine gv_icmp_ne (off := 28) (tgt := 140) (pc' := 115) (by decide +kernel) (by decide) rfl (fun c112 => ?_) (fun c112 => ?_)
          · replace h := gd_F c112 h
            refine gv_iload_n (n := 3) (pc' := 141) (by decide +kernel) rfl rfl ?_
            refine gv_iconst (n := 4) (v := 4) (pc' := 142) (by decide +kernel) (by decide) rfl ?_
            refine gv_icmp_ne (off := 51) (tgt := 193) (pc' := 145) (by decide +kernel) (by decide) rfl (fun c142 => ?_) (fun c142 => ?_)
            · replace h := gd_F c142 h
              refine gv_iload_n (n := 3) (pc' := 194) (by decide +kernel) rfl rfl ?_
              refine gv_iconst (n := 5) (v := 5) (pc' := 195) (by decide +kernel) (by decide) rfl ?_
              refine gv_icmp_ne (off := 42) (tgt := 237) (pc' := 198) (by decide +kernel) (by decide) rfl (fun c195 => ?_) (fun c195 => ?_)
              · replace h := gd_F c195 h
                refine gv_iload_n (n := 3) (pc' := 238) (by decide +kernel) rfl rfl ?_
                refine gv_bipush (n := 6) (v := 6) (pc' := 240) (by decide +kernel) (by decide) rfl ?_
                refine gv_icmp_ne (off := 21) (tgt := 261) (pc' := 243) (by decide +kernel) (by decide) rfl (fun c240 => ?_) (fun c240 => ?_)
                · replace h := gd_F c240 h
                  exact gd_ar (gl_s (gl_s (gl_n (gl_n (gl_s (gl_n gl_z)))))) (fun z => by cases z) (hJ3 _ _ h)
                · replace h := gd_T c240 h
                  refine gv_aload_n (n := 0) (pc' := 244) (by decide +kernel) rfl rfl ?_
                  refine gv_aload_n (n := 0) (pc' := 245) (by decide +kernel) rfl rfl ?_
                  refine gv_iload_n (n := 1) (pc' := 246) (by decide +kernel) rfl rfl ?_
                  refine gd_dvi (w' := false) (pc' := 249) (X_M_target _ _) h md_M_target vd_M_target (Or.inl ml_9_133) (by decide +kernel) (by decide) rfl rfl rfl (Nat.le_of_ble_eq_true rfl) (Nat.le_of_ble_eq_true rfl) (by decide) rfl (fun z => by cases z) (by decide) rfl (fun r4 h => ?_)
                  refine gd_puti lp_9_145 (by decide +kernel) rfl rfl rfl rfl (pc' := 252) rfl h (fun s5 h => ?_)
                  refine gv_aload_n (n := 0) (pc' := 253) (by decide +kernel) rfl rfl ?_
                  refine gv_iconst (n := 0) (v := 0) (pc' := 254) (by decide +kernel) (by decide) rfl ?_
                  refine gv_aload_n (n := 0) (pc' := 255) (by decide +kernel) rfl rfl ?_
                  refine gv_getj lk_9_145 (by decide +kernel) rfl rfl (pc' := 258) rfl ?_
                  refine gd_cv0 (w' := false) (pc' := 261) (X_M_tell _ _ _) h md_M_tell vd_M_tell (Or.inl ml_9_201) (by decide +kernel) (by decide) rfl rfl rfl (Nat.le_of_ble_eq_true rfl) (Nat.le_of_ble_eq_true rfl) (by decide) rfl (fun z => by cases z) (by decide) rfl (fun s6 h => ?_)
                  exact gd_ar (gl_s (gl_s (gl_n (gl_n (gl_s (gl_n gl_z)))))) (fun z => by cases z) (hJ3 _ _ h)
              · replace h := gd_T c195 h
                refine gv_aload_n (n := 0) (pc' := 199) (by decide +kernel) rfl rfl ?_
                refine gv_aload_n (n := 0) (pc' := 200) (by decide +kernel) rfl rfl ?_
                refine gv_iload_n (n := 1) (pc' := 201) (by decide +kernel) rfl rfl ?_
                refine gv_aload_n (n := 0) (pc' := 202) (by decide +kernel) rfl rfl ?_
                refine gv_getr lk_9_20 (by decide +kernel) rfl rfl (pc' := 205) rfl ?_
                refine gv_iload_n (n := 2) (pc' := 206) (by decide +kernel) rfl rfl ?_
                refine gv_csi (w' := false) (pc' := 209) (y_M_a _ _) md_M_a sd_M_a (Or.inl ml_9_136) (by decide +kernel) (by decide) rfl (Nat.le_of_ble_eq_true rfl) (Nat.le_of_ble_eq_true rfl) (by decide) rfl (fun z => by cases z) (by decide) rfl ?_
                obtain ⟨g209, h⟩ := gd_gE h
                refine gj_iald _ (pc' := 210) (by decide +kernel) rfl (gd_inv g209) rfl rfl ?_
                refine gv_aload_n (n := 0) (pc' := 211) (by decide +kernel) rfl rfl ?_
                refine gv_getr lk_9_20 (by decide +kernel) rfl rfl (pc' := 214) rfl ?_
                refine gv_iload_n (n := 2) (pc' := 215) (by decide +kernel) rfl rfl ?_
                refine gv_csi (w' := false) (pc' := 218) (y_M_b _ _) md_M_b sd_M_b (Or.inl ml_9_139) (by decide +kernel) (by decide) rfl (Nat.le_of_ble_eq_true rfl) (Nat.le_of_ble_eq_true rfl) (by decide) rfl (fun z => by cases z) (by decide) rfl ?_
                obtain ⟨g218, h⟩ := gd_gE h
                refine gj_iald _ (pc' := 219) (by decide +kernel) rfl (gd_inv g218) rfl rfl ?_
                refine gd_dvi (w' := false) (pc' := 222) (X_M_goal _ _ _ _) h md_M_goal vd_M_goal (Or.inl ml_9_214) (by decide +kernel) (by decide) rfl rfl rfl (Nat.le_of_ble_eq_true rfl) (Nat.le_of_ble_eq_true rfl) (by decide) rfl (fun z => by cases z) (by decide) rfl (fun r7 h => ?_)
                refine gd_puti lp_9_145 (by decide +kernel) rfl rfl rfl rfl (pc' := 225) rfl h (fun s8 h => ?_)
                refine gv_aload_n (n := 0) (pc' := 226) (by decide +kernel) rfl rfl ?_
                refine gv_iconst (n := 0) (v := 0) (pc' := 227) (by decide +kernel) (by decide) rfl ?_
                refine gv_aload_n (n := 0) (pc' := 228) (by decide +kernel) rfl rfl ?_
                refine gv_getj lk_9_145 (by decide +kernel) rfl rfl (pc' := 231) rfl ?_
                refine gd_cv0 (w' := false) (pc' := 234) (X_M_tell _ _ _) h md_M_tell vd_M_tell (Or.inl ml_9_201) (by decide +kernel) (by decide) rfl rfl rfl (Nat.le_of_ble_eq_true rfl) (Nat.le_of_ble_eq_true rfl) (by decide) rfl (fun z => by cases z) (by decide) rfl (fun s9 h => ?_)
                refine gv_goto (off := 27) (tgt := 261) (by decide +kernel) (by decide) ?_
                exact gd_ar (gl_s (gl_s (gl_n (gl_n (gl_s (gl_n gl_z)))))) (fun z => by cases z) (hJ3 _ _ h)
            · replace h := gd_T c142 h
              refine gv_aload_n (n := 0) (pc' := 146) (by decide +kernel) rfl rfl ?_
              refine gv_getr lk_9_20 (by decide +kernel) rfl rfl (pc' := 149) rfl ?_
              refine gv_iload_n (n := 2) (pc' := 150) (by decide +kernel) rfl rfl ?_
              refine gv_csi (w' := false) (pc' := 153) (y_M_a _ _) md_M_a sd_M_a (Or.inl ml_9_136) (by decide +kernel) (by decide) rfl (Nat.le_of_ble_eq_true rfl) (Nat.le_of_ble_eq_true rfl) (by decide) rfl (fun z => by cases z) (by decide) rfl ?_
              obtain ⟨g153, h⟩ := gd_gE h
              refine gj_iald _ (pc' := 154) (by decide +kernel) rfl (gd_inv g153) rfl rfl ?_
              refine gv_aload_n (n := 0) (pc' := 155) (by decide +kernel) rfl rfl ?_
              refine gv_iload_n (n := 1) (pc' := 156) (by decide +kernel) rfl rfl ?_
              refine gd_dvi (w' := false) (pc' := 159) (X_M_number _ _) h md_M_number vd_M_number (Or.inl ml_9_176) (by decide +kernel) (by decide) rfl rfl rfl (Nat.le_of_ble_eq_true rfl) (Nat.le_of_ble_eq_true rfl) (by decide) rfl (fun z => by cases z) (by decide) rfl (fun r10 h => ?_)
              refine gv_iadd (pc' := 160) (by decide +kernel) rfl ?_
              refine gv_istore (n := 5) (pc' := 162) (by decide +kernel) (by decide) rfl ?_
              refine gv_aload_n (n := 0) (pc' := 163) (by decide +kernel) rfl rfl ?_
              refine gv_iconst (n := 2) (v := 2) (pc' := 164) (by decide +kernel) (by decide) rfl ?_
              refine gv_iload (n := 5) (pc' := 166) (by decide +kernel) rfl rfl ?_
              refine gd_cv0 (w' := false) (pc' := 169) (X_M_tell _ _ _) h md_M_tell vd_M_tell (Or.inl ml_9_201) (by decide +kernel) (by decide) rfl rfl rfl (Nat.le_of_ble_eq_true rfl) (Nat.le_of_ble_eq_true rfl) (by decide) rfl (fun z => by cases z) (by decide) rfl (fun s11 h => ?_)
              refine gv_aload_n (n := 0) (pc' := 170) (by decide +kernel) rfl rfl ?_
              refine gv_iload (n := 5) (pc' := 172) (by decide +kernel) rfl rfl ?_
              refine gv_iconst (n := 1) (v := 1) (pc' := 173) (by decide +kernel) (by decide) rfl ?_
              refine gv_iload_n (n := 2) (pc' := 174) (by decide +kernel) rfl rfl ?_
              refine gv_csi (w' := false) (pc' := 177) (y_M_f _ _) md_M_f sd_M_f (Or.inl ml_9_114) (by decide +kernel) (by decide) rfl (Nat.le_of_ble_eq_true rfl) (Nat.le_of_ble_eq_true rfl) (by decide) rfl (fun z => by cases z) (by decide) rfl ?_
              refine gv_ishl (pc' := 178) (by decide +kernel) rfl ?_
              refine gv_aload_n (n := 0) (pc' := 179) (by decide +kernel) rfl rfl ?_
              refine gv_getr lk_9_20 (by decide +kernel) rfl rfl (pc' := 182) rfl ?_
              refine gv_iload_n (n := 2) (pc' := 183) (by decide +kernel) rfl rfl ?_
              refine gv_csi (w' := false) (pc' := 186) (y_M_b _ _) md_M_b sd_M_b (Or.inl ml_9_139) (by decide +kernel) (by decide) rfl (Nat.le_of_ble_eq_true rfl) (Nat.le_of_ble_eq_true rfl) (by decide) rfl (fun z => by cases z) (by decide) rfl ?_
              obtain ⟨g186, h⟩ := gd_gE h
              refine gj_iald _ (pc' := 187) (by decide +kernel) rfl (gd_inv g186) rfl rfl ?_
              refine gd_cv0 (w' := false) (pc' := 190) (X_M_write _ _ _ _) h md_M_write vd_M_write (Or.inl ml_9_179) (by decide +kernel) (by decide) rfl rfl rfl (Nat.le_of_ble_eq_true rfl) (Nat.le_of_ble_eq_true rfl) (by decide) rfl (fun z => by cases z) (by decide) rfl (fun s12 h => ?_)
              refine gv_goto (off := 71) (tgt := 261) (by decide +kernel) (by decide) ?_
              exact gd_ar (gl_s (gl_s (gl_n (gl_n (gl_s (gl_n gl_z)))))) (fun z => by cases z) (hJ3 _ _ h)
          · replace h := gd_T c112 h
            refine gv_aload_n (n := 0) (pc' := 116) (by decide +kernel) rfl rfl ?_
            refine gv_iload_n (n := 2) (pc' := 117) (by decide +kernel) rfl rfl ?_
            refine gv_aload_n (n := 0) (pc' := 118) (by decide +kernel) rfl rfl ?_
            refine gv_getr lk_9_20 (by decide +kernel) rfl rfl (pc' := 121) rfl ?_
            refine gv_iload_n (n := 2) (pc' := 122) (by decide +kernel) rfl rfl ?_
            refine gv_csi (w' := false) (pc' := 125) (y_M_a _ _) md_M_a sd_M_a (Or.inl ml_9_136) (by decide +kernel) (by decide) rfl (Nat.le_of_ble_eq_true rfl) (Nat.le_of_ble_eq_true rfl) (by decide) rfl (fun z => by cases z) (by decide) rfl ?_
            obtain ⟨g125, h⟩ := gd_gE h
            refine gj_iald _ (pc' := 126) (by decide +kernel) rfl (gd_inv g125) rfl rfl ?_
            refine gv_aload_n (n := 0) (pc' := 127) (by decide +kernel) rfl rfl ?_
            refine gv_iload_n (n := 1) (pc' := 128) (by decide +kernel) rfl rfl ?_
            refine gd_dvi (w' := false) (pc' := 131) (X_M_number _ _) h md_M_number vd_M_number (Or.inl ml_9_176) (by decide +kernel) (by decide) rfl rfl rfl (Nat.le_of_ble_eq_true rfl) (Nat.le_of_ble_eq_true rfl) (by decide) rfl (fun z => by cases z) (by decide) rfl (fun r13 h => ?_)
            refine gv_iadd (pc' := 132) (by decide +kernel) rfl ?_
            refine gd_cvi (w' := false) (pc' := 135) (X_M_loadedValue _ _ _) h md_M_loadedValue vd_M_loadedValue (Or.inl ml_9_211) (by decide +kernel) (by decide) rfl rfl rfl (Nat.le_of_ble_eq_true rfl) (Nat.le_of_ble_eq_true rfl) (by decide) rfl (fun z => by cases z) (by decide) rfl (fun r14 s15 h => ?_)
            refine gv_istore (n := 4) (pc' := 137) (by decide +kernel) (by decide) rfl ?_
            refine gv_goto (off := 124) (tgt := 261) (by decide +kernel) (by decide) ?_
            exact gd_ar (gl_s (gl_s (gl_n (gl_n (gl_s (gl_n gl_z)))))) (fun z => by cases z) (hJ3 _ _ h)
        · replace h := gd_T c97 h
          refine gv_aload_n (n := 0) (pc' := 101) (by decide +kernel) rfl rfl ?_
          refine gv_iload_n (n := 1) (pc' := 102) (by decide +kernel) rfl rfl ?_
          refine gd_dvi (w' := false) (pc' := 105) (X_M_number _ _) h md_M_number vd_M_number (Or.inl ml_9_176) (by decide +kernel) (by decide) rfl rfl rfl (Nat.le_of_ble_eq_true rfl) (Nat.le_of_ble_eq_true rfl) (by decide) rfl (fun z => by cases z) (by decide) rfl (fun r16 h => ?_)
          refine gv_istore (n := 4) (pc' := 107) (by decide +kernel) (by decide) rfl ?_
          refine gv_goto (off := 154) (tgt := 261) (by decide +kernel) (by decide) ?_
          exact gd_ar (gl_s (gl_s (gl_n (gl_n (gl_s (gl_n gl_z)))))) (fun z => by cases z) (hJ3 _ _ h)
      · replace h := gd_T c44 h
        refine gv_iload_n (n := 2) (pc' := 48) (by decide +kernel) rfl rfl ?_
        refine gv_csi (w' := false) (pc' := 51) (y_M_f _ _) md_M_f sd_M_f (Or.inl ml_9_114) (by decide +kernel) (by decide) rfl (Nat.le_of_ble_eq_true rfl) (Nat.le_of_ble_eq_true rfl) (by decide) rfl (fun z => by cases z) (by decide) rfl ?_
        refine gv_aload_n (n := 0) (pc' := 52) (by decide +kernel) rfl rfl ?_
        refine gv_getr lk_9_20 (by decide +kernel) rfl rfl (pc' := 55) rfl ?_
        refine gv_iload_n (n := 2) (pc' := 56) (by decide +kernel) rfl rfl ?_
        refine gv_csi (w' := false) (pc' := 59) (y_M_a _ _) md_M_a sd_M_a (Or.inl ml_9_136) (by decide +kernel) (by decide) rfl (Nat.le_of_ble_eq_true rfl) (Nat.le_of_ble_eq_true rfl) (by decide) rfl (fun z => by cases z) (by decide) rfl ?_
        obtain ⟨g59, h⟩ := gd_gE h
        refine gj_iald _ (pc' := 60) (by decide +kernel) rfl (gd_inv g59) rfl rfl ?_
        refine gv_aload_n (n := 0) (pc' := 61) (by decide +kernel) rfl rfl ?_
        refine gv_iload_n (n := 1) (pc' := 62) (by decide +kernel) rfl rfl ?_
        refine gd_dvi (w' := false) (pc' := 65) (X_M_number _ _) h md_M_number vd_M_number (Or.inl ml_9_176) (by decide +kernel) (by decide) rfl rfl rfl (Nat.le_of_ble_eq_true rfl) (Nat.le_of_ble_eq_true rfl) (by decide) rfl (fun z => by cases z) (by decide) rfl (fun r17 h => ?_)
        refine gv_iload_n (n := 2) (pc' := 66) (by decide +kernel) rfl rfl ?_
        refine gv_csi (w' := false) (pc' := 69) (y_M_f _ _) md_M_f sd_M_f (Or.inl ml_9_114) (by decide +kernel) (by decide) rfl (Nat.le_of_ble_eq_true rfl) (Nat.le_of_ble_eq_true rfl) (by decide) rfl (fun z => by cases z) (by decide) rfl ?_
        refine gv_iconst (n := 5) (v := 5) (pc' := 70) (by decide +kernel) (by decide) rfl ?_
        refine gd_tC (fun (v19 : Int32) => gv_V m_M_runOne 1 false 87 [some (.ref 41), some (.int (gI σ 41 7)), none, none, none, none] [.int v19, .int r17, .int (gA s2 44 (f_M_a (gA σ 42 (gI σ 41 7).toNatClampNeg)).toNatClampNeg), .int (f_M_f (gA σ 42 (gI σ 41 7).toNatClampNeg))] s2 (gv_is r0.1 r0.2)) h (fun v19 h => ?_) (fun KJ18 hJ18 h => ?_)
        · refine gv_csi (w' := false) (pc' := 90) (y_M_made _ _ _ _ _) md_M_made sd_M_made (Or.inl ml_9_193) (by decide +kernel) (by decide) rfl (Nat.le_of_ble_eq_true rfl) (Nat.le_of_ble_eq_true rfl) (by decide) rfl (fun z => by cases z) (by decide) rfl ?_
          refine gv_istore (n := 4) (pc' := 92) (by decide +kernel) (by decide) rfl ?_
          refine gv_goto (off := 169) (tgt := 261) (by decide +kernel) (by decide) ?_
          exact gd_ar (gl_s (gl_s (gl_n (gl_n (gl_s (gl_n gl_z)))))) (fun z => by cases z) (hJ3 _ _ h)
        · refine gv_icmp_ne (off := 16) (tgt := 86) (pc' := 73) (by decide +kernel) (by decide) rfl (fun c70 => ?_) (fun c70 => ?_)
          · replace h := gd_tF c70 h
            refine gv_iconst (n := 0) (v := 0) (pc' := 87) (by decide +kernel) (by decide) rfl ?_
            exact gd_ar (gl_s (gl_s (gl_n (gl_n (gl_n (gl_n gl_z)))))) (fun z => by cases z) (hJ18 _ h)
          · replace h := gd_tT c70 h
            refine gv_iload_n (n := 2) (pc' := 74) (by decide +kernel) rfl rfl ?_
            refine gv_csi (w' := false) (pc' := 77) (y_M_g _ _) md_M_g sd_M_g (Or.inl ml_9_118) (by decide +kernel) (by decide) rfl (Nat.le_of_ble_eq_true rfl) (Nat.le_of_ble_eq_true rfl) (by decide) rfl (fun z => by cases z) (by decide) rfl ?_
            refine gv_bipush (n := 32) (v := 32) (pc' := 79) (by decide +kernel) (by decide) rfl ?_
            refine gv_icmp_ne (off := 7) (tgt := 86) (pc' := 82) (by decide +kernel) (by decide) rfl (fun c79 => ?_) (fun c79 => ?_)
            · replace h := gd_tF c79 h
              refine gv_iconst (n := 0) (v := 0) (pc' := 87) (by decide +kernel) (by decide) rfl ?_
              exact gd_ar (gl_s (gl_s (gl_n (gl_n (gl_n (gl_n gl_z)))))) (fun z => by cases z) (hJ18 _ h)
            · replace h := gd_tT c79 h
              refine gv_iconst (n := 1) (v := 1) (pc' := 83) (by decide +kernel) (by decide) rfl ?_
              refine gv_goto (off := 4) (tgt := 87) (by decide +kernel) (by decide) ?_
              exact gd_ar (gl_s (gl_s (gl_n (gl_n (gl_n (gl_n gl_z)))))) (fun z => by cases z) (hJ18 _ h)
    · replace h := gd_T c29 h
      refine gv_aload_n (n := 0) (pc' := 33) (by decide +kernel) rfl rfl ?_
      refine gv_iload_n (n := 2) (pc' := 34) (by decide +kernel) rfl rfl ?_
      refine gd_cvi (w' := false) (pc' := 37) (X_M_reg _ _) h md_M_reg vd_M_reg (Or.inl ml_9_208) (by decide +kernel) (by decide) rfl rfl rfl (Nat.le_of_ble_eq_true rfl) (Nat.le_of_ble_eq_true rfl) (by decide) rfl (fun z => by cases z) (by decide) rfl (fun r20 s21 h => ?_)
      refine gv_istore (n := 4) (pc' := 39) (by decide +kernel) (by decide) rfl ?_
      refine gv_goto (off := 222) (tgt := 261) (by decide +kernel) (by decide) ?_
      exact gd_ar (gl_s (gl_s (gl_n (gl_n (gl_s (gl_n gl_z)))))) (fun z => by cases z) (hJ3 _ _ h)
def B_M_run_40 (x_1_4 : Int32) (ag7 : Int32 → gS → gR) (n_2_5 : Int32) (s6 : gS) : gR :=
 if (gI s6 41 0) = 0 then
  if x_1_4 ≤ n_2_5 then
   some (.inl (some (.int n_2_5)), s6)
  else
   if (gI s6 41 2) ≤ (gI s6 41 7) then
    some (.inl (some (.int n_2_5)), s6)
   else
    gd_qi (R_M_kind (gI s6 41 7) s6) s6 fun r8 =>
    if r8 = 8 then
     some (.inl (some (.int n_2_5)), s6)
    else
     if 2046 < (gI s6 41 11) then
      some (.inl (some (.int n_2_5)), s6)
     else
      gd_0 (F_M_runOne s6) fun s9 =>
      ag7 (n_2_5 + 1) s9
 else
  some (.inl (some (.int n_2_5)), s6)
set_option maxRecDepth 20000 in
theorem L_M_run_40 (x_1_4 : Int32) (r0 : gQ × gS) (n : Nat) : ∀ (n_2_5 : Int32) (s6 : gS), gd_lp (fun _ _ => none) (B_M_run_40 x_1_4) n n_2_5 s6 = some r0 → gv_V m_M_run 1 false 40 [some (.ref 41), some (.int x_1_4), some (.int n_2_5)] [] s6 (gv_is r0.1 r0.2) := by
  refine gd_lpC (fun (ag7 : Int32 → gS → gR) => ∀ (n_2_5 : Int32) (s6 : gS), ag7 n_2_5 s6 = some r0 → gv_V m_M_run 1 false 40 [some (.ref 41), some (.int x_1_4), some (.int n_2_5)] [] s6 (gv_is r0.1 r0.2)) (fun n_2_5 s6 h => by cases h) (fun ag7 ih n_2_5 s6 h => ?_) n
  unfold B_M_run_40 at h
  refine gv_aload_n (n := 0) (pc' := 41) (by decide +kernel) rfl rfl ?_
  refine gv_getj lk_9_92 (by decide +kernel) rfl rfl (pc' := 44) rfl ?_
  refine gv_if_ne (off := 52) (tgt := 96) (pc' := 47) (by decide +kernel) (by decide) rfl (fun c44 => ?_) (fun c44 => ?_)
  · replace h := gd_F c44 h
    refine gv_iload_n (n := 2) (pc' := 97) (by decide +kernel) rfl rfl ?_
    exact gv_iret .int (by decide +kernel) rfl rfl (by decide) (by decide) (gd_rE h)
  · replace h := gd_T c44 h
    refine gv_iload_n (n := 2) (pc' := 48) (by decide +kernel) rfl rfl ?_
    refine gv_iload_n (n := 1) (pc' := 49) (by decide +kernel) rfl rfl ?_
    refine gv_icmp_ge (off := 47) (tgt := 96) (pc' := 52) (by decide +kernel) (by decide) rfl (fun c49 => ?_) (fun c49 => ?_)
    · replace h := gd_T c49 h
      refine gv_iload_n (n := 2) (pc' := 97) (by decide +kernel) rfl rfl ?_
      exact gv_iret .int (by decide +kernel) rfl rfl (by decide) (by decide) (gd_rE h)
    · replace h := gd_F c49 h
      refine gv_aload_n (n := 0) (pc' := 53) (by decide +kernel) rfl rfl ?_
      refine gv_getj lk_9_145 (by decide +kernel) rfl rfl (pc' := 56) rfl ?_
      refine gv_aload_n (n := 0) (pc' := 57) (by decide +kernel) rfl rfl ?_
      refine gv_getj lk_9_102 (by decide +kernel) rfl rfl (pc' := 60) rfl ?_
      refine gv_icmp_ge (off := 36) (tgt := 96) (pc' := 63) (by decide +kernel) (by decide) rfl (fun c60 => ?_) (fun c60 => ?_)
      · replace h := gd_T c60 h
        refine gv_iload_n (n := 2) (pc' := 97) (by decide +kernel) rfl rfl ?_
        exact gv_iret .int (by decide +kernel) rfl rfl (by decide) (by decide) (gd_rE h)
      · replace h := gd_F c60 h
        refine gv_aload_n (n := 0) (pc' := 64) (by decide +kernel) rfl rfl ?_
        refine gv_aload_n (n := 0) (pc' := 65) (by decide +kernel) rfl rfl ?_
        refine gv_getj lk_9_145 (by decide +kernel) rfl rfl (pc' := 68) rfl ?_
        refine gd_dvi (w' := false) (pc' := 71) (X_M_kind _ _) h md_M_kind vd_M_kind (Or.inl ml_9_130) (by decide +kernel) (by decide) rfl rfl rfl (Nat.le_of_ble_eq_true rfl) (Nat.le_of_ble_eq_true rfl) (by decide) rfl (fun z => by cases z) (by decide) rfl (fun r8 h => ?_)
        refine gv_bipush (n := 8) (v := 8) (pc' := 73) (by decide +kernel) (by decide) rfl ?_
        refine gv_icmp_eq (off := 23) (tgt := 96) (pc' := 76) (by decide +kernel) (by decide) rfl (fun c73 => ?_) (fun c73 => ?_)
        · replace h := gd_T c73 h
          refine gv_iload_n (n := 2) (pc' := 97) (by decide +kernel) rfl rfl ?_
          exact gv_iret .int (by decide +kernel) rfl rfl (by decide) (by decide) (gd_rE h)
        · replace h := gd_F c73 h
          refine gv_aload_n (n := 0) (pc' := 77) (by decide +kernel) rfl rfl ?_
          refine gv_getj lk_9_148 (by decide +kernel) rfl rfl (pc' := 80) rfl ?_
          refine gv_sipush (n := 2046) (v := 2046) (pc' := 83) (by decide +kernel) (by decide) rfl ?_
          refine gv_icmp_gt (off := 13) (tgt := 96) (pc' := 86) (by decide +kernel) (by decide) rfl (fun c83 => ?_) (fun c83 => ?_)
          · replace h := gd_T c83 h
            refine gv_iload_n (n := 2) (pc' := 97) (by decide +kernel) rfl rfl ?_
            exact gv_iret .int (by decide +kernel) rfl rfl (by decide) (by decide) (gd_rE h)
          · replace h := gd_F c83 h
            refine gv_aload_n (n := 0) (pc' := 87) (by decide +kernel) rfl rfl ?_
            refine gd_cv0 (w' := false) (pc' := 90) (X_M_runOne _) h md_M_runOne vd_M_runOne (Or.inl ml_9_217) (by decide +kernel) (by decide) rfl rfl rfl (Nat.le_of_ble_eq_true rfl) (Nat.le_of_ble_eq_true rfl) (by decide) rfl (fun z => by cases z) (by decide) rfl (fun s9 h => ?_)
            refine gv_iincc (i := 2) (n := 1) (c := 1) (pc' := 93) (by decide +kernel) rfl (by decide) (by decide) rfl ?_
            refine gv_goto (off := -53) (tgt := 40) (by decide +kernel) (by decide) ?_
            exact gd_ar (gl_s (gl_s (gl_s gl_z))) (fun z => by cases z) (ih _ _ h)
def F_M_run (a : Int32) (σ : gS) : gR :=
 gd_t (α := Int32) (if (gI σ 41 5) = 0 then
   1
  else
   if (gI σ 41 18) ≤ 0 then
    if a < 0 then
     2
    else
     if a ≤ 1000 then
      0
     else
      2
   else
    1) fun v2 =>
 gd_s (gs_I σ 41 0 v2) fun s3 =>
 gd_lp (fun _ _ => none) (B_M_run_40 a) gd_N 0 s3
set_option maxRecDepth 20000 in
theorem X_M_run (a : Int32) (σ : gS) (r0 : gQ × gS) (h : F_M_run a σ = some r0) : gv_K m_M_run [.ref 41, .int a] σ (gv_is r0.1 r0.2) := by
  unfold F_M_run at h
  show gv_V m_M_run 1 true 0 [some (.ref 41), some (.int a), none] [] σ (gv_is r0.1 r0.2)
  refine gv_aload_n (n := 0) (pc' := 1) (by decide +kernel) rfl rfl ?_
  refine gv_aload_n (n := 0) (pc' := 2) (by decide +kernel) rfl rfl ?_
  refine gv_getj lk_9_95 (by decide +kernel) rfl rfl (pc' := 5) rfl ?_
  refine gd_tC (fun (v2 : Int32) => gv_V m_M_run 1 true 35 [some (.ref 41), some (.int a), none] [.int v2, .ref 41] σ (gv_is r0.1 r0.2)) h (fun v2 h => ?_) (fun KJ1 hJ1 h => ?_)
  · refine gd_puti lp_9_92 (by decide +kernel) rfl rfl rfl rfl (pc' := 38) rfl h (fun s3 h => ?_)
    refine gv_iconst (n := 0) (v := 0) (pc' := 39) (by decide +kernel) (by decide) rfl ?_
    refine gv_istore_n (n := 2) (pc' := 40) (by decide +kernel) (by decide) rfl ?_
    exact gd_ar (gl_s (gl_s (gl_s gl_z))) (fun z => by cases z) (L_M_run_40 _ r0 _ _ _ h)
  · refine gv_if_eq (off := 10) (tgt := 15) (pc' := 8) (by decide +kernel) (by decide) rfl (fun c5 => ?_) (fun c5 => ?_)
    · replace h := gd_tT c5 h
      refine gv_iconst (n := 1) (v := 1) (pc' := 16) (by decide +kernel) (by decide) rfl ?_
      refine gv_goto (off := 19) (tgt := 35) (by decide +kernel) (by decide) ?_
      exact gd_ar (gl_s (gl_s (gl_n gl_z))) (fun _ => rfl) (hJ1 _ h)
    · replace h := gd_tF c5 h
      refine gv_aload_n (n := 0) (pc' := 9) (by decide +kernel) rfl rfl ?_
      refine gv_getj lk_9_151 (by decide +kernel) rfl rfl (pc' := 12) rfl ?_
      refine gv_if_le (off := 7) (tgt := 19) (pc' := 15) (by decide +kernel) (by decide) rfl (fun c12 => ?_) (fun c12 => ?_)
      · replace h := gd_tT c12 h
        refine gv_iload_n (n := 1) (pc' := 20) (by decide +kernel) rfl rfl ?_
        refine gv_if_lt (off := 10) (tgt := 30) (pc' := 23) (by decide +kernel) (by decide) rfl (fun c20 => ?_) (fun c20 => ?_)
        · replace h := gd_tT c20 h
          refine gv_iconst (n := 2) (v := 2) (pc' := 31) (by decide +kernel) (by decide) rfl ?_
          refine gv_goto (off := 4) (tgt := 35) (by decide +kernel) (by decide) ?_
          exact gd_ar (gl_s (gl_s (gl_n gl_z))) (fun _ => rfl) (hJ1 _ h)
        · replace h := gd_tF c20 h
          refine gv_iload_n (n := 1) (pc' := 24) (by decide +kernel) rfl rfl ?_
          refine gv_sipush (n := 1000) (v := 1000) (pc' := 27) (by decide +kernel) (by decide) rfl ?_
          refine gv_icmp_le (off := 7) (tgt := 34) (pc' := 30) (by decide +kernel) (by decide) rfl (fun c27 => ?_) (fun c27 => ?_)
          · replace h := gd_tT c27 h
            refine gv_iconst (n := 0) (v := 0) (pc' := 35) (by decide +kernel) (by decide) rfl ?_
            exact gd_ar (gl_s (gl_s (gl_n gl_z))) (fun _ => rfl) (hJ1 _ h)
          · replace h := gd_tF c27 h
            refine gv_iconst (n := 2) (v := 2) (pc' := 31) (by decide +kernel) (by decide) rfl ?_
            refine gv_goto (off := 4) (tgt := 35) (by decide +kernel) (by decide) ?_
            exact gd_ar (gl_s (gl_s (gl_n gl_z))) (fun _ => rfl) (hJ1 _ h)
      · replace h := gd_tF c12 h
        refine gv_iconst (n := 1) (v := 1) (pc' := 16) (by decide +kernel) (by decide) rfl ?_
        refine gv_goto (off := 19) (tgt := 35) (by decide +kernel) (by decide) ?_
        exact gd_ar (gl_s (gl_s (gl_n gl_z))) (fun _ => rfl) (hJ1 _ h)
def R_M_distance (σ : gS) : gP :=
 if (gI σ 41 18) = 0 then
  some (.inl (some (.int 0)))
 else
  gd_g (gd_in 0 16) <|
  some (.inl (some (.int ((gI σ 41 19) - (gA σ 51 (Int32.toNatClampNeg 0))))))
set_option maxRecDepth 20000 in
theorem X_M_distance (σ : gS) (r0 : gQ) (h : R_M_distance σ = some r0) : gv_K m_M_distance [.ref 41] σ (gv_is r0 σ) := by
  unfold R_M_distance at h
  show gv_V m_M_distance 1 true 0 [some (.ref 41)] [] σ (gv_is r0 σ)
  refine gv_aload_n (n := 0) (pc' := 1) (by decide +kernel) rfl rfl ?_
  refine gv_getj lk_9_151 (by decide +kernel) rfl rfl (pc' := 4) rfl ?_
  refine gv_if_ne (off := 7) (tgt := 11) (pc' := 7) (by decide +kernel) (by decide) rfl (fun c4 => ?_) (fun c4 => ?_)
  · replace h := gd_F c4 h
    refine gv_aload_n (n := 0) (pc' := 12) (by decide +kernel) rfl rfl ?_
    refine gv_getj lk_9_154 (by decide +kernel) rfl rfl (pc' := 15) rfl ?_
    refine gv_aload_n (n := 0) (pc' := 16) (by decide +kernel) rfl rfl ?_
    refine gv_getr lk_9_45 (by decide +kernel) rfl rfl (pc' := 19) rfl ?_
    refine gv_iconst (n := 0) (v := 0) (pc' := 20) (by decide +kernel) (by decide) rfl ?_
    obtain ⟨g20, h⟩ := gd_gE h
    refine gj_iald _ (pc' := 21) (by decide +kernel) rfl (gd_inv g20) rfl rfl ?_
    refine gv_isub (pc' := 22) (by decide +kernel) rfl ?_
    exact gv_iret .int (by decide +kernel) rfl rfl (by decide) (by decide) (gd_pE h)
  · replace h := gd_T c4 h
    refine gv_iconst (n := 0) (v := 0) (pc' := 8) (by decide +kernel) (by decide) rfl ?_
    refine gv_goto (off := 14) (tgt := 22) (by decide +kernel) (by decide) ?_
    exact gv_iret .int (by decide +kernel) rfl rfl (by decide) (by decide) (gd_pE h)
def R_M_goesTooFar (σ : gS) : gP :=
 if (gI σ 41 18) ≤ 0 then
  some (.inl (some (.int 0)))
 else
  gd_pi (R_M_distance σ) fun r1 =>
  if r1 < (gI σ 41 12) then
   some (.inl (some (.int 0)))
  else
   some (.inl (some (.int 1)))
set_option maxRecDepth 20000 in
theorem X_M_goesTooFar (σ : gS) (r0 : gQ) (h : R_M_goesTooFar σ = some r0) : gv_K m_M_goesTooFar [.ref 41] σ (gv_is r0 σ) := by
  unfold R_M_goesTooFar at h
  show gv_V m_M_goesTooFar 1 true 0 [some (.ref 41)] [] σ (gv_is r0 σ)
  refine gv_aload_n (n := 0) (pc' := 1) (by decide +kernel) rfl rfl ?_
  refine gv_getj lk_9_151 (by decide +kernel) rfl rfl (pc' := 4) rfl ?_
  refine gv_if_le (off := 18) (tgt := 22) (pc' := 7) (by decide +kernel) (by decide) rfl (fun c4 => ?_) (fun c4 => ?_)
  · replace h := gd_T c4 h
    refine gv_iconst (n := 0) (v := 0) (pc' := 23) (by decide +kernel) (by decide) rfl ?_
    exact gv_iret .boolean (by decide +kernel) rfl rfl (by decide) (by decide) (gd_pE h)
  · replace h := gd_F c4 h
    refine gv_aload_n (n := 0) (pc' := 8) (by decide +kernel) rfl rfl ?_
    refine gd_evi (w' := true) (pc' := 11) (X_M_distance _) h md_M_distance vd_M_distance (Or.inl ml_9_220) (by decide +kernel) (by decide) rfl rfl rfl (Nat.le_of_ble_eq_true rfl) (Nat.le_of_ble_eq_true rfl) (by decide) rfl (fun z => ⟨rfl, z⟩) (by decide) rfl (fun r1 h => ?_)
    refine gv_aload_n (n := 0) (pc' := 12) (by decide +kernel) rfl rfl ?_
    refine gv_getj lk_9_30 (by decide +kernel) rfl rfl (pc' := 15) rfl ?_
    refine gv_icmp_lt (off := 7) (tgt := 22) (pc' := 18) (by decide +kernel) (by decide) rfl (fun c15 => ?_) (fun c15 => ?_)
    · replace h := gd_T c15 h
      refine gv_iconst (n := 0) (v := 0) (pc' := 23) (by decide +kernel) (by decide) rfl ?_
      exact gv_iret .boolean (by decide +kernel) rfl rfl (by decide) (by decide) (gd_pE h)
    · replace h := gd_F c15 h
      refine gv_iconst (n := 1) (v := 1) (pc' := 19) (by decide +kernel) (by decide) rfl ?_
      refine gv_goto (off := 4) (tgt := 23) (by decide +kernel) (by decide) ?_
      exact gv_iret .boolean (by decide +kernel) rfl rfl (by decide) (by decide) (gd_pE h)
def B_M_guess_77 (k14 : gS → gR) (x_1_10 : Int32) (ag13 : Int32 → gS → gR) (n_2_11 : Int32) (s12 : gS) : gR :=
 if 256 ≤ n_2_11 then
  k14 s12
 else
  gd_g (gd_in n_2_11 256) <|
  gd_g (gd_in (((256 : Int32) * (gI s12 41 18)) + n_2_11) 4096) <|
  gd_s (gs_A s12 48 (((256 : Int32) * (gI s12 41 18)) + n_2_11).toNatClampNeg (gA s12 45 n_2_11.toNatClampNeg)) fun s15 =>
  ag13 (n_2_11 + 1) s15
set_option maxRecDepth 20000 in
theorem L_M_guess_77 (k14 : gS → gR) (x_1_10 : Int32) (r0 : gQ × gS) (hk14 : ∀ (s16 : gS), k14 s16 = some r0 → gv_V m_M_guess 1 false 111 [some (.ref 41), some (.int x_1_10), none] [] s16 (gv_is r0.1 r0.2)) (n : Nat) : ∀ (n_2_11 : Int32) (s12 : gS), gd_lp (fun _ _ => none) (B_M_guess_77 k14 x_1_10) n n_2_11 s12 = some r0 → gv_V m_M_guess 1 false 77 [some (.ref 41), some (.int x_1_10), some (.int n_2_11)] [] s12 (gv_is r0.1 r0.2) := by
  refine gd_lpC (fun (ag13 : Int32 → gS → gR) => ∀ (n_2_11 : Int32) (s12 : gS), ag13 n_2_11 s12 = some r0 → gv_V m_M_guess 1 false 77 [some (.ref 41), some (.int x_1_10), some (.int n_2_11)] [] s12 (gv_is r0.1 r0.2)) (fun n_2_11 s12 h => by cases h) (fun ag13 ih n_2_11 s12 h => ?_) n
  unfold B_M_guess_77 at h
  refine gv_iload_n (n := 2) (pc' := 78) (by decide +kernel) rfl rfl ?_
  refine gv_sipush (n := 256) (v := 256) (pc' := 81) (by decide +kernel) (by decide) rfl ?_
  refine gv_icmp_ge (off := 30) (tgt := 111) (pc' := 84) (by decide +kernel) (by decide) rfl (fun c81 => ?_) (fun c81 => ?_)
  · replace h := gd_T c81 h
    exact gd_ar (gl_s (gl_s (gl_n gl_z))) (fun z => by cases z) (hk14 _ h)
  · replace h := gd_F c81 h
    refine gv_aload_n (n := 0) (pc' := 85) (by decide +kernel) rfl rfl ?_
    refine gv_getr lk_9_36 (by decide +kernel) rfl rfl (pc' := 88) rfl ?_
    refine gv_sipush (n := 256) (v := 256) (pc' := 91) (by decide +kernel) (by decide) rfl ?_
    refine gv_aload_n (n := 0) (pc' := 92) (by decide +kernel) rfl rfl ?_
    refine gv_getj lk_9_151 (by decide +kernel) rfl rfl (pc' := 95) rfl ?_
    refine gv_imul (pc' := 96) (by decide +kernel) rfl ?_
    refine gv_iload_n (n := 2) (pc' := 97) (by decide +kernel) rfl rfl ?_
    refine gv_iadd (pc' := 98) (by decide +kernel) rfl ?_
    refine gv_aload_n (n := 0) (pc' := 99) (by decide +kernel) rfl rfl ?_
    refine gv_getr lk_9_23 (by decide +kernel) rfl rfl (pc' := 102) rfl ?_
    refine gv_iload_n (n := 2) (pc' := 103) (by decide +kernel) rfl rfl ?_
    obtain ⟨g103, h⟩ := gd_gE h
    refine gj_iald _ (pc' := 104) (by decide +kernel) rfl (gd_inv g103) rfl rfl ?_
    obtain ⟨g104, h⟩ := gd_gE h
    refine gd_iast (pc' := 105) (by decide +kernel) rfl (gd_inv g104) rfl h (fun s15 h => ?_)
    refine gv_iincc (i := 2) (n := 1) (c := 1) (pc' := 108) (by decide +kernel) rfl (by decide) (by decide) rfl ?_
    refine gv_goto (off := -31) (tgt := 77) (by decide +kernel) (by decide) ?_
    exact gd_ar (gl_s (gl_s (gl_s gl_z))) (fun z => by cases z) (ih _ _ h)
def B_M_guess_43 (k7 : gS → gR) (x_1_3 : Int32) (ag6 : Int32 → gS → gR) (n_2_4 : Int32) (s5 : gS) : gR :=
 if 32 ≤ n_2_4 then
  k7 s5
 else
  gd_g (gd_in n_2_4 32) <|
  gd_g (gd_in (((32 : Int32) * (gI s5 41 18)) + n_2_4) 512) <|
  gd_s (gs_A s5 47 (((32 : Int32) * (gI s5 41 18)) + n_2_4).toNatClampNeg (gA s5 44 n_2_4.toNatClampNeg)) fun s8 =>
  ag6 (n_2_4 + 1) s8
set_option maxRecDepth 20000 in
theorem L_M_guess_43 (k7 : gS → gR) (x_1_3 : Int32) (r0 : gQ × gS) (hk7 : ∀ (s9 : gS), k7 s9 = some r0 → gv_V m_M_guess 1 false 75 [some (.ref 41), some (.int x_1_3), none] [] s9 (gv_is r0.1 r0.2)) (n : Nat) : ∀ (n_2_4 : Int32) (s5 : gS), gd_lp (fun _ _ => none) (B_M_guess_43 k7 x_1_3) n n_2_4 s5 = some r0 → gv_V m_M_guess 1 false 43 [some (.ref 41), some (.int x_1_3), some (.int n_2_4)] [] s5 (gv_is r0.1 r0.2) := by
  refine gd_lpC (fun (ag6 : Int32 → gS → gR) => ∀ (n_2_4 : Int32) (s5 : gS), ag6 n_2_4 s5 = some r0 → gv_V m_M_guess 1 false 43 [some (.ref 41), some (.int x_1_3), some (.int n_2_4)] [] s5 (gv_is r0.1 r0.2)) (fun n_2_4 s5 h => by cases h) (fun ag6 ih n_2_4 s5 h => ?_) n
  unfold B_M_guess_43 at h
  refine gv_iload_n (n := 2) (pc' := 44) (by decide +kernel) rfl rfl ?_
  refine gv_bipush (n := 32) (v := 32) (pc' := 46) (by decide +kernel) (by decide) rfl ?_
  refine gv_icmp_ge (off := 29) (tgt := 75) (pc' := 49) (by decide +kernel) (by decide) rfl (fun c46 => ?_) (fun c46 => ?_)
  · replace h := gd_T c46 h
    exact gd_ar (gl_s (gl_s (gl_n gl_z))) (fun z => by cases z) (hk7 _ h)
  · replace h := gd_F c46 h
    refine gv_aload_n (n := 0) (pc' := 50) (by decide +kernel) rfl rfl ?_
    refine gv_getr lk_9_33 (by decide +kernel) rfl rfl (pc' := 53) rfl ?_
    refine gv_bipush (n := 32) (v := 32) (pc' := 55) (by decide +kernel) (by decide) rfl ?_
    refine gv_aload_n (n := 0) (pc' := 56) (by decide +kernel) rfl rfl ?_
    refine gv_getj lk_9_151 (by decide +kernel) rfl rfl (pc' := 59) rfl ?_
    refine gv_imul (pc' := 60) (by decide +kernel) rfl ?_
    refine gv_iload_n (n := 2) (pc' := 61) (by decide +kernel) rfl rfl ?_
    refine gv_iadd (pc' := 62) (by decide +kernel) rfl ?_
    refine gv_aload_n (n := 0) (pc' := 63) (by decide +kernel) rfl rfl ?_
    refine gv_getr lk_9_20 (by decide +kernel) rfl rfl (pc' := 66) rfl ?_
    refine gv_iload_n (n := 2) (pc' := 67) (by decide +kernel) rfl rfl ?_
    obtain ⟨g67, h⟩ := gd_gE h
    refine gj_iald _ (pc' := 68) (by decide +kernel) rfl (gd_inv g67) rfl rfl ?_
    obtain ⟨g68, h⟩ := gd_gE h
    refine gd_iast (pc' := 69) (by decide +kernel) rfl (gd_inv g68) rfl h (fun s8 h => ?_)
    refine gv_iincc (i := 2) (n := 1) (c := 1) (pc' := 72) (by decide +kernel) rfl (by decide) (by decide) rfl ?_
    refine gv_goto (off := -29) (tgt := 43) (by decide +kernel) (by decide) ?_
    exact gd_ar (gl_s (gl_s (gl_s gl_z))) (fun z => by cases z) (ih _ _ h)
def F_M_guess (a : Int32) (σ : gS) : gR :=
 if (gI σ 41 7) = (gI σ 41 2) then
  some (.inl (some (.int (-1))), σ)
 else
  gd_qi (R_M_kind (gI σ 41 7) σ) σ fun r1 =>
  if r1 = 5 then
   if (gI σ 41 18) = 16 then
    some (.inl (some (.int (-1))), σ)
   else
    gd_qi (R_M_goesTooFar σ) σ fun r2 =>
    if r2 = 0 then
     gd_j (α := gS → gR) (fun (s9 : gS) =>
      gd_j (α := gS → gR) (fun (s16 : gS) =>
       gd_s (gs_I s16 41 19 ((gI s16 41 19) + (1 : Int32))) fun s17 =>
       gd_g (gd_in (gI s17 41 18) 16) <|
       gd_s (gs_A s17 49 (gI s17 41 18).toNatClampNeg (gI s17 41 7)) fun s18 =>
       gd_g (gd_in (gI s18 41 18) 16) <|
       gd_s (gs_A s18 51 (gI s18 41 18).toNatClampNeg (gI s18 41 19)) fun s19 =>
       gd_j (α := Int32 → gR) (fun (v22 : Int32) =>
        gd_s (gs_I s19 41 7 v22) fun s23 =>
        gd_g (gd_in (gI s23 41 18) 16) <|
        gd_s (gs_A s23 50 (gI s23 41 18).toNatClampNeg (gI s23 41 7)) fun s24 =>
        gd_s (gs_I s24 41 18 ((gI s24 41 18) + (1 : Int32))) fun s25 =>
        some (.inl (some (.int 0)), s25)) fun J20 =>
       if a = 0 then
        gd_qi (R_M_target (gI s19 41 7) s19) s19 fun r21 =>
        J20 r21
       else
        J20 ((gI s19 41 7) + (1 : Int32))) fun k14 =>
      gd_lp (fun _ _ => none) (B_M_guess_77 k14 a) gd_N 0 s9) fun k7 =>
     gd_lp (fun _ _ => none) (B_M_guess_43 k7 a) gd_N 0 σ
    else
     some (.inl (some (.int (-1))), σ)
  else
   some (.inl (some (.int (-1))), σ)
set_option maxRecDepth 20000 in
theorem X_M_guess (a : Int32) (σ : gS) (r0 : gQ × gS) (h : F_M_guess a σ = some r0) : gv_K m_M_guess [.ref 41, .int a] σ (gv_is r0.1 r0.2) := by
  unfold F_M_guess at h
  show gv_V m_M_guess 1 true 0 [some (.ref 41), some (.int a), none] [] σ (gv_is r0.1 r0.2)
  refine gv_aload_n (n := 0) (pc' := 1) (by decide +kernel) rfl rfl ?_
  refine gv_getj lk_9_145 (by decide +kernel) rfl rfl (pc' := 4) rfl ?_
  refine gv_aload_n (n := 0) (pc' := 5) (by decide +kernel) rfl rfl ?_
  refine gv_getj lk_9_102 (by decide +kernel) rfl rfl (pc' := 8) rfl ?_
  refine gv_icmp_eq (off := 31) (tgt := 39) (pc' := 11) (by decide +kernel) (by decide) rfl (fun c8 => ?_) (fun c8 => ?_)
  · replace h := gd_T c8 h
    refine gv_iconst (n := (-1)) (v := (-1)) (pc' := 40) (by decide +kernel) (by decide) rfl ?_
    exact gv_iret .int (by decide +kernel) rfl rfl (by decide) (by decide) (gd_rE h)
  · replace h := gd_F c8 h
    refine gv_aload_n (n := 0) (pc' := 12) (by decide +kernel) rfl rfl ?_
    refine gv_aload_n (n := 0) (pc' := 13) (by decide +kernel) rfl rfl ?_
    refine gv_getj lk_9_145 (by decide +kernel) rfl rfl (pc' := 16) rfl ?_
    refine gd_dvi (w' := true) (pc' := 19) (X_M_kind _ _) h md_M_kind vd_M_kind (Or.inl ml_9_130) (by decide +kernel) (by decide) rfl rfl rfl (Nat.le_of_ble_eq_true rfl) (Nat.le_of_ble_eq_true rfl) (by decide) rfl (fun z => ⟨rfl, z⟩) (by decide) rfl (fun r1 h => ?_)
    refine gv_iconst (n := 5) (v := 5) (pc' := 20) (by decide +kernel) (by decide) rfl ?_
    refine gv_icmp_ne (off := 19) (tgt := 39) (pc' := 23) (by decide +kernel) (by decide) rfl (fun c20 => ?_) (fun c20 => ?_)
    · replace h := gd_F c20 h
      refine gv_iconst (n := (-1)) (v := (-1)) (pc' := 40) (by decide +kernel) (by decide) rfl ?_
      exact gv_iret .int (by decide +kernel) rfl rfl (by decide) (by decide) (gd_rE h)
    · replace h := gd_T c20 h
      refine gv_aload_n (n := 0) (pc' := 24) (by decide +kernel) rfl rfl ?_
      refine gv_getj lk_9_151 (by decide +kernel) rfl rfl (pc' := 27) rfl ?_
      refine gv_bipush (n := 16) (v := 16) (pc' := 29) (by decide +kernel) (by decide) rfl ?_
      refine gv_icmp_eq (off := 10) (tgt := 39) (pc' := 32) (by decide +kernel) (by decide) rfl (fun c29 => ?_) (fun c29 => ?_)
      · replace h := gd_T c29 h
        refine gv_iconst (n := (-1)) (v := (-1)) (pc' := 40) (by decide +kernel) (by decide) rfl ?_
        exact gv_iret .int (by decide +kernel) rfl rfl (by decide) (by decide) (gd_rE h)
      · replace h := gd_F c29 h
        refine gv_aload_n (n := 0) (pc' := 33) (by decide +kernel) rfl rfl ?_
        refine gd_dvi (w' := true) (pc' := 36) (X_M_goesTooFar _) h md_M_goesTooFar vd_M_goesTooFar (Or.inl ml_9_224) (by decide +kernel) (by decide) rfl rfl rfl (Nat.le_of_ble_eq_true rfl) (Nat.le_of_ble_eq_true rfl) (by decide) rfl (fun z => ⟨rfl, z⟩) (by decide) rfl (fun r2 h => ?_)
        refine gv_if_eq (off := 5) (tgt := 41) (pc' := 39) (by decide +kernel) (by decide) rfl (fun c36 => ?_) (fun c36 => ?_)
        · replace h := gd_T c36 h
          refine gv_iconst (n := 0) (v := 0) (pc' := 42) (by decide +kernel) (by decide) rfl ?_
          refine gv_istore_n (n := 2) (pc' := 43) (by decide +kernel) (by decide) rfl ?_
          refine gd_jC (fun k7 => ∀ (s9 : gS), k7 s9 = some r0 → gv_V m_M_guess 1 false 75 [some (.ref 41), some (.int a), none] [] s9 (gv_is r0.1 r0.2)) h (fun s9 h => ?_) (fun k7 hk7 h => ?_)
          · refine gv_iconst (n := 0) (v := 0) (pc' := 76) (by decide +kernel) (by decide) rfl ?_
            refine gv_istore_n (n := 2) (pc' := 77) (by decide +kernel) (by decide) rfl ?_
            refine gd_jC (fun k14 => ∀ (s16 : gS), k14 s16 = some r0 → gv_V m_M_guess 1 false 111 [some (.ref 41), some (.int a), none] [] s16 (gv_is r0.1 r0.2)) h (fun s16 h => ?_) (fun k14 hk14 h => ?_)
            · refine gv_aload_n (n := 0) (pc' := 112) (by decide +kernel) rfl rfl ?_
              refine gv_dup (pc' := 113) (by decide +kernel) rfl rfl ?_
              refine gv_getj lk_9_154 (by decide +kernel) rfl rfl (pc' := 116) rfl ?_
              refine gv_iconst (n := 1) (v := 1) (pc' := 117) (by decide +kernel) (by decide) rfl ?_
              refine gv_iadd (pc' := 118) (by decide +kernel) rfl ?_
              refine gd_puti lp_9_154 (by decide +kernel) rfl rfl rfl rfl (pc' := 121) rfl h (fun s17 h => ?_)
              refine gv_aload_n (n := 0) (pc' := 122) (by decide +kernel) rfl rfl ?_
              refine gv_getr lk_9_39 (by decide +kernel) rfl rfl (pc' := 125) rfl ?_
              refine gv_aload_n (n := 0) (pc' := 126) (by decide +kernel) rfl rfl ?_
              refine gv_getj lk_9_151 (by decide +kernel) rfl rfl (pc' := 129) rfl ?_
              refine gv_aload_n (n := 0) (pc' := 130) (by decide +kernel) rfl rfl ?_
              refine gv_getj lk_9_145 (by decide +kernel) rfl rfl (pc' := 133) rfl ?_
              obtain ⟨g133, h⟩ := gd_gE h
              refine gd_iast (pc' := 134) (by decide +kernel) rfl (gd_inv g133) rfl h (fun s18 h => ?_)
              refine gv_aload_n (n := 0) (pc' := 135) (by decide +kernel) rfl rfl ?_
              refine gv_getr lk_9_45 (by decide +kernel) rfl rfl (pc' := 138) rfl ?_
              refine gv_aload_n (n := 0) (pc' := 139) (by decide +kernel) rfl rfl ?_
              refine gv_getj lk_9_151 (by decide +kernel) rfl rfl (pc' := 142) rfl ?_
              refine gv_aload_n (n := 0) (pc' := 143) (by decide +kernel) rfl rfl ?_
              refine gv_getj lk_9_154 (by decide +kernel) rfl rfl (pc' := 146) rfl ?_
              obtain ⟨g146, h⟩ := gd_gE h
              refine gd_iast (pc' := 147) (by decide +kernel) rfl (gd_inv g146) rfl h (fun s19 h => ?_)
              refine gv_aload_n (n := 0) (pc' := 148) (by decide +kernel) rfl rfl ?_
              refine gv_iload_n (n := 1) (pc' := 149) (by decide +kernel) rfl rfl ?_
              refine gd_jC (fun J20 => ∀ (v22 : Int32), J20 v22 = some r0 → gv_V m_M_guess 1 false 169 [some (.ref 41), none, none] [.int v22, .ref 41] s19 (gv_is r0.1 r0.2)) h (fun v22 h => ?_) (fun J20 hJ20 h => ?_)
              · refine gd_puti lp_9_145 (by decide +kernel) rfl rfl rfl rfl (pc' := 172) rfl h (fun s23 h => ?_)
                refine gv_aload_n (n := 0) (pc' := 173) (by decide +kernel) rfl rfl ?_
                refine gv_getr lk_9_42 (by decide +kernel) rfl rfl (pc' := 176) rfl ?_
                refine gv_aload_n (n := 0) (pc' := 177) (by decide +kernel) rfl rfl ?_
                refine gv_getj lk_9_151 (by decide +kernel) rfl rfl (pc' := 180) rfl ?_
                refine gv_aload_n (n := 0) (pc' := 181) (by decide +kernel) rfl rfl ?_
                refine gv_getj lk_9_145 (by decide +kernel) rfl rfl (pc' := 184) rfl ?_
                obtain ⟨g184, h⟩ := gd_gE h
                refine gd_iast (pc' := 185) (by decide +kernel) rfl (gd_inv g184) rfl h (fun s24 h => ?_)
                refine gv_aload_n (n := 0) (pc' := 186) (by decide +kernel) rfl rfl ?_
                refine gv_dup (pc' := 187) (by decide +kernel) rfl rfl ?_
                refine gv_getj lk_9_151 (by decide +kernel) rfl rfl (pc' := 190) rfl ?_
                refine gv_iconst (n := 1) (v := 1) (pc' := 191) (by decide +kernel) (by decide) rfl ?_
                refine gv_iadd (pc' := 192) (by decide +kernel) rfl ?_
                refine gd_puti lp_9_151 (by decide +kernel) rfl rfl rfl rfl (pc' := 195) rfl h (fun s25 h => ?_)
                refine gv_iconst (n := 0) (v := 0) (pc' := 196) (by decide +kernel) (by decide) rfl ?_
                exact gv_iret .int (by decide +kernel) rfl rfl (by decide) (by decide) (gd_rE h)
              · refine gv_if_eq (off := 12) (tgt := 161) (pc' := 152) (by decide +kernel) (by decide) rfl (fun c149 => ?_) (fun c149 => ?_)
                · replace h := gd_T c149 h
                  refine gv_aload_n (n := 0) (pc' := 162) (by decide +kernel) rfl rfl ?_
                  refine gv_aload_n (n := 0) (pc' := 163) (by decide +kernel) rfl rfl ?_
                  refine gv_getj lk_9_145 (by decide +kernel) rfl rfl (pc' := 166) rfl ?_
                  refine gd_dvi (w' := false) (pc' := 169) (X_M_target _ _) h md_M_target vd_M_target (Or.inl ml_9_133) (by decide +kernel) (by decide) rfl rfl rfl (Nat.le_of_ble_eq_true rfl) (Nat.le_of_ble_eq_true rfl) (by decide) rfl (fun z => by cases z) (by decide) rfl (fun r21 h => ?_)
                  exact gd_ar (gl_s (gl_n (gl_n gl_z))) (fun z => by cases z) (hJ20 _ h)
                · replace h := gd_F c149 h
                  refine gv_aload_n (n := 0) (pc' := 153) (by decide +kernel) rfl rfl ?_
                  refine gv_getj lk_9_145 (by decide +kernel) rfl rfl (pc' := 156) rfl ?_
                  refine gv_iconst (n := 1) (v := 1) (pc' := 157) (by decide +kernel) (by decide) rfl ?_
                  refine gv_iadd (pc' := 158) (by decide +kernel) rfl ?_
                  refine gv_goto (off := 11) (tgt := 169) (by decide +kernel) (by decide) ?_
                  exact gd_ar (gl_s (gl_n (gl_n gl_z))) (fun z => by cases z) (hJ20 _ h)
            exact gd_ar (gl_s (gl_s (gl_s gl_z))) (fun z => by cases z) (L_M_guess_77 _ _ r0 hk14 _ _ _ h)
          exact gd_ar (gl_s (gl_s (gl_s gl_z))) (fun z => by cases z) (L_M_guess_43 _ _ r0 hk7 _ _ _ h)
        · replace h := gd_F c36 h
          refine gv_iconst (n := (-1)) (v := (-1)) (pc' := 40) (by decide +kernel) (by decide) rfl ?_
          exact gv_iret .int (by decide +kernel) rfl rfl (by decide) (by decide) (gd_rE h)
def B_M_resolve_245 (ag20 : Int32 → gS → gR) (n_3_18 : Int32) (s19 : gS) : gR :=
 if ((256 : Int32) * (gI s19 41 18)) ≤ n_3_18 then
  some (.inl (some (.int 1)), s19)
 else
  gd_g (gd_in (n_3_18 + (256 : Int32)) 4096) <|
  gd_g (gd_in n_3_18 4096) <|
  gd_s (gs_A s19 48 n_3_18.toNatClampNeg (gA s19 48 (n_3_18 + (256 : Int32)).toNatClampNeg)) fun s21 =>
  ag20 (n_3_18 + 1) s21
set_option maxRecDepth 20000 in
theorem L_M_resolve_245 (r0 : gQ × gS) (n : Nat) : ∀ (n_3_18 : Int32) (s19 : gS), gd_lp (fun _ _ => none) (B_M_resolve_245) n n_3_18 s19 = some r0 → gv_V m_M_resolve 1 false 245 [some (.ref 41), none, none, some (.int n_3_18)] [] s19 (gv_is r0.1 r0.2) := by
  refine gd_lpC (fun (ag20 : Int32 → gS → gR) => ∀ (n_3_18 : Int32) (s19 : gS), ag20 n_3_18 s19 = some r0 → gv_V m_M_resolve 1 false 245 [some (.ref 41), none, none, some (.int n_3_18)] [] s19 (gv_is r0.1 r0.2)) (fun n_3_18 s19 h => by cases h) (fun ag20 ih n_3_18 s19 h => ?_) n
  unfold B_M_resolve_245 at h
  refine gv_iload_n (n := 3) (pc' := 246) (by decide +kernel) rfl rfl ?_
  refine gv_sipush (n := 256) (v := 256) (pc' := 249) (by decide +kernel) (by decide) rfl ?_
  refine gv_aload_n (n := 0) (pc' := 250) (by decide +kernel) rfl rfl ?_
  refine gv_getj lk_9_151 (by decide +kernel) rfl rfl (pc' := 253) rfl ?_
  refine gv_imul (pc' := 254) (by decide +kernel) rfl ?_
  refine gv_icmp_ge (off := 25) (tgt := 279) (pc' := 257) (by decide +kernel) (by decide) rfl (fun c254 => ?_) (fun c254 => ?_)
  · replace h := gd_T c254 h
    refine gv_iconst (n := 1) (v := 1) (pc' := 280) (by decide +kernel) (by decide) rfl ?_
    exact gv_iret .int (by decide +kernel) rfl rfl (by decide) (by decide) (gd_rE h)
  · replace h := gd_F c254 h
    refine gv_aload_n (n := 0) (pc' := 258) (by decide +kernel) rfl rfl ?_
    refine gv_getr lk_9_36 (by decide +kernel) rfl rfl (pc' := 261) rfl ?_
    refine gv_iload_n (n := 3) (pc' := 262) (by decide +kernel) rfl rfl ?_
    refine gv_aload_n (n := 0) (pc' := 263) (by decide +kernel) rfl rfl ?_
    refine gv_getr lk_9_36 (by decide +kernel) rfl rfl (pc' := 266) rfl ?_
    refine gv_iload_n (n := 3) (pc' := 267) (by decide +kernel) rfl rfl ?_
    refine gv_sipush (n := 256) (v := 256) (pc' := 270) (by decide +kernel) (by decide) rfl ?_
    refine gv_iadd (pc' := 271) (by decide +kernel) rfl ?_
    obtain ⟨g271, h⟩ := gd_gE h
    refine gj_iald _ (pc' := 272) (by decide +kernel) rfl (gd_inv g271) rfl rfl ?_
    obtain ⟨g272, h⟩ := gd_gE h
    refine gd_iast (pc' := 273) (by decide +kernel) rfl (gd_inv g272) rfl h (fun s21 h => ?_)
    refine gv_iincc (i := 3) (n := 1) (c := 1) (pc' := 276) (by decide +kernel) rfl (by decide) (by decide) rfl ?_
    refine gv_goto (off := -31) (tgt := 245) (by decide +kernel) (by decide) ?_
    exact gd_ar (gl_s (gl_n (gl_n (gl_s gl_z)))) (fun z => by cases z) (ih _ _ h)
def B_M_resolve_211 (k15 : gS → gR) (ag14 : Int32 → gS → gR) (n_3_12 : Int32) (s13 : gS) : gR :=
 if ((32 : Int32) * (gI s13 41 18)) ≤ n_3_12 then
  k15 s13
 else
  gd_g (gd_in (n_3_12 + (32 : Int32)) 512) <|
  gd_g (gd_in n_3_12 512) <|
  gd_s (gs_A s13 47 n_3_12.toNatClampNeg (gA s13 47 (n_3_12 + (32 : Int32)).toNatClampNeg)) fun s16 =>
  ag14 (n_3_12 + 1) s16
set_option maxRecDepth 20000 in
theorem L_M_resolve_211 (k15 : gS → gR) (r0 : gQ × gS) (hk15 : ∀ (s17 : gS), k15 s17 = some r0 → gv_V m_M_resolve 1 false 243 [some (.ref 41), none, none, none] [] s17 (gv_is r0.1 r0.2)) (n : Nat) : ∀ (n_3_12 : Int32) (s13 : gS), gd_lp (fun _ _ => none) (B_M_resolve_211 k15) n n_3_12 s13 = some r0 → gv_V m_M_resolve 1 false 211 [some (.ref 41), none, none, some (.int n_3_12)] [] s13 (gv_is r0.1 r0.2) := by
  refine gd_lpC (fun (ag14 : Int32 → gS → gR) => ∀ (n_3_12 : Int32) (s13 : gS), ag14 n_3_12 s13 = some r0 → gv_V m_M_resolve 1 false 211 [some (.ref 41), none, none, some (.int n_3_12)] [] s13 (gv_is r0.1 r0.2)) (fun n_3_12 s13 h => by cases h) (fun ag14 ih n_3_12 s13 h => ?_) n
  unfold B_M_resolve_211 at h
  refine gv_iload_n (n := 3) (pc' := 212) (by decide +kernel) rfl rfl ?_
  refine gv_bipush (n := 32) (v := 32) (pc' := 214) (by decide +kernel) (by decide) rfl ?_
  refine gv_aload_n (n := 0) (pc' := 215) (by decide +kernel) rfl rfl ?_
  refine gv_getj lk_9_151 (by decide +kernel) rfl rfl (pc' := 218) rfl ?_
  refine gv_imul (pc' := 219) (by decide +kernel) rfl ?_
  refine gv_icmp_ge (off := 24) (tgt := 243) (pc' := 222) (by decide +kernel) (by decide) rfl (fun c219 => ?_) (fun c219 => ?_)
  · replace h := gd_T c219 h
    exact gd_ar (gl_s (gl_n (gl_n (gl_n gl_z)))) (fun z => by cases z) (hk15 _ h)
  · replace h := gd_F c219 h
    refine gv_aload_n (n := 0) (pc' := 223) (by decide +kernel) rfl rfl ?_
    refine gv_getr lk_9_33 (by decide +kernel) rfl rfl (pc' := 226) rfl ?_
    refine gv_iload_n (n := 3) (pc' := 227) (by decide +kernel) rfl rfl ?_
    refine gv_aload_n (n := 0) (pc' := 228) (by decide +kernel) rfl rfl ?_
    refine gv_getr lk_9_33 (by decide +kernel) rfl rfl (pc' := 231) rfl ?_
    refine gv_iload_n (n := 3) (pc' := 232) (by decide +kernel) rfl rfl ?_
    refine gv_bipush (n := 32) (v := 32) (pc' := 234) (by decide +kernel) (by decide) rfl ?_
    refine gv_iadd (pc' := 235) (by decide +kernel) rfl ?_
    obtain ⟨g235, h⟩ := gd_gE h
    refine gj_iald _ (pc' := 236) (by decide +kernel) rfl (gd_inv g235) rfl rfl ?_
    obtain ⟨g236, h⟩ := gd_gE h
    refine gd_iast (pc' := 237) (by decide +kernel) rfl (gd_inv g236) rfl h (fun s16 h => ?_)
    refine gv_iincc (i := 3) (n := 1) (c := 1) (pc' := 240) (by decide +kernel) rfl (by decide) (by decide) rfl ?_
    refine gv_goto (off := -29) (tgt := 211) (by decide +kernel) (by decide) ?_
    exact gd_ar (gl_s (gl_n (gl_n (gl_s gl_z)))) (fun z => by cases z) (ih _ _ h)
def B_M_resolve_153 (k7 : gS → gR) (ag6 : Int32 → gS → gR) (n_3_4 : Int32) (s5 : gS) : gR :=
 if (gI s5 41 18) ≤ n_3_4 then
  k7 s5
 else
  gd_g (gd_in (n_3_4 + (1 : Int32)) 16) <|
  gd_g (gd_in n_3_4 16) <|
  gd_s (gs_A s5 49 n_3_4.toNatClampNeg (gA s5 49 (n_3_4 + (1 : Int32)).toNatClampNeg)) fun s8 =>
  gd_g (gd_in (n_3_4 + (1 : Int32)) 16) <|
  gd_g (gd_in n_3_4 16) <|
  gd_s (gs_A s8 50 n_3_4.toNatClampNeg (gA s8 50 (n_3_4 + (1 : Int32)).toNatClampNeg)) fun s9 =>
  gd_g (gd_in (n_3_4 + (1 : Int32)) 16) <|
  gd_g (gd_in n_3_4 16) <|
  gd_s (gs_A s9 51 n_3_4.toNatClampNeg (gA s9 51 (n_3_4 + (1 : Int32)).toNatClampNeg)) fun s10 =>
  ag6 (n_3_4 + 1) s10
set_option maxRecDepth 20000 in
theorem L_M_resolve_153 (k7 : gS → gR) (r0 : gQ × gS) (hk7 : ∀ (s11 : gS), k7 s11 = some r0 → gv_V m_M_resolve 1 false 209 [some (.ref 41), none, none, none] [] s11 (gv_is r0.1 r0.2)) (n : Nat) : ∀ (n_3_4 : Int32) (s5 : gS), gd_lp (fun _ _ => none) (B_M_resolve_153 k7) n n_3_4 s5 = some r0 → gv_V m_M_resolve 1 false 153 [some (.ref 41), none, none, some (.int n_3_4)] [] s5 (gv_is r0.1 r0.2) := by
  refine gd_lpC (fun (ag6 : Int32 → gS → gR) => ∀ (n_3_4 : Int32) (s5 : gS), ag6 n_3_4 s5 = some r0 → gv_V m_M_resolve 1 false 153 [some (.ref 41), none, none, some (.int n_3_4)] [] s5 (gv_is r0.1 r0.2)) (fun n_3_4 s5 h => by cases h) (fun ag6 ih n_3_4 s5 h => ?_) n
  unfold B_M_resolve_153 at h
  refine gv_iload_n (n := 3) (pc' := 154) (by decide +kernel) rfl rfl ?_
  refine gv_aload_n (n := 0) (pc' := 155) (by decide +kernel) rfl rfl ?_
  refine gv_getj lk_9_151 (by decide +kernel) rfl rfl (pc' := 158) rfl ?_
  refine gv_icmp_ge (off := 51) (tgt := 209) (pc' := 161) (by decide +kernel) (by decide) rfl (fun c158 => ?_) (fun c158 => ?_)
  · replace h := gd_T c158 h
    exact gd_ar (gl_s (gl_n (gl_n (gl_n gl_z)))) (fun z => by cases z) (hk7 _ h)
  · replace h := gd_F c158 h
    refine gv_aload_n (n := 0) (pc' := 162) (by decide +kernel) rfl rfl ?_
    refine gv_getr lk_9_39 (by decide +kernel) rfl rfl (pc' := 165) rfl ?_
    refine gv_iload_n (n := 3) (pc' := 166) (by decide +kernel) rfl rfl ?_
    refine gv_aload_n (n := 0) (pc' := 167) (by decide +kernel) rfl rfl ?_
    refine gv_getr lk_9_39 (by decide +kernel) rfl rfl (pc' := 170) rfl ?_
    refine gv_iload_n (n := 3) (pc' := 171) (by decide +kernel) rfl rfl ?_
    refine gv_iconst (n := 1) (v := 1) (pc' := 172) (by decide +kernel) (by decide) rfl ?_
    refine gv_iadd (pc' := 173) (by decide +kernel) rfl ?_
    obtain ⟨g173, h⟩ := gd_gE h
    refine gj_iald _ (pc' := 174) (by decide +kernel) rfl (gd_inv g173) rfl rfl ?_
    obtain ⟨g174, h⟩ := gd_gE h
    refine gd_iast (pc' := 175) (by decide +kernel) rfl (gd_inv g174) rfl h (fun s8 h => ?_)
    refine gv_aload_n (n := 0) (pc' := 176) (by decide +kernel) rfl rfl ?_
    refine gv_getr lk_9_42 (by decide +kernel) rfl rfl (pc' := 179) rfl ?_
    refine gv_iload_n (n := 3) (pc' := 180) (by decide +kernel) rfl rfl ?_
    refine gv_aload_n (n := 0) (pc' := 181) (by decide +kernel) rfl rfl ?_
    refine gv_getr lk_9_42 (by decide +kernel) rfl rfl (pc' := 184) rfl ?_
    refine gv_iload_n (n := 3) (pc' := 185) (by decide +kernel) rfl rfl ?_
    refine gv_iconst (n := 1) (v := 1) (pc' := 186) (by decide +kernel) (by decide) rfl ?_
    refine gv_iadd (pc' := 187) (by decide +kernel) rfl ?_
    obtain ⟨g187, h⟩ := gd_gE h
    refine gj_iald _ (pc' := 188) (by decide +kernel) rfl (gd_inv g187) rfl rfl ?_
    obtain ⟨g188, h⟩ := gd_gE h
    refine gd_iast (pc' := 189) (by decide +kernel) rfl (gd_inv g188) rfl h (fun s9 h => ?_)
    refine gv_aload_n (n := 0) (pc' := 190) (by decide +kernel) rfl rfl ?_
    refine gv_getr lk_9_45 (by decide +kernel) rfl rfl (pc' := 193) rfl ?_
    refine gv_iload_n (n := 3) (pc' := 194) (by decide +kernel) rfl rfl ?_
    refine gv_aload_n (n := 0) (pc' := 195) (by decide +kernel) rfl rfl ?_
    refine gv_getr lk_9_45 (by decide +kernel) rfl rfl (pc' := 198) rfl ?_
    refine gv_iload_n (n := 3) (pc' := 199) (by decide +kernel) rfl rfl ?_
    refine gv_iconst (n := 1) (v := 1) (pc' := 200) (by decide +kernel) (by decide) rfl ?_
    refine gv_iadd (pc' := 201) (by decide +kernel) rfl ?_
    obtain ⟨g201, h⟩ := gd_gE h
    refine gj_iald _ (pc' := 202) (by decide +kernel) rfl (gd_inv g201) rfl rfl ?_
    obtain ⟨g202, h⟩ := gd_gE h
    refine gd_iast (pc' := 203) (by decide +kernel) rfl (gd_inv g202) rfl h (fun s10 h => ?_)
    refine gv_iincc (i := 3) (n := 1) (c := 1) (pc' := 206) (by decide +kernel) rfl (by decide) (by decide) rfl ?_
    refine gv_goto (off := -53) (tgt := 153) (by decide +kernel) (by decide) ?_
    exact gd_ar (gl_s (gl_n (gl_n (gl_s gl_z)))) (fun z => by cases z) (ih _ _ h)
def B_M_resolve_104 (k33 : gS → gR) (x_2_29 : Int32) (ag32 : Int32 → gS → gR) (n_3_30 : Int32) (s31 : gS) : gR :=
 if 256 ≤ n_3_30 then
  k33 s31
 else
  gd_g (gd_in n_3_30 4096) <|
  gd_g (gd_in n_3_30 256) <|
  gd_s (gs_A s31 45 n_3_30.toNatClampNeg (gA s31 48 n_3_30.toNatClampNeg)) fun s34 =>
  ag32 (n_3_30 + 1) s34
set_option maxRecDepth 20000 in
theorem L_M_resolve_104 (k33 : gS → gR) (x_2_29 : Int32) (r0 : gQ × gS) (hk33 : ∀ (s35 : gS), k33 s35 = some r0 → gv_V m_M_resolve 1 false 129 [some (.ref 41), none, some (.int x_2_29), none] [] s35 (gv_is r0.1 r0.2)) (n : Nat) : ∀ (n_3_30 : Int32) (s31 : gS), gd_lp (fun _ _ => none) (B_M_resolve_104 k33 x_2_29) n n_3_30 s31 = some r0 → gv_V m_M_resolve 1 false 104 [some (.ref 41), none, some (.int x_2_29), some (.int n_3_30)] [] s31 (gv_is r0.1 r0.2) := by
  refine gd_lpC (fun (ag32 : Int32 → gS → gR) => ∀ (n_3_30 : Int32) (s31 : gS), ag32 n_3_30 s31 = some r0 → gv_V m_M_resolve 1 false 104 [some (.ref 41), none, some (.int x_2_29), some (.int n_3_30)] [] s31 (gv_is r0.1 r0.2)) (fun n_3_30 s31 h => by cases h) (fun ag32 ih n_3_30 s31 h => ?_) n
  unfold B_M_resolve_104 at h
  refine gv_iload_n (n := 3) (pc' := 105) (by decide +kernel) rfl rfl ?_
  refine gv_sipush (n := 256) (v := 256) (pc' := 108) (by decide +kernel) (by decide) rfl ?_
  refine gv_icmp_ge (off := 21) (tgt := 129) (pc' := 111) (by decide +kernel) (by decide) rfl (fun c108 => ?_) (fun c108 => ?_)
  · replace h := gd_T c108 h
    exact gd_ar (gl_s (gl_n (gl_s (gl_n gl_z)))) (fun z => by cases z) (hk33 _ h)
  · replace h := gd_F c108 h
    refine gv_aload_n (n := 0) (pc' := 112) (by decide +kernel) rfl rfl ?_
    refine gv_getr lk_9_23 (by decide +kernel) rfl rfl (pc' := 115) rfl ?_
    refine gv_iload_n (n := 3) (pc' := 116) (by decide +kernel) rfl rfl ?_
    refine gv_aload_n (n := 0) (pc' := 117) (by decide +kernel) rfl rfl ?_
    refine gv_getr lk_9_36 (by decide +kernel) rfl rfl (pc' := 120) rfl ?_
    refine gv_iload_n (n := 3) (pc' := 121) (by decide +kernel) rfl rfl ?_
    obtain ⟨g121, h⟩ := gd_gE h
    refine gj_iald _ (pc' := 122) (by decide +kernel) rfl (gd_inv g121) rfl rfl ?_
    obtain ⟨g122, h⟩ := gd_gE h
    refine gd_iast (pc' := 123) (by decide +kernel) rfl (gd_inv g122) rfl h (fun s34 h => ?_)
    refine gv_iincc (i := 3) (n := 1) (c := 1) (pc' := 126) (by decide +kernel) rfl (by decide) (by decide) rfl ?_
    refine gv_goto (off := -22) (tgt := 104) (by decide +kernel) (by decide) ?_
    exact gd_ar (gl_s (gl_n (gl_s (gl_s gl_z)))) (fun z => by cases z) (ih _ _ h)
def B_M_resolve_78 (k26 : gS → gR) (x_2_22 : Int32) (ag25 : Int32 → gS → gR) (n_3_23 : Int32) (s24 : gS) : gR :=
 if 32 ≤ n_3_23 then
  k26 s24
 else
  gd_g (gd_in n_3_23 512) <|
  gd_g (gd_in n_3_23 32) <|
  gd_s (gs_A s24 44 n_3_23.toNatClampNeg (gA s24 47 n_3_23.toNatClampNeg)) fun s27 =>
  ag25 (n_3_23 + 1) s27
set_option maxRecDepth 20000 in
theorem L_M_resolve_78 (k26 : gS → gR) (x_2_22 : Int32) (r0 : gQ × gS) (hk26 : ∀ (s28 : gS), k26 s28 = some r0 → gv_V m_M_resolve 1 false 102 [some (.ref 41), none, some (.int x_2_22), none] [] s28 (gv_is r0.1 r0.2)) (n : Nat) : ∀ (n_3_23 : Int32) (s24 : gS), gd_lp (fun _ _ => none) (B_M_resolve_78 k26 x_2_22) n n_3_23 s24 = some r0 → gv_V m_M_resolve 1 false 78 [some (.ref 41), none, some (.int x_2_22), some (.int n_3_23)] [] s24 (gv_is r0.1 r0.2) := by
  refine gd_lpC (fun (ag25 : Int32 → gS → gR) => ∀ (n_3_23 : Int32) (s24 : gS), ag25 n_3_23 s24 = some r0 → gv_V m_M_resolve 1 false 78 [some (.ref 41), none, some (.int x_2_22), some (.int n_3_23)] [] s24 (gv_is r0.1 r0.2)) (fun n_3_23 s24 h => by cases h) (fun ag25 ih n_3_23 s24 h => ?_) n
  unfold B_M_resolve_78 at h
  refine gv_iload_n (n := 3) (pc' := 79) (by decide +kernel) rfl rfl ?_
  refine gv_bipush (n := 32) (v := 32) (pc' := 81) (by decide +kernel) (by decide) rfl ?_
  refine gv_icmp_ge (off := 21) (tgt := 102) (pc' := 84) (by decide +kernel) (by decide) rfl (fun c81 => ?_) (fun c81 => ?_)
  · replace h := gd_T c81 h
    exact gd_ar (gl_s (gl_n (gl_s (gl_n gl_z)))) (fun z => by cases z) (hk26 _ h)
  · replace h := gd_F c81 h
    refine gv_aload_n (n := 0) (pc' := 85) (by decide +kernel) rfl rfl ?_
    refine gv_getr lk_9_20 (by decide +kernel) rfl rfl (pc' := 88) rfl ?_
    refine gv_iload_n (n := 3) (pc' := 89) (by decide +kernel) rfl rfl ?_
    refine gv_aload_n (n := 0) (pc' := 90) (by decide +kernel) rfl rfl ?_
    refine gv_getr lk_9_33 (by decide +kernel) rfl rfl (pc' := 93) rfl ?_
    refine gv_iload_n (n := 3) (pc' := 94) (by decide +kernel) rfl rfl ?_
    obtain ⟨g94, h⟩ := gd_gE h
    refine gj_iald _ (pc' := 95) (by decide +kernel) rfl (gd_inv g94) rfl rfl ?_
    obtain ⟨g95, h⟩ := gd_gE h
    refine gd_iast (pc' := 96) (by decide +kernel) rfl (gd_inv g95) rfl h (fun s27 h => ?_)
    refine gv_iincc (i := 3) (n := 1) (c := 1) (pc' := 99) (by decide +kernel) rfl (by decide) (by decide) rfl ?_
    refine gv_goto (off := -21) (tgt := 78) (by decide +kernel) (by decide) ?_
    exact gd_ar (gl_s (gl_n (gl_s (gl_s gl_z)))) (fun z => by cases z) (ih _ _ h)
def F_M_resolve (σ : gS) : gR :=
 if (gI σ 41 18) = 0 then
  some (.inl (some (.int (-1))), σ)
 else
  if (gI σ 41 11) ≤ 2046 then
   gd_g (gd_in 0 16) <|
   gd_g (gd_in (gA σ 49 (Int32.toNatClampNeg 0)) 1040) <|
   gd_g (gd_in (f_M_a (gA σ 42 (gA σ 49 (Int32.toNatClampNeg 0)).toNatClampNeg)) 512) <|
   gd_g (gd_in (gA σ 49 (Int32.toNatClampNeg 0)) 1040) <|
   gd_g (gd_in (f_M_b (gA σ 42 (gA σ 49 (Int32.toNatClampNeg 0)).toNatClampNeg)) 512) <|
   gd_qi (R_M_goal (gA σ 49 (Int32.toNatClampNeg 0)) (gA σ 47 (f_M_a (gA σ 42 (gA σ 49 (Int32.toNatClampNeg 0)).toNatClampNeg)).toNatClampNeg) (gA σ 47 (f_M_b (gA σ 42 (gA σ 49 (Int32.toNatClampNeg 0)).toNatClampNeg)).toNatClampNeg) σ) σ fun r1 =>
   gd_0 (F_M_tell 0 r1 σ) fun s2 =>
   gd_g (gd_in 0 16) <|
   if r1 = (gA s2 50 (Int32.toNatClampNeg 0)) then
    gd_s (gs_I s2 41 18 ((gI s2 41 18) - (1 : Int32))) fun s3 =>
    gd_j (α := gS → gR) (fun (s11 : gS) =>
     gd_j (α := gS → gR) (fun (s17 : gS) =>
      gd_lp (fun _ _ => none) (B_M_resolve_245) gd_N 0 s17) fun k15 =>
     gd_lp (fun _ _ => none) (B_M_resolve_211 k15) gd_N 0 s11) fun k7 =>
    gd_lp (fun _ _ => none) (B_M_resolve_153 k7) gd_N 0 s3
   else
    gd_j (α := gS → gR) (fun (s28 : gS) =>
     gd_j (α := gS → gR) (fun (s35 : gS) =>
      gd_s (gs_I s35 41 7 r1) fun s36 =>
      gd_s (gs_I s36 41 18 0) fun s37 =>
      some (.inl (some (.int 2)), s37)) fun k33 =>
     gd_lp (fun _ _ => none) (B_M_resolve_104 k33 r1) gd_N 0 s28) fun k26 =>
    gd_lp (fun _ _ => none) (B_M_resolve_78 k26 r1) gd_N 0 s2
  else
   some (.inl (some (.int (-1))), σ)
set_option maxRecDepth 20000 in
theorem X_M_resolve (σ : gS) (r0 : gQ × gS) (h : F_M_resolve σ = some r0) : gv_K m_M_resolve [.ref 41] σ (gv_is r0.1 r0.2) := by
  unfold F_M_resolve at h
  show gv_V m_M_resolve 1 true 0 [some (.ref 41), none, none, none] [] σ (gv_is r0.1 r0.2)
  refine gv_aload_n (n := 0) (pc' := 1) (by decide +kernel) rfl rfl ?_
  refine gv_getj lk_9_151 (by decide +kernel) rfl rfl (pc' := 4) rfl ?_
  refine gv_if_eq (off := 13) (tgt := 17) (pc' := 7) (by decide +kernel) (by decide) rfl (fun c4 => ?_) (fun c4 => ?_)
  · replace h := gd_T c4 h
    refine gv_iconst (n := (-1)) (v := (-1)) (pc' := 18) (by decide +kernel) (by decide) rfl ?_
    exact gv_iret .int (by decide +kernel) rfl rfl (by decide) (by decide) (gd_rE h)
  · replace h := gd_F c4 h
    refine gv_aload_n (n := 0) (pc' := 8) (by decide +kernel) rfl rfl ?_
    refine gv_getj lk_9_148 (by decide +kernel) rfl rfl (pc' := 11) rfl ?_
    refine gv_sipush (n := 2046) (v := 2046) (pc' := 14) (by decide +kernel) (by decide) rfl ?_
    refine gv_icmp_le (off := 5) (tgt := 19) (pc' := 17) (by decide +kernel) (by decide) rfl (fun c14 => ?_) (fun c14 => ?_)
    · replace h := gd_T c14 h
      refine gv_aload_n (n := 0) (pc' := 20) (by decide +kernel) rfl rfl ?_
      refine gv_getr lk_9_39 (by decide +kernel) rfl rfl (pc' := 23) rfl ?_
      refine gv_iconst (n := 0) (v := 0) (pc' := 24) (by decide +kernel) (by decide) rfl ?_
      obtain ⟨g24, h⟩ := gd_gE h
      refine gj_iald _ (pc' := 25) (by decide +kernel) rfl (gd_inv g24) rfl rfl ?_
      refine gv_istore_n (n := 1) (pc' := 26) (by decide +kernel) (by decide) rfl ?_
      refine gv_aload_n (n := 0) (pc' := 27) (by decide +kernel) rfl rfl ?_
      refine gv_iload_n (n := 1) (pc' := 28) (by decide +kernel) rfl rfl ?_
      refine gv_aload_n (n := 0) (pc' := 29) (by decide +kernel) rfl rfl ?_
      refine gv_getr lk_9_33 (by decide +kernel) rfl rfl (pc' := 32) rfl ?_
      refine gv_aload_n (n := 0) (pc' := 33) (by decide +kernel) rfl rfl ?_
      refine gv_getr lk_9_7 (by decide +kernel) rfl rfl (pc' := 36) rfl ?_
      refine gv_iload_n (n := 1) (pc' := 37) (by decide +kernel) rfl rfl ?_
      obtain ⟨g37, h⟩ := gd_gE h
      refine gj_iald _ (pc' := 38) (by decide +kernel) rfl (gd_inv g37) rfl rfl ?_
      refine gv_csi (w' := true) (pc' := 41) (y_M_a _ _) md_M_a sd_M_a (Or.inl ml_9_136) (by decide +kernel) (by decide) rfl (Nat.le_of_ble_eq_true rfl) (Nat.le_of_ble_eq_true rfl) (by decide) rfl (fun z => ⟨rfl, z⟩) (by decide) rfl ?_
      obtain ⟨g41, h⟩ := gd_gE h
      refine gj_iald _ (pc' := 42) (by decide +kernel) rfl (gd_inv g41) rfl rfl ?_
      refine gv_aload_n (n := 0) (pc' := 43) (by decide +kernel) rfl rfl ?_
      refine gv_getr lk_9_33 (by decide +kernel) rfl rfl (pc' := 46) rfl ?_
      refine gv_aload_n (n := 0) (pc' := 47) (by decide +kernel) rfl rfl ?_
      refine gv_getr lk_9_7 (by decide +kernel) rfl rfl (pc' := 50) rfl ?_
      refine gv_iload_n (n := 1) (pc' := 51) (by decide +kernel) rfl rfl ?_
      obtain ⟨g51, h⟩ := gd_gE h
      refine gj_iald _ (pc' := 52) (by decide +kernel) rfl (gd_inv g51) rfl rfl ?_
      refine gv_csi (w' := true) (pc' := 55) (y_M_b _ _) md_M_b sd_M_b (Or.inl ml_9_139) (by decide +kernel) (by decide) rfl (Nat.le_of_ble_eq_true rfl) (Nat.le_of_ble_eq_true rfl) (by decide) rfl (fun z => ⟨rfl, z⟩) (by decide) rfl ?_
      obtain ⟨g55, h⟩ := gd_gE h
      refine gj_iald _ (pc' := 56) (by decide +kernel) rfl (gd_inv g55) rfl rfl ?_
      refine gd_dvi (w' := true) (pc' := 59) (X_M_goal _ _ _ _) h md_M_goal vd_M_goal (Or.inl ml_9_214) (by decide +kernel) (by decide) rfl rfl rfl (Nat.le_of_ble_eq_true rfl) (Nat.le_of_ble_eq_true rfl) (by decide) rfl (fun z => ⟨rfl, z⟩) (by decide) rfl (fun r1 h => ?_)
      refine gv_istore_n (n := 2) (pc' := 60) (by decide +kernel) (by decide) rfl ?_
      refine gv_aload_n (n := 0) (pc' := 61) (by decide +kernel) rfl rfl ?_
      refine gv_iconst (n := 0) (v := 0) (pc' := 62) (by decide +kernel) (by decide) rfl ?_
      refine gv_iload_n (n := 2) (pc' := 63) (by decide +kernel) rfl rfl ?_
      refine gd_cv0 (w' := false) (pc' := 66) (X_M_tell _ _ _) h md_M_tell vd_M_tell (Or.inl ml_9_201) (by decide +kernel) (by decide) rfl rfl rfl (Nat.le_of_ble_eq_true rfl) (Nat.le_of_ble_eq_true rfl) (by decide) rfl (fun z => by cases z) (by decide) rfl (fun s2 h => ?_)
      refine gv_iload_n (n := 2) (pc' := 67) (by decide +kernel) rfl rfl ?_
      refine gv_aload_n (n := 0) (pc' := 68) (by decide +kernel) rfl rfl ?_
      refine gv_getr lk_9_42 (by decide +kernel) rfl rfl (pc' := 71) rfl ?_
      refine gv_iconst (n := 0) (v := 0) (pc' := 72) (by decide +kernel) (by decide) rfl ?_
      obtain ⟨g72, h⟩ := gd_gE h
      refine gj_iald _ (pc' := 73) (by decide +kernel) rfl (gd_inv g72) rfl rfl ?_
      refine gv_icmp_eq (off := 68) (tgt := 141) (pc' := 76) (by decide +kernel) (by decide) rfl (fun c73 => ?_) (fun c73 => ?_)
      · replace h := gd_T c73 h
        refine gv_aload_n (n := 0) (pc' := 142) (by decide +kernel) rfl rfl ?_
        refine gv_dup (pc' := 143) (by decide +kernel) rfl rfl ?_
        refine gv_getj lk_9_151 (by decide +kernel) rfl rfl (pc' := 146) rfl ?_
        refine gv_iconst (n := 1) (v := 1) (pc' := 147) (by decide +kernel) (by decide) rfl ?_
        refine gv_isub (pc' := 148) (by decide +kernel) rfl ?_
        refine gd_puti lp_9_151 (by decide +kernel) rfl rfl rfl rfl (pc' := 151) rfl h (fun s3 h => ?_)
        refine gv_iconst (n := 0) (v := 0) (pc' := 152) (by decide +kernel) (by decide) rfl ?_
        refine gv_istore_n (n := 3) (pc' := 153) (by decide +kernel) (by decide) rfl ?_
        refine gd_jC (fun k7 => ∀ (s11 : gS), k7 s11 = some r0 → gv_V m_M_resolve 1 false 209 [some (.ref 41), none, none, none] [] s11 (gv_is r0.1 r0.2)) h (fun s11 h => ?_) (fun k7 hk7 h => ?_)
        · refine gv_iconst (n := 0) (v := 0) (pc' := 210) (by decide +kernel) (by decide) rfl ?_
          refine gv_istore_n (n := 3) (pc' := 211) (by decide +kernel) (by decide) rfl ?_
          refine gd_jC (fun k15 => ∀ (s17 : gS), k15 s17 = some r0 → gv_V m_M_resolve 1 false 243 [some (.ref 41), none, none, none] [] s17 (gv_is r0.1 r0.2)) h (fun s17 h => ?_) (fun k15 hk15 h => ?_)
          · refine gv_iconst (n := 0) (v := 0) (pc' := 244) (by decide +kernel) (by decide) rfl ?_
            refine gv_istore_n (n := 3) (pc' := 245) (by decide +kernel) (by decide) rfl ?_
            exact gd_ar (gl_s (gl_n (gl_n (gl_s gl_z)))) (fun z => by cases z) (L_M_resolve_245 r0 _ _ _ h)
          exact gd_ar (gl_s (gl_n (gl_n (gl_s gl_z)))) (fun z => by cases z) (L_M_resolve_211 _ r0 hk15 _ _ _ h)
        exact gd_ar (gl_s (gl_n (gl_n (gl_s gl_z)))) (fun z => by cases z) (L_M_resolve_153 _ r0 hk7 _ _ _ h)
      · replace h := gd_F c73 h
        refine gv_iconst (n := 0) (v := 0) (pc' := 77) (by decide +kernel) (by decide) rfl ?_
        refine gv_istore_n (n := 3) (pc' := 78) (by decide +kernel) (by decide) rfl ?_
        refine gd_jC (fun k26 => ∀ (s28 : gS), k26 s28 = some r0 → gv_V m_M_resolve 1 false 102 [some (.ref 41), none, some (.int r1), none] [] s28 (gv_is r0.1 r0.2)) h (fun s28 h => ?_) (fun k26 hk26 h => ?_)
        · refine gv_iconst (n := 0) (v := 0) (pc' := 103) (by decide +kernel) (by decide) rfl ?_
          refine gv_istore_n (n := 3) (pc' := 104) (by decide +kernel) (by decide) rfl ?_
          refine gd_jC (fun k33 => ∀ (s35 : gS), k33 s35 = some r0 → gv_V m_M_resolve 1 false 129 [some (.ref 41), none, some (.int r1), none] [] s35 (gv_is r0.1 r0.2)) h (fun s35 h => ?_) (fun k33 hk33 h => ?_)
          · refine gv_aload_n (n := 0) (pc' := 130) (by decide +kernel) rfl rfl ?_
            refine gv_iload_n (n := 2) (pc' := 131) (by decide +kernel) rfl rfl ?_
            refine gd_puti lp_9_145 (by decide +kernel) rfl rfl rfl rfl (pc' := 134) rfl h (fun s36 h => ?_)
            refine gv_aload_n (n := 0) (pc' := 135) (by decide +kernel) rfl rfl ?_
            refine gv_iconst (n := 0) (v := 0) (pc' := 136) (by decide +kernel) (by decide) rfl ?_
            refine gd_puti lp_9_151 (by decide +kernel) rfl rfl rfl rfl (pc' := 139) rfl h (fun s37 h => ?_)
            refine gv_iconst (n := 2) (v := 2) (pc' := 140) (by decide +kernel) (by decide) rfl ?_
            exact gv_iret .int (by decide +kernel) rfl rfl (by decide) (by decide) (gd_rE h)
          exact gd_ar (gl_s (gl_n (gl_s (gl_s gl_z)))) (fun z => by cases z) (L_M_resolve_104 _ _ r0 hk33 _ _ _ h)
        exact gd_ar (gl_s (gl_n (gl_s (gl_s gl_z)))) (fun z => by cases z) (L_M_resolve_78 _ _ r0 hk26 _ _ _ h)
    · replace h := gd_F c14 h
      refine gv_iconst (n := (-1)) (v := (-1)) (pc' := 18) (by decide +kernel) (by decide) rfl ?_
      exact gv_iret .int (by decide +kernel) rfl rfl (by decide) (by decide) (gd_rE h)
def F_M_order (a : Int32) (σ : gS) : gR :=
 gd_t (α := Int32) (if (gI σ 41 5) = 0 then
   1
  else
   if a < 0 then
    2
   else
    if a ≤ 3 then
     0
    else
     2) fun v2 =>
 gd_s (gs_I σ 41 0 v2) fun s3 =>
 if (gI s3 41 0) ≤ 0 then
  if a = 3 then
   gd_i (F_M_resolve s3) fun r13 s14 =>
   some (.inl (some (.int r13)), s14)
  else
   if a ≤ 0 then
    if (gI s3 41 7) = (gI s3 41 2) then
     some (.inl (some (.int (-1))), s3)
    else
     gd_qi (R_M_goesTooFar s3) s3 fun r4 =>
     if r4 = 0 then
      if (gI s3 41 11) ≤ 2046 then
       gd_qi (R_M_kind (gI s3 41 7) s3) s3 fun r5 =>
       if r5 = 5 then
        some (.inl (some (.int (-1))), s3)
       else
        if r5 = 8 then
         some (.inl (some (.int (-1))), s3)
        else
         gd_j (α := gR) (
          gd_0 (F_M_runOne s3) fun s7 =>
          gd_s (gs_I s7 41 19 ((gI s7 41 19) + (1 : Int32))) fun s8 =>
          some (.inl (some (.int 0)), s8)) fun J6 =>
         if r5 = 7 then
          if (gI s3 41 18) ≤ 0 then
           J6
          else
           some (.inl (some (.int (-1))), s3)
         else
          J6
      else
       some (.inl (some (.int (-1))), s3)
     else
      some (.inl (some (.int (-1))), s3)
   else
    gd_t (α := Int32) (if a = 1 then
      1
     else
      0) fun v10 =>
    gd_i (F_M_guess v10 s3) fun r11 s12 =>
    some (.inl (some (.int r11)), s12)
 else
  some (.inl (some (.int 0)), s3)
set_option maxRecDepth 20000 in
theorem X_M_order (a : Int32) (σ : gS) (r0 : gQ × gS) (h : F_M_order a σ = some r0) : gv_K m_M_order [.ref 41, .int a] σ (gv_is r0.1 r0.2) := by
  unfold F_M_order at h
  show gv_V m_M_order 1 true 0 [some (.ref 41), some (.int a), none] [] σ (gv_is r0.1 r0.2)
  refine gv_aload_n (n := 0) (pc' := 1) (by decide +kernel) rfl rfl ?_
  refine gv_aload_n (n := 0) (pc' := 2) (by decide +kernel) rfl rfl ?_
  refine gv_getj lk_9_95 (by decide +kernel) rfl rfl (pc' := 5) rfl ?_
  refine gd_tC (fun (v2 : Int32) => gv_V m_M_order 1 true 26 [some (.ref 41), some (.int a), none] [.int v2, .ref 41] σ (gv_is r0.1 r0.2)) h (fun v2 h => ?_) (fun KJ1 hJ1 h => ?_)
  · refine gd_puti lp_9_92 (by decide +kernel) rfl rfl rfl rfl (pc' := 29) rfl h (fun s3 h => ?_)
    refine gv_aload_n (n := 0) (pc' := 30) (by decide +kernel) rfl rfl ?_
    refine gv_getj lk_9_92 (by decide +kernel) rfl rfl (pc' := 33) rfl ?_
    refine gv_if_le (off := 5) (tgt := 38) (pc' := 36) (by decide +kernel) (by decide) rfl (fun c33 => ?_) (fun c33 => ?_)
    · replace h := gd_T c33 h
      refine gv_iload_n (n := 1) (pc' := 39) (by decide +kernel) rfl rfl ?_
      refine gv_iconst (n := 3) (v := 3) (pc' := 40) (by decide +kernel) (by decide) rfl ?_
      refine gv_icmp_ne (off := 8) (tgt := 48) (pc' := 43) (by decide +kernel) (by decide) rfl (fun c40 => ?_) (fun c40 => ?_)
      · replace h := gd_F c40 h
        refine gv_iload_n (n := 1) (pc' := 49) (by decide +kernel) rfl rfl ?_
        refine gv_if_le (off := 18) (tgt := 67) (pc' := 52) (by decide +kernel) (by decide) rfl (fun c49 => ?_) (fun c49 => ?_)
        · replace h := gd_T c49 h
          refine gv_aload_n (n := 0) (pc' := 68) (by decide +kernel) rfl rfl ?_
          refine gv_getj lk_9_145 (by decide +kernel) rfl rfl (pc' := 71) rfl ?_
          refine gv_aload_n (n := 0) (pc' := 72) (by decide +kernel) rfl rfl ?_
          refine gv_getj lk_9_102 (by decide +kernel) rfl rfl (pc' := 75) rfl ?_
          refine gv_icmp_eq (off := 20) (tgt := 95) (pc' := 78) (by decide +kernel) (by decide) rfl (fun c75 => ?_) (fun c75 => ?_)
          · replace h := gd_T c75 h
            refine gv_iconst (n := (-1)) (v := (-1)) (pc' := 96) (by decide +kernel) (by decide) rfl ?_
            exact gv_iret .int (by decide +kernel) rfl rfl (by decide) (by decide) (gd_rE h)
          · replace h := gd_F c75 h
            refine gv_aload_n (n := 0) (pc' := 79) (by decide +kernel) rfl rfl ?_
            refine gd_dvi (w' := false) (pc' := 82) (X_M_goesTooFar _) h md_M_goesTooFar vd_M_goesTooFar (Or.inl ml_9_224) (by decide +kernel) (by decide) rfl rfl rfl (Nat.le_of_ble_eq_true rfl) (Nat.le_of_ble_eq_true rfl) (by decide) rfl (fun z => by cases z) (by decide) rfl (fun r4 h => ?_)
            refine gv_if_ne (off := 13) (tgt := 95) (pc' := 85) (by decide +kernel) (by decide) rfl (fun c82 => ?_) (fun c82 => ?_)
            · replace h := gd_F c82 h
              refine gv_iconst (n := (-1)) (v := (-1)) (pc' := 96) (by decide +kernel) (by decide) rfl ?_
              exact gv_iret .int (by decide +kernel) rfl rfl (by decide) (by decide) (gd_rE h)
            · replace h := gd_T c82 h
              refine gv_aload_n (n := 0) (pc' := 86) (by decide +kernel) rfl rfl ?_
              refine gv_getj lk_9_148 (by decide +kernel) rfl rfl (pc' := 89) rfl ?_
              refine gv_sipush (n := 2046) (v := 2046) (pc' := 92) (by decide +kernel) (by decide) rfl ?_
              refine gv_icmp_le (off := 5) (tgt := 97) (pc' := 95) (by decide +kernel) (by decide) rfl (fun c92 => ?_) (fun c92 => ?_)
              · replace h := gd_T c92 h
                refine gv_aload_n (n := 0) (pc' := 98) (by decide +kernel) rfl rfl ?_
                refine gv_aload_n (n := 0) (pc' := 99) (by decide +kernel) rfl rfl ?_
                refine gv_getj lk_9_145 (by decide +kernel) rfl rfl (pc' := 102) rfl ?_
                refine gd_dvi (w' := false) (pc' := 105) (X_M_kind _ _) h md_M_kind vd_M_kind (Or.inl ml_9_130) (by decide +kernel) (by decide) rfl rfl rfl (Nat.le_of_ble_eq_true rfl) (Nat.le_of_ble_eq_true rfl) (by decide) rfl (fun z => by cases z) (by decide) rfl (fun r5 h => ?_)
                refine gv_istore_n (n := 2) (pc' := 106) (by decide +kernel) (by decide) rfl ?_
                refine gv_iload_n (n := 2) (pc' := 107) (by decide +kernel) rfl rfl ?_
                refine gv_iconst (n := 5) (v := 5) (pc' := 108) (by decide +kernel) (by decide) rfl ?_
                refine gv_icmp_eq (off := 22) (tgt := 130) (pc' := 111) (by decide +kernel) (by decide) rfl (fun c108 => ?_) (fun c108 => ?_)
                · replace h := gd_T c108 h
                  refine gv_iconst (n := (-1)) (v := (-1)) (pc' := 131) (by decide +kernel) (by decide) rfl ?_
                  exact gv_iret .int (by decide +kernel) rfl rfl (by decide) (by decide) (gd_rE h)
                · replace h := gd_F c108 h
                  refine gv_iload_n (n := 2) (pc' := 112) (by decide +kernel) rfl rfl ?_
                  refine gv_bipush (n := 8) (v := 8) (pc' := 114) (by decide +kernel) (by decide) rfl ?_
                  refine gv_icmp_eq (off := 16) (tgt := 130) (pc' := 117) (by decide +kernel) (by decide) rfl (fun c114 => ?_) (fun c114 => ?_)
                  · replace h := gd_T c114 h
                    refine gv_iconst (n := (-1)) (v := (-1)) (pc' := 131) (by decide +kernel) (by decide) rfl ?_
                    exact gv_iret .int (by decide +kernel) rfl rfl (by decide) (by decide) (gd_rE h)
                  · replace h := gd_F c114 h
                    refine gv_iload_n (n := 2) (pc' := 118) (by decide +kernel) rfl rfl ?_
                    refine gv_bipush (n := 7) (v := 7) (pc' := 120) (by decide +kernel) (by decide) rfl ?_
                    refine gd_jC (fun J6 => J6 = some r0 → gv_V m_M_order 1 false 132 [some (.ref 41), none, none] [] s3 (gv_is r0.1 r0.2)) h (fun  h => ?_) (fun J6 hJ6 h => ?_)
                    · refine gv_aload_n (n := 0) (pc' := 133) (by decide +kernel) rfl rfl ?_
                      refine gd_cv0 (w' := false) (pc' := 136) (X_M_runOne _) h md_M_runOne vd_M_runOne (Or.inl ml_9_217) (by decide +kernel) (by decide) rfl rfl rfl (Nat.le_of_ble_eq_true rfl) (Nat.le_of_ble_eq_true rfl) (by decide) rfl (fun z => by cases z) (by decide) rfl (fun s7 h => ?_)
                      refine gv_aload_n (n := 0) (pc' := 137) (by decide +kernel) rfl rfl ?_
                      refine gv_dup (pc' := 138) (by decide +kernel) rfl rfl ?_
                      refine gv_getj lk_9_154 (by decide +kernel) rfl rfl (pc' := 141) rfl ?_
                      refine gv_iconst (n := 1) (v := 1) (pc' := 142) (by decide +kernel) (by decide) rfl ?_
                      refine gv_iadd (pc' := 143) (by decide +kernel) rfl ?_
                      refine gd_puti lp_9_154 (by decide +kernel) rfl rfl rfl rfl (pc' := 146) rfl h (fun s8 h => ?_)
                      refine gv_iconst (n := 0) (v := 0) (pc' := 147) (by decide +kernel) (by decide) rfl ?_
                      exact gv_iret .int (by decide +kernel) rfl rfl (by decide) (by decide) (gd_rE h)
                    · refine gv_icmp_ne (off := 12) (tgt := 132) (pc' := 123) (by decide +kernel) (by decide) rfl (fun c120 => ?_) (fun c120 => ?_)
                      · replace h := gd_F c120 h
                        exact gd_ar (gl_s (gl_n (gl_n gl_z))) (fun z => by cases z) (hJ6  h)
                      · replace h := gd_T c120 h
                        refine gv_aload_n (n := 0) (pc' := 124) (by decide +kernel) rfl rfl ?_
                        refine gv_getj lk_9_151 (by decide +kernel) rfl rfl (pc' := 127) rfl ?_
                        refine gv_if_le (off := 5) (tgt := 132) (pc' := 130) (by decide +kernel) (by decide) rfl (fun c127 => ?_) (fun c127 => ?_)
                        · replace h := gd_T c127 h
                          exact gd_ar (gl_s (gl_n (gl_n gl_z))) (fun z => by cases z) (hJ6  h)
                        · replace h := gd_F c127 h
                          refine gv_iconst (n := (-1)) (v := (-1)) (pc' := 131) (by decide +kernel) (by decide) rfl ?_
                          exact gv_iret .int (by decide +kernel) rfl rfl (by decide) (by decide) (gd_rE h)
              · replace h := gd_F c92 h
                refine gv_iconst (n := (-1)) (v := (-1)) (pc' := 96) (by decide +kernel) (by decide) rfl ?_
                exact gv_iret .int (by decide +kernel) rfl rfl (by decide) (by decide) (gd_rE h)
        · replace h := gd_F c49 h
          refine gv_aload_n (n := 0) (pc' := 53) (by decide +kernel) rfl rfl ?_
          refine gv_iload_n (n := 1) (pc' := 54) (by decide +kernel) rfl rfl ?_
          refine gv_iconst (n := 1) (v := 1) (pc' := 55) (by decide +kernel) (by decide) rfl ?_
          refine gd_tC (fun (v10 : Int32) => gv_V m_M_order 1 false 63 [none, none, none] [.int v10, .ref 41] s3 (gv_is r0.1 r0.2)) h (fun v10 h => ?_) (fun KJ9 hJ9 h => ?_)
          · refine gd_cvi (w' := false) (pc' := 66) (X_M_guess _ _) h md_M_guess vd_M_guess (Or.inl ml_9_231) (by decide +kernel) (by decide) rfl rfl rfl (Nat.le_of_ble_eq_true rfl) (Nat.le_of_ble_eq_true rfl) (by decide) rfl (fun z => by cases z) (by decide) rfl (fun r11 s12 h => ?_)
            exact gv_iret .int (by decide +kernel) rfl rfl (by decide) (by decide) (gd_rE h)
          · refine gv_icmp_ne (off := 7) (tgt := 62) (pc' := 58) (by decide +kernel) (by decide) rfl (fun c55 => ?_) (fun c55 => ?_)
            · replace h := gd_tF c55 h
              refine gv_iconst (n := 0) (v := 0) (pc' := 63) (by decide +kernel) (by decide) rfl ?_
              exact gd_ar (gl_n (gl_n (gl_n gl_z))) (fun z => by cases z) (hJ9 _ h)
            · replace h := gd_tT c55 h
              refine gv_iconst (n := 1) (v := 1) (pc' := 59) (by decide +kernel) (by decide) rfl ?_
              refine gv_goto (off := 4) (tgt := 63) (by decide +kernel) (by decide) ?_
              exact gd_ar (gl_n (gl_n (gl_n gl_z))) (fun z => by cases z) (hJ9 _ h)
      · replace h := gd_T c40 h
        refine gv_aload_n (n := 0) (pc' := 44) (by decide +kernel) rfl rfl ?_
        refine gd_cvi (w' := false) (pc' := 47) (X_M_resolve _) h md_M_resolve vd_M_resolve (Or.inl ml_9_228) (by decide +kernel) (by decide) rfl rfl rfl (Nat.le_of_ble_eq_true rfl) (Nat.le_of_ble_eq_true rfl) (by decide) rfl (fun z => by cases z) (by decide) rfl (fun r13 s14 h => ?_)
        exact gv_iret .int (by decide +kernel) rfl rfl (by decide) (by decide) (gd_rE h)
    · replace h := gd_F c33 h
      refine gv_iconst (n := 0) (v := 0) (pc' := 37) (by decide +kernel) (by decide) rfl ?_
      exact gv_iret .int (by decide +kernel) rfl rfl (by decide) (by decide) (gd_rE h)
  · refine gv_if_ne (off := 7) (tgt := 12) (pc' := 8) (by decide +kernel) (by decide) rfl (fun c5 => ?_) (fun c5 => ?_)
    · replace h := gd_tF c5 h
      refine gv_iload_n (n := 1) (pc' := 13) (by decide +kernel) rfl rfl ?_
      refine gv_if_lt (off := 8) (tgt := 21) (pc' := 16) (by decide +kernel) (by decide) rfl (fun c13 => ?_) (fun c13 => ?_)
      · replace h := gd_tT c13 h
        refine gv_iconst (n := 2) (v := 2) (pc' := 22) (by decide +kernel) (by decide) rfl ?_
        refine gv_goto (off := 4) (tgt := 26) (by decide +kernel) (by decide) ?_
        exact gd_ar (gl_s (gl_s (gl_n gl_z))) (fun _ => rfl) (hJ1 _ h)
      · replace h := gd_tF c13 h
        refine gv_iload_n (n := 1) (pc' := 17) (by decide +kernel) rfl rfl ?_
        refine gv_iconst (n := 3) (v := 3) (pc' := 18) (by decide +kernel) (by decide) rfl ?_
        refine gv_icmp_le (off := 7) (tgt := 25) (pc' := 21) (by decide +kernel) (by decide) rfl (fun c18 => ?_) (fun c18 => ?_)
        · replace h := gd_tT c18 h
          refine gv_iconst (n := 0) (v := 0) (pc' := 26) (by decide +kernel) (by decide) rfl ?_
          exact gd_ar (gl_s (gl_s (gl_n gl_z))) (fun _ => rfl) (hJ1 _ h)
        · replace h := gd_tF c18 h
          refine gv_iconst (n := 2) (v := 2) (pc' := 22) (by decide +kernel) (by decide) rfl ?_
          refine gv_goto (off := 4) (tgt := 26) (by decide +kernel) (by decide) ?_
          exact gd_ar (gl_s (gl_s (gl_n gl_z))) (fun _ => rfl) (hJ1 _ h)
    · replace h := gd_tT c5 h
      refine gv_iconst (n := 1) (v := 1) (pc' := 9) (by decide +kernel) (by decide) rfl ?_
      refine gv_goto (off := 17) (tgt := 26) (by decide +kernel) (by decide) ?_
      exact gd_ar (gl_s (gl_s (gl_n gl_z))) (fun _ => rfl) (hJ1 _ h)
def F_M_window (a : Int32) (σ : gS) : gR :=
 gd_t (α := Int32) (if a < 1 then
   1
  else
   if a ≤ 64 then
    0
   else
    1) fun v2 =>
 gd_s (gs_I σ 41 0 v2) fun s3 =>
 if (gI s3 41 0) ≤ 0 then
  gd_s (gs_I s3 41 12 a) fun s4 =>
  some (.inl (some (.int (gI s3 41 12))), s4)
 else
  some (.inl (some (.int 0)), s3)
set_option maxRecDepth 20000 in
theorem X_M_window (a : Int32) (σ : gS) (r0 : gQ × gS) (h : F_M_window a σ = some r0) : gv_K m_M_window [.ref 41, .int a] σ (gv_is r0.1 r0.2) := by
  unfold F_M_window at h
  show gv_V m_M_window 1 true 0 [some (.ref 41), some (.int a), none] [] σ (gv_is r0.1 r0.2)
  refine gv_aload_n (n := 0) (pc' := 1) (by decide +kernel) rfl rfl ?_
  refine gv_iload_n (n := 1) (pc' := 2) (by decide +kernel) rfl rfl ?_
  refine gv_iconst (n := 1) (v := 1) (pc' := 3) (by decide +kernel) (by decide) rfl ?_
  refine gd_tC (fun (v2 : Int32) => gv_V m_M_window 1 true 17 [some (.ref 41), some (.int a), none] [.int v2, .ref 41] σ (gv_is r0.1 r0.2)) h (fun v2 h => ?_) (fun KJ1 hJ1 h => ?_)
  · refine gd_puti lp_9_92 (by decide +kernel) rfl rfl rfl rfl (pc' := 20) rfl h (fun s3 h => ?_)
    refine gv_aload_n (n := 0) (pc' := 21) (by decide +kernel) rfl rfl ?_
    refine gv_getj lk_9_92 (by decide +kernel) rfl rfl (pc' := 24) rfl ?_
    refine gv_if_le (off := 5) (tgt := 29) (pc' := 27) (by decide +kernel) (by decide) rfl (fun c24 => ?_) (fun c24 => ?_)
    · replace h := gd_T c24 h
      refine gv_aload_n (n := 0) (pc' := 30) (by decide +kernel) rfl rfl ?_
      refine gv_getj lk_9_30 (by decide +kernel) rfl rfl (pc' := 33) rfl ?_
      refine gv_istore_n (n := 2) (pc' := 34) (by decide +kernel) (by decide) rfl ?_
      refine gv_aload_n (n := 0) (pc' := 35) (by decide +kernel) rfl rfl ?_
      refine gv_iload_n (n := 1) (pc' := 36) (by decide +kernel) rfl rfl ?_
      refine gd_puti lp_9_30 (by decide +kernel) rfl rfl rfl rfl (pc' := 39) rfl h (fun s4 h => ?_)
      refine gv_iload_n (n := 2) (pc' := 40) (by decide +kernel) rfl rfl ?_
      exact gv_iret .int (by decide +kernel) rfl rfl (by decide) (by decide) (gd_rE h)
    · replace h := gd_F c24 h
      refine gv_iconst (n := 0) (v := 0) (pc' := 28) (by decide +kernel) (by decide) rfl ?_
      exact gv_iret .int (by decide +kernel) rfl rfl (by decide) (by decide) (gd_rE h)
  · refine gv_icmp_lt (off := 9) (tgt := 12) (pc' := 6) (by decide +kernel) (by decide) rfl (fun c3 => ?_) (fun c3 => ?_)
    · replace h := gd_tT c3 h
      refine gv_iconst (n := 1) (v := 1) (pc' := 13) (by decide +kernel) (by decide) rfl ?_
      refine gv_goto (off := 4) (tgt := 17) (by decide +kernel) (by decide) ?_
      exact gd_ar (gl_s (gl_s (gl_n gl_z))) (fun _ => rfl) (hJ1 _ h)
    · replace h := gd_tF c3 h
      refine gv_iload_n (n := 1) (pc' := 7) (by decide +kernel) rfl rfl ?_
      refine gv_bipush (n := 64) (v := 64) (pc' := 9) (by decide +kernel) (by decide) rfl ?_
      refine gv_icmp_le (off := 7) (tgt := 16) (pc' := 12) (by decide +kernel) (by decide) rfl (fun c9 => ?_) (fun c9 => ?_)
      · replace h := gd_tT c9 h
        refine gv_iconst (n := 0) (v := 0) (pc' := 17) (by decide +kernel) (by decide) rfl ?_
        exact gd_ar (gl_s (gl_s (gl_n gl_z))) (fun _ => rfl) (hJ1 _ h)
      · replace h := gd_tF c9 h
        refine gv_iconst (n := 1) (v := 1) (pc' := 13) (by decide +kernel) (by decide) rfl ?_
        refine gv_goto (off := 4) (tgt := 17) (by decide +kernel) (by decide) ?_
        exact gd_ar (gl_s (gl_s (gl_n gl_z))) (fun _ => rfl) (hJ1 _ h)
def F_M_state (a : Int32) (σ : gS) : gR :=
 gd_t (α := Int32) (if (gI σ 41 5) = 0 then
   1
  else
   if a < 0 then
    2
   else
    if a ≤ 3 then
     0
    else
     2) fun v2 =>
 gd_s (gs_I σ 41 0 v2) fun s3 =>
 if (gI s3 41 0) ≤ 0 then
  if a = 0 then
   some (.inl (some (.int (gI s3 41 7))), s3)
  else
   if a = 1 then
    some (.inl (some (.int (gI s3 41 18))), s3)
   else
    if a = 2 then
     gd_qi (R_M_distance s3) s3 fun r4 =>
     some (.inl (some (.int r4)), s3)
    else
     some (.inl (some (.int (gI s3 41 11))), s3)
 else
  some (.inl (some (.int 0)), s3)
set_option maxRecDepth 20000 in
theorem X_M_state (a : Int32) (σ : gS) (r0 : gQ × gS) (h : F_M_state a σ = some r0) : gv_K m_M_state [.ref 41, .int a] σ (gv_is r0.1 r0.2) := by
  unfold F_M_state at h
  show gv_V m_M_state 1 true 0 [some (.ref 41), some (.int a)] [] σ (gv_is r0.1 r0.2)
  refine gv_aload_n (n := 0) (pc' := 1) (by decide +kernel) rfl rfl ?_
  refine gv_aload_n (n := 0) (pc' := 2) (by decide +kernel) rfl rfl ?_
  refine gv_getj lk_9_95 (by decide +kernel) rfl rfl (pc' := 5) rfl ?_
  refine gd_tC (fun (v2 : Int32) => gv_V m_M_state 1 true 26 [some (.ref 41), some (.int a)] [.int v2, .ref 41] σ (gv_is r0.1 r0.2)) h (fun v2 h => ?_) (fun KJ1 hJ1 h => ?_)
  · refine gd_puti lp_9_92 (by decide +kernel) rfl rfl rfl rfl (pc' := 29) rfl h (fun s3 h => ?_)
    refine gv_aload_n (n := 0) (pc' := 30) (by decide +kernel) rfl rfl ?_
    refine gv_getj lk_9_92 (by decide +kernel) rfl rfl (pc' := 33) rfl ?_
    refine gv_if_le (off := 7) (tgt := 40) (pc' := 36) (by decide +kernel) (by decide) rfl (fun c33 => ?_) (fun c33 => ?_)
    · replace h := gd_T c33 h
      refine gv_iload_n (n := 1) (pc' := 41) (by decide +kernel) rfl rfl ?_
      refine gv_if_ne (off := 10) (tgt := 51) (pc' := 44) (by decide +kernel) (by decide) rfl (fun c41 => ?_) (fun c41 => ?_)
      · replace h := gd_F c41 h
        refine gv_iload_n (n := 1) (pc' := 52) (by decide +kernel) rfl rfl ?_
        refine gv_iconst (n := 1) (v := 1) (pc' := 53) (by decide +kernel) (by decide) rfl ?_
        refine gv_icmp_ne (off := 10) (tgt := 63) (pc' := 56) (by decide +kernel) (by decide) rfl (fun c53 => ?_) (fun c53 => ?_)
        · replace h := gd_F c53 h
          refine gv_iload_n (n := 1) (pc' := 64) (by decide +kernel) rfl rfl ?_
          refine gv_iconst (n := 2) (v := 2) (pc' := 65) (by decide +kernel) (by decide) rfl ?_
          refine gv_icmp_ne (off := 10) (tgt := 75) (pc' := 68) (by decide +kernel) (by decide) rfl (fun c65 => ?_) (fun c65 => ?_)
          · replace h := gd_F c65 h
            refine gv_aload_n (n := 0) (pc' := 76) (by decide +kernel) rfl rfl ?_
            refine gv_getj lk_9_148 (by decide +kernel) rfl rfl (pc' := 79) rfl ?_
            exact gv_iret .int (by decide +kernel) rfl rfl (by decide) (by decide) (gd_rE h)
          · replace h := gd_T c65 h
            refine gv_aload_n (n := 0) (pc' := 69) (by decide +kernel) rfl rfl ?_
            refine gd_dvi (w' := false) (pc' := 72) (X_M_distance _) h md_M_distance vd_M_distance (Or.inl ml_9_220) (by decide +kernel) (by decide) rfl rfl rfl (Nat.le_of_ble_eq_true rfl) (Nat.le_of_ble_eq_true rfl) (by decide) rfl (fun z => by cases z) (by decide) rfl (fun r4 h => ?_)
            refine gv_goto (off := 7) (tgt := 79) (by decide +kernel) (by decide) ?_
            exact gv_iret .int (by decide +kernel) rfl rfl (by decide) (by decide) (gd_rE h)
        · replace h := gd_T c53 h
          refine gv_aload_n (n := 0) (pc' := 57) (by decide +kernel) rfl rfl ?_
          refine gv_getj lk_9_151 (by decide +kernel) rfl rfl (pc' := 60) rfl ?_
          refine gv_goto (off := 19) (tgt := 79) (by decide +kernel) (by decide) ?_
          exact gv_iret .int (by decide +kernel) rfl rfl (by decide) (by decide) (gd_rE h)
      · replace h := gd_T c41 h
        refine gv_aload_n (n := 0) (pc' := 45) (by decide +kernel) rfl rfl ?_
        refine gv_getj lk_9_145 (by decide +kernel) rfl rfl (pc' := 48) rfl ?_
        refine gv_goto (off := 31) (tgt := 79) (by decide +kernel) (by decide) ?_
        exact gv_iret .int (by decide +kernel) rfl rfl (by decide) (by decide) (gd_rE h)
    · replace h := gd_F c33 h
      refine gv_iconst (n := 0) (v := 0) (pc' := 37) (by decide +kernel) (by decide) rfl ?_
      refine gv_goto (off := 42) (tgt := 79) (by decide +kernel) (by decide) ?_
      exact gv_iret .int (by decide +kernel) rfl rfl (by decide) (by decide) (gd_rE h)
  · refine gv_if_ne (off := 7) (tgt := 12) (pc' := 8) (by decide +kernel) (by decide) rfl (fun c5 => ?_) (fun c5 => ?_)
    · replace h := gd_tF c5 h
      refine gv_iload_n (n := 1) (pc' := 13) (by decide +kernel) rfl rfl ?_
      refine gv_if_lt (off := 8) (tgt := 21) (pc' := 16) (by decide +kernel) (by decide) rfl (fun c13 => ?_) (fun c13 => ?_)
      · replace h := gd_tT c13 h
        refine gv_iconst (n := 2) (v := 2) (pc' := 22) (by decide +kernel) (by decide) rfl ?_
        refine gv_goto (off := 4) (tgt := 26) (by decide +kernel) (by decide) ?_
        exact gd_ar (gl_s (gl_s gl_z)) (fun _ => rfl) (hJ1 _ h)
      · replace h := gd_tF c13 h
        refine gv_iload_n (n := 1) (pc' := 17) (by decide +kernel) rfl rfl ?_
        refine gv_iconst (n := 3) (v := 3) (pc' := 18) (by decide +kernel) (by decide) rfl ?_
        refine gv_icmp_le (off := 7) (tgt := 25) (pc' := 21) (by decide +kernel) (by decide) rfl (fun c18 => ?_) (fun c18 => ?_)
        · replace h := gd_tT c18 h
          refine gv_iconst (n := 0) (v := 0) (pc' := 26) (by decide +kernel) (by decide) rfl ?_
          exact gd_ar (gl_s (gl_s gl_z)) (fun _ => rfl) (hJ1 _ h)
        · replace h := gd_tF c18 h
          refine gv_iconst (n := 2) (v := 2) (pc' := 22) (by decide +kernel) (by decide) rfl ?_
          refine gv_goto (off := 4) (tgt := 26) (by decide +kernel) (by decide) ?_
          exact gd_ar (gl_s (gl_s gl_z)) (fun _ => rfl) (hJ1 _ h)
    · replace h := gd_tT c5 h
      refine gv_iconst (n := 1) (v := 1) (pc' := 9) (by decide +kernel) (by decide) rfl ?_
      refine gv_goto (off := 17) (tgt := 26) (by decide +kernel) (by decide) ?_
      exact gd_ar (gl_s (gl_s gl_z)) (fun _ => rfl) (hJ1 _ h)
def F_M_leak (a : Int32) (σ : gS) : gR :=
 gd_s (gs_I σ 41 0 0) fun s1 =>
 if (gI s1 41 5) = 0 then
  some (.inl (some (.long (-1))), s1)
 else
  if a < 0 then
   some (.inl (some (.long (-1))), s1)
  else
   if a < (gI s1 41 11) then
    gd_g (gd_in a 2048) <|
    some (.inl (some (.long (gL s1 46 a.toNatClampNeg))), s1)
   else
    some (.inl (some (.long (-1))), s1)
set_option maxRecDepth 20000 in
theorem X_M_leak (a : Int32) (σ : gS) (r0 : gQ × gS) (h : F_M_leak a σ = some r0) : gv_K m_M_leak [.ref 41, .int a] σ (gv_is r0.1 r0.2) := by
  unfold F_M_leak at h
  show gv_V m_M_leak 1 true 0 [some (.ref 41), some (.int a)] [] σ (gv_is r0.1 r0.2)
  refine gv_aload_n (n := 0) (pc' := 1) (by decide +kernel) rfl rfl ?_
  refine gv_iconst (n := 0) (v := 0) (pc' := 2) (by decide +kernel) (by decide) rfl ?_
  refine gd_puti lp_9_92 (by decide +kernel) rfl rfl rfl rfl (pc' := 5) rfl h (fun s1 h => ?_)
  refine gv_aload_n (n := 0) (pc' := 6) (by decide +kernel) rfl rfl ?_
  refine gv_getj lk_9_95 (by decide +kernel) rfl rfl (pc' := 9) rfl ?_
  refine gv_if_eq (off := 15) (tgt := 24) (pc' := 12) (by decide +kernel) (by decide) rfl (fun c9 => ?_) (fun c9 => ?_)
  · replace h := gd_T c9 h
    refine gv_ldc2 (v := (-1)) (pc' := 27) (by decide +kernel) cn_9_110 rfl ?_
    refine gv_goto (off := 9) (tgt := 36) (by decide +kernel) (by decide) ?_
    exact gv_lret (by decide +kernel) rfl (by decide) (by decide) (gd_rE h)
  · replace h := gd_F c9 h
    refine gv_iload_n (n := 1) (pc' := 13) (by decide +kernel) rfl rfl ?_
    refine gv_if_lt (off := 11) (tgt := 24) (pc' := 16) (by decide +kernel) (by decide) rfl (fun c13 => ?_) (fun c13 => ?_)
    · replace h := gd_T c13 h
      refine gv_ldc2 (v := (-1)) (pc' := 27) (by decide +kernel) cn_9_110 rfl ?_
      refine gv_goto (off := 9) (tgt := 36) (by decide +kernel) (by decide) ?_
      exact gv_lret (by decide +kernel) rfl (by decide) (by decide) (gd_rE h)
    · replace h := gd_F c13 h
      refine gv_iload_n (n := 1) (pc' := 17) (by decide +kernel) rfl rfl ?_
      refine gv_aload_n (n := 0) (pc' := 18) (by decide +kernel) rfl rfl ?_
      refine gv_getj lk_9_148 (by decide +kernel) rfl rfl (pc' := 21) rfl ?_
      refine gv_icmp_lt (off := 9) (tgt := 30) (pc' := 24) (by decide +kernel) (by decide) rfl (fun c21 => ?_) (fun c21 => ?_)
      · replace h := gd_T c21 h
        refine gv_aload_n (n := 0) (pc' := 31) (by decide +kernel) rfl rfl ?_
        refine gv_getr lk_9_26 (by decide +kernel) rfl rfl (pc' := 34) rfl ?_
        refine gv_iload_n (n := 1) (pc' := 35) (by decide +kernel) rfl rfl ?_
        obtain ⟨g35, h⟩ := gd_gE h
        refine gj_lald _ (pc' := 36) (by decide +kernel) rfl (gd_inv g35) rfl rfl ?_
        exact gv_lret (by decide +kernel) rfl (by decide) (by decide) (gd_rE h)
      · replace h := gd_F c21 h
        refine gv_ldc2 (v := (-1)) (pc' := 27) (by decide +kernel) cn_9_110 rfl ?_
        refine gv_goto (off := 9) (tgt := 36) (by decide +kernel) (by decide) ?_
        exact gv_lret (by decide +kernel) rfl (by decide) (by decide) (gd_rE h)
def F_M_forget (σ : gS) : gR :=
 gd_t (α := Int32) (if (gI σ 41 5) = 0 then
   1
  else
   0) fun v2 =>
 gd_s (gs_I σ 41 0 v2) fun s3 =>
 if (gI s3 41 0) ≤ 0 then
  gd_s (gs_I s3 41 11 0) fun s4 =>
  some (.inl (some (.int (gI s3 41 11))), s4)
 else
  some (.inl (some (.int 0)), s3)
set_option maxRecDepth 20000 in
theorem X_M_forget (σ : gS) (r0 : gQ × gS) (h : F_M_forget σ = some r0) : gv_K m_M_forget [.ref 41] σ (gv_is r0.1 r0.2) := by
  unfold F_M_forget at h
  show gv_V m_M_forget 1 true 0 [some (.ref 41), none] [] σ (gv_is r0.1 r0.2)
  refine gv_aload_n (n := 0) (pc' := 1) (by decide +kernel) rfl rfl ?_
  refine gv_aload_n (n := 0) (pc' := 2) (by decide +kernel) rfl rfl ?_
  refine gv_getj lk_9_95 (by decide +kernel) rfl rfl (pc' := 5) rfl ?_
  refine gd_tC (fun (v2 : Int32) => gv_V m_M_forget 1 true 13 [some (.ref 41), none] [.int v2, .ref 41] σ (gv_is r0.1 r0.2)) h (fun v2 h => ?_) (fun KJ1 hJ1 h => ?_)
  · refine gd_puti lp_9_92 (by decide +kernel) rfl rfl rfl rfl (pc' := 16) rfl h (fun s3 h => ?_)
    refine gv_aload_n (n := 0) (pc' := 17) (by decide +kernel) rfl rfl ?_
    refine gv_getj lk_9_92 (by decide +kernel) rfl rfl (pc' := 20) rfl ?_
    refine gv_if_le (off := 5) (tgt := 25) (pc' := 23) (by decide +kernel) (by decide) rfl (fun c20 => ?_) (fun c20 => ?_)
    · replace h := gd_T c20 h
      refine gv_aload_n (n := 0) (pc' := 26) (by decide +kernel) rfl rfl ?_
      refine gv_getj lk_9_148 (by decide +kernel) rfl rfl (pc' := 29) rfl ?_
      refine gv_istore_n (n := 1) (pc' := 30) (by decide +kernel) (by decide) rfl ?_
      refine gv_aload_n (n := 0) (pc' := 31) (by decide +kernel) rfl rfl ?_
      refine gv_iconst (n := 0) (v := 0) (pc' := 32) (by decide +kernel) (by decide) rfl ?_
      refine gd_puti lp_9_148 (by decide +kernel) rfl rfl rfl rfl (pc' := 35) rfl h (fun s4 h => ?_)
      refine gv_iload_n (n := 1) (pc' := 36) (by decide +kernel) rfl rfl ?_
      exact gv_iret .int (by decide +kernel) rfl rfl (by decide) (by decide) (gd_rE h)
    · replace h := gd_F c20 h
      refine gv_iconst (n := 0) (v := 0) (pc' := 24) (by decide +kernel) (by decide) rfl ?_
      exact gv_iret .int (by decide +kernel) rfl rfl (by decide) (by decide) (gd_rE h)
  · refine gv_if_eq (off := 7) (tgt := 12) (pc' := 8) (by decide +kernel) (by decide) rfl (fun c5 => ?_) (fun c5 => ?_)
    · replace h := gd_tT c5 h
      refine gv_iconst (n := 1) (v := 1) (pc' := 13) (by decide +kernel) (by decide) rfl ?_
      exact gd_ar (gl_s (gl_n gl_z)) (fun _ => rfl) (hJ1 _ h)
    · replace h := gd_tF c5 h
      refine gv_iconst (n := 0) (v := 0) (pc' := 9) (by decide +kernel) (by decide) rfl ?_
      refine gv_goto (off := 4) (tgt := 13) (by decide +kernel) (by decide) ?_
      exact gd_ar (gl_s (gl_n gl_z)) (fun _ => rfl) (hJ1 _ h)
def F_M_visit (a : Int32) (σ : gS) : gR :=
 if (gI σ 41 2) ≤ a then
  some (.inl none, σ)
 else
  gd_g (gd_in a 1040) <|
  if (gA σ 63 a.toNatClampNeg) = 0 then
   gd_g (gd_in a 1040) <|
   gd_s (gs_A σ 63 a.toNatClampNeg (vp_nar .boolean 1)) fun s1 =>
   gd_g (gd_in (gI s1 41 37) 2081) <|
   gd_s (gs_A s1 62 (gI s1 41 37).toNatClampNeg a) fun s2 =>
   gd_s (gs_I s2 41 37 ((gI s2 41 37) + (1 : Int32))) fun s3 =>
   some (.inl none, s3)
  else
   some (.inl none, σ)
set_option maxRecDepth 20000 in
theorem X_M_visit (a : Int32) (σ : gS) (r0 : gQ × gS) (h : F_M_visit a σ = some r0) : gv_K m_M_visit [.ref 41, .int a] σ (gv_is r0.1 r0.2) := by
  unfold F_M_visit at h
  show gv_V m_M_visit 1 true 0 [some (.ref 41), some (.int a)] [] σ (gv_is r0.1 r0.2)
  refine gv_iload_n (n := 1) (pc' := 1) (by decide +kernel) rfl rfl ?_
  refine gv_aload_n (n := 0) (pc' := 2) (by decide +kernel) rfl rfl ?_
  refine gv_getj lk_9_102 (by decide +kernel) rfl rfl (pc' := 5) rfl ?_
  refine gv_icmp_ge (off := 39) (tgt := 44) (pc' := 8) (by decide +kernel) (by decide) rfl (fun c5 => ?_) (fun c5 => ?_)
  · replace h := gd_T c5 h
    exact gv_ret (by decide +kernel) rfl (by decide) (by decide) (gd_rE h)
  · replace h := gd_F c5 h
    refine gv_aload_n (n := 0) (pc' := 9) (by decide +kernel) rfl rfl ?_
    refine gv_getr lk_9_83 (by decide +kernel) rfl rfl (pc' := 12) rfl ?_
    refine gv_iload_n (n := 1) (pc' := 13) (by decide +kernel) rfl rfl ?_
    obtain ⟨g13, h⟩ := gd_gE h
    refine gj_zald _ (pc' := 14) (by decide +kernel) rfl (gd_inv g13) rfl rfl ?_
    refine gv_if_ne (off := 30) (tgt := 44) (pc' := 17) (by decide +kernel) (by decide) rfl (fun c14 => ?_) (fun c14 => ?_)
    · replace h := gd_F c14 h
      exact gv_ret (by decide +kernel) rfl (by decide) (by decide) (gd_rE h)
    · replace h := gd_T c14 h
      refine gv_aload_n (n := 0) (pc' := 18) (by decide +kernel) rfl rfl ?_
      refine gv_getr lk_9_83 (by decide +kernel) rfl rfl (pc' := 21) rfl ?_
      refine gv_iload_n (n := 1) (pc' := 22) (by decide +kernel) rfl rfl ?_
      refine gv_iconst (n := 1) (v := 1) (pc' := 23) (by decide +kernel) (by decide) rfl ?_
      obtain ⟨g23, h⟩ := gd_gE h
      refine gd_zast (pc' := 24) (by decide +kernel) rfl (gd_inv g23) rfl h (fun s1 h => ?_)
      refine gv_aload_n (n := 0) (pc' := 25) (by decide +kernel) rfl rfl ?_
      refine gv_getr lk_9_80 (by decide +kernel) rfl rfl (pc' := 28) rfl ?_
      refine gv_aload_n (n := 0) (pc' := 29) (by decide +kernel) rfl rfl ?_
      refine gv_getj lk_9_235 (by decide +kernel) rfl rfl (pc' := 32) rfl ?_
      refine gv_iload_n (n := 1) (pc' := 33) (by decide +kernel) rfl rfl ?_
      obtain ⟨g33, h⟩ := gd_gE h
      refine gd_iast (pc' := 34) (by decide +kernel) rfl (gd_inv g33) rfl h (fun s2 h => ?_)
      refine gv_aload_n (n := 0) (pc' := 35) (by decide +kernel) rfl rfl ?_
      refine gv_dup (pc' := 36) (by decide +kernel) rfl rfl ?_
      refine gv_getj lk_9_235 (by decide +kernel) rfl rfl (pc' := 39) rfl ?_
      refine gv_iconst (n := 1) (v := 1) (pc' := 40) (by decide +kernel) (by decide) rfl ?_
      refine gv_iadd (pc' := 41) (by decide +kernel) rfl ?_
      refine gd_puti lp_9_235 (by decide +kernel) rfl rfl rfl rfl (pc' := 44) rfl h (fun s3 h => ?_)
      exact gv_ret (by decide +kernel) rfl (by decide) (by decide) (gd_rE h)
def F_M_goOn (a : Int32) (σ : gS) : gR :=
 gd_qi (R_M_kind a σ) σ fun r1 =>
 gd_j (α := gS → gR) (fun (s4 : gS) =>
  gd_j (α := gR) (
   gd_qi (R_M_target a s4) s4 fun r6 =>
   gd_0 (F_M_visit r6 s4) fun s7 =>
   some (.inl none, s7)) fun J5 =>
  if r1 = 5 then
   J5
  else
   if r1 = 6 then
    J5
   else
    some (.inl none, s4)) fun J2 =>
 if r1 = 6 then
  J2 σ
 else
  if r1 = 8 then
   J2 σ
  else
   gd_0 (F_M_visit (a + (1 : Int32)) σ) fun s3 =>
   J2 s3
set_option maxRecDepth 20000 in
theorem X_M_goOn (a : Int32) (σ : gS) (r0 : gQ × gS) (h : F_M_goOn a σ = some r0) : gv_K m_M_goOn [.ref 41, .int a] σ (gv_is r0.1 r0.2) := by
  unfold F_M_goOn at h
  show gv_V m_M_goOn 1 true 0 [some (.ref 41), some (.int a), none] [] σ (gv_is r0.1 r0.2)
  refine gv_aload_n (n := 0) (pc' := 1) (by decide +kernel) rfl rfl ?_
  refine gv_iload_n (n := 1) (pc' := 2) (by decide +kernel) rfl rfl ?_
  refine gd_dvi (w' := true) (pc' := 5) (X_M_kind _ _) h md_M_kind vd_M_kind (Or.inl ml_9_130) (by decide +kernel) (by decide) rfl rfl rfl (Nat.le_of_ble_eq_true rfl) (Nat.le_of_ble_eq_true rfl) (by decide) rfl (fun z => ⟨rfl, z⟩) (by decide) rfl (fun r1 h => ?_)
  refine gv_istore_n (n := 2) (pc' := 6) (by decide +kernel) (by decide) rfl ?_
  refine gv_iload_n (n := 2) (pc' := 7) (by decide +kernel) rfl rfl ?_
  refine gv_bipush (n := 6) (v := 6) (pc' := 9) (by decide +kernel) (by decide) rfl ?_
  refine gd_jC (fun J2 => ∀ (s4 : gS), J2 s4 = some r0 → gv_V m_M_goOn 1 false 25 [some (.ref 41), some (.int a), some (.int r1)] [] s4 (gv_is r0.1 r0.2)) h (fun s4 h => ?_) (fun J2 hJ2 h => ?_)
  · refine gv_iload_n (n := 2) (pc' := 26) (by decide +kernel) rfl rfl ?_
    refine gv_iconst (n := 5) (v := 5) (pc' := 27) (by decide +kernel) (by decide) rfl ?_
    refine gd_jC (fun J5 => J5 = some r0 → gv_V m_M_goOn 1 false 36 [some (.ref 41), some (.int a), none] [] s4 (gv_is r0.1 r0.2)) h (fun  h => ?_) (fun J5 hJ5 h => ?_)
    · refine gv_aload_n (n := 0) (pc' := 37) (by decide +kernel) rfl rfl ?_
      refine gv_aload_n (n := 0) (pc' := 38) (by decide +kernel) rfl rfl ?_
      refine gv_iload_n (n := 1) (pc' := 39) (by decide +kernel) rfl rfl ?_
      refine gd_dvi (w' := false) (pc' := 42) (X_M_target _ _) h md_M_target vd_M_target (Or.inl ml_9_133) (by decide +kernel) (by decide) rfl rfl rfl (Nat.le_of_ble_eq_true rfl) (Nat.le_of_ble_eq_true rfl) (by decide) rfl (fun z => by cases z) (by decide) rfl (fun r6 h => ?_)
      refine gd_cv0 (w' := false) (pc' := 45) (X_M_visit _ _) h md_M_visit vd_M_visit (Or.inl ml_9_238) (by decide +kernel) (by decide) rfl rfl rfl (Nat.le_of_ble_eq_true rfl) (Nat.le_of_ble_eq_true rfl) (by decide) rfl (fun z => by cases z) (by decide) rfl (fun s7 h => ?_)
      exact gv_ret (by decide +kernel) rfl (by decide) (by decide) (gd_rE h)
    · refine gv_icmp_eq (off := 9) (tgt := 36) (pc' := 30) (by decide +kernel) (by decide) rfl (fun c27 => ?_) (fun c27 => ?_)
      · replace h := gd_T c27 h
        exact gd_ar (gl_s (gl_s (gl_n gl_z))) (fun z => by cases z) (hJ5  h)
      · replace h := gd_F c27 h
        refine gv_iload_n (n := 2) (pc' := 31) (by decide +kernel) rfl rfl ?_
        refine gv_bipush (n := 6) (v := 6) (pc' := 33) (by decide +kernel) (by decide) rfl ?_
        refine gv_icmp_ne (off := 12) (tgt := 45) (pc' := 36) (by decide +kernel) (by decide) rfl (fun c33 => ?_) (fun c33 => ?_)
        · replace h := gd_F c33 h
          exact gv_ret (by decide +kernel) rfl (by decide) (by decide) (gd_rE h)
        · replace h := gd_T c33 h
          exact gd_ar (gl_s (gl_s (gl_n gl_z))) (fun z => by cases z) (hJ5  h)
  · refine gv_icmp_eq (off := 16) (tgt := 25) (pc' := 12) (by decide +kernel) (by decide) rfl (fun c9 => ?_) (fun c9 => ?_)
    · replace h := gd_T c9 h
      exact gd_ar (gl_s (gl_s (gl_s gl_z))) (fun z => by cases z) (hJ2 _ h)
    · replace h := gd_F c9 h
      refine gv_iload_n (n := 2) (pc' := 13) (by decide +kernel) rfl rfl ?_
      refine gv_bipush (n := 8) (v := 8) (pc' := 15) (by decide +kernel) (by decide) rfl ?_
      refine gv_icmp_eq (off := 10) (tgt := 25) (pc' := 18) (by decide +kernel) (by decide) rfl (fun c15 => ?_) (fun c15 => ?_)
      · replace h := gd_T c15 h
        exact gd_ar (gl_s (gl_s (gl_s gl_z))) (fun z => by cases z) (hJ2 _ h)
      · replace h := gd_F c15 h
        refine gv_aload_n (n := 0) (pc' := 19) (by decide +kernel) rfl rfl ?_
        refine gv_iload_n (n := 1) (pc' := 20) (by decide +kernel) rfl rfl ?_
        refine gv_iconst (n := 1) (v := 1) (pc' := 21) (by decide +kernel) (by decide) rfl ?_
        refine gv_iadd (pc' := 22) (by decide +kernel) rfl ?_
        refine gd_cv0 (w' := false) (pc' := 25) (X_M_visit _ _) h md_M_visit vd_M_visit (Or.inl ml_9_238) (by decide +kernel) (by decide) rfl rfl rfl (Nat.le_of_ble_eq_true rfl) (Nat.le_of_ble_eq_true rfl) (by decide) rfl (fun z => by cases z) (by decide) rfl (fun s3 h => ?_)
        exact gd_ar (gl_s (gl_s (gl_s gl_z))) (fun z => by cases z) (hJ2 _ h)
