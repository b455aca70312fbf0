def f_Lo_bitCount (a : Int64) : Int32 :=
 (Int64.toInt32 ((((((((a - (((Int64.toUInt64 a >>> ((Int32.toInt64 (1 : Int32)).toUInt64 &&& Int64.toUInt64 63)).toInt64) &&& (6148914691236517205 : Int64))) &&& (3689348814741910323 : Int64)) + (((Int64.toUInt64 (a - (((Int64.toUInt64 a >>> ((Int32.toInt64 (1 : Int32)).toUInt64 &&& Int64.toUInt64 63)).toInt64) &&& (6148914691236517205 : Int64))) >>> ((Int32.toInt64 (2 : Int32)).toUInt64 &&& Int64.toUInt64 63)).toInt64) &&& (3689348814741910323 : Int64))) + ((Int64.toUInt64 (((a - (((Int64.toUInt64 a >>> ((Int32.toInt64 (1 : Int32)).toUInt64 &&& Int64.toUInt64 63)).toInt64) &&& (6148914691236517205 : Int64))) &&& (3689348814741910323 : Int64)) + (((Int64.toUInt64 (a - (((Int64.toUInt64 a >>> ((Int32.toInt64 (1 : Int32)).toUInt64 &&& Int64.toUInt64 63)).toInt64) &&& (6148914691236517205 : Int64))) >>> ((Int32.toInt64 (2 : Int32)).toUInt64 &&& Int64.toUInt64 63)).toInt64) &&& (3689348814741910323 : Int64))) >>> ((Int32.toInt64 (4 : Int32)).toUInt64 &&& Int64.toUInt64 63)).toInt64)) &&& (1085102592571150095 : Int64)) + ((Int64.toUInt64 (((((a - (((Int64.toUInt64 a >>> ((Int32.toInt64 (1 : Int32)).toUInt64 &&& Int64.toUInt64 63)).toInt64) &&& (6148914691236517205 : Int64))) &&& (3689348814741910323 : Int64)) + (((Int64.toUInt64 (a - (((Int64.toUInt64 a >>> ((Int32.toInt64 (1 : Int32)).toUInt64 &&& Int64.toUInt64 63)).toInt64) &&& (6148914691236517205 : Int64))) >>> ((Int32.toInt64 (2 : Int32)).toUInt64 &&& Int64.toUInt64 63)).toInt64) &&& (3689348814741910323 : Int64))) + ((Int64.toUInt64 (((a - (((Int64.toUInt64 a >>> ((Int32.toInt64 (1 : Int32)).toUInt64 &&& Int64.toUInt64 63)).toInt64) &&& (6148914691236517205 : Int64))) &&& (3689348814741910323 : Int64)) + (((Int64.toUInt64 (a - (((Int64.toUInt64 a >>> ((Int32.toInt64 (1 : Int32)).toUInt64 &&& Int64.toUInt64 63)).toInt64) &&& (6148914691236517205 : Int64))) >>> ((Int32.toInt64 (2 : Int32)).toUInt64 &&& Int64.toUInt64 63)).toInt64) &&& (3689348814741910323 : Int64))) >>> ((Int32.toInt64 (4 : Int32)).toUInt64 &&& Int64.toUInt64 63)).toInt64)) &&& (1085102592571150095 : Int64)) >>> ((Int32.toInt64 (8 : Int32)).toUInt64 &&& Int64.toUInt64 63)).toInt64)) + ((Int64.toUInt64 ((((((a - (((Int64.toUInt64 a >>> ((Int32.toInt64 (1 : Int32)).toUInt64 &&& Int64.toUInt64 63)).toInt64) &&& (6148914691236517205 : Int64))) &&& (3689348814741910323 : Int64)) + (((Int64.toUInt64 (a - (((Int64.toUInt64 a >>> ((Int32.toInt64 (1 : Int32)).toUInt64 &&& Int64.toUInt64 63)).toInt64) &&& (6148914691236517205 : Int64))) >>> ((Int32.toInt64 (2 : Int32)).toUInt64 &&& Int64.toUInt64 63)).toInt64) &&& (3689348814741910323 : Int64))) + ((Int64.toUInt64 (((a - (((Int64.toUInt64 a >>> ((Int32.toInt64 (1 : Int32)).toUInt64 &&& Int64.toUInt64 63)).toInt64) &&& (6148914691236517205 : Int64))) &&& (3689348814741910323 : Int64)) + (((Int64.toUInt64 (a - (((Int64.toUInt64 a >>> ((Int32.toInt64 (1 : Int32)).toUInt64 &&& Int64.toUInt64 63)).toInt64) &&& (6148914691236517205 : Int64))) >>> ((Int32.toInt64 (2 : Int32)).toUInt64 &&& Int64.toUInt64 63)).toInt64) &&& (3689348814741910323 : Int64))) >>> ((Int32.toInt64 (4 : Int32)).toUInt64 &&& Int64.toUInt64 63)).toInt64)) &&& (1085102592571150095 : Int64)) + ((Int64.toUInt64 (((((a - (((Int64.toUInt64 a >>> ((Int32.toInt64 (1 : Int32)).toUInt64 &&& Int64.toUInt64 63)).toInt64) &&& (6148914691236517205 : Int64))) &&& (3689348814741910323 : Int64)) + (((Int64.toUInt64 (a - (((Int64.toUInt64 a >>> ((Int32.toInt64 (1 : Int32)).toUInt64 &&& Int64.toUInt64 63)).toInt64) &&& (6148914691236517205 : Int64))) >>> ((Int32.toInt64 (2 : Int32)).toUInt64 &&& Int64.toUInt64 63)).toInt64) &&& (3689348814741910323 : Int64))) + ((Int64.toUInt64 (((a - (((Int64.toUInt64 a >>> ((Int32.toInt64 (1 : Int32)).toUInt64 &&& Int64.toUInt64 63)).toInt64) &&& (6148914691236517205 : Int64))) &&& (3689348814741910323 : Int64)) + (((Int64.toUInt64 (a - (((Int64.toUInt64 a >>> ((Int32.toInt64 (1 : Int32)).toUInt64 &&& Int64.toUInt64 63)).toInt64) &&& (6148914691236517205 : Int64))) >>> ((Int32.toInt64 (2 : Int32)).toUInt64 &&& Int64.toUInt64 63)).toInt64) &&& (3689348814741910323 : Int64))) >>> ((Int32.toInt64 (4 : Int32)).toUInt64 &&& Int64.toUInt64 63)).toInt64)) &&& (1085102592571150095 : Int64)) >>> ((Int32.toInt64 (8 : Int32)).toUInt64 &&& Int64.toUInt64 63)).toInt64)) >>> ((Int32.toInt64 (16 : Int32)).toUInt64 &&& Int64.toUInt64 63)).toInt64)) + ((Int64.toUInt64 (((((((a - (((Int64.toUInt64 a >>> ((Int32.toInt64 (1 : Int32)).toUInt64 &&& Int64.toUInt64 63)).toInt64) &&& (6148914691236517205 : Int64))) &&& (3689348814741910323 : Int64)) + (((Int64.toUInt64 (a - (((Int64.toUInt64 a >>> ((Int32.toInt64 (1 : Int32)).toUInt64 &&& Int64.toUInt64 63)).toInt64) &&& (6148914691236517205 : Int64))) >>> ((Int32.toInt64 (2 : Int32)).toUInt64 &&& Int64.toUInt64 63)).toInt64) &&& (3689348814741910323 : Int64))) + ((Int64.toUInt64 (((a - (((Int64.toUInt64 a >>> ((Int32.toInt64 (1 : Int32)).toUInt64 &&& Int64.toUInt64 63)).toInt64) &&& (6148914691236517205 : Int64))) &&& (3689348814741910323 : Int64)) + (((Int64.toUInt64 (a - (((Int64.toUInt64 a >>> ((Int32.toInt64 (1 : Int32)).toUInt64 &&& Int64.toUInt64 63)).toInt64) &&& (6148914691236517205 : Int64))) >>> ((Int32.toInt64 (2 : Int32)).toUInt64 &&& Int64.toUInt64 63)).toInt64) &&& (3689348814741910323 : Int64))) >>> ((Int32.toInt64 (4 : Int32)).toUInt64 &&& Int64.toUInt64 63)).toInt64)) &&& (1085102592571150095 : Int64)) + ((Int64.toUInt64 (((((a - (((Int64.toUInt64 a >>> ((Int32.toInt64 (1 : Int32)).toUInt64 &&& Int64.toUInt64 63)).toInt64) &&& (6148914691236517205 : Int64))) &&& (3689348814741910323 : Int64)) + (((Int64.toUInt64 (a - (((Int64.toUInt64 a >>> ((Int32.toInt64 (1 : Int32)).toUInt64 &&& Int64.toUInt64 63)).toInt64) &&& (6148914691236517205 : Int64))) >>> ((Int32.toInt64 (2 : Int32)).toUInt64 &&& Int64.toUInt64 63)).toInt64) &&& (3689348814741910323 : Int64))) + ((Int64.toUInt64 (((a - (((Int64.toUInt64 a >>> ((Int32.toInt64 (1 : Int32)).toUInt64 &&& Int64.toUInt64 63)).toInt64) &&& (6148914691236517205 : Int64))) &&& (3689348814741910323 : Int64)) + (((Int64.toUInt64 (a - (((Int64.toUInt64 a >>> ((Int32.toInt64 (1 : Int32)).toUInt64 &&& Int64.toUInt64 63)).toInt64) &&& (6148914691236517205 : Int64))) >>> ((Int32.toInt64 (2 : Int32)).toUInt64 &&& Int64.toUInt64 63)).toInt64) &&& (3689348814741910323 : Int64))) >>> ((Int32.toInt64 (4 : Int32)).toUInt64 &&& Int64.toUInt64 63)).toInt64)) &&& (1085102592571150095 : Int64)) >>> ((Int32.toInt64 (8 : Int32)).toUInt64 &&& Int64.toUInt64 63)).toInt64)) + ((Int64.toUInt64 ((((((a - (((Int64.toUInt64 a >>> ((Int32.toInt64 (1 : Int32)).toUInt64 &&& Int64.toUInt64 63)).toInt64) &&& (6148914691236517205 : Int64))) &&& (3689348814741910323 : Int64)) + (((Int64.toUInt64 (a - (((Int64.toUInt64 a >>> ((Int32.toInt64 (1 : Int32)).toUInt64 &&& Int64.toUInt64 63)).toInt64) &&& (6148914691236517205 : Int64))) >>> ((Int32.toInt64 (2 : Int32)).toUInt64 &&& Int64.toUInt64 63)).toInt64) &&& (3689348814741910323 : Int64))) + ((Int64.toUInt64 (((a - (((Int64.toUInt64 a >>> ((Int32.toInt64 (1 : Int32)).toUInt64 &&& Int64.toUInt64 63)).toInt64) &&& (6148914691236517205 : Int64))) &&& (3689348814741910323 : Int64)) + (((Int64.toUInt64 (a - (((Int64.toUInt64 a >>> ((Int32.toInt64 (1 : Int32)).toUInt64 &&& Int64.toUInt64 63)).toInt64) &&& (6148914691236517205 : Int64))) >>> ((Int32.toInt64 (2 : Int32)).toUInt64 &&& Int64.toUInt64 63)).toInt64) &&& (3689348814741910323 : Int64))) >>> ((Int32.toInt64 (4 : Int32)).toUInt64 &&& Int64.toUInt64 63)).toInt64)) &&& (1085102592571150095 : Int64)) + ((Int64.toUInt64 (((((a - (((Int64.toUInt64 a >>> ((Int32.toInt64 (1 : Int32)).toUInt64 &&& Int64.toUInt64 63)).toInt64) &&& (6148914691236517205 : Int64))) &&& (3689348814741910323 : Int64)) + (((Int64.toUInt64 (a - (((Int64.toUInt64 a >>> ((Int32.toInt64 (1 : Int32)).toUInt64 &&& Int64.toUInt64 63)).toInt64) &&& (6148914691236517205 : Int64))) >>> ((Int32.toInt64 (2 : Int32)).toUInt64 &&& Int64.toUInt64 63)).toInt64) &&& (3689348814741910323 : Int64))) + ((Int64.toUInt64 (((a - (((Int64.toUInt64 a >>> ((Int32.toInt64 (1 : Int32)).toUInt64 &&& Int64.toUInt64 63)).toInt64) &&& (6148914691236517205 : Int64))) &&& (3689348814741910323 : Int64)) + (((Int64.toUInt64 (a - (((Int64.toUInt64 a >>> ((Int32.toInt64 (1 : Int32)).toUInt64 &&& Int64.toUInt64 63)).toInt64) &&& (6148914691236517205 : Int64))) >>> ((Int32.toInt64 (2 : Int32)).toUInt64 &&& Int64.toUInt64 63)).toInt64) &&& (3689348814741910323 : Int64))) >>> ((Int32.toInt64 (4 : Int32)).toUInt64 &&& Int64.toUInt64 63)).toInt64)) &&& (1085102592571150095 : Int64)) >>> ((Int32.toInt64 (8 : Int32)).toUInt64 &&& Int64.toUInt64 63)).toInt64)) >>> ((Int32.toInt64 (16 : Int32)).toUInt64 &&& Int64.toUInt64 63)).toInt64)) >>> ((Int32.toInt64 (32 : Int32)).toUInt64 &&& Int64.toUInt64 63)).toInt64))) &&& (127 : Int32)
set_option maxRecDepth 20000 in
theorem y_Lo_bitCount (a : Int64) (σ : gS) : gv_K m_Lo_bitCount [.long a] σ (gv_is (.inl (some (.int (f_Lo_bitCount a)))) σ) := by
  generalize h : f_Lo_bitCount a = r0
  unfold f_Lo_bitCount at h
  show gv_V m_Lo_bitCount 1 true 0 [some (.long a), none] [] σ (gv_is (.inl (some (.int r0))) σ)
  refine gv_lload_n (n := 0) (pc' := 1) (by decide +kernel) rfl rfl ?_
  refine gv_lload_n (n := 0) (pc' := 2) (by decide +kernel) rfl rfl ?_
  refine gv_iconst (n := 1) (v := 1) (pc' := 3) (by decide +kernel) (by decide) rfl ?_
  refine gv_lushr (pc' := 4) (by decide +kernel) rfl ?_
  refine gv_ldc2 (v := 6148914691236517205) (pc' := 7) (by decide +kernel) cn_14_314 rfl ?_
  refine gv_land (pc' := 8) (by decide +kernel) rfl ?_
  refine gv_lsub (pc' := 9) (by decide +kernel) rfl ?_
  refine gv_lstore_n (n := 0) (pc' := 10) (by decide +kernel) (by decide) rfl ?_
  refine gv_lload_n (n := 0) (pc' := 11) (by decide +kernel) rfl rfl ?_
  refine gv_ldc2 (v := 3689348814741910323) (pc' := 14) (by decide +kernel) cn_14_316 rfl ?_
  refine gv_land (pc' := 15) (by decide +kernel) rfl ?_
  refine gv_lload_n (n := 0) (pc' := 16) (by decide +kernel) rfl rfl ?_
  refine gv_iconst (n := 2) (v := 2) (pc' := 17) (by decide +kernel) (by decide) rfl ?_
  refine gv_lushr (pc' := 18) (by decide +kernel) rfl ?_
  refine gv_ldc2 (v := 3689348814741910323) (pc' := 21) (by decide +kernel) cn_14_316 rfl ?_
  refine gv_land (pc' := 22) (by decide +kernel) rfl ?_
  refine gv_ladd (pc' := 23) (by decide +kernel) rfl ?_
  refine gv_lstore_n (n := 0) (pc' := 24) (by decide +kernel) (by decide) rfl ?_
  refine gv_lload_n (n := 0) (pc' := 25) (by decide +kernel) rfl rfl ?_
  refine gv_lload_n (n := 0) (pc' := 26) (by decide +kernel) rfl rfl ?_
  refine gv_iconst (n := 4) (v := 4) (pc' := 27) (by decide +kernel) (by decide) rfl ?_
  refine gv_lushr (pc' := 28) (by decide +kernel) rfl ?_
  refine gv_ladd (pc' := 29) (by decide +kernel) rfl ?_
  refine gv_ldc2 (v := 1085102592571150095) (pc' := 32) (by decide +kernel) cn_14_318 rfl ?_
  refine gv_land (pc' := 33) (by decide +kernel) rfl ?_
  refine gv_lstore_n (n := 0) (pc' := 34) (by decide +kernel) (by decide) rfl ?_
  refine gv_lload_n (n := 0) (pc' := 35) (by decide +kernel) rfl rfl ?_
  refine gv_lload_n (n := 0) (pc' := 36) (by decide +kernel) rfl rfl ?_
  refine gv_bipush (n := 8) (v := 8) (pc' := 38) (by decide +kernel) (by decide) rfl ?_
  refine gv_lushr (pc' := 39) (by decide +kernel) rfl ?_
  refine gv_ladd (pc' := 40) (by decide +kernel) rfl ?_
  refine gv_lstore_n (n := 0) (pc' := 41) (by decide +kernel) (by decide) rfl ?_
  refine gv_lload_n (n := 0) (pc' := 42) (by decide +kernel) rfl rfl ?_
  refine gv_lload_n (n := 0) (pc' := 43) (by decide +kernel) rfl rfl ?_
  refine gv_bipush (n := 16) (v := 16) (pc' := 45) (by decide +kernel) (by decide) rfl ?_
  refine gv_lushr (pc' := 46) (by decide +kernel) rfl ?_
  refine gv_ladd (pc' := 47) (by decide +kernel) rfl ?_
  refine gv_lstore_n (n := 0) (pc' := 48) (by decide +kernel) (by decide) rfl ?_
  refine gv_lload_n (n := 0) (pc' := 49) (by decide +kernel) rfl rfl ?_
  refine gv_lload_n (n := 0) (pc' := 50) (by decide +kernel) rfl rfl ?_
  refine gv_bipush (n := 32) (v := 32) (pc' := 52) (by decide +kernel) (by decide) rfl ?_
  refine gv_lushr (pc' := 53) (by decide +kernel) rfl ?_
  refine gv_ladd (pc' := 54) (by decide +kernel) rfl ?_
  refine gv_lstore_n (n := 0) (pc' := 55) (by decide +kernel) (by decide) rfl ?_
  refine gv_lload_n (n := 0) (pc' := 56) (by decide +kernel) rfl rfl ?_
  refine gv_l2i (pc' := 57) (by decide +kernel) rfl ?_
  refine gv_bipush (n := 127) (v := 127) (pc' := 59) (by decide +kernel) (by decide) rfl ?_
  refine gv_iand (pc' := 60) (by decide +kernel) rfl ?_
  exact gv_iret .int (by decide +kernel) rfl rfl (by decide) (by decide) (gd_vE h)
def B_Reach_nextAmong_31_3 (k4 : Int32 → Int64 → gP) (k5 : gP) (σ : gS) (x_2_1 : Int32) (ag3 : Int32 → gP) (n_4_2 : Int32) : gP :=
 if (gI σ 2 7) ≤ n_4_2 then
  k5
 else
  gd_g (gd_in ((x_2_1 * (17 : Int32)) + (n_4_2 >>> ((6 : Int32) &&& 31))) 17680) <|
  gd_g (gd_in (n_4_2 >>> ((6 : Int32) &&& 31)) 17) <|
  if (lg_cmp ((Int64.toUInt64 ((gL σ 22 ((x_2_1 * (17 : Int32)) + (n_4_2 >>> ((6 : Int32) &&& 31))).toNatClampNeg) &&& (gL σ 31 (n_4_2 >>> ((6 : Int32) &&& 31)).toNatClampNeg)) >>> ((Int32.toInt64 (n_4_2 &&& (63 : Int32))).toUInt64 &&& Int64.toUInt64 63)).toInt64) (0 : Int64)) = 0 then
   ag3 ((n_4_2 ||| (63 : Int32)) + (1 : Int32))
  else
   k4 n_4_2 ((Int64.toUInt64 ((gL σ 22 ((x_2_1 * (17 : Int32)) + (n_4_2 >>> ((6 : Int32) &&& 31))).toNatClampNeg) &&& (gL σ 31 (n_4_2 >>> ((6 : Int32) &&& 31)).toNatClampNeg)) >>> ((Int32.toInt64 (n_4_2 &&& (63 : Int32))).toUInt64 &&& Int64.toUInt64 63)).toInt64)
set_option maxRecDepth 20000 in
theorem L_Reach_nextAmong_31_3 (k4 : Int32 → Int64 → gP) (k5 : gP) (σ : gS) (x_2_1 : Int32) (r0 : gQ) (hk4 : ∀ (v6 : Int32) (v7 : Int64), k4 v6 v7 = some r0 → gv_V m_Reach_nextAmong 1 true 54 [none, none, none, none, some (.int v6), none, some (.long v7), none] [] σ (gv_is r0 σ)) (hk5 : k5 = some r0 → gv_V m_Reach_nextAmong 1 true 81 [some (.ref 21), none, none, none, none, none, none, none] [] σ (gv_is r0 σ)) (n : Nat) : ∀ (n_4_2 : Int32), gd_lp (fun _ => none) (B_Reach_nextAmong_31_3 k4 k5 σ x_2_1) n n_4_2 = some r0 → gv_V m_Reach_nextAmong 1 true 3 [some (.ref 21), some (.ref 31), some (.int x_2_1), none, some (.int n_4_2), none, none, none] [] σ (gv_is r0 σ) := by
  refine gd_lpC (fun (ag3 : Int32 → gP) => ∀ (n_4_2 : Int32), ag3 n_4_2 = some r0 → gv_V m_Reach_nextAmong 1 true 3 [some (.ref 21), some (.ref 31), some (.int x_2_1), none, some (.int n_4_2), none, none, none] [] σ (gv_is r0 σ)) (fun n_4_2 h => by cases h) (fun ag3 ih n_4_2 h => ?_) n
  unfold B_Reach_nextAmong_31_3 at h
  refine gv_iload (n := 4) (pc' := 5) (by decide +kernel) rfl rfl ?_
  refine gv_aload_n (n := 0) (pc' := 6) (by decide +kernel) rfl rfl ?_
  refine gv_getr lk_5_29 (by decide +kernel) rfl rfl (pc' := 9) rfl ?_
  refine gv_getj lk_5_71 (by decide +kernel) rfl rfl (pc' := 12) rfl ?_
  refine gv_icmp_ge (off := 69) (tgt := 81) (pc' := 15) (by decide +kernel) (by decide) rfl (fun c12 => ?_) (fun c12 => ?_)
  · replace h := gd_T c12 h
    exact gd_ar (gl_s (gl_n (gl_n (gl_n (gl_n (gl_n (gl_n (gl_n gl_z)))))))) (fun _ => rfl) (hk5  h)
  · replace h := gd_F c12 h
    refine gv_iload (n := 4) (pc' := 17) (by decide +kernel) rfl rfl ?_
    refine gv_bipush (n := 6) (v := 6) (pc' := 19) (by decide +kernel) (by decide) rfl ?_
    refine gv_ishr (pc' := 20) (by decide +kernel) rfl ?_
    refine gv_istore (n := 5) (pc' := 22) (by decide +kernel) (by decide) rfl ?_
    refine gv_aload_n (n := 0) (pc' := 23) (by decide +kernel) rfl rfl ?_
    refine gv_getr lk_5_9 (by decide +kernel) rfl rfl (pc' := 26) rfl ?_
    refine gv_iload_n (n := 2) (pc' := 27) (by decide +kernel) rfl rfl ?_
    refine gv_bipush (n := 17) (v := 17) (pc' := 29) (by decide +kernel) (by decide) rfl ?_
    refine gv_imul (pc' := 30) (by decide +kernel) rfl ?_
    refine gv_iload (n := 5) (pc' := 32) (by decide +kernel) rfl rfl ?_
    refine gv_iadd (pc' := 33) (by decide +kernel) rfl ?_
    obtain ⟨g33, h⟩ := gd_gE h
    refine gj_lald _ (pc' := 34) (by decide +kernel) rfl (gd_inv g33) rfl rfl ?_
    refine gv_aload_n (n := 1) (pc' := 35) (by decide +kernel) rfl rfl ?_
    refine gv_iload (n := 5) (pc' := 37) (by decide +kernel) rfl rfl ?_
    obtain ⟨g37, h⟩ := gd_gE h
    refine gj_lald _ (pc' := 38) (by decide +kernel) rfl (gd_inv g37) rfl rfl ?_
    refine gv_land (pc' := 39) (by decide +kernel) rfl ?_
    refine gv_iload (n := 4) (pc' := 41) (by decide +kernel) rfl rfl ?_
    refine gv_bipush (n := 63) (v := 63) (pc' := 43) (by decide +kernel) (by decide) rfl ?_
    refine gv_iand (pc' := 44) (by decide +kernel) rfl ?_
    refine gv_lushr (pc' := 45) (by decide +kernel) rfl ?_
    refine gv_lstore (n := 6) (pc' := 47) (by decide +kernel) (by decide) rfl ?_
    refine gv_lload (n := 6) (pc' := 49) (by decide +kernel) rfl rfl ?_
    refine gv_lconst (n := 0) (v := 0) (pc' := 50) (by decide +kernel) (by decide) rfl ?_
    refine gv_lcmp (pc' := 51) (by decide +kernel) rfl ?_
    refine gv_if_eq (off := 18) (tgt := 69) (pc' := 54) (by decide +kernel) (by decide) rfl (fun c51 => ?_) (fun c51 => ?_)
    · replace h := gd_T c51 h
      refine gv_iload (n := 4) (pc' := 71) (by decide +kernel) rfl rfl ?_
      refine gv_bipush (n := 63) (v := 63) (pc' := 73) (by decide +kernel) (by decide) rfl ?_
      refine gv_ior (pc' := 74) (by decide +kernel) rfl ?_
      refine gv_iconst (n := 1) (v := 1) (pc' := 75) (by decide +kernel) (by decide) rfl ?_
      refine gv_iadd (pc' := 76) (by decide +kernel) rfl ?_
      refine gv_istore (n := 4) (pc' := 78) (by decide +kernel) (by decide) rfl ?_
      refine gv_goto (off := -75) (tgt := 3) (by decide +kernel) (by decide) ?_
      exact gd_ar (gl_s (gl_s (gl_s (gl_n (gl_s (gl_n (gl_n (gl_n gl_z)))))))) (fun _ => rfl) (ih _ h)
    · replace h := gd_F c51 h
      exact gd_ar (gl_n (gl_n (gl_n (gl_n (gl_s (gl_n (gl_s (gl_n gl_z)))))))) (fun _ => rfl) (hk4 _ _ h)
def R_Reach_nextAmong_31 (a : Int32) (b : Int32) (σ : gS) : gP :=
 gd_j (α := Int32 → Int64 → gP) (fun (v6 : Int32) (v7 : Int64) =>
  some (.inl (some (.int (v6 + (f_Lo_bitCount ((v7 &&& (-v7)) - (1 : Int64)))))))) fun k4 =>
 gd_j (α := gP) (
  some (.inl (some (.int (gI σ 2 7))))) fun k5 =>
 gd_lp (fun _ => none) (B_Reach_nextAmong_31_3 k4 k5 σ a) gd_N b
set_option maxRecDepth 20000 in
theorem X_Reach_nextAmong_31 (a : Int32) (b : Int32) (σ : gS) (r0 : gQ) (h : R_Reach_nextAmong_31 a b σ = some r0) : gv_K m_Reach_nextAmong [.ref 21, .ref 31, .int a, .int b] σ (gv_is r0 σ) := by
  unfold R_Reach_nextAmong_31 at h
  show gv_V m_Reach_nextAmong 1 true 0 [some (.ref 21), some (.ref 31), some (.int a), some (.int b), none, none, none, none] [] σ (gv_is r0 σ)
  refine gv_iload_n (n := 3) (pc' := 1) (by decide +kernel) rfl rfl ?_
  refine gv_istore (n := 4) (pc' := 3) (by decide +kernel) (by decide) rfl ?_
  refine gd_jC (fun k4 => ∀ (v6 : Int32) (v7 : Int64), k4 v6 v7 = some r0 → gv_V m_Reach_nextAmong 1 true 54 [none, none, none, none, some (.int v6), none, some (.long v7), none] [] σ (gv_is r0 σ)) h (fun v6 v7 h => ?_) (fun k4 hk4 h => ?_)
  · refine gv_iload (n := 4) (pc' := 56) (by decide +kernel) rfl rfl ?_
    refine gv_lload (n := 6) (pc' := 58) (by decide +kernel) rfl rfl ?_
    refine gv_lload (n := 6) (pc' := 60) (by decide +kernel) rfl rfl ?_
    refine gv_lneg (pc' := 61) (by decide +kernel) rfl ?_
    refine gv_land (pc' := 62) (by decide +kernel) rfl ?_
    refine gv_lconst (n := 1) (v := 1) (pc' := 63) (by decide +kernel) (by decide) rfl ?_
    refine gv_lsub (pc' := 64) (by decide +kernel) rfl ?_
    refine gv_csi (w' := true) (pc' := 67) (y_Lo_bitCount _ _) md_Lo_bitCount sd_Lo_bitCount (Or.inl ml_5_74) (by decide +kernel) (by decide) rfl (Nat.le_of_ble_eq_true rfl) (Nat.le_of_ble_eq_true rfl) (by decide) rfl (fun z => ⟨rfl, z⟩) (by decide) rfl ?_
    refine gv_iadd (pc' := 68) (by decide +kernel) rfl ?_
    exact gv_iret .int (by decide +kernel) rfl rfl (by decide) (by decide) (gd_pE h)
  refine gd_jC (fun k5 => k5 = some r0 → gv_V m_Reach_nextAmong 1 true 81 [some (.ref 21), none, none, none, none, none, none, none] [] σ (gv_is r0 σ)) h (fun  h => ?_) (fun k5 hk5 h => ?_)
  · refine gv_aload_n (n := 0) (pc' := 82) (by decide +kernel) rfl rfl ?_
    refine gv_getr lk_5_29 (by decide +kernel) rfl rfl (pc' := 85) rfl ?_
    refine gv_getj lk_5_71 (by decide +kernel) rfl rfl (pc' := 88) rfl ?_
    exact gv_iret .int (by decide +kernel) rfl rfl (by decide) (by decide) (gd_pE h)
  exact gd_ar (gl_s (gl_s (gl_s (gl_n (gl_s (gl_n (gl_n (gl_n gl_z)))))))) (fun _ => rfl) (L_Reach_nextAmong_31_3 _ _ _ _ r0 hk4 hk5 _ _ h)
def B_Taint_passOn_22 (x_1_3 : Int32) (ag6 : Int32 → gS → gR) (n_2_4 : Int32) (s5 : gS) : gR :=
 if (gI s5 2 7) ≤ n_2_4 then
  some (.inl none, s5)
 else
  gd_g (gd_in (n_2_4 >>> ((6 : Int32) &&& 31)) 17) <|
  gd_g (gd_in (n_2_4 >>> ((6 : Int32) &&& 31)) 17) <|
  gd_s (gs_L s5 31 (n_2_4 >>> ((6 : Int32) &&& 31)).toNatClampNeg ((gL s5 31 (n_2_4 >>> ((6 : Int32) &&& 31)).toNatClampNeg) &&& (((1 : Int64) <<< (Int32.toInt64 (n_2_4 &&& (63 : Int32)) &&& 63)) ^^^ (-1 : Int64)))) fun s7 =>
  gd_0 (F_Taint_addResult n_2_4 s7) fun s8 =>
  gd_qi (R_Reach_nextAmong_31 x_1_3 (n_2_4 + (1 : Int32)) s8) s8 fun r9 =>
  ag6 r9 s8
set_option maxRecDepth 20000 in
theorem L_Taint_passOn_22 (x_1_3 : Int32) (r0 : gQ × gS) (n : Nat) : ∀ (n_2_4 : Int32) (s5 : gS), gd_lp (fun _ _ => none) (B_Taint_passOn_22 x_1_3) n n_2_4 s5 = some r0 → gv_V m_Taint_passOn 1 false 22 [some (.ref 26), some (.int x_1_3), some (.int n_2_4)] [] s5 (gv_is r0.1 r0.2) := by
  refine gd_lpC (fun (ag6 : Int32 → gS → gR) => ∀ (n_2_4 : Int32) (s5 : gS), ag6 n_2_4 s5 = some r0 → gv_V m_Taint_passOn 1 false 22 [some (.ref 26), some (.int x_1_3), some (.int n_2_4)] [] s5 (gv_is r0.1 r0.2)) (fun n_2_4 s5 h => by cases h) (fun ag6 ih n_2_4 s5 h => ?_) n
  unfold B_Taint_passOn_22 at h
  refine gv_iload_n (n := 2) (pc' := 23) (by decide +kernel) rfl rfl ?_
  refine gv_aload_n (n := 0) (pc' := 24) (by decide +kernel) rfl rfl ?_
  refine gv_getr lk_6_42 (by decide +kernel) rfl rfl (pc' := 27) rfl ?_
  refine gv_getj lk_6_56 (by decide +kernel) rfl rfl (pc' := 30) rfl ?_
  refine gv_icmp_ge (off := 49) (tgt := 79) (pc' := 33) (by decide +kernel) (by decide) rfl (fun c30 => ?_) (fun c30 => ?_)
  · replace h := gd_T c30 h
    exact gv_ret (by decide +kernel) rfl (by decide) (by decide) (gd_rE h)
  · replace h := gd_F c30 h
    refine gv_aload_n (n := 0) (pc' := 34) (by decide +kernel) rfl rfl ?_
    refine gv_getr lk_6_25 (by decide +kernel) rfl rfl (pc' := 37) rfl ?_
    refine gv_iload_n (n := 2) (pc' := 38) (by decide +kernel) rfl rfl ?_
    refine gv_bipush (n := 6) (v := 6) (pc' := 40) (by decide +kernel) (by decide) rfl ?_
    refine gv_ishr (pc' := 41) (by decide +kernel) rfl ?_
    refine gv_dup2_11 (pc' := 42) (by decide +kernel) rfl rfl rfl ?_
    obtain ⟨g42, h⟩ := gd_gE h
    refine gj_lald _ (pc' := 43) (by decide +kernel) rfl (gd_inv g42) rfl rfl ?_
    refine gv_lconst (n := 1) (v := 1) (pc' := 44) (by decide +kernel) (by decide) rfl ?_
    refine gv_iload_n (n := 2) (pc' := 45) (by decide +kernel) rfl rfl ?_
    refine gv_bipush (n := 63) (v := 63) (pc' := 47) (by decide +kernel) (by decide) rfl ?_
    refine gv_iand (pc' := 48) (by decide +kernel) rfl ?_
    refine gv_lshl (pc' := 49) (by decide +kernel) rfl ?_
    refine gv_ldc2 (v := (-1)) (pc' := 52) (by decide +kernel) cn_6_115 rfl ?_
    refine gv_lxor (pc' := 53) (by decide +kernel) rfl ?_
    refine gv_land (pc' := 54) (by decide +kernel) rfl ?_
    obtain ⟨g54, h⟩ := gd_gE h
    refine gd_last (pc' := 55) (by decide +kernel) rfl (gd_inv g54) rfl h (fun s7 h => ?_)
    refine gv_aload_n (n := 0) (pc' := 56) (by decide +kernel) rfl rfl ?_
    refine gv_iload_n (n := 2) (pc' := 57) (by decide +kernel) rfl rfl ?_
    refine gd_cv0 (w' := false) (pc' := 60) (X_Taint_addResult _ _) h md_Taint_addResult vd_Taint_addResult (Or.inl ml_6_67) (by decide +kernel) (by decide) rfl rfl rfl (Nat.le_of_ble_eq_true rfl) (Nat.le_of_ble_eq_true rfl) (by decide) rfl (fun z => by cases z) (by decide) rfl (fun s8 h => ?_)
    refine gv_aload_n (n := 0) (pc' := 61) (by decide +kernel) rfl rfl ?_
    refine gv_getr lk_6_46 (by decide +kernel) rfl rfl (pc' := 64) rfl ?_
    refine gv_aload_n (n := 0) (pc' := 65) (by decide +kernel) rfl rfl ?_
    refine gv_getr lk_6_25 (by decide +kernel) rfl rfl (pc' := 68) rfl ?_
    refine gv_iload_n (n := 1) (pc' := 69) (by decide +kernel) rfl rfl ?_
    refine gv_iload_n (n := 2) (pc' := 70) (by decide +kernel) rfl rfl ?_
    refine gv_iconst (n := 1) (v := 1) (pc' := 71) (by decide +kernel) (by decide) rfl ?_
    refine gv_iadd (pc' := 72) (by decide +kernel) rfl ?_
    refine gd_dvi (w' := false) (pc' := 75) (X_Reach_nextAmong_31 _ _ _) h md_Reach_nextAmong vd_Reach_nextAmong (Or.inl ml_6_111) (by decide +kernel) (by decide) rfl rfl rfl (Nat.le_of_ble_eq_true rfl) (Nat.le_of_ble_eq_true rfl) (by decide) rfl (fun z => by cases z) (by decide) rfl (fun r9 h => ?_)
    refine gv_istore_n (n := 2) (pc' := 76) (by decide +kernel) (by decide) rfl ?_
    refine gv_goto (off := -54) (tgt := 22) (by decide +kernel) (by decide) ?_
    exact gd_ar (gl_s (gl_s (gl_s gl_z))) (fun z => by cases z) (ih _ _ h)
def F_Taint_passOn (a : Int32) (σ : gS) : gR :=
 gd_0 (F_Reach_trace a σ) fun s1 =>
 gd_qi (R_Reach_nextAmong_31 a 0 s1) s1 fun r2 =>
 gd_lp (fun _ _ => none) (B_Taint_passOn_22 a) gd_N r2 s1
set_option maxRecDepth 20000 in
theorem X_Taint_passOn (a : Int32) (σ : gS) (r0 : gQ × gS) (h : F_Taint_passOn a σ = some r0) : gv_K m_Taint_passOn [.ref 26, .int a] σ (gv_is r0.1 r0.2) := by
  unfold F_Taint_passOn at h
  show gv_V m_Taint_passOn 1 true 0 [some (.ref 26), some (.int a), none] [] σ (gv_is r0.1 r0.2)
  refine gv_aload_n (n := 0) (pc' := 1) (by decide +kernel) rfl rfl ?_
  refine gv_getr lk_6_46 (by decide +kernel) rfl rfl (pc' := 4) rfl ?_
  refine gv_iload_n (n := 1) (pc' := 5) (by decide +kernel) rfl rfl ?_
  refine gd_cv0 (w' := false) (pc' := 8) (X_Reach_trace _ _) h md_Reach_trace vd_Reach_trace (Or.inl ml_6_106) (by decide +kernel) (by decide) rfl rfl rfl (Nat.le_of_ble_eq_true rfl) (Nat.le_of_ble_eq_true rfl) (by decide) rfl (fun z => by cases z) (by decide) rfl (fun s1 h => ?_)
  refine gv_aload_n (n := 0) (pc' := 9) (by decide +kernel) rfl rfl ?_
  refine gv_getr lk_6_46 (by decide +kernel) rfl rfl (pc' := 12) rfl ?_
  refine gv_aload_n (n := 0) (pc' := 13) (by decide +kernel) rfl rfl ?_
  refine gv_getr lk_6_25 (by decide +kernel) rfl rfl (pc' := 16) rfl ?_
  refine gv_iload_n (n := 1) (pc' := 17) (by decide +kernel) rfl rfl ?_
  refine gv_iconst (n := 0) (v := 0) (pc' := 18) (by decide +kernel) (by decide) rfl ?_
  refine gd_dvi (w' := false) (pc' := 21) (X_Reach_nextAmong_31 _ _ _) h md_Reach_nextAmong vd_Reach_nextAmong (Or.inl ml_6_111) (by decide +kernel) (by decide) rfl rfl rfl (Nat.le_of_ble_eq_true rfl) (Nat.le_of_ble_eq_true rfl) (by decide) rfl (fun z => by cases z) (by decide) rfl (fun r2 h => ?_)
  refine gv_istore_n (n := 2) (pc' := 22) (by decide +kernel) (by decide) rfl ?_
  exact gd_ar (gl_s (gl_s (gl_s gl_z))) (fun z => by cases z) (L_Taint_passOn_22 _ r0 _ _ _ h)
def B_Reach_nextAmong_32_3 (k4 : Int32 → Int64 → gP) (k5 : gP) (σ : gS) (x_2_1 : Int32) (ag3 : Int32 → gP) (n_4_2 : Int32) : gP :=
 if (gI σ 2 7) ≤ n_4_2 then
  k5
 else
  gd_g (gd_in ((x_2_1 * (17 : Int32)) + (n_4_2 >>> ((6 : Int32) &&& 31))) 17680) <|
  gd_g (gd_in (n_4_2 >>> ((6 : Int32) &&& 31)) 17) <|
  if (lg_cmp ((Int64.toUInt64 ((gL σ 22 ((x_2_1 * (17 : Int32)) + (n_4_2 >>> ((6 : Int32) &&& 31))).toNatClampNeg) &&& (gL σ 32 (n_4_2 >>> ((6 : Int32) &&& 31)).toNatClampNeg)) >>> ((Int32.toInt64 (n_4_2 &&& (63 : Int32))).toUInt64 &&& Int64.toUInt64 63)).toInt64) (0 : Int64)) = 0 then
   ag3 ((n_4_2 ||| (63 : Int32)) + (1 : Int32))
  else
   k4 n_4_2 ((Int64.toUInt64 ((gL σ 22 ((x_2_1 * (17 : Int32)) + (n_4_2 >>> ((6 : Int32) &&& 31))).toNatClampNeg) &&& (gL σ 32 (n_4_2 >>> ((6 : Int32) &&& 31)).toNatClampNeg)) >>> ((Int32.toInt64 (n_4_2 &&& (63 : Int32))).toUInt64 &&& Int64.toUInt64 63)).toInt64)
set_option maxRecDepth 20000 in
theorem L_Reach_nextAmong_32_3 (k4 : Int32 → Int64 → gP) (k5 : gP) (σ : gS) (x_2_1 : Int32) (r0 : gQ) (hk4 : ∀ (v6 : Int32) (v7 : Int64), k4 v6 v7 = some r0 → gv_V m_Reach_nextAmong 1 true 54 [none, none, none, none, some (.int v6), none, some (.long v7), none] [] σ (gv_is r0 σ)) (hk5 : k5 = some r0 → gv_V m_Reach_nextAmong 1 true 81 [some (.ref 21), none, none, none, none, none, none, none] [] σ (gv_is r0 σ)) (n : Nat) : ∀ (n_4_2 : Int32), gd_lp (fun _ => none) (B_Reach_nextAmong_32_3 k4 k5 σ x_2_1) n n_4_2 = some r0 → gv_V m_Reach_nextAmong 1 true 3 [some (.ref 21), some (.ref 32), some (.int x_2_1), none, some (.int n_4_2), none, none, none] [] σ (gv_is r0 σ) := by
  refine gd_lpC (fun (ag3 : Int32 → gP) => ∀ (n_4_2 : Int32), ag3 n_4_2 = some r0 → gv_V m_Reach_nextAmong 1 true 3 [some (.ref 21), some (.ref 32), some (.int x_2_1), none, some (.int n_4_2), none, none, none] [] σ (gv_is r0 σ)) (fun n_4_2 h => by cases h) (fun ag3 ih n_4_2 h => ?_) n
  unfold B_Reach_nextAmong_32_3 at h
  refine gv_iload (n := 4) (pc' := 5) (by decide +kernel) rfl rfl ?_
  refine gv_aload_n (n := 0) (pc' := 6) (by decide +kernel) rfl rfl ?_
  refine gv_getr lk_5_29 (by decide +kernel) rfl rfl (pc' := 9) rfl ?_
  refine gv_getj lk_5_71 (by decide +kernel) rfl rfl (pc' := 12) rfl ?_
  refine gv_icmp_ge (off := 69) (tgt := 81) (pc' := 15) (by decide +kernel) (by decide) rfl (fun c12 => ?_) (fun c12 => ?_)
  · replace h := gd_T c12 h
    exact gd_ar (gl_s (gl_n (gl_n (gl_n (gl_n (gl_n (gl_n (gl_n gl_z)))))))) (fun _ => rfl) (hk5  h)
  · replace h := gd_F c12 h
    refine gv_iload (n := 4) (pc' := 17) (by decide +kernel) rfl rfl ?_
    refine gv_bipush (n := 6) (v := 6) (pc' := 19) (by decide +kernel) (by decide) rfl ?_
    refine gv_ishr (pc' := 20) (by decide +kernel) rfl ?_
    refine gv_istore (n := 5) (pc' := 22) (by decide +kernel) (by decide) rfl ?_
    refine gv_aload_n (n := 0) (pc' := 23) (by decide +kernel) rfl rfl ?_
    refine gv_getr lk_5_9 (by decide +kernel) rfl rfl (pc' := 26) rfl ?_
    refine gv_iload_n (n := 2) (pc' := 27) (by decide +kernel) rfl rfl ?_
    refine gv_bipush (n := 17) (v := 17) (pc' := 29) (by decide +kernel) (by decide) rfl ?_
    refine gv_imul (pc' := 30) (by decide +kernel) rfl ?_
    refine gv_iload (n := 5) (pc' := 32) (by decide +kernel) rfl rfl ?_
    refine gv_iadd (pc' := 33) (by decide +kernel) rfl ?_
    obtain ⟨g33, h⟩ := gd_gE h
    refine gj_lald _ (pc' := 34) (by decide +kernel) rfl (gd_inv g33) rfl rfl ?_
    refine gv_aload_n (n := 1) (pc' := 35) (by decide +kernel) rfl rfl ?_
    refine gv_iload (n := 5) (pc' := 37) (by decide +kernel) rfl rfl ?_
    obtain ⟨g37, h⟩ := gd_gE h
    refine gj_lald _ (pc' := 38) (by decide +kernel) rfl (gd_inv g37) rfl rfl ?_
    refine gv_land (pc' := 39) (by decide +kernel) rfl ?_
    refine gv_iload (n := 4) (pc' := 41) (by decide +kernel) rfl rfl ?_
    refine gv_bipush (n := 63) (v := 63) (pc' := 43) (by decide +kernel) (by decide) rfl ?_
    refine gv_iand (pc' := 44) (by decide +kernel) rfl ?_
    refine gv_lushr (pc' := 45) (by decide +kernel) rfl ?_
    refine gv_lstore (n := 6) (pc' := 47) (by decide +kernel) (by decide) rfl ?_
    refine gv_lload (n := 6) (pc' := 49) (by decide +kernel) rfl rfl ?_
    refine gv_lconst (n := 0) (v := 0) (pc' := 50) (by decide +kernel) (by decide) rfl ?_
    refine gv_lcmp (pc' := 51) (by decide +kernel) rfl ?_
    refine gv_if_eq (off := 18) (tgt := 69) (pc' := 54) (by decide +kernel) (by decide) rfl (fun c51 => ?_) (fun c51 => ?_)
    · replace h := gd_T c51 h
      refine gv_iload (n := 4) (pc' := 71) (by decide +kernel) rfl rfl ?_
      refine gv_bipush (n := 63) (v := 63) (pc' := 73) (by decide +kernel) (by decide) rfl ?_
      refine gv_ior (pc' := 74) (by decide +kernel) rfl ?_
      refine gv_iconst (n := 1) (v := 1) (pc' := 75) (by decide +kernel) (by decide) rfl ?_
      refine gv_iadd (pc' := 76) (by decide +kernel) rfl ?_
      refine gv_istore (n := 4) (pc' := 78) (by decide +kernel) (by decide) rfl ?_
      refine gv_goto (off := -75) (tgt := 3) (by decide +kernel) (by decide) ?_
      exact gd_ar (gl_s (gl_s (gl_s (gl_n (gl_s (gl_n (gl_n (gl_n gl_z)))))))) (fun _ => rfl) (ih _ h)
    · replace h := gd_F c51 h
      exact gd_ar (gl_n (gl_n (gl_n (gl_n (gl_s (gl_n (gl_s (gl_n gl_z)))))))) (fun _ => rfl) (hk4 _ _ h)
def R_Reach_nextAmong_32 (a : Int32) (b : Int32) (σ : gS) : gP :=
 gd_j (α := Int32 → Int64 → gP) (fun (v6 : Int32) (v7 : Int64) =>
  some (.inl (some (.int (v6 + (f_Lo_bitCount ((v7 &&& (-v7)) - (1 : Int64)))))))) fun k4 =>
 gd_j (α := gP) (
  some (.inl (some (.int (gI σ 2 7))))) fun k5 =>
 gd_lp (fun _ => none) (B_Reach_nextAmong_32_3 k4 k5 σ a) gd_N b
set_option maxRecDepth 20000 in
theorem X_Reach_nextAmong_32 (a : Int32) (b : Int32) (σ : gS) (r0 : gQ) (h : R_Reach_nextAmong_32 a b σ = some r0) : gv_K m_Reach_nextAmong [.ref 21, .ref 32, .int a, .int b] σ (gv_is r0 σ) := by
  unfold R_Reach_nextAmong_32 at h
  show gv_V m_Reach_nextAmong 1 true 0 [some (.ref 21), some (.ref 32), some (.int a), some (.int b), none, none, none, none] [] σ (gv_is r0 σ)
  refine gv_iload_n (n := 3) (pc' := 1) (by decide +kernel) rfl rfl ?_
  refine gv_istore (n := 4) (pc' := 3) (by decide +kernel) (by decide) rfl ?_
  refine gd_jC (fun k4 => ∀ (v6 : Int32) (v7 : Int64), k4 v6 v7 = some r0 → gv_V m_Reach_nextAmong 1 true 54 [none, none, none, none, some (.int v6), none, some (.long v7), none] [] σ (gv_is r0 σ)) h (fun v6 v7 h => ?_) (fun k4 hk4 h => ?_)
  · refine gv_iload (n := 4) (pc' := 56) (by decide +kernel) rfl rfl ?_
    refine gv_lload (n := 6) (pc' := 58) (by decide +kernel) rfl rfl ?_
    refine gv_lload (n := 6) (pc' := 60) (by decide +kernel) rfl rfl ?_
    refine gv_lneg (pc' := 61) (by decide +kernel) rfl ?_
    refine gv_land (pc' := 62) (by decide +kernel) rfl ?_
    refine gv_lconst (n := 1) (v := 1) (pc' := 63) (by decide +kernel) (by decide) rfl ?_
    refine gv_lsub (pc' := 64) (by decide +kernel) rfl ?_
    refine gv_csi (w' := true) (pc' := 67) (y_Lo_bitCount _ _) md_Lo_bitCount sd_Lo_bitCount (Or.inl ml_5_74) (by decide +kernel) (by decide) rfl (Nat.le_of_ble_eq_true rfl) (Nat.le_of_ble_eq_true rfl) (by decide) rfl (fun z => ⟨rfl, z⟩) (by decide) rfl ?_
    refine gv_iadd (pc' := 68) (by decide +kernel) rfl ?_
    exact gv_iret .int (by decide +kernel) rfl rfl (by decide) (by decide) (gd_pE h)
  refine gd_jC (fun k5 => k5 = some r0 → gv_V m_Reach_nextAmong 1 true 81 [some (.ref 21), none, none, none, none, none, none, none] [] σ (gv_is r0 σ)) h (fun  h => ?_) (fun k5 hk5 h => ?_)
  · refine gv_aload_n (n := 0) (pc' := 82) (by decide +kernel) rfl rfl ?_
    refine gv_getr lk_5_29 (by decide +kernel) rfl rfl (pc' := 85) rfl ?_
    refine gv_getj lk_5_71 (by decide +kernel) rfl rfl (pc' := 88) rfl ?_
    exact gv_iret .int (by decide +kernel) rfl rfl (by decide) (by decide) (gd_pE h)
  exact gd_ar (gl_s (gl_s (gl_s (gl_n (gl_s (gl_n (gl_n (gl_n gl_z)))))))) (fun _ => rfl) (L_Reach_nextAmong_32_3 _ _ _ _ r0 hk4 hk5 _ _ h)
def R_Listing_betrays (a : Int32) (b : Int32) (σ : gS) : gP :=
 gd_g (gd_in a 1040) <|
 gd_j (α := gP) (
  gd_g (gd_in a 1040) <|
  if (gA σ 6 a.toNatClampNeg) = b then
   some (.inl (some (.int 1)))
  else
   some (.inl (some (.int 0)))) fun J1 =>
 if (gA σ 3 a.toNatClampNeg) = 3 then
  J1
 else
  gd_g (gd_in a 1040) <|
  if (gA σ 3 a.toNatClampNeg) = 4 then
   J1
  else
   gd_g (gd_in a 1040) <|
   gd_j (α := gP) (
    gd_pi (R_Listing_uses a b σ) fun r4 =>
    if r4 = 0 then
     some (.inl (some (.int 0)))
    else
     some (.inl (some (.int 1)))) fun J2 =>
   if (gA σ 3 a.toNatClampNeg) = 5 then
    J2
   else
    gd_pi (R_Listing_isDivision a σ) fun r3 =>
    if r3 = 0 then
     some (.inl (some (.int 0)))
    else
     J2
set_option maxRecDepth 20000 in
theorem X_Listing_betrays (a : Int32) (b : Int32) (σ : gS) (r0 : gQ) (h : R_Listing_betrays a b σ = some r0) : gv_K m_Listing_betrays [.ref 2, .int a, .int b] σ (gv_is r0 σ) := by
  unfold R_Listing_betrays at h
  show gv_V m_Listing_betrays 1 true 0 [some (.ref 2), some (.int a), some (.int b)] [] σ (gv_is r0 σ)
  refine gv_aload_n (n := 0) (pc' := 1) (by decide +kernel) rfl rfl ?_
  refine gv_getr lk_1_9 (by decide +kernel) rfl rfl (pc' := 4) rfl ?_
  refine gv_iload_n (n := 1) (pc' := 5) (by decide +kernel) rfl rfl ?_
  obtain ⟨g5, h⟩ := gd_gE h
  refine gj_iald _ (pc' := 6) (by decide +kernel) rfl (gd_inv g5) rfl rfl ?_
  refine gv_iconst (n := 3) (v := 3) (pc' := 7) (by decide +kernel) (by decide) rfl ?_
  refine gd_jC (fun J1 => J1 = some r0 → gv_V m_Listing_betrays 1 true 20 [some (.ref 2), some (.int a), some (.int b)] [] σ (gv_is r0 σ)) h (fun  h => ?_) (fun J1 hJ1 h => ?_)
  · refine gv_aload_n (n := 0) (pc' := 21) (by decide +kernel) rfl rfl ?_
    refine gv_getr lk_1_21 (by decide +kernel) rfl rfl (pc' := 24) rfl ?_
    refine gv_iload_n (n := 1) (pc' := 25) (by decide +kernel) rfl rfl ?_
    obtain ⟨g25, h⟩ := gd_gE h
    refine gj_iald _ (pc' := 26) (by decide +kernel) rfl (gd_inv g25) rfl rfl ?_
    refine gv_iload_n (n := 2) (pc' := 27) (by decide +kernel) rfl rfl ?_
    refine gv_icmp_ne (off := 7) (tgt := 34) (pc' := 30) (by decide +kernel) (by decide) rfl (fun c27 => ?_) (fun c27 => ?_)
    · replace h := gd_F c27 h
      refine gv_iconst (n := 0) (v := 0) (pc' := 35) (by decide +kernel) (by decide) rfl ?_
      exact gv_iret .boolean (by decide +kernel) rfl rfl (by decide) (by decide) (gd_pE h)
    · replace h := gd_T c27 h
      refine gv_iconst (n := 1) (v := 1) (pc' := 31) (by decide +kernel) (by decide) rfl ?_
      refine gv_goto (off := 4) (tgt := 35) (by decide +kernel) (by decide) ?_
      exact gv_iret .boolean (by decide +kernel) rfl rfl (by decide) (by decide) (gd_pE h)
  · refine gv_icmp_eq (off := 13) (tgt := 20) (pc' := 10) (by decide +kernel) (by decide) rfl (fun c7 => ?_) (fun c7 => ?_)
    · replace h := gd_T c7 h
      exact gd_ar (gl_s (gl_s (gl_s gl_z))) (fun _ => rfl) (hJ1  h)
    · replace h := gd_F c7 h
      refine gv_aload_n (n := 0) (pc' := 11) (by decide +kernel) rfl rfl ?_
      refine gv_getr lk_1_9 (by decide +kernel) rfl rfl (pc' := 14) rfl ?_
      refine gv_iload_n (n := 1) (pc' := 15) (by decide +kernel) rfl rfl ?_
      obtain ⟨g15, h⟩ := gd_gE h
      refine gj_iald _ (pc' := 16) (by decide +kernel) rfl (gd_inv g15) rfl rfl ?_
      refine gv_iconst (n := 4) (v := 4) (pc' := 17) (by decide +kernel) (by decide) rfl ?_
      refine gv_icmp_ne (off := 19) (tgt := 36) (pc' := 20) (by decide +kernel) (by decide) rfl (fun c17 => ?_) (fun c17 => ?_)
      · replace h := gd_F c17 h
        refine gv_aload_n (n := 0) (pc' := 37) (by decide +kernel) rfl rfl ?_
        refine gv_getr lk_1_9 (by decide +kernel) rfl rfl (pc' := 40) rfl ?_
        refine gv_iload_n (n := 1) (pc' := 41) (by decide +kernel) rfl rfl ?_
        obtain ⟨g41, h⟩ := gd_gE h
        refine gj_iald _ (pc' := 42) (by decide +kernel) rfl (gd_inv g41) rfl rfl ?_
        refine gv_iconst (n := 5) (v := 5) (pc' := 43) (by decide +kernel) (by decide) rfl ?_
        refine gd_jC (fun J2 => J2 = some r0 → gv_V m_Listing_betrays 1 true 54 [some (.ref 2), some (.int a), some (.int b)] [] σ (gv_is r0 σ)) h (fun  h => ?_) (fun J2 hJ2 h => ?_)
        · refine gv_aload_n (n := 0) (pc' := 55) (by decide +kernel) rfl rfl ?_
          refine gv_iload_n (n := 1) (pc' := 56) (by decide +kernel) rfl rfl ?_
          refine gv_iload_n (n := 2) (pc' := 57) (by decide +kernel) rfl rfl ?_
          refine gd_evi (w' := true) (pc' := 60) (X_Listing_uses _ _ _) h md_Listing_uses vd_Listing_uses (Or.inl ml_1_82) (by decide +kernel) (by decide) rfl rfl rfl (Nat.le_of_ble_eq_true rfl) (Nat.le_of_ble_eq_true rfl) (by decide) rfl (fun z => ⟨rfl, z⟩) (by decide) rfl (fun r4 h => ?_)
          refine gv_if_eq (off := 7) (tgt := 67) (pc' := 63) (by decide +kernel) (by decide) rfl (fun c60 => ?_) (fun c60 => ?_)
          · replace h := gd_T c60 h
            refine gv_iconst (n := 0) (v := 0) (pc' := 68) (by decide +kernel) (by decide) rfl ?_
            exact gv_iret .boolean (by decide +kernel) rfl rfl (by decide) (by decide) (gd_pE h)
          · replace h := gd_F c60 h
            refine gv_iconst (n := 1) (v := 1) (pc' := 64) (by decide +kernel) (by decide) rfl ?_
            refine gv_goto (off := 4) (tgt := 68) (by decide +kernel) (by decide) ?_
            exact gv_iret .boolean (by decide +kernel) rfl rfl (by decide) (by decide) (gd_pE h)
        · refine gv_icmp_eq (off := 11) (tgt := 54) (pc' := 46) (by decide +kernel) (by decide) rfl (fun c43 => ?_) (fun c43 => ?_)
          · replace h := gd_T c43 h
            exact gd_ar (gl_s (gl_s (gl_s gl_z))) (fun _ => rfl) (hJ2  h)
          · replace h := gd_F c43 h
            refine gv_aload_n (n := 0) (pc' := 47) (by decide +kernel) rfl rfl ?_
            refine gv_iload_n (n := 1) (pc' := 48) (by decide +kernel) rfl rfl ?_
            refine gd_evi (w' := true) (pc' := 51) (X_Listing_isDivision _ _) h md_Listing_isDivision vd_Listing_isDivision (Or.inl ml_1_79) (by decide +kernel) (by decide) rfl rfl rfl (Nat.le_of_ble_eq_true rfl) (Nat.le_of_ble_eq_true rfl) (by decide) rfl (fun z => ⟨rfl, z⟩) (by decide) rfl (fun r3 h => ?_)
            refine gv_if_eq (off := 16) (tgt := 67) (pc' := 54) (by decide +kernel) (by decide) rfl (fun c51 => ?_) (fun c51 => ?_)
            · replace h := gd_T c51 h
              refine gv_iconst (n := 0) (v := 0) (pc' := 68) (by decide +kernel) (by decide) rfl ?_
              exact gv_iret .boolean (by decide +kernel) rfl rfl (by decide) (by decide) (gd_pE h)
            · replace h := gd_F c51 h
              exact gd_ar (gl_s (gl_s (gl_s gl_z))) (fun _ => rfl) (hJ2  h)
      · replace h := gd_T c17 h
        exact gd_ar (gl_s (gl_s (gl_s gl_z))) (fun _ => rfl) (hJ1  h)
def F_Taint_addExposed (a : Int32) (σ : gS) : gR :=
 gd_g (gd_in a 1040) <|
 if ((gA σ 27 a.toNatClampNeg) &&& (4 : Int32)) = 0 then
  gd_g (gd_in a 1040) <|
  gd_g (gd_in a 1040) <|
  gd_s (gs_A σ 27 a.toNatClampNeg ((gA σ 27 a.toNatClampNeg) ||| (4 : Int32))) fun s1 =>
  gd_s (gs_I s1 26 10 ((gI s1 26 10) + (1 : Int32))) fun s2 =>
  some (.inl none, s2)
 else
  some (.inl none, σ)
set_option maxRecDepth 20000 in
theorem X_Taint_addExposed (a : Int32) (σ : gS) (r0 : gQ × gS) (h : F_Taint_addExposed a σ = some r0) : gv_K m_Taint_addExposed [.ref 26, .int a] σ (gv_is r0.1 r0.2) := by
  unfold F_Taint_addExposed at h
  show gv_V m_Taint_addExposed 1 true 0 [some (.ref 26), some (.int a)] [] σ (gv_is r0.1 r0.2)
  refine gv_aload_n (n := 0) (pc' := 1) (by decide +kernel) rfl rfl ?_
  refine gv_getr lk_6_9 (by decide +kernel) rfl rfl (pc' := 4) rfl ?_
  refine gv_iload_n (n := 1) (pc' := 5) (by decide +kernel) rfl rfl ?_
  obtain ⟨g5, h⟩ := gd_gE h
  refine gj_iald _ (pc' := 6) (by decide +kernel) rfl (gd_inv g5) rfl rfl ?_
  refine gv_iconst (n := 4) (v := 4) (pc' := 7) (by decide +kernel) (by decide) rfl ?_
  refine gv_iand (pc' := 8) (by decide +kernel) rfl ?_
  refine gv_if_ne (off := 23) (tgt := 31) (pc' := 11) (by decide +kernel) (by decide) rfl (fun c8 => ?_) (fun c8 => ?_)
  · replace h := gd_F c8 h
    exact gv_ret (by decide +kernel) rfl (by decide) (by decide) (gd_rE h)
  · replace h := gd_T c8 h
    refine gv_aload_n (n := 0) (pc' := 12) (by decide +kernel) rfl rfl ?_
    refine gv_getr lk_6_9 (by decide +kernel) rfl rfl (pc' := 15) rfl ?_
    refine gv_iload_n (n := 1) (pc' := 16) (by decide +kernel) rfl rfl ?_
    refine gv_dup2_11 (pc' := 17) (by decide +kernel) rfl rfl rfl ?_
    obtain ⟨g17, h⟩ := gd_gE h
    refine gj_iald _ (pc' := 18) (by decide +kernel) rfl (gd_inv g17) rfl rfl ?_
    refine gv_iconst (n := 4) (v := 4) (pc' := 19) (by decide +kernel) (by decide) rfl ?_
    refine gv_ior (pc' := 20) (by decide +kernel) rfl ?_
    obtain ⟨g20, h⟩ := gd_gE h
    refine gd_iast (pc' := 21) (by decide +kernel) rfl (gd_inv g20) rfl h (fun s1 h => ?_)
    refine gv_aload_n (n := 0) (pc' := 22) (by decide +kernel) rfl rfl ?_
    refine gv_dup (pc' := 23) (by decide +kernel) rfl rfl ?_
    refine gv_getj lk_6_39 (by decide +kernel) rfl rfl (pc' := 26) rfl ?_
    refine gv_iconst (n := 1) (v := 1) (pc' := 27) (by decide +kernel) (by decide) rfl ?_
    refine gv_iadd (pc' := 28) (by decide +kernel) rfl ?_
    refine gd_puti lp_6_39 (by decide +kernel) rfl rfl rfl rfl (pc' := 31) rfl h (fun s2 h => ?_)
    exact gv_ret (by decide +kernel) rfl (by decide) (by decide) (gd_rE h)
def B_Taint_expose_14 (x_1_2 : Int32) (ag5 : Int32 → gS → gR) (n_2_3 : Int32) (s4 : gS) : gR :=
 if (gI s4 2 7) ≤ n_2_3 then
  some (.inl none, s4)
 else
  gd_g (gd_in x_1_2 1040) <|
  gd_qi (R_Listing_betrays n_2_3 (gA s4 5 x_1_2.toNatClampNeg) s4) s4 fun r6 =>
  gd_j (α := gS → gR) (fun (s10 : gS) =>
   gd_qi (R_Reach_nextAmong_32 x_1_2 (n_2_3 + (1 : Int32)) s10) s10 fun r11 =>
   ag5 r11 s10) fun J7 =>
  if r6 = 0 then
   J7 s4
  else
   gd_g (gd_in x_1_2 1040) <|
   gd_s (gs_A s4 30 x_1_2.toNatClampNeg (vp_nar .boolean 1)) fun s8 =>
   gd_0 (F_Taint_addExposed n_2_3 s8) fun s9 =>
   J7 s9
set_option maxRecDepth 20000 in
theorem L_Taint_expose_14 (x_1_2 : Int32) (r0 : gQ × gS) (n : Nat) : ∀ (n_2_3 : Int32) (s4 : gS), gd_lp (fun _ _ => none) (B_Taint_expose_14 x_1_2) n n_2_3 s4 = some r0 → gv_V m_Taint_expose 1 false 14 [some (.ref 26), some (.int x_1_2), some (.int n_2_3)] [] s4 (gv_is r0.1 r0.2) := by
  refine gd_lpC (fun (ag5 : Int32 → gS → gR) => ∀ (n_2_3 : Int32) (s4 : gS), ag5 n_2_3 s4 = some r0 → gv_V m_Taint_expose 1 false 14 [some (.ref 26), some (.int x_1_2), some (.int n_2_3)] [] s4 (gv_is r0.1 r0.2)) (fun n_2_3 s4 h => by cases h) (fun ag5 ih n_2_3 s4 h => ?_) n
  unfold B_Taint_expose_14 at h
  refine gv_iload_n (n := 2) (pc' := 15) (by decide +kernel) rfl rfl ?_
  refine gv_aload_n (n := 0) (pc' := 16) (by decide +kernel) rfl rfl ?_
  refine gv_getr lk_6_42 (by decide +kernel) rfl rfl (pc' := 19) rfl ?_
  refine gv_getj lk_6_56 (by decide +kernel) rfl rfl (pc' := 22) rfl ?_
  refine gv_icmp_ge (off := 54) (tgt := 76) (pc' := 25) (by decide +kernel) (by decide) rfl (fun c22 => ?_) (fun c22 => ?_)
  · replace h := gd_T c22 h
    exact gv_ret (by decide +kernel) rfl (by decide) (by decide) (gd_rE h)
  · replace h := gd_F c22 h
    refine gv_aload_n (n := 0) (pc' := 26) (by decide +kernel) rfl rfl ?_
    refine gv_getr lk_6_42 (by decide +kernel) rfl rfl (pc' := 29) rfl ?_
    refine gv_iload_n (n := 2) (pc' := 30) (by decide +kernel) rfl rfl ?_
    refine gv_aload_n (n := 0) (pc' := 31) (by decide +kernel) rfl rfl ?_
    refine gv_getr lk_6_42 (by decide +kernel) rfl rfl (pc' := 34) rfl ?_
    refine gv_getr lk_6_64 (by decide +kernel) rfl rfl (pc' := 37) rfl ?_
    refine gv_iload_n (n := 1) (pc' := 38) (by decide +kernel) rfl rfl ?_
    obtain ⟨g38, h⟩ := gd_gE h
    refine gj_iald _ (pc' := 39) (by decide +kernel) rfl (gd_inv g38) rfl rfl ?_
    refine gd_dvi (w' := false) (pc' := 42) (X_Listing_betrays _ _ _) h md_Listing_betrays vd_Listing_betrays (Or.inl ml_6_117) (by decide +kernel) (by decide) rfl rfl rfl (Nat.le_of_ble_eq_true rfl) (Nat.le_of_ble_eq_true rfl) (by decide) rfl (fun z => by cases z) (by decide) rfl (fun r6 h => ?_)
    refine gd_jC (fun J7 => ∀ (s10 : gS), J7 s10 = some r0 → gv_V m_Taint_expose 1 false 57 [some (.ref 26), some (.int x_1_2), some (.int n_2_3)] [] s10 (gv_is r0.1 r0.2)) h (fun s10 h => ?_) (fun J7 hJ7 h => ?_)
    · refine gv_aload_n (n := 0) (pc' := 58) (by decide +kernel) rfl rfl ?_
      refine gv_getr lk_6_46 (by decide +kernel) rfl rfl (pc' := 61) rfl ?_
      refine gv_aload_n (n := 0) (pc' := 62) (by decide +kernel) rfl rfl ?_
      refine gv_getr lk_6_29 (by decide +kernel) rfl rfl (pc' := 65) rfl ?_
      refine gv_iload_n (n := 1) (pc' := 66) (by decide +kernel) rfl rfl ?_
      refine gv_iload_n (n := 2) (pc' := 67) (by decide +kernel) rfl rfl ?_
      refine gv_iconst (n := 1) (v := 1) (pc' := 68) (by decide +kernel) (by decide) rfl ?_
      refine gv_iadd (pc' := 69) (by decide +kernel) rfl ?_
      refine gd_dvi (w' := false) (pc' := 72) (X_Reach_nextAmong_32 _ _ _) h md_Reach_nextAmong vd_Reach_nextAmong (Or.inl ml_6_111) (by decide +kernel) (by decide) rfl rfl rfl (Nat.le_of_ble_eq_true rfl) (Nat.le_of_ble_eq_true rfl) (by decide) rfl (fun z => by cases z) (by decide) rfl (fun r11 h => ?_)
      refine gv_istore_n (n := 2) (pc' := 73) (by decide +kernel) (by decide) rfl ?_
      refine gv_goto (off := -59) (tgt := 14) (by decide +kernel) (by decide) ?_
      exact gd_ar (gl_s (gl_s (gl_s gl_z))) (fun z => by cases z) (ih _ _ h)
    · refine gv_if_eq (off := 15) (tgt := 57) (pc' := 45) (by decide +kernel) (by decide) rfl (fun c42 => ?_) (fun c42 => ?_)
      · replace h := gd_T c42 h
        exact gd_ar (gl_s (gl_s (gl_s gl_z))) (fun z => by cases z) (hJ7 _ h)
      · replace h := gd_F c42 h
        refine gv_aload_n (n := 0) (pc' := 46) (by decide +kernel) rfl rfl ?_
        refine gv_getr lk_6_21 (by decide +kernel) rfl rfl (pc' := 49) rfl ?_
        refine gv_iload_n (n := 1) (pc' := 50) (by decide +kernel) rfl rfl ?_
        refine gv_iconst (n := 1) (v := 1) (pc' := 51) (by decide +kernel) (by decide) rfl ?_
        obtain ⟨g51, h⟩ := gd_gE h
        refine gd_zast (pc' := 52) (by decide +kernel) rfl (gd_inv g51) rfl h (fun s8 h => ?_)
        refine gv_aload_n (n := 0) (pc' := 53) (by decide +kernel) rfl rfl ?_
        refine gv_iload_n (n := 2) (pc' := 54) (by decide +kernel) rfl rfl ?_
        refine gd_cv0 (w' := false) (pc' := 57) (X_Taint_addExposed _ _) h md_Taint_addExposed vd_Taint_addExposed (Or.inl ml_6_121) (by decide +kernel) (by decide) rfl rfl rfl (Nat.le_of_ble_eq_true rfl) (Nat.le_of_ble_eq_true rfl) (by decide) rfl (fun z => by cases z) (by decide) rfl (fun s9 h => ?_)
        exact gd_ar (gl_s (gl_s (gl_s gl_z))) (fun z => by cases z) (hJ7 _ h)
def F_Taint_expose (a : Int32) (σ : gS) : gR :=
 gd_qi (R_Reach_nextAmong_32 a 0 σ) σ fun r1 =>
 gd_lp (fun _ _ => none) (B_Taint_expose_14 a) gd_N r1 σ
set_option maxRecDepth 20000 in
theorem X_Taint_expose (a : Int32) (σ : gS) (r0 : gQ × gS) (h : F_Taint_expose a σ = some r0) : gv_K m_Taint_expose [.ref 26, .int a] σ (gv_is r0.1 r0.2) := by
  unfold F_Taint_expose at h
  show gv_V m_Taint_expose 1 true 0 [some (.ref 26), some (.int a), none] [] σ (gv_is r0.1 r0.2)
  refine gv_aload_n (n := 0) (pc' := 1) (by decide +kernel) rfl rfl ?_
  refine gv_getr lk_6_46 (by decide +kernel) rfl rfl (pc' := 4) rfl ?_
  refine gv_aload_n (n := 0) (pc' := 5) (by decide +kernel) rfl rfl ?_
  refine gv_getr lk_6_29 (by decide +kernel) rfl rfl (pc' := 8) rfl ?_
  refine gv_iload_n (n := 1) (pc' := 9) (by decide +kernel) rfl rfl ?_
  refine gv_iconst (n := 0) (v := 0) (pc' := 10) (by decide +kernel) (by decide) rfl ?_
  refine gd_dvi (w' := true) (pc' := 13) (X_Reach_nextAmong_32 _ _ _) h md_Reach_nextAmong vd_Reach_nextAmong (Or.inl ml_6_111) (by decide +kernel) (by decide) rfl rfl rfl (Nat.le_of_ble_eq_true rfl) (Nat.le_of_ble_eq_true rfl) (by decide) rfl (fun z => ⟨rfl, z⟩) (by decide) rfl (fun r1 h => ?_)
  refine gv_istore_n (n := 2) (pc' := 14) (by decide +kernel) (by decide) rfl ?_
  exact gd_ar (gl_s (gl_s (gl_s gl_z))) (fun z => by cases z) (L_Taint_expose_14 _ r0 _ _ _ h)
def B_Taint_spread_113 (ag21 : Int32 → gS → gR) (n_1_19 : Int32) (s20 : gS) : gR :=
 if (gI s20 26 9) ≤ n_1_19 then
  some (.inl none, s20)
 else
  gd_g (gd_in n_1_19 1040) <|
  gd_0 (F_Taint_expose (gA s20 29 n_1_19.toNatClampNeg) s20) fun s22 =>
  ag21 (n_1_19 + 1) s22
set_option maxRecDepth 20000 in
theorem L_Taint_spread_113 (r0 : gQ × gS) (n : Nat) : ∀ (n_1_19 : Int32) (s20 : gS), gd_lp (fun _ _ => none) (B_Taint_spread_113) n n_1_19 s20 = some r0 → gv_V m_Taint_spread 1 false 113 [some (.ref 26), some (.int n_1_19), none] [] s20 (gv_is r0.1 r0.2) := by
  refine gd_lpC (fun (ag21 : Int32 → gS → gR) => ∀ (n_1_19 : Int32) (s20 : gS), ag21 n_1_19 s20 = some r0 → gv_V m_Taint_spread 1 false 113 [some (.ref 26), some (.int n_1_19), none] [] s20 (gv_is r0.1 r0.2)) (fun n_1_19 s20 h => by cases h) (fun ag21 ih n_1_19 s20 h => ?_) n
  unfold B_Taint_spread_113 at h
  refine gv_iload_n (n := 1) (pc' := 114) (by decide +kernel) rfl rfl ?_
  refine gv_aload_n (n := 0) (pc' := 115) (by decide +kernel) rfl rfl ?_
  refine gv_getj lk_6_36 (by decide +kernel) rfl rfl (pc' := 118) rfl ?_
  refine gv_icmp_ge (off := 19) (tgt := 137) (pc' := 121) (by decide +kernel) (by decide) rfl (fun c118 => ?_) (fun c118 => ?_)
  · replace h := gd_T c118 h
    exact gv_ret (by decide +kernel) rfl (by decide) (by decide) (gd_rE h)
  · replace h := gd_F c118 h
    refine gv_aload_n (n := 0) (pc' := 122) (by decide +kernel) rfl rfl ?_
    refine gv_aload_n (n := 0) (pc' := 123) (by decide +kernel) rfl rfl ?_
    refine gv_getr lk_6_18 (by decide +kernel) rfl rfl (pc' := 126) rfl ?_
    refine gv_iload_n (n := 1) (pc' := 127) (by decide +kernel) rfl rfl ?_
    obtain ⟨g127, h⟩ := gd_gE h
    refine gj_iald _ (pc' := 128) (by decide +kernel) rfl (gd_inv g127) rfl rfl ?_
    refine gd_cv0 (w' := false) (pc' := 131) (X_Taint_expose _ _) h md_Taint_expose vd_Taint_expose (Or.inl ml_6_74) (by decide +kernel) (by decide) rfl rfl rfl (Nat.le_of_ble_eq_true rfl) (Nat.le_of_ble_eq_true rfl) (by decide) rfl (fun z => by cases z) (by decide) rfl (fun s22 h => ?_)
    refine gv_iincc (i := 1) (n := 1) (c := 1) (pc' := 134) (by decide +kernel) rfl (by decide) (by decide) rfl ?_
    refine gv_goto (off := -21) (tgt := 113) (by decide +kernel) (by decide) ?_
    exact gd_ar (gl_s (gl_s (gl_n gl_z))) (fun z => by cases z) (ih _ _ h)
def B_Taint_spread_80 (k16 : gS → gR) (ag15 : Int32 → gS → gR) (n_1_13 : Int32) (s14 : gS) : gR :=
 if (gI s14 26 9) ≤ n_1_13 then
  k16 s14
 else
  if 1040 ≤ n_1_13 then
   k16 s14
  else
   gd_g (gd_in n_1_13 1040) <|
   gd_0 (F_Taint_passOn (gA s14 29 n_1_13.toNatClampNeg) s14) fun s17 =>
   ag15 (n_1_13 + 1) s17
set_option maxRecDepth 20000 in
theorem L_Taint_spread_80 (k16 : gS → gR) (r0 : gQ × gS) (hk16 : ∀ (s18 : gS), k16 s18 = some r0 → gv_V m_Taint_spread 1 false 111 [some (.ref 26), none, none] [] s18 (gv_is r0.1 r0.2)) (n : Nat) : ∀ (n_1_13 : Int32) (s14 : gS), gd_lp (fun _ _ => none) (B_Taint_spread_80 k16) n n_1_13 s14 = some r0 → gv_V m_Taint_spread 1 false 80 [some (.ref 26), some (.int n_1_13), none] [] s14 (gv_is r0.1 r0.2) := by
  refine gd_lpC (fun (ag15 : Int32 → gS → gR) => ∀ (n_1_13 : Int32) (s14 : gS), ag15 n_1_13 s14 = some r0 → gv_V m_Taint_spread 1 false 80 [some (.ref 26), some (.int n_1_13), none] [] s14 (gv_is r0.1 r0.2)) (fun n_1_13 s14 h => by cases h) (fun ag15 ih n_1_13 s14 h => ?_) n
  unfold B_Taint_spread_80 at h
  refine gv_iload_n (n := 1) (pc' := 81) (by decide +kernel) rfl rfl ?_
  refine gv_aload_n (n := 0) (pc' := 82) (by decide +kernel) rfl rfl ?_
  refine gv_getj lk_6_36 (by decide +kernel) rfl rfl (pc' := 85) rfl ?_
  refine gv_icmp_ge (off := 26) (tgt := 111) (pc' := 88) (by decide +kernel) (by decide) rfl (fun c85 => ?_) (fun c85 => ?_)
  · replace h := gd_T c85 h
    exact gd_ar (gl_s (gl_n (gl_n gl_z))) (fun z => by cases z) (hk16 _ h)
  · replace h := gd_F c85 h
    refine gv_iload_n (n := 1) (pc' := 89) (by decide +kernel) rfl rfl ?_
    refine gv_sipush (n := 1040) (v := 1040) (pc' := 92) (by decide +kernel) (by decide) rfl ?_
    refine gv_icmp_ge (off := 19) (tgt := 111) (pc' := 95) (by decide +kernel) (by decide) rfl (fun c92 => ?_) (fun c92 => ?_)
    · replace h := gd_T c92 h
      exact gd_ar (gl_s (gl_n (gl_n gl_z))) (fun z => by cases z) (hk16 _ h)
    · replace h := gd_F c92 h
      refine gv_aload_n (n := 0) (pc' := 96) (by decide +kernel) rfl rfl ?_
      refine gv_aload_n (n := 0) (pc' := 97) (by decide +kernel) rfl rfl ?_
      refine gv_getr lk_6_18 (by decide +kernel) rfl rfl (pc' := 100) rfl ?_
      refine gv_iload_n (n := 1) (pc' := 101) (by decide +kernel) rfl rfl ?_
      obtain ⟨g101, h⟩ := gd_gE h
      refine gj_iald _ (pc' := 102) (by decide +kernel) rfl (gd_inv g101) rfl rfl ?_
      refine gd_cv0 (w' := false) (pc' := 105) (X_Taint_passOn _ _) h md_Taint_passOn vd_Taint_passOn (Or.inl ml_6_71) (by decide +kernel) (by decide) rfl rfl rfl (Nat.le_of_ble_eq_true rfl) (Nat.le_of_ble_eq_true rfl) (by decide) rfl (fun z => by cases z) (by decide) rfl (fun s17 h => ?_)
      refine gv_iincc (i := 1) (n := 1) (c := 1) (pc' := 108) (by decide +kernel) rfl (by decide) (by decide) rfl ?_
      refine gv_goto (off := -28) (tgt := 80) (by decide +kernel) (by decide) ?_
      exact gd_ar (gl_s (gl_s (gl_n gl_z))) (fun z => by cases z) (ih _ _ h)
def B_Taint_spread_10 (k6 : gS → gR) (ag5 : Int32 → gS → gR) (n_1_3 : Int32) (s4 : gS) : gR :=
 if (gI s4 2 7) ≤ n_1_3 then
  k6 s4
 else
  gd_g (gd_in n_1_3 1040) <|
  gd_t (α := Int32) (if ((gA s4 27 n_1_3.toNatClampNeg) &&& (1 : Int32)) = 0 then
    0
   else
    1) fun v8 =>
  gd_j (α := gS → gR) (fun (s11 : gS) =>
   ag5 (n_1_3 + 1) s11) fun J9 =>
  if v8 = 0 then
   J9 s4
  else
   gd_g (gd_in n_1_3 1040) <|
   if (gA s4 3 n_1_3.toNatClampNeg) = 3 then
    gd_g (gd_in n_1_3 1040) <|
    if (gA s4 5 n_1_3.toNatClampNeg) = 0 then
     J9 s4
    else
     gd_0 (F_Taint_addResult n_1_3 s4) fun s10 =>
     J9 s10
   else
    J9 s4
set_option maxRecDepth 20000 in
theorem L_Taint_spread_10 (k6 : gS → gR) (r0 : gQ × gS) (hk6 : ∀ (s12 : gS), k6 s12 = some r0 → gv_V m_Taint_spread 1 false 78 [some (.ref 26), none, none] [] s12 (gv_is r0.1 r0.2)) (n : Nat) : ∀ (n_1_3 : Int32) (s4 : gS), gd_lp (fun _ _ => none) (B_Taint_spread_10 k6) n n_1_3 s4 = some r0 → gv_V m_Taint_spread 1 false 10 [some (.ref 26), some (.int n_1_3), none] [] s4 (gv_is r0.1 r0.2) := by
  refine gd_lpC (fun (ag5 : Int32 → gS → gR) => ∀ (n_1_3 : Int32) (s4 : gS), ag5 n_1_3 s4 = some r0 → gv_V m_Taint_spread 1 false 10 [some (.ref 26), some (.int n_1_3), none] [] s4 (gv_is r0.1 r0.2)) (fun n_1_3 s4 h => by cases h) (fun ag5 ih n_1_3 s4 h => ?_) n
  unfold B_Taint_spread_10 at h
  refine gv_iload_n (n := 1) (pc' := 11) (by decide +kernel) rfl rfl ?_
  refine gv_aload_n (n := 0) (pc' := 12) (by decide +kernel) rfl rfl ?_
  refine gv_getr lk_6_42 (by decide +kernel) rfl rfl (pc' := 15) rfl ?_
  refine gv_getj lk_6_56 (by decide +kernel) rfl rfl (pc' := 18) rfl ?_
  refine gv_icmp_ge (off := 60) (tgt := 78) (pc' := 21) (by decide +kernel) (by decide) rfl (fun c18 => ?_) (fun c18 => ?_)
  · replace h := gd_T c18 h
    exact gd_ar (gl_s (gl_n (gl_n gl_z))) (fun z => by cases z) (hk6 _ h)
  · replace h := gd_F c18 h
    refine gv_aload_n (n := 0) (pc' := 22) (by decide +kernel) rfl rfl ?_
    refine gv_getr lk_6_9 (by decide +kernel) rfl rfl (pc' := 25) rfl ?_
    refine gv_iload_n (n := 1) (pc' := 26) (by decide +kernel) rfl rfl ?_
    obtain ⟨g26, h⟩ := gd_gE h
    refine gj_iald _ (pc' := 27) (by decide +kernel) rfl (gd_inv g26) rfl rfl ?_
    refine gv_iconst (n := 1) (v := 1) (pc' := 28) (by decide +kernel) (by decide) rfl ?_
    refine gv_iand (pc' := 29) (by decide +kernel) rfl ?_
    refine gd_tC (fun (v8 : Int32) => gv_V m_Taint_spread 1 false 37 [some (.ref 26), some (.int n_1_3), none] [.int v8] s4 (gv_is r0.1 r0.2)) h (fun v8 h => ?_) (fun KJ7 hJ7 h => ?_)
    · refine gv_istore_n (n := 2) (pc' := 38) (by decide +kernel) (by decide) rfl ?_
      refine gv_iload_n (n := 2) (pc' := 39) (by decide +kernel) rfl rfl ?_
      refine gd_jC (fun J9 => ∀ (s11 : gS), J9 s11 = some r0 → gv_V m_Taint_spread 1 false 72 [some (.ref 26), some (.int n_1_3), none] [] s11 (gv_is r0.1 r0.2)) h (fun s11 h => ?_) (fun J9 hJ9 h => ?_)
      · refine gv_iincc (i := 1) (n := 1) (c := 1) (pc' := 75) (by decide +kernel) rfl (by decide) (by decide) rfl ?_
        refine gv_goto (off := -65) (tgt := 10) (by decide +kernel) (by decide) ?_
        exact gd_ar (gl_s (gl_s (gl_n gl_z))) (fun z => by cases z) (ih _ _ h)
      · refine gv_if_eq (off := 33) (tgt := 72) (pc' := 42) (by decide +kernel) (by decide) rfl (fun c39 => ?_) (fun c39 => ?_)
        · replace h := gd_T c39 h
          exact gd_ar (gl_s (gl_s (gl_n gl_z))) (fun z => by cases z) (hJ9 _ h)
        · replace h := gd_F c39 h
          refine gv_aload_n (n := 0) (pc' := 43) (by decide +kernel) rfl rfl ?_
          refine gv_getr lk_6_42 (by decide +kernel) rfl rfl (pc' := 46) rfl ?_
          refine gv_getr lk_6_61 (by decide +kernel) rfl rfl (pc' := 49) rfl ?_
          refine gv_iload_n (n := 1) (pc' := 50) (by decide +kernel) rfl rfl ?_
          obtain ⟨g50, h⟩ := gd_gE h
          refine gj_iald _ (pc' := 51) (by decide +kernel) rfl (gd_inv g50) rfl rfl ?_
          refine gv_iconst (n := 3) (v := 3) (pc' := 52) (by decide +kernel) (by decide) rfl ?_
          refine gv_icmp_ne (off := 20) (tgt := 72) (pc' := 55) (by decide +kernel) (by decide) rfl (fun c52 => ?_) (fun c52 => ?_)
          · replace h := gd_F c52 h
            exact gd_ar (gl_s (gl_s (gl_n gl_z))) (fun z => by cases z) (hJ9 _ h)
          · replace h := gd_T c52 h
            refine gv_aload_n (n := 0) (pc' := 56) (by decide +kernel) rfl rfl ?_
            refine gv_getr lk_6_42 (by decide +kernel) rfl rfl (pc' := 59) rfl ?_
            refine gv_getr lk_6_64 (by decide +kernel) rfl rfl (pc' := 62) rfl ?_
            refine gv_iload_n (n := 1) (pc' := 63) (by decide +kernel) rfl rfl ?_
            obtain ⟨g63, h⟩ := gd_gE h
            refine gj_iald _ (pc' := 64) (by decide +kernel) rfl (gd_inv g63) rfl rfl ?_
            refine gv_if_eq (off := 8) (tgt := 72) (pc' := 67) (by decide +kernel) (by decide) rfl (fun c64 => ?_) (fun c64 => ?_)
            · replace h := gd_T c64 h
              exact gd_ar (gl_s (gl_s (gl_n gl_z))) (fun z => by cases z) (hJ9 _ h)
            · replace h := gd_F c64 h
              refine gv_aload_n (n := 0) (pc' := 68) (by decide +kernel) rfl rfl ?_
              refine gv_iload_n (n := 1) (pc' := 69) (by decide +kernel) rfl rfl ?_
              refine gd_cv0 (w' := false) (pc' := 72) (X_Taint_addResult _ _) h md_Taint_addResult vd_Taint_addResult (Or.inl ml_6_67) (by decide +kernel) (by decide) rfl rfl rfl (Nat.le_of_ble_eq_true rfl) (Nat.le_of_ble_eq_true rfl) (by decide) rfl (fun z => by cases z) (by decide) rfl (fun s10 h => ?_)
              exact gd_ar (gl_s (gl_s (gl_n gl_z))) (fun z => by cases z) (hJ9 _ h)
    · refine gv_if_eq (off := 7) (tgt := 36) (pc' := 32) (by decide +kernel) (by decide) rfl (fun c29 => ?_) (fun c29 => ?_)
      · replace h := gd_tT c29 h
        refine gv_iconst (n := 0) (v := 0) (pc' := 37) (by decide +kernel) (by decide) rfl ?_
        exact gd_ar (gl_s (gl_s (gl_n gl_z))) (fun z => by cases z) (hJ7 _ h)
      · replace h := gd_tF c29 h
        refine gv_iconst (n := 1) (v := 1) (pc' := 33) (by decide +kernel) (by decide) rfl ?_
        refine gv_goto (off := 4) (tgt := 37) (by decide +kernel) (by decide) ?_
        exact gd_ar (gl_s (gl_s (gl_n gl_z))) (fun z => by cases z) (hJ7 _ h)
def F_Taint_spread (σ : gS) : gR :=
 gd_0 (F_Taint_prepare σ) fun s1 =>
 gd_0 (F_Taint_markGuessed s1) fun s2 =>
 gd_j (α := gS → gR) (fun (s12 : gS) =>
  gd_j (α := gS → gR) (fun (s18 : gS) =>
   gd_lp (fun _ _ => none) (B_Taint_spread_113) gd_N 0 s18) fun k16 =>
  gd_lp (fun _ _ => none) (B_Taint_spread_80 k16) gd_N 0 s12) fun k6 =>
 gd_lp (fun _ _ => none) (B_Taint_spread_10 k6) gd_N 0 s2
set_option maxRecDepth 20000 in
theorem X_Taint_spread (σ : gS) (r0 : gQ × gS) (h : F_Taint_spread σ = some r0) : gv_K m_Taint_spread [.ref 26] σ (gv_is r0.1 r0.2) := by
  unfold F_Taint_spread at h
  show gv_V m_Taint_spread 1 true 0 [some (.ref 26), none, none] [] σ (gv_is r0.1 r0.2)
  refine gv_aload_n (n := 0) (pc' := 1) (by decide +kernel) rfl rfl ?_
  refine gd_cv0 (w' := false) (pc' := 4) (X_Taint_prepare _) h md_Taint_prepare vd_Taint_prepare (Or.inl ml_6_50) (by decide +kernel) (by decide) rfl rfl rfl (Nat.le_of_ble_eq_true rfl) (Nat.le_of_ble_eq_true rfl) (by decide) rfl (fun z => by cases z) (by decide) rfl (fun s1 h => ?_)
  refine gv_aload_n (n := 0) (pc' := 5) (by decide +kernel) rfl rfl ?_
  refine gd_cv0 (w' := false) (pc' := 8) (X_Taint_markGuessed _) h md_Taint_markGuessed vd_Taint_markGuessed (Or.inl ml_6_53) (by decide +kernel) (by decide) rfl rfl rfl (Nat.le_of_ble_eq_true rfl) (Nat.le_of_ble_eq_true rfl) (by decide) rfl (fun z => by cases z) (by decide) rfl (fun s2 h => ?_)
  refine gv_iconst (n := 0) (v := 0) (pc' := 9) (by decide +kernel) (by decide) rfl ?_
  refine gv_istore_n (n := 1) (pc' := 10) (by decide +kernel) (by decide) rfl ?_
  refine gd_jC (fun k6 => ∀ (s12 : gS), k6 s12 = some r0 → gv_V m_Taint_spread 1 false 78 [some (.ref 26), none, none] [] s12 (gv_is r0.1 r0.2)) h (fun s12 h => ?_) (fun k6 hk6 h => ?_)
  · refine gv_iconst (n := 0) (v := 0) (pc' := 79) (by decide +kernel) (by decide) rfl ?_
    refine gv_istore_n (n := 1) (pc' := 80) (by decide +kernel) (by decide) rfl ?_
    refine gd_jC (fun k16 => ∀ (s18 : gS), k16 s18 = some r0 → gv_V m_Taint_spread 1 false 111 [some (.ref 26), none, none] [] s18 (gv_is r0.1 r0.2)) h (fun s18 h => ?_) (fun k16 hk16 h => ?_)
    · refine gv_iconst (n := 0) (v := 0) (pc' := 112) (by decide +kernel) (by decide) rfl ?_
      refine gv_istore_n (n := 1) (pc' := 113) (by decide +kernel) (by decide) rfl ?_
      exact gd_ar (gl_s (gl_s (gl_n gl_z))) (fun z => by cases z) (L_Taint_spread_113 r0 _ _ _ h)
    exact gd_ar (gl_s (gl_s (gl_n gl_z))) (fun z => by cases z) (L_Taint_spread_80 _ r0 hk16 _ _ _ h)
  exact gd_ar (gl_s (gl_s (gl_n gl_z))) (fun z => by cases z) (L_Taint_spread_10 _ r0 hk6 _ _ _ h)
def F_Cut_openEntrance (a : Int32) (σ : gS) : gR :=
 gd_g (gd_in a 1040) <|
 if (gA σ 3 a.toNatClampNeg) = 3 then
  some (.inl none, σ)
 else
  gd_g (gd_in (a >>> ((6 : Int32) &&& 31)) 17) <|
  gd_g (gd_in (a >>> ((6 : Int32) &&& 31)) 17) <|
  gd_s (gs_L σ 37 (a >>> ((6 : Int32) &&& 31)).toNatClampNeg ((gL σ 37 (a >>> ((6 : Int32) &&& 31)).toNatClampNeg) ||| ((1 : Int64) <<< (Int32.toInt64 (a &&& (63 : Int32)) &&& 63)))) fun s1 =>
  some (.inl none, s1)
set_option maxRecDepth 20000 in
theorem X_Cut_openEntrance (a : Int32) (σ : gS) (r0 : gQ × gS) (h : F_Cut_openEntrance a σ = some r0) : gv_K m_Cut_openEntrance [.ref 33, .int a] σ (gv_is r0.1 r0.2) := by
  unfold F_Cut_openEntrance at h
  show gv_V m_Cut_openEntrance 1 true 0 [some (.ref 33), some (.int a)] [] σ (gv_is r0.1 r0.2)
  refine gv_aload_n (n := 0) (pc' := 1) (by decide +kernel) rfl rfl ?_
  refine gv_getr lk_7_32 (by decide +kernel) rfl rfl (pc' := 4) rfl ?_
  refine gv_getr lk_7_57 (by decide +kernel) rfl rfl (pc' := 7) rfl ?_
  refine gv_iload_n (n := 1) (pc' := 8) (by decide +kernel) rfl rfl ?_
  obtain ⟨g8, h⟩ := gd_gE h
  refine gj_iald _ (pc' := 9) (by decide +kernel) rfl (gd_inv g8) rfl rfl ?_
  refine gv_iconst (n := 3) (v := 3) (pc' := 10) (by decide +kernel) (by decide) rfl ?_
  refine gv_icmp_eq (off := 21) (tgt := 31) (pc' := 13) (by decide +kernel) (by decide) rfl (fun c10 => ?_) (fun c10 => ?_)
  · replace h := gd_T c10 h
    exact gv_ret (by decide +kernel) rfl (by decide) (by decide) (gd_rE h)
  · replace h := gd_F c10 h
    refine gv_aload_n (n := 0) (pc' := 14) (by decide +kernel) rfl rfl ?_
    refine gv_getr lk_7_21 (by decide +kernel) rfl rfl (pc' := 17) rfl ?_
    refine gv_iload_n (n := 1) (pc' := 18) (by decide +kernel) rfl rfl ?_
    refine gv_bipush (n := 6) (v := 6) (pc' := 20) (by decide +kernel) (by decide) rfl ?_
    refine gv_ishr (pc' := 21) (by decide +kernel) rfl ?_
    refine gv_dup2_11 (pc' := 22) (by decide +kernel) rfl rfl rfl ?_
    obtain ⟨g22, h⟩ := gd_gE h
    refine gj_lald _ (pc' := 23) (by decide +kernel) rfl (gd_inv g22) rfl rfl ?_
    refine gv_lconst (n := 1) (v := 1) (pc' := 24) (by decide +kernel) (by decide) rfl ?_
    refine gv_iload_n (n := 1) (pc' := 25) (by decide +kernel) rfl rfl ?_
    refine gv_bipush (n := 63) (v := 63) (pc' := 27) (by decide +kernel) (by decide) rfl ?_
    refine gv_iand (pc' := 28) (by decide +kernel) rfl ?_
    refine gv_lshl (pc' := 29) (by decide +kernel) rfl ?_
    refine gv_lor (pc' := 30) (by decide +kernel) rfl ?_
    obtain ⟨g30, h⟩ := gd_gE h
    refine gd_last (pc' := 31) (by decide +kernel) rfl (gd_inv g30) rfl h (fun s1 h => ?_)
    exact gv_ret (by decide +kernel) rfl (by decide) (by decide) (gd_rE h)
def B_Cut_prepare_26 (ag6 : Int32 → gS → gR) (n_1_4 : Int32) (s5 : gS) : gR :=
 if (gI s5 26 9) ≤ n_1_4 then
  some (.inl none, s5)
 else
  gd_g (gd_in n_1_4 1040) <|
  gd_0 (F_Cut_openEntrance (gA s5 29 n_1_4.toNatClampNeg) s5) fun s7 =>
  ag6 (n_1_4 + 1) s7
set_option maxRecDepth 20000 in
theorem L_Cut_prepare_26 (r0 : gQ × gS) (n : Nat) : ∀ (n_1_4 : Int32) (s5 : gS), gd_lp (fun _ _ => none) (B_Cut_prepare_26) n n_1_4 s5 = some r0 → gv_V m_Cut_prepare 1 false 26 [some (.ref 33), some (.int n_1_4)] [] s5 (gv_is r0.1 r0.2) := by
  refine gd_lpC (fun (ag6 : Int32 → gS → gR) => ∀ (n_1_4 : Int32) (s5 : gS), ag6 n_1_4 s5 = some r0 → gv_V m_Cut_prepare 1 false 26 [some (.ref 33), some (.int n_1_4)] [] s5 (gv_is r0.1 r0.2)) (fun n_1_4 s5 h => by cases h) (fun ag6 ih n_1_4 s5 h => ?_) n
  unfold B_Cut_prepare_26 at h
  refine gv_iload_n (n := 1) (pc' := 27) (by decide +kernel) rfl rfl ?_
  refine gv_aload_n (n := 0) (pc' := 28) (by decide +kernel) rfl rfl ?_
  refine gv_getr lk_7_40 (by decide +kernel) rfl rfl (pc' := 31) rfl ?_
  refine gv_getj lk_7_52 (by decide +kernel) rfl rfl (pc' := 34) rfl ?_
  refine gv_icmp_ge (off := 22) (tgt := 56) (pc' := 37) (by decide +kernel) (by decide) rfl (fun c34 => ?_) (fun c34 => ?_)
  · replace h := gd_T c34 h
    exact gv_ret (by decide +kernel) rfl (by decide) (by decide) (gd_rE h)
  · replace h := gd_F c34 h
    refine gv_aload_n (n := 0) (pc' := 38) (by decide +kernel) rfl rfl ?_
    refine gv_aload_n (n := 0) (pc' := 39) (by decide +kernel) rfl rfl ?_
    refine gv_getr lk_7_40 (by decide +kernel) rfl rfl (pc' := 42) rfl ?_
    refine gv_getr lk_7_55 (by decide +kernel) rfl rfl (pc' := 45) rfl ?_
    refine gv_iload_n (n := 1) (pc' := 46) (by decide +kernel) rfl rfl ?_
    obtain ⟨g46, h⟩ := gd_gE h
    refine gj_iald _ (pc' := 47) (by decide +kernel) rfl (gd_inv g46) rfl rfl ?_
    refine gd_cv0 (w' := false) (pc' := 50) (X_Cut_openEntrance _ _) h md_Cut_openEntrance vd_Cut_openEntrance (Or.inl ml_7_78) (by decide +kernel) (by decide) rfl rfl rfl (Nat.le_of_ble_eq_true rfl) (Nat.le_of_ble_eq_true rfl) (by decide) rfl (fun z => by cases z) (by decide) rfl (fun s7 h => ?_)
    refine gv_iincc (i := 1) (n := 1) (c := 1) (pc' := 53) (by decide +kernel) rfl (by decide) (by decide) rfl ?_
    refine gv_goto (off := -27) (tgt := 26) (by decide +kernel) (by decide) ?_
    exact gd_ar (gl_s (gl_s gl_z)) (fun z => by cases z) (ih _ _ h)
def F_Cut_prepare (σ : gS) : gR :=
 gd_s (gs_row σ 34 (f_fill (gA σ 34) 0 1040 (-1))) fun s1 =>
 gd_s (gs_row s1 35 (f_fill (gA s1 35) 0 2080 (-1))) fun s2 =>
 gd_s (gs_rowL s2 37 (f_fillL (gL s2 37) 0 17 0)) fun s3 =>
 gd_lp (fun _ _ => none) (B_Cut_prepare_26) gd_N 0 s3
set_option maxRecDepth 20000 in
theorem X_Cut_prepare (σ : gS) (r0 : gQ × gS) (h : F_Cut_prepare σ = some r0) : gv_K m_Cut_prepare [.ref 33] σ (gv_is r0.1 r0.2) := by
  unfold F_Cut_prepare at h
  show gv_V m_Cut_prepare 1 true 0 [some (.ref 33), none] [] σ (gv_is r0.1 r0.2)
  refine gv_aload_n (n := 0) (pc' := 1) (by decide +kernel) rfl rfl ?_
  refine gv_getr lk_7_9 (by decide +kernel) rfl rfl (pc' := 4) rfl ?_
  refine gv_iconst (n := (-1)) (v := (-1)) (pc' := 5) (by decide +kernel) (by decide) rfl ?_
  refine gd_cs0s (w' := false) (pc' := 8) (c_A_fill_aII 34 1040 _ _ rfl (by decide)) md_A_fill_aII sd_A_fill_aII (Or.inl ml_7_69) (by decide +kernel) (by decide) rfl (Nat.le_of_ble_eq_true rfl) (Nat.le_of_ble_eq_true rfl) (by decide) rfl (fun z => by cases z) (by decide) rfl h (fun s1 h => ?_)
  refine gv_aload_n (n := 0) (pc' := 9) (by decide +kernel) rfl rfl ?_
  refine gv_getr lk_7_15 (by decide +kernel) rfl rfl (pc' := 12) rfl ?_
  refine gv_iconst (n := (-1)) (v := (-1)) (pc' := 13) (by decide +kernel) (by decide) rfl ?_
  refine gd_cs0s (w' := false) (pc' := 16) (c_A_fill_aII 35 2080 _ _ rfl (by decide)) md_A_fill_aII sd_A_fill_aII (Or.inl ml_7_69) (by decide +kernel) (by decide) rfl (Nat.le_of_ble_eq_true rfl) (Nat.le_of_ble_eq_true rfl) (by decide) rfl (fun z => by cases z) (by decide) rfl h (fun s2 h => ?_)
  refine gv_aload_n (n := 0) (pc' := 17) (by decide +kernel) rfl rfl ?_
  refine gv_getr lk_7_21 (by decide +kernel) rfl rfl (pc' := 20) rfl ?_
  refine gv_lconst (n := 0) (v := 0) (pc' := 21) (by decide +kernel) (by decide) rfl ?_
  refine gd_cs0s (w' := false) (pc' := 24) (c_A_fill_aJJ 37 17 _ _ rfl (by decide)) md_A_fill_aJJ sd_A_fill_aJJ (Or.inl ml_7_75) (by decide +kernel) (by decide) rfl (Nat.le_of_ble_eq_true rfl) (Nat.le_of_ble_eq_true rfl) (by decide) rfl (fun z => by cases z) (by decide) rfl h (fun s3 h => ?_)
  refine gv_iconst (n := 0) (v := 0) (pc' := 25) (by decide +kernel) (by decide) rfl ?_
  refine gv_istore_n (n := 1) (pc' := 26) (by decide +kernel) (by decide) rfl ?_
  exact gd_ar (gl_s (gl_s gl_z)) (fun z => by cases z) (L_Cut_prepare_26 r0 _ _ _ h)
def F_Cut_see (a : Int32) (b : Int32) (σ : gS) : gR :=
 gd_g (gd_in a 2080) <|
 if (gA σ 35 a.toNatClampNeg) = (-1) then
  gd_g (gd_in a 2080) <|
  gd_s (gs_A σ 35 a.toNatClampNeg b) fun s1 =>
  gd_g (gd_in (gI s1 33 7) 2080) <|
  gd_s (gs_A s1 36 (gI s1 33 7).toNatClampNeg a) fun s2 =>
  gd_s (gs_I s2 33 7 ((gI s2 33 7) + (1 : Int32))) fun s3 =>
  if (a &&& (1 : Int32)) = 0 then
   gd_g (gd_in (a >>> ((7 : Int32) &&& 31)) 17) <|
   gd_g (gd_in (a >>> ((7 : Int32) &&& 31)) 17) <|
   gd_s (gs_L s3 37 (a >>> ((7 : Int32) &&& 31)).toNatClampNeg ((gL s3 37 (a >>> ((7 : Int32) &&& 31)).toNatClampNeg) &&& (((1 : Int64) <<< (Int32.toInt64 ((a >>> ((1 : Int32) &&& 31)) &&& (63 : Int32)) &&& 63)) ^^^ (-1 : Int64)))) fun s4 =>
   some (.inl none, s4)
  else
   some (.inl none, s3)
 else
  some (.inl none, σ)
set_option maxRecDepth 20000 in
theorem X_Cut_see (a : Int32) (b : Int32) (σ : gS) (r0 : gQ × gS) (h : F_Cut_see a b σ = some r0) : gv_K m_Cut_see [.ref 33, .int a, .int b] σ (gv_is r0.1 r0.2) := by
  unfold F_Cut_see at h
  show gv_V m_Cut_see 1 true 0 [some (.ref 33), some (.int a), some (.int b)] [] σ (gv_is r0.1 r0.2)
  refine gv_aload_n (n := 0) (pc' := 1) (by decide +kernel) rfl rfl ?_
  refine gv_getr lk_7_15 (by decide +kernel) rfl rfl (pc' := 4) rfl ?_
  refine gv_iload_n (n := 1) (pc' := 5) (by decide +kernel) rfl rfl ?_
  obtain ⟨g5, h⟩ := gd_gE h
  refine gj_iald _ (pc' := 6) (by decide +kernel) rfl (gd_inv g5) rfl rfl ?_
  refine gv_iconst (n := (-1)) (v := (-1)) (pc' := 7) (by decide +kernel) (by decide) rfl ?_
  refine gv_icmp_eq (off := 4) (tgt := 11) (pc' := 10) (by decide +kernel) (by decide) rfl (fun c7 => ?_) (fun c7 => ?_)
  · replace h := gd_T c7 h
    refine gv_aload_n (n := 0) (pc' := 12) (by decide +kernel) rfl rfl ?_
    refine gv_getr lk_7_15 (by decide +kernel) rfl rfl (pc' := 15) rfl ?_
    refine gv_iload_n (n := 1) (pc' := 16) (by decide +kernel) rfl rfl ?_
    refine gv_iload_n (n := 2) (pc' := 17) (by decide +kernel) rfl rfl ?_
    obtain ⟨g17, h⟩ := gd_gE h
    refine gd_iast (pc' := 18) (by decide +kernel) rfl (gd_inv g17) rfl h (fun s1 h => ?_)
    refine gv_aload_n (n := 0) (pc' := 19) (by decide +kernel) rfl rfl ?_
    refine gv_getr lk_7_18 (by decide +kernel) rfl rfl (pc' := 22) rfl ?_
    refine gv_aload_n (n := 0) (pc' := 23) (by decide +kernel) rfl rfl ?_
    refine gv_getj lk_7_25 (by decide +kernel) rfl rfl (pc' := 26) rfl ?_
    refine gv_iload_n (n := 1) (pc' := 27) (by decide +kernel) rfl rfl ?_
    obtain ⟨g27, h⟩ := gd_gE h
    refine gd_iast (pc' := 28) (by decide +kernel) rfl (gd_inv g27) rfl h (fun s2 h => ?_)
    refine gv_aload_n (n := 0) (pc' := 29) (by decide +kernel) rfl rfl ?_
    refine gv_dup (pc' := 30) (by decide +kernel) rfl rfl ?_
    refine gv_getj lk_7_25 (by decide +kernel) rfl rfl (pc' := 33) rfl ?_
    refine gv_iconst (n := 1) (v := 1) (pc' := 34) (by decide +kernel) (by decide) rfl ?_
    refine gv_iadd (pc' := 35) (by decide +kernel) rfl ?_
    refine gd_puti lp_7_25 (by decide +kernel) rfl rfl rfl rfl (pc' := 38) rfl h (fun s3 h => ?_)
    refine gv_iload_n (n := 1) (pc' := 39) (by decide +kernel) rfl rfl ?_
    refine gv_iconst (n := 1) (v := 1) (pc' := 40) (by decide +kernel) (by decide) rfl ?_
    refine gv_iand (pc' := 41) (by decide +kernel) rfl ?_
    refine gv_if_ne (off := 27) (tgt := 68) (pc' := 44) (by decide +kernel) (by decide) rfl (fun c41 => ?_) (fun c41 => ?_)
    · replace h := gd_F c41 h
      exact gv_ret (by decide +kernel) rfl (by decide) (by decide) (gd_rE h)
    · replace h := gd_T c41 h
      refine gv_aload_n (n := 0) (pc' := 45) (by decide +kernel) rfl rfl ?_
      refine gv_getr lk_7_21 (by decide +kernel) rfl rfl (pc' := 48) rfl ?_
      refine gv_iload_n (n := 1) (pc' := 49) (by decide +kernel) rfl rfl ?_
      refine gv_bipush (n := 7) (v := 7) (pc' := 51) (by decide +kernel) (by decide) rfl ?_
      refine gv_ishr (pc' := 52) (by decide +kernel) rfl ?_
      refine gv_dup2_11 (pc' := 53) (by decide +kernel) rfl rfl rfl ?_
      obtain ⟨g53, h⟩ := gd_gE h
      refine gj_lald _ (pc' := 54) (by decide +kernel) rfl (gd_inv g53) rfl rfl ?_
      refine gv_lconst (n := 1) (v := 1) (pc' := 55) (by decide +kernel) (by decide) rfl ?_
      refine gv_iload_n (n := 1) (pc' := 56) (by decide +kernel) rfl rfl ?_
      refine gv_iconst (n := 1) (v := 1) (pc' := 57) (by decide +kernel) (by decide) rfl ?_
      refine gv_ishr (pc' := 58) (by decide +kernel) rfl ?_
      refine gv_bipush (n := 63) (v := 63) (pc' := 60) (by decide +kernel) (by decide) rfl ?_
      refine gv_iand (pc' := 61) (by decide +kernel) rfl ?_
      refine gv_lshl (pc' := 62) (by decide +kernel) rfl ?_
      refine gv_ldc2 (v := (-1)) (pc' := 65) (by decide +kernel) cn_7_114 rfl ?_
      refine gv_lxor (pc' := 66) (by decide +kernel) rfl ?_
      refine gv_land (pc' := 67) (by decide +kernel) rfl ?_
      obtain ⟨g67, h⟩ := gd_gE h
      refine gd_last (pc' := 68) (by decide +kernel) rfl (gd_inv g67) rfl h (fun s4 h => ?_)
      exact gv_ret (by decide +kernel) rfl (by decide) (by decide) (gd_rE h)
  · replace h := gd_F c7 h
    exact gv_ret (by decide +kernel) rfl (by decide) (by decide) (gd_rE h)
def F_Cut_leaveEntrance (a : Int32) (σ : gS) : gR :=
 gd_g (gd_in a 1040) <|
 if (gA σ 34 a.toNatClampNeg) = (-1) then
  gd_0 (F_Cut_see (((2 : Int32) * a) + (1 : Int32)) ((2 : Int32) * a) σ) fun s2 =>
  some (.inl none, s2)
 else
  if (gA σ 34 a.toNatClampNeg) = (-2) then
   some (.inl none, σ)
  else
   gd_0 (F_Cut_see (((2 : Int32) * (gA σ 34 a.toNatClampNeg)) + (1 : Int32)) ((2 : Int32) * a) σ) fun s1 =>
   some (.inl none, s1)
set_option maxRecDepth 20000 in
theorem X_Cut_leaveEntrance (a : Int32) (σ : gS) (r0 : gQ × gS) (h : F_Cut_leaveEntrance a σ = some r0) : gv_K m_Cut_leaveEntrance [.ref 33, .int a] σ (gv_is r0.1 r0.2) := by
  unfold F_Cut_leaveEntrance at h
  show gv_V m_Cut_leaveEntrance 1 true 0 [some (.ref 33), some (.int a), none] [] σ (gv_is r0.1 r0.2)
  refine gv_aload_n (n := 0) (pc' := 1) (by decide +kernel) rfl rfl ?_
  refine gv_getr lk_7_9 (by decide +kernel) rfl rfl (pc' := 4) rfl ?_
  refine gv_iload_n (n := 1) (pc' := 5) (by decide +kernel) rfl rfl ?_
  obtain ⟨g5, h⟩ := gd_gE h
  refine gj_iald _ (pc' := 6) (by decide +kernel) rfl (gd_inv g5) rfl rfl ?_
  refine gv_istore_n (n := 2) (pc' := 7) (by decide +kernel) (by decide) rfl ?_
  refine gv_iload_n (n := 2) (pc' := 8) (by decide +kernel) rfl rfl ?_
  refine gv_iconst (n := (-1)) (v := (-1)) (pc' := 9) (by decide +kernel) (by decide) rfl ?_
  refine gv_icmp_ne (off := 18) (tgt := 27) (pc' := 12) (by decide +kernel) (by decide) rfl (fun c9 => ?_) (fun c9 => ?_)
  · replace h := gd_F c9 h
    refine gv_iload_n (n := 2) (pc' := 28) (by decide +kernel) rfl rfl ?_
    refine gv_bipush (n := (-2)) (v := (-2)) (pc' := 30) (by decide +kernel) (by decide) rfl ?_
    refine gv_icmp_eq (off := 15) (tgt := 45) (pc' := 33) (by decide +kernel) (by decide) rfl (fun c30 => ?_) (fun c30 => ?_)
    · replace h := gd_T c30 h
      exact gv_ret (by decide +kernel) rfl (by decide) (by decide) (gd_rE h)
    · replace h := gd_F c30 h
      refine gv_aload_n (n := 0) (pc' := 34) (by decide +kernel) rfl rfl ?_
      refine gv_iconst (n := 2) (v := 2) (pc' := 35) (by decide +kernel) (by decide) rfl ?_
      refine gv_iload_n (n := 2) (pc' := 36) (by decide +kernel) rfl rfl ?_
      refine gv_imul (pc' := 37) (by decide +kernel) rfl ?_
      refine gv_iconst (n := 1) (v := 1) (pc' := 38) (by decide +kernel) (by decide) rfl ?_
      refine gv_iadd (pc' := 39) (by decide +kernel) rfl ?_
      refine gv_iconst (n := 2) (v := 2) (pc' := 40) (by decide +kernel) (by decide) rfl ?_
      refine gv_iload_n (n := 1) (pc' := 41) (by decide +kernel) rfl rfl ?_
      refine gv_imul (pc' := 42) (by decide +kernel) rfl ?_
      refine gd_cv0 (w' := false) (pc' := 45) (X_Cut_see _ _ _) h md_Cut_see vd_Cut_see (Or.inl ml_7_92) (by decide +kernel) (by decide) rfl rfl rfl (Nat.le_of_ble_eq_true rfl) (Nat.le_of_ble_eq_true rfl) (by decide) rfl (fun z => by cases z) (by decide) rfl (fun s1 h => ?_)
      exact gv_ret (by decide +kernel) rfl (by decide) (by decide) (gd_rE h)
  · replace h := gd_T c9 h
    refine gv_aload_n (n := 0) (pc' := 13) (by decide +kernel) rfl rfl ?_
    refine gv_iconst (n := 2) (v := 2) (pc' := 14) (by decide +kernel) (by decide) rfl ?_
    refine gv_iload_n (n := 1) (pc' := 15) (by decide +kernel) rfl rfl ?_
    refine gv_imul (pc' := 16) (by decide +kernel) rfl ?_
    refine gv_iconst (n := 1) (v := 1) (pc' := 17) (by decide +kernel) (by decide) rfl ?_
    refine gv_iadd (pc' := 18) (by decide +kernel) rfl ?_
    refine gv_iconst (n := 2) (v := 2) (pc' := 19) (by decide +kernel) (by decide) rfl ?_
    refine gv_iload_n (n := 1) (pc' := 20) (by decide +kernel) rfl rfl ?_
    refine gv_imul (pc' := 21) (by decide +kernel) rfl ?_
    refine gd_cv0 (w' := false) (pc' := 24) (X_Cut_see _ _ _) h md_Cut_see vd_Cut_see (Or.inl ml_7_92) (by decide +kernel) (by decide) rfl rfl rfl (Nat.le_of_ble_eq_true rfl) (Nat.le_of_ble_eq_true rfl) (by decide) rfl (fun z => by cases z) (by decide) rfl (fun s2 h => ?_)
    refine gv_goto (off := 21) (tgt := 45) (by decide +kernel) (by decide) ?_
    exact gv_ret (by decide +kernel) rfl (by decide) (by decide) (gd_rE h)
def B_Reach_nextAmong_37_3 (k4 : Int32 → Int64 → gP) (k5 : gP) (σ : gS) (x_2_1 : Int32) (ag3 : Int32 → gP) (n_4_2 : Int32) : gP :=
 if (gI σ 2 7) ≤ n_4_2 then
  k5
 else
  gd_g (gd_in ((x_2_1 * (17 : Int32)) + (n_4_2 >>> ((6 : Int32) &&& 31))) 17680) <|
  gd_g (gd_in (n_4_2 >>> ((6 : Int32) &&& 31)) 17) <|
  if (lg_cmp ((Int64.toUInt64 ((gL σ 22 ((x_2_1 * (17 : Int32)) + (n_4_2 >>> ((6 : Int32) &&& 31))).toNatClampNeg) &&& (gL σ 37 (n_4_2 >>> ((6 : Int32) &&& 31)).toNatClampNeg)) >>> ((Int32.toInt64 (n_4_2 &&& (63 : Int32))).toUInt64 &&& Int64.toUInt64 63)).toInt64) (0 : Int64)) = 0 then
   ag3 ((n_4_2 ||| (63 : Int32)) + (1 : Int32))
  else
   k4 n_4_2 ((Int64.toUInt64 ((gL σ 22 ((x_2_1 * (17 : Int32)) + (n_4_2 >>> ((6 : Int32) &&& 31))).toNatClampNeg) &&& (gL σ 37 (n_4_2 >>> ((6 : Int32) &&& 31)).toNatClampNeg)) >>> ((Int32.toInt64 (n_4_2 &&& (63 : Int32))).toUInt64 &&& Int64.toUInt64 63)).toInt64)
set_option maxRecDepth 20000 in
theorem L_Reach_nextAmong_37_3 (k4 : Int32 → Int64 → gP) (k5 : gP) (σ : gS) (x_2_1 : Int32) (r0 : gQ) (hk4 : ∀ (v6 : Int32) (v7 : Int64), k4 v6 v7 = some r0 → gv_V m_Reach_nextAmong 1 true 54 [none, none, none, none, some (.int v6), none, some (.long v7), none] [] σ (gv_is r0 σ)) (hk5 : k5 = some r0 → gv_V m_Reach_nextAmong 1 true 81 [some (.ref 21), none, none, none, none, none, none, none] [] σ (gv_is r0 σ)) (n : Nat) : ∀ (n_4_2 : Int32), gd_lp (fun _ => none) (B_Reach_nextAmong_37_3 k4 k5 σ x_2_1) n n_4_2 = some r0 → gv_V m_Reach_nextAmong 1 true 3 [some (.ref 21), some (.ref 37), some (.int x_2_1), none, some (.int n_4_2), none, none, none] [] σ (gv_is r0 σ) := by
  refine gd_lpC (fun (ag3 : Int32 → gP) => ∀ (n_4_2 : Int32), ag3 n_4_2 = some r0 → gv_V m_Reach_nextAmong 1 true 3 [some (.ref 21), some (.ref 37), some (.int x_2_1), none, some (.int n_4_2), none, none, none] [] σ (gv_is r0 σ)) (fun n_4_2 h => by cases h) (fun ag3 ih n_4_2 h => ?_) n
  unfold B_Reach_nextAmong_37_3 at h
  refine gv_iload (n := 4) (pc' := 5) (by decide +kernel) rfl rfl ?_
  refine gv_aload_n (n := 0) (pc' := 6) (by decide +kernel) rfl rfl ?_
  refine gv_getr lk_5_29 (by decide +kernel) rfl rfl (pc' := 9) rfl ?_
  refine gv_getj lk_5_71 (by decide +kernel) rfl rfl (pc' := 12) rfl ?_
  refine gv_icmp_ge (off := 69) (tgt := 81) (pc' := 15) (by decide +kernel) (by decide) rfl (fun c12 => ?_) (fun c12 => ?_)
  · replace h := gd_T c12 h
    exact gd_ar (gl_s (gl_n (gl_n (gl_n (gl_n (gl_n (gl_n (gl_n gl_z)))))))) (fun _ => rfl) (hk5  h)
  · replace h := gd_F c12 h
    refine gv_iload (n := 4) (pc' := 17) (by decide +kernel) rfl rfl ?_
    refine gv_bipush (n := 6) (v := 6) (pc' := 19) (by decide +kernel) (by decide) rfl ?_
    refine gv_ishr (pc' := 20) (by decide +kernel) rfl ?_
    refine gv_istore (n := 5) (pc' := 22) (by decide +kernel) (by decide) rfl ?_
    refine gv_aload_n (n := 0) (pc' := 23) (by decide +kernel) rfl rfl ?_
    refine gv_getr lk_5_9 (by decide +kernel) rfl rfl (pc' := 26) rfl ?_
    refine gv_iload_n (n := 2) (pc' := 27) (by decide +kernel) rfl rfl ?_
    refine gv_bipush (n := 17) (v := 17) (pc' := 29) (by decide +kernel) (by decide) rfl ?_
    refine gv_imul (pc' := 30) (by decide +kernel) rfl ?_
    refine gv_iload (n := 5) (pc' := 32) (by decide +kernel) rfl rfl ?_
    refine gv_iadd (pc' := 33) (by decide +kernel) rfl ?_
    obtain ⟨g33, h⟩ := gd_gE h
    refine gj_lald _ (pc' := 34) (by decide +kernel) rfl (gd_inv g33) rfl rfl ?_
    refine gv_aload_n (n := 1) (pc' := 35) (by decide +kernel) rfl rfl ?_
    refine gv_iload (n := 5) (pc' := 37) (by decide +kernel) rfl rfl ?_
    obtain ⟨g37, h⟩ := gd_gE h
    refine gj_lald _ (pc' := 38) (by decide +kernel) rfl (gd_inv g37) rfl rfl ?_
    refine gv_land (pc' := 39) (by decide +kernel) rfl ?_
    refine gv_iload (n := 4) (pc' := 41) (by decide +kernel) rfl rfl ?_
    refine gv_bipush (n := 63) (v := 63) (pc' := 43) (by decide +kernel) (by decide) rfl ?_
    refine gv_iand (pc' := 44) (by decide +kernel) rfl ?_
    refine gv_lushr (pc' := 45) (by decide +kernel) rfl ?_
    refine gv_lstore (n := 6) (pc' := 47) (by decide +kernel) (by decide) rfl ?_
    refine gv_lload (n := 6) (pc' := 49) (by decide +kernel) rfl rfl ?_
    refine gv_lconst (n := 0) (v := 0) (pc' := 50) (by decide +kernel) (by decide) rfl ?_
    refine gv_lcmp (pc' := 51) (by decide +kernel) rfl ?_
    refine gv_if_eq (off := 18) (tgt := 69) (pc' := 54) (by decide +kernel) (by decide) rfl (fun c51 => ?_) (fun c51 => ?_)
    · replace h := gd_T c51 h
      refine gv_iload (n := 4) (pc' := 71) (by decide +kernel) rfl rfl ?_
      refine gv_bipush (n := 63) (v := 63) (pc' := 73) (by decide +kernel) (by decide) rfl ?_
      refine gv_ior (pc' := 74) (by decide +kernel) rfl ?_
      refine gv_iconst (n := 1) (v := 1) (pc' := 75) (by decide +kernel) (by decide) rfl ?_
      refine gv_iadd (pc' := 76) (by decide +kernel) rfl ?_
      refine gv_istore (n := 4) (pc' := 78) (by decide +kernel) (by decide) rfl ?_
      refine gv_goto (off := -75) (tgt := 3) (by decide +kernel) (by decide) ?_
      exact gd_ar (gl_s (gl_s (gl_s (gl_n (gl_s (gl_n (gl_n (gl_n gl_z)))))))) (fun _ => rfl) (ih _ h)
    · replace h := gd_F c51 h
      exact gd_ar (gl_n (gl_n (gl_n (gl_n (gl_s (gl_n (gl_s (gl_n gl_z)))))))) (fun _ => rfl) (hk4 _ _ h)
def R_Reach_nextAmong_37 (a : Int32) (b : Int32) (σ : gS) : gP :=
 gd_j (α := Int32 → Int64 → gP) (fun (v6 : Int32) (v7 : Int64) =>
  some (.inl (some (.int (v6 + (f_Lo_bitCount ((v7 &&& (-v7)) - (1 : Int64)))))))) fun k4 =>
 gd_j (α := gP) (
  some (.inl (some (.int (gI σ 2 7))))) fun k5 =>
 gd_lp (fun _ => none) (B_Reach_nextAmong_37_3 k4 k5 σ a) gd_N b
set_option maxRecDepth 20000 in
theorem X_Reach_nextAmong_37 (a : Int32) (b : Int32) (σ : gS) (r0 : gQ) (h : R_Reach_nextAmong_37 a b σ = some r0) : gv_K m_Reach_nextAmong [.ref 21, .ref 37, .int a, .int b] σ (gv_is r0 σ) := by
  unfold R_Reach_nextAmong_37 at h
  show gv_V m_Reach_nextAmong 1 true 0 [some (.ref 21), some (.ref 37), some (.int a), some (.int b), none, none, none, none] [] σ (gv_is r0 σ)
  refine gv_iload_n (n := 3) (pc' := 1) (by decide +kernel) rfl rfl ?_
  refine gv_istore (n := 4) (pc' := 3) (by decide +kernel) (by decide) rfl ?_
  refine gd_jC (fun k4 => ∀ (v6 : Int32) (v7 : Int64), k4 v6 v7 = some r0 → gv_V m_Reach_nextAmong 1 true 54 [none, none, none, none, some (.int v6), none, some (.long v7), none] [] σ (gv_is r0 σ)) h (fun v6 v7 h => ?_) (fun k4 hk4 h => ?_)
  · refine gv_iload (n := 4) (pc' := 56) (by decide +kernel) rfl rfl ?_
    refine gv_lload (n := 6) (pc' := 58) (by decide +kernel) rfl rfl ?_
    refine gv_lload (n := 6) (pc' := 60) (by decide +kernel) rfl rfl ?_
    refine gv_lneg (pc' := 61) (by decide +kernel) rfl ?_
    refine gv_land (pc' := 62) (by decide +kernel) rfl ?_
    refine gv_lconst (n := 1) (v := 1) (pc' := 63) (by decide +kernel) (by decide) rfl ?_
    refine gv_lsub (pc' := 64) (by decide +kernel) rfl ?_
    refine gv_csi (w' := true) (pc' := 67) (y_Lo_bitCount _ _) md_Lo_bitCount sd_Lo_bitCount (Or.inl ml_5_74) (by decide +kernel) (by decide) rfl (Nat.le_of_ble_eq_true rfl) (Nat.le_of_ble_eq_true rfl) (by decide) rfl (fun z => ⟨rfl, z⟩) (by decide) rfl ?_
    refine gv_iadd (pc' := 68) (by decide +kernel) rfl ?_
    exact gv_iret .int (by decide +kernel) rfl rfl (by decide) (by decide) (gd_pE h)
  refine gd_jC (fun k5 => k5 = some r0 → gv_V m_Reach_nextAmong 1 true 81 [some (.ref 21), none, none, none, none, none, none, none] [] σ (gv_is r0 σ)) h (fun  h => ?_) (fun k5 hk5 h => ?_)
  · refine gv_aload_n (n := 0) (pc' := 82) (by decide +kernel) rfl rfl ?_
    refine gv_getr lk_5_29 (by decide +kernel) rfl rfl (pc' := 85) rfl ?_
    refine gv_getj lk_5_71 (by decide +kernel) rfl rfl (pc' := 88) rfl ?_
    exact gv_iret .int (by decide +kernel) rfl rfl (by decide) (by decide) (gd_pE h)
  exact gd_ar (gl_s (gl_s (gl_s (gl_n (gl_s (gl_n (gl_n (gl_n gl_z)))))))) (fun _ => rfl) (L_Reach_nextAmong_37_3 _ _ _ _ r0 hk4 hk5 _ _ h)
def B_Cut_leaveExit_36 (x_1_5 : Int32) (ag8 : Int32 → gS → gR) (n_2_6 : Int32) (s7 : gS) : gR :=
 if (gI s7 2 7) ≤ n_2_6 then
  some (.inl none, s7)
 else
  gd_0 (F_Cut_see ((2 : Int32) * n_2_6) (((2 : Int32) * x_1_5) + (1 : Int32)) s7) fun s9 =>
  gd_qi (R_Reach_nextAmong_37 x_1_5 (n_2_6 + (1 : Int32)) s9) s9 fun r10 =>
  ag8 r10 s9
set_option maxRecDepth 20000 in
theorem L_Cut_leaveExit_36 (x_1_5 : Int32) (r0 : gQ × gS) (n : Nat) : ∀ (n_2_6 : Int32) (s7 : gS), gd_lp (fun _ _ => none) (B_Cut_leaveExit_36 x_1_5) n n_2_6 s7 = some r0 → gv_V m_Cut_leaveExit 1 false 36 [some (.ref 33), some (.int x_1_5), some (.int n_2_6)] [] s7 (gv_is r0.1 r0.2) := by
  refine gd_lpC (fun (ag8 : Int32 → gS → gR) => ∀ (n_2_6 : Int32) (s7 : gS), ag8 n_2_6 s7 = some r0 → gv_V m_Cut_leaveExit 1 false 36 [some (.ref 33), some (.int x_1_5), some (.int n_2_6)] [] s7 (gv_is r0.1 r0.2)) (fun n_2_6 s7 h => by cases h) (fun ag8 ih n_2_6 s7 h => ?_) n
  unfold B_Cut_leaveExit_36 at h
  refine gv_iload_n (n := 2) (pc' := 37) (by decide +kernel) rfl rfl ?_
  refine gv_aload_n (n := 0) (pc' := 38) (by decide +kernel) rfl rfl ?_
  refine gv_getr lk_7_32 (by decide +kernel) rfl rfl (pc' := 41) rfl ?_
  refine gv_getj lk_7_111 (by decide +kernel) rfl rfl (pc' := 44) rfl ?_
  refine gv_icmp_ge (off := 34) (tgt := 78) (pc' := 47) (by decide +kernel) (by decide) rfl (fun c44 => ?_) (fun c44 => ?_)
  · replace h := gd_T c44 h
    exact gv_ret (by decide +kernel) rfl (by decide) (by decide) (gd_rE h)
  · replace h := gd_F c44 h
    refine gv_aload_n (n := 0) (pc' := 48) (by decide +kernel) rfl rfl ?_
    refine gv_iconst (n := 2) (v := 2) (pc' := 49) (by decide +kernel) (by decide) rfl ?_
    refine gv_iload_n (n := 2) (pc' := 50) (by decide +kernel) rfl rfl ?_
    refine gv_imul (pc' := 51) (by decide +kernel) rfl ?_
    refine gv_iconst (n := 2) (v := 2) (pc' := 52) (by decide +kernel) (by decide) rfl ?_
    refine gv_iload_n (n := 1) (pc' := 53) (by decide +kernel) rfl rfl ?_
    refine gv_imul (pc' := 54) (by decide +kernel) rfl ?_
    refine gv_iconst (n := 1) (v := 1) (pc' := 55) (by decide +kernel) (by decide) rfl ?_
    refine gv_iadd (pc' := 56) (by decide +kernel) rfl ?_
    refine gd_cv0 (w' := false) (pc' := 59) (X_Cut_see _ _ _) h md_Cut_see vd_Cut_see (Or.inl ml_7_92) (by decide +kernel) (by decide) rfl rfl rfl (Nat.le_of_ble_eq_true rfl) (Nat.le_of_ble_eq_true rfl) (by decide) rfl (fun z => by cases z) (by decide) rfl (fun s9 h => ?_)
    refine gv_aload_n (n := 0) (pc' := 60) (by decide +kernel) rfl rfl ?_
    refine gv_getr lk_7_36 (by decide +kernel) rfl rfl (pc' := 63) rfl ?_
    refine gv_aload_n (n := 0) (pc' := 64) (by decide +kernel) rfl rfl ?_
    refine gv_getr lk_7_21 (by decide +kernel) rfl rfl (pc' := 67) rfl ?_
    refine gv_iload_n (n := 1) (pc' := 68) (by decide +kernel) rfl rfl ?_
    refine gv_iload_n (n := 2) (pc' := 69) (by decide +kernel) rfl rfl ?_
    refine gv_iconst (n := 1) (v := 1) (pc' := 70) (by decide +kernel) (by decide) rfl ?_
    refine gv_iadd (pc' := 71) (by decide +kernel) rfl ?_
    refine gd_dvi (w' := false) (pc' := 74) (X_Reach_nextAmong_37 _ _ _) h md_Reach_nextAmong vd_Reach_nextAmong (Or.inl ml_7_105) (by decide +kernel) (by decide) rfl rfl rfl (Nat.le_of_ble_eq_true rfl) (Nat.le_of_ble_eq_true rfl) (by decide) rfl (fun z => by cases z) (by decide) rfl (fun r10 h => ?_)
    refine gv_istore_n (n := 2) (pc' := 75) (by decide +kernel) (by decide) rfl ?_
    refine gv_goto (off := -39) (tgt := 36) (by decide +kernel) (by decide) ?_
    exact gd_ar (gl_s (gl_s (gl_s gl_z))) (fun z => by cases z) (ih _ _ h)
def F_Cut_leaveExit (a : Int32) (σ : gS) : gR :=
 gd_g (gd_in a 1040) <|
 gd_j (α := gS → gR) (fun (s3 : gS) =>
  gd_qi (R_Reach_nextAmong_37 a 0 s3) s3 fun r4 =>
  gd_lp (fun _ _ => none) (B_Cut_leaveExit_36 a) gd_N r4 s3) fun J1 =>
 if (gA σ 34 a.toNatClampNeg) = (-1) then
  J1 σ
 else
  gd_0 (F_Cut_see ((2 : Int32) * a) (((2 : Int32) * a) + (1 : Int32)) σ) fun s2 =>
  J1 s2
set_option maxRecDepth 20000 in
theorem X_Cut_leaveExit (a : Int32) (σ : gS) (r0 : gQ × gS) (h : F_Cut_leaveExit a σ = some r0) : gv_K m_Cut_leaveExit [.ref 33, .int a] σ (gv_is r0.1 r0.2) := by
  unfold F_Cut_leaveExit at h
  show gv_V m_Cut_leaveExit 1 true 0 [some (.ref 33), some (.int a), none] [] σ (gv_is r0.1 r0.2)
  refine gv_aload_n (n := 0) (pc' := 1) (by decide +kernel) rfl rfl ?_
  refine gv_getr lk_7_9 (by decide +kernel) rfl rfl (pc' := 4) rfl ?_
  refine gv_iload_n (n := 1) (pc' := 5) (by decide +kernel) rfl rfl ?_
  obtain ⟨g5, h⟩ := gd_gE h
  refine gj_iald _ (pc' := 6) (by decide +kernel) rfl (gd_inv g5) rfl rfl ?_
  refine gv_iconst (n := (-1)) (v := (-1)) (pc' := 7) (by decide +kernel) (by decide) rfl ?_
  refine gd_jC (fun J1 => ∀ (s3 : gS), J1 s3 = some r0 → gv_V m_Cut_leaveExit 1 false 22 [some (.ref 33), some (.int a), none] [] s3 (gv_is r0.1 r0.2)) h (fun s3 h => ?_) (fun J1 hJ1 h => ?_)
  · refine gv_aload_n (n := 0) (pc' := 23) (by decide +kernel) rfl rfl ?_
    refine gv_getr lk_7_36 (by decide +kernel) rfl rfl (pc' := 26) rfl ?_
    refine gv_aload_n (n := 0) (pc' := 27) (by decide +kernel) rfl rfl ?_
    refine gv_getr lk_7_21 (by decide +kernel) rfl rfl (pc' := 30) rfl ?_
    refine gv_iload_n (n := 1) (pc' := 31) (by decide +kernel) rfl rfl ?_
    refine gv_iconst (n := 0) (v := 0) (pc' := 32) (by decide +kernel) (by decide) rfl ?_
    refine gd_dvi (w' := false) (pc' := 35) (X_Reach_nextAmong_37 _ _ _) h md_Reach_nextAmong vd_Reach_nextAmong (Or.inl ml_7_105) (by decide +kernel) (by decide) rfl rfl rfl (Nat.le_of_ble_eq_true rfl) (Nat.le_of_ble_eq_true rfl) (by decide) rfl (fun z => by cases z) (by decide) rfl (fun r4 h => ?_)
    refine gv_istore_n (n := 2) (pc' := 36) (by decide +kernel) (by decide) rfl ?_
    exact gd_ar (gl_s (gl_s (gl_s gl_z))) (fun z => by cases z) (L_Cut_leaveExit_36 _ r0 _ _ _ h)
  · refine gv_icmp_eq (off := 15) (tgt := 22) (pc' := 10) (by decide +kernel) (by decide) rfl (fun c7 => ?_) (fun c7 => ?_)
    · replace h := gd_T c7 h
      exact gd_ar (gl_s (gl_s (gl_n gl_z))) (fun z => by cases z) (hJ1 _ h)
    · replace h := gd_F c7 h
      refine gv_aload_n (n := 0) (pc' := 11) (by decide +kernel) rfl rfl ?_
      refine gv_iconst (n := 2) (v := 2) (pc' := 12) (by decide +kernel) (by decide) rfl ?_
      refine gv_iload_n (n := 1) (pc' := 13) (by decide +kernel) rfl rfl ?_
      refine gv_imul (pc' := 14) (by decide +kernel) rfl ?_
      refine gv_iconst (n := 2) (v := 2) (pc' := 15) (by decide +kernel) (by decide) rfl ?_
      refine gv_iload_n (n := 1) (pc' := 16) (by decide +kernel) rfl rfl ?_
      refine gv_imul (pc' := 17) (by decide +kernel) rfl ?_
      refine gv_iconst (n := 1) (v := 1) (pc' := 18) (by decide +kernel) (by decide) rfl ?_
      refine gv_iadd (pc' := 19) (by decide +kernel) rfl ?_
      refine gd_cv0 (w' := false) (pc' := 22) (X_Cut_see _ _ _) h md_Cut_see vd_Cut_see (Or.inl ml_7_92) (by decide +kernel) (by decide) rfl rfl rfl (Nat.le_of_ble_eq_true rfl) (Nat.le_of_ble_eq_true rfl) (by decide) rfl (fun z => by cases z) (by decide) rfl (fun s2 h => ?_)
      exact gd_ar (gl_s (gl_s (gl_n gl_z))) (fun z => by cases z) (hJ1 _ h)
def B_Cut_search_16 (ag5 : Int32 → gS → gR) (n_2_3 : Int32) (s4 : gS) : gR :=
 if (gI s4 33 7) ≤ n_2_3 then
  some (.inl (some (.int (-1))), s4)
 else
  if 2080 ≤ n_2_3 then
   some (.inl (some (.int (-1))), s4)
  else
   gd_g (gd_in n_2_3 2080) <|
   gd_g (gd_in n_2_3 2080) <|
   gd_t (α := Int32) (if ((gA s4 36 n_2_3.toNatClampNeg) &&& (1 : Int32)) = 1 then
     1
    else
     0) fun v7 =>
   gd_j (α := gR) (
    gd_j (α := gS → gR) (fun (s12 : gS) =>
     ag5 (n_2_3 + 1) s12) fun J9 =>
    if v7 = 0 then
     gd_0 (F_Cut_leaveEntrance ((gA s4 36 n_2_3.toNatClampNeg) >>> ((1 : Int32) &&& 31)) s4) fun s10 =>
     J9 s10
    else
     gd_0 (F_Cut_leaveExit ((gA s4 36 n_2_3.toNatClampNeg) >>> ((1 : Int32) &&& 31)) s4) fun s11 =>
     J9 s11) fun J8 =>
   if v7 = 0 then
    J8
   else
    gd_g (gd_in ((gA s4 36 n_2_3.toNatClampNeg) >>> ((1 : Int32) &&& 31)) 1040) <|
    if (gA s4 30 ((gA s4 36 n_2_3.toNatClampNeg) >>> ((1 : Int32) &&& 31)).toNatClampNeg) = 0 then
     J8
    else
     some (.inl (some (.int ((gA s4 36 n_2_3.toNatClampNeg) >>> ((1 : Int32) &&& 31)))), s4)
set_option maxRecDepth 20000 in
theorem L_Cut_search_16 (r0 : gQ × gS) (n : Nat) : ∀ (n_2_3 : Int32) (s4 : gS), gd_lp (fun _ _ => none) (B_Cut_search_16) n n_2_3 s4 = some r0 → gv_V m_Cut_search 1 false 16 [some (.ref 33), none, some (.int n_2_3), none, none] [] s4 (gv_is r0.1 r0.2) := by
  refine gd_lpC (fun (ag5 : Int32 → gS → gR) => ∀ (n_2_3 : Int32) (s4 : gS), ag5 n_2_3 s4 = some r0 → gv_V m_Cut_search 1 false 16 [some (.ref 33), none, some (.int n_2_3), none, none] [] s4 (gv_is r0.1 r0.2)) (fun n_2_3 s4 h => by cases h) (fun ag5 ih n_2_3 s4 h => ?_) n
  unfold B_Cut_search_16 at h
  refine gv_iload_n (n := 2) (pc' := 17) (by decide +kernel) rfl rfl ?_
  refine gv_aload_n (n := 0) (pc' := 18) (by decide +kernel) rfl rfl ?_
  refine gv_getj lk_7_25 (by decide +kernel) rfl rfl (pc' := 21) rfl ?_
  refine gv_icmp_ge (off := 81) (tgt := 102) (pc' := 24) (by decide +kernel) (by decide) rfl (fun c21 => ?_) (fun c21 => ?_)
  · replace h := gd_T c21 h
    refine gv_iconst (n := (-1)) (v := (-1)) (pc' := 103) (by decide +kernel) (by decide) rfl ?_
    exact gv_iret .int (by decide +kernel) rfl rfl (by decide) (by decide) (gd_rE h)
  · replace h := gd_F c21 h
    refine gv_iload_n (n := 2) (pc' := 25) (by decide +kernel) rfl rfl ?_
    refine gv_sipush (n := 2080) (v := 2080) (pc' := 28) (by decide +kernel) (by decide) rfl ?_
    refine gv_icmp_ge (off := 74) (tgt := 102) (pc' := 31) (by decide +kernel) (by decide) rfl (fun c28 => ?_) (fun c28 => ?_)
    · replace h := gd_T c28 h
      refine gv_iconst (n := (-1)) (v := (-1)) (pc' := 103) (by decide +kernel) (by decide) rfl ?_
      exact gv_iret .int (by decide +kernel) rfl rfl (by decide) (by decide) (gd_rE h)
    · replace h := gd_F c28 h
      refine gv_aload_n (n := 0) (pc' := 32) (by decide +kernel) rfl rfl ?_
      refine gv_getr lk_7_18 (by decide +kernel) rfl rfl (pc' := 35) rfl ?_
      refine gv_iload_n (n := 2) (pc' := 36) (by decide +kernel) rfl rfl ?_
      obtain ⟨g36, h⟩ := gd_gE h
      refine gj_iald _ (pc' := 37) (by decide +kernel) rfl (gd_inv g36) rfl rfl ?_
      refine gv_iconst (n := 1) (v := 1) (pc' := 38) (by decide +kernel) (by decide) rfl ?_
      refine gv_ishr (pc' := 39) (by decide +kernel) rfl ?_
      refine gv_istore_n (n := 3) (pc' := 40) (by decide +kernel) (by decide) rfl ?_
      refine gv_aload_n (n := 0) (pc' := 41) (by decide +kernel) rfl rfl ?_
      refine gv_getr lk_7_18 (by decide +kernel) rfl rfl (pc' := 44) rfl ?_
      refine gv_iload_n (n := 2) (pc' := 45) (by decide +kernel) rfl rfl ?_
      obtain ⟨g45, h⟩ := gd_gE h
      refine gj_iald _ (pc' := 46) (by decide +kernel) rfl (gd_inv g45) rfl rfl ?_
      refine gv_iconst (n := 1) (v := 1) (pc' := 47) (by decide +kernel) (by decide) rfl ?_
      refine gv_iand (pc' := 48) (by decide +kernel) rfl ?_
      refine gv_iconst (n := 1) (v := 1) (pc' := 49) (by decide +kernel) (by decide) rfl ?_
      refine gd_tC (fun (v7 : Int32) => gv_V m_Cut_search 1 false 57 [some (.ref 33), none, some (.int n_2_3), some (.int ((gA s4 36 n_2_3.toNatClampNeg) >>> ((1 : Int32) &&& 31))), none] [.int v7] s4 (gv_is r0.1 r0.2)) h (fun v7 h => ?_) (fun KJ6 hJ6 h => ?_)
      · refine gv_istore (n := 4) (pc' := 59) (by decide +kernel) (by decide) rfl ?_
        refine gv_iload (n := 4) (pc' := 61) (by decide +kernel) rfl rfl ?_
        refine gd_jC (fun J8 => J8 = some r0 → gv_V m_Cut_search 1 false 78 [some (.ref 33), none, some (.int n_2_3), some (.int ((gA s4 36 n_2_3.toNatClampNeg) >>> ((1 : Int32) &&& 31))), some (.int v7)] [] s4 (gv_is r0.1 r0.2)) h (fun  h => ?_) (fun J8 hJ8 h => ?_)
        · refine gv_iload (n := 4) (pc' := 80) (by decide +kernel) rfl rfl ?_
          refine gd_jC (fun J9 => ∀ (s12 : gS), J9 s12 = some r0 → gv_V m_Cut_search 1 false 96 [some (.ref 33), none, some (.int n_2_3), none, none] [] s12 (gv_is r0.1 r0.2)) h (fun s12 h => ?_) (fun J9 hJ9 h => ?_)
          · refine gv_iincc (i := 2) (n := 1) (c := 1) (pc' := 99) (by decide +kernel) rfl (by decide) (by decide) rfl ?_
            refine gv_goto (off := -83) (tgt := 16) (by decide +kernel) (by decide) ?_
            exact gd_ar (gl_s (gl_n (gl_s (gl_n (gl_n gl_z))))) (fun z => by cases z) (ih _ _ h)
          · refine gv_if_eq (off := 11) (tgt := 91) (pc' := 83) (by decide +kernel) (by decide) rfl (fun c80 => ?_) (fun c80 => ?_)
            · replace h := gd_T c80 h
              refine gv_aload_n (n := 0) (pc' := 92) (by decide +kernel) rfl rfl ?_
              refine gv_iload_n (n := 3) (pc' := 93) (by decide +kernel) rfl rfl ?_
              refine gd_cv0 (w' := false) (pc' := 96) (X_Cut_leaveEntrance _ _) h md_Cut_leaveEntrance vd_Cut_leaveEntrance (Or.inl ml_7_102) (by decide +kernel) (by decide) rfl rfl rfl (Nat.le_of_ble_eq_true rfl) (Nat.le_of_ble_eq_true rfl) (by decide) rfl (fun z => by cases z) (by decide) rfl (fun s10 h => ?_)
              exact gd_ar (gl_s (gl_n (gl_s (gl_n (gl_n gl_z))))) (fun z => by cases z) (hJ9 _ h)
            · replace h := gd_F c80 h
              refine gv_aload_n (n := 0) (pc' := 84) (by decide +kernel) rfl rfl ?_
              refine gv_iload_n (n := 3) (pc' := 85) (by decide +kernel) rfl rfl ?_
              refine gd_cv0 (w' := false) (pc' := 88) (X_Cut_leaveExit _ _) h md_Cut_leaveExit vd_Cut_leaveExit (Or.inl ml_7_99) (by decide +kernel) (by decide) rfl rfl rfl (Nat.le_of_ble_eq_true rfl) (Nat.le_of_ble_eq_true rfl) (by decide) rfl (fun z => by cases z) (by decide) rfl (fun s11 h => ?_)
              refine gv_goto (off := 8) (tgt := 96) (by decide +kernel) (by decide) ?_
              exact gd_ar (gl_s (gl_n (gl_s (gl_n (gl_n gl_z))))) (fun z => by cases z) (hJ9 _ h)
        · refine gv_if_eq (off := 17) (tgt := 78) (pc' := 64) (by decide +kernel) (by decide) rfl (fun c61 => ?_) (fun c61 => ?_)
          · replace h := gd_T c61 h
            exact gd_ar (gl_s (gl_n (gl_s (gl_s (gl_s gl_z))))) (fun z => by cases z) (hJ8  h)
          · replace h := gd_F c61 h
            refine gv_aload_n (n := 0) (pc' := 65) (by decide +kernel) rfl rfl ?_
            refine gv_getr lk_7_40 (by decide +kernel) rfl rfl (pc' := 68) rfl ?_
            refine gv_getr lk_7_95 (by decide +kernel) rfl rfl (pc' := 71) rfl ?_
            refine gv_iload_n (n := 3) (pc' := 72) (by decide +kernel) rfl rfl ?_
            obtain ⟨g72, h⟩ := gd_gE h
            refine gj_zald _ (pc' := 73) (by decide +kernel) rfl (gd_inv g72) rfl rfl ?_
            refine gv_if_eq (off := 5) (tgt := 78) (pc' := 76) (by decide +kernel) (by decide) rfl (fun c73 => ?_) (fun c73 => ?_)
            · replace h := gd_T c73 h
              exact gd_ar (gl_s (gl_n (gl_s (gl_s (gl_s gl_z))))) (fun z => by cases z) (hJ8  h)
            · replace h := gd_F c73 h
              refine gv_iload_n (n := 3) (pc' := 77) (by decide +kernel) rfl rfl ?_
              exact gv_iret .int (by decide +kernel) rfl rfl (by decide) (by decide) (gd_rE h)
      · refine gv_icmp_ne (off := 7) (tgt := 56) (pc' := 52) (by decide +kernel) (by decide) rfl (fun c49 => ?_) (fun c49 => ?_)
        · replace h := gd_tF c49 h
          refine gv_iconst (n := 0) (v := 0) (pc' := 57) (by decide +kernel) (by decide) rfl ?_
          exact gd_ar (gl_s (gl_n (gl_s (gl_s (gl_n gl_z))))) (fun z => by cases z) (hJ6 _ h)
        · replace h := gd_tT c49 h
          refine gv_iconst (n := 1) (v := 1) (pc' := 53) (by decide +kernel) (by decide) rfl ?_
          refine gv_goto (off := 4) (tgt := 57) (by decide +kernel) (by decide) ?_
          exact gd_ar (gl_s (gl_n (gl_s (gl_s (gl_n gl_z))))) (fun z => by cases z) (hJ6 _ h)
def F_Cut_search (a : Int32) (σ : gS) : gR :=
 gd_s (gs_I σ 33 7 0) fun s1 =>
 gd_0 (F_Cut_see ((2 : Int32) * a) (-2) s1) fun s2 =>
 gd_lp (fun _ _ => none) (B_Cut_search_16) gd_N 0 s2
set_option maxRecDepth 20000 in
theorem X_Cut_search (a : Int32) (σ : gS) (r0 : gQ × gS) (h : F_Cut_search a σ = some r0) : gv_K m_Cut_search [.ref 33, .int a] σ (gv_is r0.1 r0.2) := by
  unfold F_Cut_search at h
  show gv_V m_Cut_search 1 true 0 [some (.ref 33), some (.int a), none, none, none] [] σ (gv_is r0.1 r0.2)
  refine gv_aload_n (n := 0) (pc' := 1) (by decide +kernel) rfl rfl ?_
  refine gv_iconst (n := 0) (v := 0) (pc' := 2) (by decide +kernel) (by decide) rfl ?_
  refine gd_puti lp_7_25 (by decide +kernel) rfl rfl rfl rfl (pc' := 5) rfl h (fun s1 h => ?_)
  refine gv_aload_n (n := 0) (pc' := 6) (by decide +kernel) rfl rfl ?_
  refine gv_iconst (n := 2) (v := 2) (pc' := 7) (by decide +kernel) (by decide) rfl ?_
  refine gv_iload_n (n := 1) (pc' := 8) (by decide +kernel) rfl rfl ?_
  refine gv_imul (pc' := 9) (by decide +kernel) rfl ?_
  refine gv_bipush (n := (-2)) (v := (-2)) (pc' := 11) (by decide +kernel) (by decide) rfl ?_
  refine gd_cv0 (w' := false) (pc' := 14) (X_Cut_see _ _ _) h md_Cut_see vd_Cut_see (Or.inl ml_7_92) (by decide +kernel) (by decide) rfl rfl rfl (Nat.le_of_ble_eq_true rfl) (Nat.le_of_ble_eq_true rfl) (by decide) rfl (fun z => by cases z) (by decide) rfl (fun s2 h => ?_)
  refine gv_iconst (n := 0) (v := 0) (pc' := 15) (by decide +kernel) (by decide) rfl ?_
  refine gv_istore_n (n := 2) (pc' := 16) (by decide +kernel) (by decide) rfl ?_
  exact gd_ar (gl_s (gl_n (gl_s (gl_n (gl_n gl_z))))) (fun z => by cases z) (L_Cut_search_16 r0 _ _ _ h)
def B_Cut_layPath_9 (k6 : gS → gR) (x_1_1 : Int32) (ag5 : Int32 → Int32 → gS → gR) (n_3_2 : Int32) (n_4_3 : Int32) (s4 : gS) : gR :=
 if 2080 ≤ n_4_3 then
  k6 s4
 else
  if n_3_2 = ((2 : Int32) * x_1_1) then
   k6 s4
  else
   gd_g (gd_in n_3_2 2080) <|
   gd_j (α := gS → gR) (fun (s11 : gS) =>
    ag5 (gA s4 35 n_3_2.toNatClampNeg) (n_4_3 + 1) s11) fun J7 =>
   if (n_3_2 &&& (1 : Int32)) = 0 then
    gd_t (α := Int32) (if (gA s4 35 n_3_2.toNatClampNeg) = (n_3_2 + (1 : Int32)) then
      (-1)
     else
      ((gA s4 35 n_3_2.toNatClampNeg) >>> ((1 : Int32) &&& 31))) fun v9 =>
    gd_g (gd_in (n_3_2 >>> ((1 : Int32) &&& 31)) 1040) <|
    gd_s (gs_A s4 34 (n_3_2 >>> ((1 : Int32) &&& 31)).toNatClampNeg v9) fun s10 =>
    J7 s10
   else
    J7 s4
set_option maxRecDepth 20000 in
theorem L_Cut_layPath_9 (k6 : gS → gR) (x_1_1 : Int32) (r0 : gQ × gS) (hk6 : ∀ (s12 : gS), k6 s12 = some r0 → gv_V m_Cut_layPath 1 false 71 [some (.ref 33), some (.int x_1_1), none, none, none, none] [] s12 (gv_is r0.1 r0.2)) (n : Nat) : ∀ (n_3_2 : Int32) (n_4_3 : Int32) (s4 : gS), gd_lp (fun _ _ _ => none) (B_Cut_layPath_9 k6 x_1_1) n n_3_2 n_4_3 s4 = some r0 → gv_V m_Cut_layPath 1 false 9 [some (.ref 33), some (.int x_1_1), none, some (.int n_3_2), some (.int n_4_3), none] [] s4 (gv_is r0.1 r0.2) := by
  refine gd_lpC (fun (ag5 : Int32 → Int32 → gS → gR) => ∀ (n_3_2 : Int32) (n_4_3 : Int32) (s4 : gS), ag5 n_3_2 n_4_3 s4 = some r0 → gv_V m_Cut_layPath 1 false 9 [some (.ref 33), some (.int x_1_1), none, some (.int n_3_2), some (.int n_4_3), none] [] s4 (gv_is r0.1 r0.2)) (fun n_3_2 n_4_3 s4 h => by cases h) (fun ag5 ih n_3_2 n_4_3 s4 h => ?_) n
  unfold B_Cut_layPath_9 at h
  refine gv_iload (n := 4) (pc' := 11) (by decide +kernel) rfl rfl ?_
  refine gv_sipush (n := 2080) (v := 2080) (pc' := 14) (by decide +kernel) (by decide) rfl ?_
  refine gv_icmp_ge (off := 57) (tgt := 71) (pc' := 17) (by decide +kernel) (by decide) rfl (fun c14 => ?_) (fun c14 => ?_)
  · replace h := gd_T c14 h
    exact gd_ar (gl_s (gl_s (gl_n (gl_n (gl_n (gl_n gl_z)))))) (fun z => by cases z) (hk6 _ h)
  · replace h := gd_F c14 h
    refine gv_iload_n (n := 3) (pc' := 18) (by decide +kernel) rfl rfl ?_
    refine gv_iconst (n := 2) (v := 2) (pc' := 19) (by decide +kernel) (by decide) rfl ?_
    refine gv_iload_n (n := 1) (pc' := 20) (by decide +kernel) rfl rfl ?_
    refine gv_imul (pc' := 21) (by decide +kernel) rfl ?_
    refine gv_icmp_eq (off := 50) (tgt := 71) (pc' := 24) (by decide +kernel) (by decide) rfl (fun c21 => ?_) (fun c21 => ?_)
    · replace h := gd_T c21 h
      exact gd_ar (gl_s (gl_s (gl_n (gl_n (gl_n (gl_n gl_z)))))) (fun z => by cases z) (hk6 _ h)
    · replace h := gd_F c21 h
      refine gv_aload_n (n := 0) (pc' := 25) (by decide +kernel) rfl rfl ?_
      refine gv_getr lk_7_15 (by decide +kernel) rfl rfl (pc' := 28) rfl ?_
      refine gv_iload_n (n := 3) (pc' := 29) (by decide +kernel) rfl rfl ?_
      obtain ⟨g29, h⟩ := gd_gE h
      refine gj_iald _ (pc' := 30) (by decide +kernel) rfl (gd_inv g29) rfl rfl ?_
      refine gv_istore (n := 5) (pc' := 32) (by decide +kernel) (by decide) rfl ?_
      refine gv_iload_n (n := 3) (pc' := 33) (by decide +kernel) rfl rfl ?_
      refine gv_iconst (n := 1) (v := 1) (pc' := 34) (by decide +kernel) (by decide) rfl ?_
      refine gv_iand (pc' := 35) (by decide +kernel) rfl ?_
      refine gd_jC (fun J7 => ∀ (s11 : gS), J7 s11 = some r0 → gv_V m_Cut_layPath 1 false 62 [some (.ref 33), some (.int x_1_1), none, none, some (.int n_4_3), some (.int (gA s4 35 n_3_2.toNatClampNeg))] [] s11 (gv_is r0.1 r0.2)) h (fun s11 h => ?_) (fun J7 hJ7 h => ?_)
      · refine gv_iload (n := 5) (pc' := 64) (by decide +kernel) rfl rfl ?_
        refine gv_istore_n (n := 3) (pc' := 65) (by decide +kernel) (by decide) rfl ?_
        refine gv_iincc (i := 4) (n := 1) (c := 1) (pc' := 68) (by decide +kernel) rfl (by decide) (by decide) rfl ?_
        refine gv_goto (off := -59) (tgt := 9) (by decide +kernel) (by decide) ?_
        exact gd_ar (gl_s (gl_s (gl_n (gl_s (gl_s (gl_n gl_z)))))) (fun z => by cases z) (ih _ _ _ h)
      · refine gv_if_ne (off := 27) (tgt := 62) (pc' := 38) (by decide +kernel) (by decide) rfl (fun c35 => ?_) (fun c35 => ?_)
        · replace h := gd_F c35 h
          exact gd_ar (gl_s (gl_s (gl_n (gl_n (gl_s (gl_s gl_z)))))) (fun z => by cases z) (hJ7 _ h)
        · replace h := gd_T c35 h
          refine gv_aload_n (n := 0) (pc' := 39) (by decide +kernel) rfl rfl ?_
          refine gv_getr lk_7_9 (by decide +kernel) rfl rfl (pc' := 42) rfl ?_
          refine gv_iload_n (n := 3) (pc' := 43) (by decide +kernel) rfl rfl ?_
          refine gv_iconst (n := 1) (v := 1) (pc' := 44) (by decide +kernel) (by decide) rfl ?_
          refine gv_ishr (pc' := 45) (by decide +kernel) rfl ?_
          refine gv_iload (n := 5) (pc' := 47) (by decide +kernel) rfl rfl ?_
          refine gv_iload_n (n := 3) (pc' := 48) (by decide +kernel) rfl rfl ?_
          refine gv_iconst (n := 1) (v := 1) (pc' := 49) (by decide +kernel) (by decide) rfl ?_
          refine gv_iadd (pc' := 50) (by decide +kernel) rfl ?_
          refine gd_tC (fun (v9 : Int32) => gv_V m_Cut_layPath 1 false 61 [some (.ref 33), some (.int x_1_1), none, none, some (.int n_4_3), some (.int (gA s4 35 n_3_2.toNatClampNeg))] [.int v9, .int (n_3_2 >>> ((1 : Int32) &&& 31)), .ref 34] s4 (gv_is r0.1 r0.2)) h (fun v9 h => ?_) (fun KJ8 hJ8 h => ?_)
          · obtain ⟨g61, h⟩ := gd_gE h
            refine gd_iast (pc' := 62) (by decide +kernel) rfl (gd_inv g61) rfl h (fun s10 h => ?_)
            exact gd_ar (gl_s (gl_s (gl_n (gl_n (gl_s (gl_s gl_z)))))) (fun z => by cases z) (hJ7 _ h)
          · refine gv_icmp_ne (off := 7) (tgt := 57) (pc' := 53) (by decide +kernel) (by decide) rfl (fun c50 => ?_) (fun c50 => ?_)
            · replace h := gd_tF c50 h
              refine gv_iload (n := 5) (pc' := 59) (by decide +kernel) rfl rfl ?_
              refine gv_iconst (n := 1) (v := 1) (pc' := 60) (by decide +kernel) (by decide) rfl ?_
              refine gv_ishr (pc' := 61) (by decide +kernel) rfl ?_
              exact gd_ar (gl_s (gl_s (gl_n (gl_n (gl_s (gl_s gl_z)))))) (fun z => by cases z) (hJ8 _ h)
            · replace h := gd_tT c50 h
              refine gv_iconst (n := (-1)) (v := (-1)) (pc' := 54) (by decide +kernel) (by decide) rfl ?_
              refine gv_goto (off := 7) (tgt := 61) (by decide +kernel) (by decide) ?_
              exact gd_ar (gl_s (gl_s (gl_n (gl_n (gl_s (gl_s gl_z)))))) (fun z => by cases z) (hJ8 _ h)
def F_Cut_layPath (a : Int32) (b : Int32) (σ : gS) : gR :=
 gd_j (α := gS → gR) (fun (s12 : gS) =>
  gd_g (gd_in a 1040) <|
  gd_s (gs_A s12 34 a.toNatClampNeg (-2)) fun s13 =>
  some (.inl none, s13)) fun k6 =>
 gd_lp (fun _ _ _ => none) (B_Cut_layPath_9 k6 a) gd_N (((2 : Int32) * b) + (1 : Int32)) 0 σ
set_option maxRecDepth 20000 in
theorem X_Cut_layPath (a : Int32) (b : Int32) (σ : gS) (r0 : gQ × gS) (h : F_Cut_layPath a b σ = some r0) : gv_K m_Cut_layPath [.ref 33, .int a, .int b] σ (gv_is r0.1 r0.2) := by
  unfold F_Cut_layPath at h
  show gv_V m_Cut_layPath 1 true 0 [some (.ref 33), some (.int a), some (.int b), none, none, none] [] σ (gv_is r0.1 r0.2)
  refine gv_iconst (n := 2) (v := 2) (pc' := 1) (by decide +kernel) (by decide) rfl ?_
  refine gv_iload_n (n := 2) (pc' := 2) (by decide +kernel) rfl rfl ?_
  refine gv_imul (pc' := 3) (by decide +kernel) rfl ?_
  refine gv_iconst (n := 1) (v := 1) (pc' := 4) (by decide +kernel) (by decide) rfl ?_
  refine gv_iadd (pc' := 5) (by decide +kernel) rfl ?_
  refine gv_istore_n (n := 3) (pc' := 6) (by decide +kernel) (by decide) rfl ?_
  refine gv_iconst (n := 0) (v := 0) (pc' := 7) (by decide +kernel) (by decide) rfl ?_
  refine gv_istore (n := 4) (pc' := 9) (by decide +kernel) (by decide) rfl ?_
  refine gd_jC (fun k6 => ∀ (s12 : gS), k6 s12 = some r0 → gv_V m_Cut_layPath 1 false 71 [some (.ref 33), some (.int a), none, none, none, none] [] s12 (gv_is r0.1 r0.2)) h (fun s12 h => ?_) (fun k6 hk6 h => ?_)
  · refine gv_aload_n (n := 0) (pc' := 72) (by decide +kernel) rfl rfl ?_
    refine gv_getr lk_7_9 (by decide +kernel) rfl rfl (pc' := 75) rfl ?_
    refine gv_iload_n (n := 1) (pc' := 76) (by decide +kernel) rfl rfl ?_
    refine gv_bipush (n := (-2)) (v := (-2)) (pc' := 78) (by decide +kernel) (by decide) rfl ?_
    obtain ⟨g78, h⟩ := gd_gE h
    refine gd_iast (pc' := 79) (by decide +kernel) rfl (gd_inv g78) rfl h (fun s13 h => ?_)
    exact gv_ret (by decide +kernel) rfl (by decide) (by decide) (gd_rE h)
  exact gd_ar (gl_s (gl_s (gl_n (gl_s (gl_s (gl_n gl_z)))))) (fun z => by cases z) (L_Cut_layPath_9 _ _ r0 hk6 _ _ _ _ h)
def B_Cut_forgetSearch_2 (ag3 : Int32 → gS → gR) (n_1_1 : Int32) (s2 : gS) : gR :=
 if (gI s2 33 7) ≤ n_1_1 then
  some (.inl none, s2)
 else
  gd_g (gd_in n_1_1 2080) <|
  gd_g (gd_in (gA s2 36 n_1_1.toNatClampNeg) 2080) <|
  gd_s (gs_A s2 35 (gA s2 36 n_1_1.toNatClampNeg).toNatClampNeg (-1)) fun s4 =>
  gd_j (α := gS → gR) (fun (s7 : gS) =>
   ag3 (n_1_1 + 1) s7) fun J5 =>
  if ((gA s2 36 n_1_1.toNatClampNeg) &&& (1 : Int32)) = 0 then
   gd_0 (F_Cut_openEntrance ((gA s2 36 n_1_1.toNatClampNeg) >>> ((1 : Int32) &&& 31)) s4) fun s6 =>
   J5 s6
  else
   J5 s4
set_option maxRecDepth 20000 in
theorem L_Cut_forgetSearch_2 (r0 : gQ × gS) (n : Nat) : ∀ (n_1_1 : Int32) (s2 : gS), gd_lp (fun _ _ => none) (B_Cut_forgetSearch_2) n n_1_1 s2 = some r0 → gv_V m_Cut_forgetSearch 1 false 2 [some (.ref 33), some (.int n_1_1), none] [] s2 (gv_is r0.1 r0.2) := by
  refine gd_lpC (fun (ag3 : Int32 → gS → gR) => ∀ (n_1_1 : Int32) (s2 : gS), ag3 n_1_1 s2 = some r0 → gv_V m_Cut_forgetSearch 1 false 2 [some (.ref 33), some (.int n_1_1), none] [] s2 (gv_is r0.1 r0.2)) (fun n_1_1 s2 h => by cases h) (fun ag3 ih n_1_1 s2 h => ?_) n
  unfold B_Cut_forgetSearch_2 at h
  refine gv_iload_n (n := 1) (pc' := 3) (by decide +kernel) rfl rfl ?_
  refine gv_aload_n (n := 0) (pc' := 4) (by decide +kernel) rfl rfl ?_
  refine gv_getj lk_7_25 (by decide +kernel) rfl rfl (pc' := 7) rfl ?_
  refine gv_icmp_ge (off := 36) (tgt := 43) (pc' := 10) (by decide +kernel) (by decide) rfl (fun c7 => ?_) (fun c7 => ?_)
  · replace h := gd_T c7 h
    exact gv_ret (by decide +kernel) rfl (by decide) (by decide) (gd_rE h)
  · replace h := gd_F c7 h
    refine gv_aload_n (n := 0) (pc' := 11) (by decide +kernel) rfl rfl ?_
    refine gv_getr lk_7_18 (by decide +kernel) rfl rfl (pc' := 14) rfl ?_
    refine gv_iload_n (n := 1) (pc' := 15) (by decide +kernel) rfl rfl ?_
    obtain ⟨g15, h⟩ := gd_gE h
    refine gj_iald _ (pc' := 16) (by decide +kernel) rfl (gd_inv g15) rfl rfl ?_
    refine gv_istore_n (n := 2) (pc' := 17) (by decide +kernel) (by decide) rfl ?_
    refine gv_aload_n (n := 0) (pc' := 18) (by decide +kernel) rfl rfl ?_
    refine gv_getr lk_7_15 (by decide +kernel) rfl rfl (pc' := 21) rfl ?_
    refine gv_iload_n (n := 2) (pc' := 22) (by decide +kernel) rfl rfl ?_
    refine gv_iconst (n := (-1)) (v := (-1)) (pc' := 23) (by decide +kernel) (by decide) rfl ?_
    obtain ⟨g23, h⟩ := gd_gE h
    refine gd_iast (pc' := 24) (by decide +kernel) rfl (gd_inv g23) rfl h (fun s4 h => ?_)
    refine gv_iload_n (n := 2) (pc' := 25) (by decide +kernel) rfl rfl ?_
    refine gv_iconst (n := 1) (v := 1) (pc' := 26) (by decide +kernel) (by decide) rfl ?_
    refine gv_iand (pc' := 27) (by decide +kernel) rfl ?_
    refine gd_jC (fun J5 => ∀ (s7 : gS), J5 s7 = some r0 → gv_V m_Cut_forgetSearch 1 false 37 [some (.ref 33), some (.int n_1_1), none] [] s7 (gv_is r0.1 r0.2)) h (fun s7 h => ?_) (fun J5 hJ5 h => ?_)
    · refine gv_iincc (i := 1) (n := 1) (c := 1) (pc' := 40) (by decide +kernel) rfl (by decide) (by decide) rfl ?_
      refine gv_goto (off := -38) (tgt := 2) (by decide +kernel) (by decide) ?_
      exact gd_ar (gl_s (gl_s (gl_n gl_z))) (fun z => by cases z) (ih _ _ h)
    · refine gv_if_ne (off := 10) (tgt := 37) (pc' := 30) (by decide +kernel) (by decide) rfl (fun c27 => ?_) (fun c27 => ?_)
      · replace h := gd_F c27 h
        exact gd_ar (gl_s (gl_s (gl_n gl_z))) (fun z => by cases z) (hJ5 _ h)
      · replace h := gd_T c27 h
        refine gv_aload_n (n := 0) (pc' := 31) (by decide +kernel) rfl rfl ?_
        refine gv_iload_n (n := 2) (pc' := 32) (by decide +kernel) rfl rfl ?_
        refine gv_iconst (n := 1) (v := 1) (pc' := 33) (by decide +kernel) (by decide) rfl ?_
        refine gv_ishr (pc' := 34) (by decide +kernel) rfl ?_
        refine gd_cv0 (w' := false) (pc' := 37) (X_Cut_openEntrance _ _) h md_Cut_openEntrance vd_Cut_openEntrance (Or.inl ml_7_78) (by decide +kernel) (by decide) rfl rfl rfl (Nat.le_of_ble_eq_true rfl) (Nat.le_of_ble_eq_true rfl) (by decide) rfl (fun z => by cases z) (by decide) rfl (fun s6 h => ?_)
        exact gd_ar (gl_s (gl_s (gl_n gl_z))) (fun z => by cases z) (hJ5 _ h)
def F_Cut_forgetSearch (σ : gS) : gR :=
 gd_lp (fun _ _ => none) (B_Cut_forgetSearch_2) gd_N 0 σ
set_option maxRecDepth 20000 in
theorem X_Cut_forgetSearch (σ : gS) (r0 : gQ × gS) (h : F_Cut_forgetSearch σ = some r0) : gv_K m_Cut_forgetSearch [.ref 33] σ (gv_is r0.1 r0.2) := by
  unfold F_Cut_forgetSearch at h
  show gv_V m_Cut_forgetSearch 1 true 0 [some (.ref 33), none, none] [] σ (gv_is r0.1 r0.2)
  refine gv_iconst (n := 0) (v := 0) (pc' := 1) (by decide +kernel) (by decide) rfl ?_
  refine gv_istore_n (n := 1) (pc' := 2) (by decide +kernel) (by decide) rfl ?_
  exact gd_ar (gl_s (gl_s (gl_n gl_z))) (fun z => by cases z) (L_Cut_forgetSearch_2 r0 _ _ _ h)
def F_Cut_addPathFrom (a : Int32) (σ : gS) : gR :=
 gd_i (F_Cut_search a σ) fun r1 s2 =>
 if r1 = (-1) then
  some (.inl none, s2)
 else
  gd_0 (F_Cut_layPath a r1 s2) fun s3 =>
  gd_0 (F_Cut_forgetSearch s3) fun s4 =>
  some (.inl none, s4)
set_option maxRecDepth 20000 in
theorem X_Cut_addPathFrom (a : Int32) (σ : gS) (r0 : gQ × gS) (h : F_Cut_addPathFrom a σ = some r0) : gv_K m_Cut_addPathFrom [.ref 33, .int a] σ (gv_is r0.1 r0.2) := by
  unfold F_Cut_addPathFrom at h
  show gv_V m_Cut_addPathFrom 1 true 0 [some (.ref 33), some (.int a), none] [] σ (gv_is r0.1 r0.2)
  refine gv_aload_n (n := 0) (pc' := 1) (by decide +kernel) rfl rfl ?_
  refine gv_iload_n (n := 1) (pc' := 2) (by decide +kernel) rfl rfl ?_
  refine gd_cvi (w' := false) (pc' := 5) (X_Cut_search _ _) h md_Cut_search vd_Cut_search (Or.inl ml_7_81) (by decide +kernel) (by decide) rfl rfl rfl (Nat.le_of_ble_eq_true rfl) (Nat.le_of_ble_eq_true rfl) (by decide) rfl (fun z => by cases z) (by decide) rfl (fun r1 s2 h => ?_)
  refine gv_istore_n (n := 2) (pc' := 6) (by decide +kernel) (by decide) rfl ?_
  refine gv_iload_n (n := 2) (pc' := 7) (by decide +kernel) rfl rfl ?_
  refine gv_iconst (n := (-1)) (v := (-1)) (pc' := 8) (by decide +kernel) (by decide) rfl ?_
  refine gv_icmp_eq (off := 13) (tgt := 21) (pc' := 11) (by decide +kernel) (by decide) rfl (fun c8 => ?_) (fun c8 => ?_)
  · replace h := gd_T c8 h
    exact gv_ret (by decide +kernel) rfl (by decide) (by decide) (gd_rE h)
  · replace h := gd_F c8 h
    refine gv_aload_n (n := 0) (pc' := 12) (by decide +kernel) rfl rfl ?_
    refine gv_iload_n (n := 1) (pc' := 13) (by decide +kernel) rfl rfl ?_
    refine gv_iload_n (n := 2) (pc' := 14) (by decide +kernel) rfl rfl ?_
    refine gd_cv0 (w' := false) (pc' := 17) (X_Cut_layPath _ _ _) h md_Cut_layPath vd_Cut_layPath (Or.inl ml_7_85) (by decide +kernel) (by decide) rfl rfl rfl (Nat.le_of_ble_eq_true rfl) (Nat.le_of_ble_eq_true rfl) (by decide) rfl (fun z => by cases z) (by decide) rfl (fun s3 h => ?_)
    refine gv_aload_n (n := 0) (pc' := 18) (by decide +kernel) rfl rfl ?_
    refine gd_cv0 (w' := false) (pc' := 21) (X_Cut_forgetSearch _) h md_Cut_forgetSearch vd_Cut_forgetSearch (Or.inl ml_7_89) (by decide +kernel) (by decide) rfl rfl rfl (Nat.le_of_ble_eq_true rfl) (Nat.le_of_ble_eq_true rfl) (by decide) rfl (fun z => by cases z) (by decide) rfl (fun s4 h => ?_)
    exact gv_ret (by decide +kernel) rfl (by decide) (by decide) (gd_rE h)
