def B_M_carry_11 (ag4 : Int32 → gS → gR) (n_2_2 : Int32) (s3 : gS) : gR :=
 gd_g (gd_in n_2_2 2080) <|
 if (gA s3 61 n_2_2.toNatClampNeg) = n_2_2 then
  some (.inl none, s3)
 else
  gd_g (gd_in n_2_2 2080) <|
  gd_j (α := gS → gR) (fun (s11 : gS) =>
   ag4 (gA s3 61 n_2_2.toNatClampNeg) s11) fun J5 =>
  if ((gA s3 61 n_2_2.toNatClampNeg) / (2 : Int32)) = (n_2_2 / (2 : Int32)) then
   gd_t (α := Int32) (if (n_2_2 - n_2_2 / (2 : Int32) * (2 : Int32)) = 1 then
     1
    else
     0) fun v9 =>
   gd_g (gd_in (n_2_2 / (2 : Int32)) 1040) <|
   gd_s (gs_A s3 59 (n_2_2 / (2 : Int32)).toNatClampNeg (vp_nar .boolean v9)) fun s10 =>
   J5 s10
  else
   if (n_2_2 - n_2_2 / (2 : Int32) * (2 : Int32)) = 0 then
    gd_0 (F_M_turn_58 ((gA s3 61 n_2_2.toNatClampNeg) / (2 : Int32)) (n_2_2 / (2 : Int32)) s3) fun s7 =>
    J5 s7
   else
    gd_0 (F_M_turn_58 (n_2_2 / (2 : Int32)) ((gA s3 61 n_2_2.toNatClampNeg) / (2 : Int32)) s3) fun s6 =>
    J5 s6
set_option maxRecDepth 20000 in
theorem L_M_carry_11 (r0 : gQ × gS) (n : Nat) : ∀ (n_2_2 : Int32) (s3 : gS), gd_lp (fun _ _ => none) (B_M_carry_11) n n_2_2 s3 = some r0 → gv_V m_M_carry 1 false 11 [some (.ref 41), none, some (.int n_2_2), none] [] s3 (gv_is r0.1 r0.2) := by
  refine gd_lpC (fun (ag4 : Int32 → gS → gR) => ∀ (n_2_2 : Int32) (s3 : gS), ag4 n_2_2 s3 = some r0 → gv_V m_M_carry 1 false 11 [some (.ref 41), none, some (.int n_2_2), none] [] s3 (gv_is r0.1 r0.2)) (fun n_2_2 s3 h => by cases h) (fun ag4 ih n_2_2 s3 h => ?_) n
  unfold B_M_carry_11 at h
  refine gv_aload_n (n := 0) (pc' := 12) (by decide +kernel) rfl rfl ?_
  refine gv_getr lk_9_77 (by decide +kernel) rfl rfl (pc' := 15) rfl ?_
  refine gv_iload_n (n := 2) (pc' := 16) (by decide +kernel) rfl rfl ?_
  obtain ⟨g16, h⟩ := gd_gE h
  refine gj_iald _ (pc' := 17) (by decide +kernel) rfl (gd_inv g16) rfl rfl ?_
  refine gv_iload_n (n := 2) (pc' := 18) (by decide +kernel) rfl rfl ?_
  refine gv_icmp_eq (off := 84) (tgt := 102) (pc' := 21) (by decide +kernel) (by decide) rfl (fun c18 => ?_) (fun c18 => ?_)
  · replace h := gd_T c18 h
    exact gv_ret (by decide +kernel) rfl (by decide) (by decide) (gd_rE h)
  · replace h := gd_F c18 h
    refine gv_aload_n (n := 0) (pc' := 22) (by decide +kernel) rfl rfl ?_
    refine gv_getr lk_9_77 (by decide +kernel) rfl rfl (pc' := 25) rfl ?_
    refine gv_iload_n (n := 2) (pc' := 26) (by decide +kernel) rfl rfl ?_
    obtain ⟨g26, h⟩ := gd_gE h
    refine gj_iald _ (pc' := 27) (by decide +kernel) rfl (gd_inv g26) rfl rfl ?_
    refine gv_istore_n (n := 3) (pc' := 28) (by decide +kernel) (by decide) rfl ?_
    refine gv_iload_n (n := 3) (pc' := 29) (by decide +kernel) rfl rfl ?_
    refine gv_iconst (n := 2) (v := 2) (pc' := 30) (by decide +kernel) (by decide) rfl ?_
    refine gv_idiv (pc' := 31) (by decide +kernel) (by decide) rfl ?_
    refine gv_iload_n (n := 2) (pc' := 32) (by decide +kernel) rfl rfl ?_
    refine gv_iconst (n := 2) (v := 2) (pc' := 33) (by decide +kernel) (by decide) rfl ?_
    refine gv_idiv (pc' := 34) (by decide +kernel) (by decide) rfl ?_
    refine gd_jC (fun J5 => ∀ (s11 : gS), J5 s11 = some r0 → gv_V m_M_carry 1 false 97 [some (.ref 41), none, none, some (.int (gA s3 61 n_2_2.toNatClampNeg))] [] s11 (gv_is r0.1 r0.2)) h (fun s11 h => ?_) (fun J5 hJ5 h => ?_)
    · refine gv_iload_n (n := 3) (pc' := 98) (by decide +kernel) rfl rfl ?_
      refine gv_istore_n (n := 2) (pc' := 99) (by decide +kernel) (by decide) rfl ?_
      refine gv_goto (off := -88) (tgt := 11) (by decide +kernel) (by decide) ?_
      exact gd_ar (gl_s (gl_n (gl_s (gl_n gl_z)))) (fun z => by cases z) (ih _ _ h)
    · refine gv_icmp_ne (off := 26) (tgt := 60) (pc' := 37) (by decide +kernel) (by decide) rfl (fun c34 => ?_) (fun c34 => ?_)
      · replace h := gd_F c34 h
        refine gv_iload_n (n := 2) (pc' := 61) (by decide +kernel) rfl rfl ?_
        refine gv_iconst (n := 2) (v := 2) (pc' := 62) (by decide +kernel) (by decide) rfl ?_
        refine gv_irem (pc' := 63) (by decide +kernel) (by decide) rfl ?_
        refine gv_if_ne (off := 20) (tgt := 83) (pc' := 66) (by decide +kernel) (by decide) rfl (fun c63 => ?_) (fun c63 => ?_)
        · replace h := gd_F c63 h
          refine gv_aload_n (n := 0) (pc' := 84) (by decide +kernel) rfl rfl ?_
          refine gv_aload_n (n := 0) (pc' := 85) (by decide +kernel) rfl rfl ?_
          refine gv_getr lk_9_68 (by decide +kernel) rfl rfl (pc' := 88) rfl ?_
          refine gv_iload_n (n := 2) (pc' := 89) (by decide +kernel) rfl rfl ?_
          refine gv_iconst (n := 2) (v := 2) (pc' := 90) (by decide +kernel) (by decide) rfl ?_
          refine gv_idiv (pc' := 91) (by decide +kernel) (by decide) rfl ?_
          refine gv_iload_n (n := 3) (pc' := 92) (by decide +kernel) rfl rfl ?_
          refine gv_iconst (n := 2) (v := 2) (pc' := 93) (by decide +kernel) (by decide) rfl ?_
          refine gv_idiv (pc' := 94) (by decide +kernel) (by decide) rfl ?_
          refine gd_cv0 (w' := false) (pc' := 97) (X_M_turn_58 _ _ _) h md_M_turn vd_M_turn (Or.inl ml_9_245) (by decide +kernel) (by decide) rfl rfl rfl (Nat.le_of_ble_eq_true rfl) (Nat.le_of_ble_eq_true rfl) (by decide) rfl (fun z => by cases z) (by decide) rfl (fun s6 h => ?_)
          exact gd_ar (gl_s (gl_n (gl_n (gl_s gl_z)))) (fun z => by cases z) (hJ5 _ h)
        · replace h := gd_T c63 h
          refine gv_aload_n (n := 0) (pc' := 67) (by decide +kernel) rfl rfl ?_
          refine gv_aload_n (n := 0) (pc' := 68) (by decide +kernel) rfl rfl ?_
          refine gv_getr lk_9_68 (by decide +kernel) rfl rfl (pc' := 71) rfl ?_
          refine gv_iload_n (n := 3) (pc' := 72) (by decide +kernel) rfl rfl ?_
          refine gv_iconst (n := 2) (v := 2) (pc' := 73) (by decide +kernel) (by decide) rfl ?_
          refine gv_idiv (pc' := 74) (by decide +kernel) (by decide) rfl ?_
          refine gv_iload_n (n := 2) (pc' := 75) (by decide +kernel) rfl rfl ?_
          refine gv_iconst (n := 2) (v := 2) (pc' := 76) (by decide +kernel) (by decide) rfl ?_
          refine gv_idiv (pc' := 77) (by decide +kernel) (by decide) rfl ?_
          refine gd_cv0 (w' := false) (pc' := 80) (X_M_turn_58 _ _ _) h md_M_turn vd_M_turn (Or.inl ml_9_245) (by decide +kernel) (by decide) rfl rfl rfl (Nat.le_of_ble_eq_true rfl) (Nat.le_of_ble_eq_true rfl) (by decide) rfl (fun z => by cases z) (by decide) rfl (fun s7 h => ?_)
          refine gv_goto (off := 17) (tgt := 97) (by decide +kernel) (by decide) ?_
          exact gd_ar (gl_s (gl_n (gl_n (gl_s gl_z)))) (fun z => by cases z) (hJ5 _ h)
      · replace h := gd_T c34 h
        refine gv_aload_n (n := 0) (pc' := 38) (by decide +kernel) rfl rfl ?_
        refine gv_getr lk_9_71 (by decide +kernel) rfl rfl (pc' := 41) rfl ?_
        refine gv_iload_n (n := 2) (pc' := 42) (by decide +kernel) rfl rfl ?_
        refine gv_iconst (n := 2) (v := 2) (pc' := 43) (by decide +kernel) (by decide) rfl ?_
        refine gv_idiv (pc' := 44) (by decide +kernel) (by decide) rfl ?_
        refine gv_iload_n (n := 2) (pc' := 45) (by decide +kernel) rfl rfl ?_
        refine gv_iconst (n := 2) (v := 2) (pc' := 46) (by decide +kernel) (by decide) rfl ?_
        refine gv_irem (pc' := 47) (by decide +kernel) (by decide) rfl ?_
        refine gv_iconst (n := 1) (v := 1) (pc' := 48) (by decide +kernel) (by decide) rfl ?_
        refine gd_tC (fun (v9 : Int32) => gv_V m_M_carry 1 false 56 [some (.ref 41), none, none, some (.int (gA s3 61 n_2_2.toNatClampNeg))] [.int v9, .int (n_2_2 / (2 : Int32)), .ref 59] s3 (gv_is r0.1 r0.2)) h (fun v9 h => ?_) (fun KJ8 hJ8 h => ?_)
        · obtain ⟨g56, h⟩ := gd_gE h
          refine gd_zast (pc' := 57) (by decide +kernel) rfl (gd_inv g56) rfl h (fun s10 h => ?_)
          refine gv_goto (off := 40) (tgt := 97) (by decide +kernel) (by decide) ?_
          exact gd_ar (gl_s (gl_n (gl_n (gl_s gl_z)))) (fun z => by cases z) (hJ5 _ h)
        · refine gv_icmp_ne (off := 7) (tgt := 55) (pc' := 51) (by decide +kernel) (by decide) rfl (fun c48 => ?_) (fun c48 => ?_)
          · replace h := gd_tF c48 h
            refine gv_iconst (n := 0) (v := 0) (pc' := 56) (by decide +kernel) (by decide) rfl ?_
            exact gd_ar (gl_s (gl_n (gl_n (gl_s gl_z)))) (fun z => by cases z) (hJ8 _ h)
          · replace h := gd_tT c48 h
            refine gv_iconst (n := 1) (v := 1) (pc' := 52) (by decide +kernel) (by decide) rfl ?_
            refine gv_goto (off := 4) (tgt := 56) (by decide +kernel) (by decide) ?_
            exact gd_ar (gl_s (gl_n (gl_n (gl_s gl_z)))) (fun z => by cases z) (hJ8 _ h)
def F_M_carry (a : Int32) (σ : gS) : gR :=
 gd_g (gd_in (a / (2 : Int32)) 1040) <|
 gd_s (gs_A σ 60 (a / (2 : Int32)).toNatClampNeg (vp_nar .boolean 1)) fun s1 =>
 gd_lp (fun _ _ => none) (B_M_carry_11) gd_N a s1
set_option maxRecDepth 20000 in
theorem X_M_carry (a : Int32) (σ : gS) (r0 : gQ × gS) (h : F_M_carry a σ = some r0) : gv_K m_M_carry [.ref 41, .int a] σ (gv_is r0.1 r0.2) := by
  unfold F_M_carry at h
  show gv_V m_M_carry 1 true 0 [some (.ref 41), some (.int a), none, none] [] σ (gv_is r0.1 r0.2)
  refine gv_aload_n (n := 0) (pc' := 1) (by decide +kernel) rfl rfl ?_
  refine gv_getr lk_9_74 (by decide +kernel) rfl rfl (pc' := 4) rfl ?_
  refine gv_iload_n (n := 1) (pc' := 5) (by decide +kernel) rfl rfl ?_
  refine gv_iconst (n := 2) (v := 2) (pc' := 6) (by decide +kernel) (by decide) rfl ?_
  refine gv_idiv (pc' := 7) (by decide +kernel) (by decide) rfl ?_
  refine gv_iconst (n := 1) (v := 1) (pc' := 8) (by decide +kernel) (by decide) rfl ?_
  obtain ⟨g8, h⟩ := gd_gE h
  refine gd_zast (pc' := 9) (by decide +kernel) rfl (gd_inv g8) rfl h (fun s1 h => ?_)
  refine gv_iload_n (n := 1) (pc' := 10) (by decide +kernel) rfl rfl ?_
  refine gv_istore_n (n := 2) (pc' := 11) (by decide +kernel) (by decide) rfl ?_
  exact gd_ar (gl_s (gl_n (gl_s (gl_n gl_z)))) (fun z => by cases z) (L_M_carry_11 r0 _ _ _ h)
def B_M_findCut_86 (ag28 : Int32 → gS → gR) (n_2_26 : Int32) (s27 : gS) : gR :=
 if (gI s27 41 2) ≤ n_2_26 then
  some (.inl none, s27)
 else
  gd_g (gd_in ((2 : Int32) * n_2_26) 2080) <|
  gd_j (α := Int32 → gR) (fun (v30 : Int32) =>
   gd_g (gd_in n_2_26 1040) <|
   gd_s (gs_A s27 56 n_2_26.toNatClampNeg (vp_nar .boolean v30)) fun s31 =>
   gd_g (gd_in n_2_26 1040) <|
   gd_t (α := Int32) (if (gA s31 56 n_2_26.toNatClampNeg) = 0 then
     (gI s31 41 26)
    else
     ((gI s31 41 26) + (1 : Int32))) fun v33 =>
   gd_s (gs_I s31 41 26 v33) fun s34 =>
   ag28 (n_2_26 + 1) s34) fun J29 =>
  if (gA s27 61 ((2 : Int32) * n_2_26).toNatClampNeg) = (-1) then
   J29 0
  else
   gd_g (gd_in (((2 : Int32) * n_2_26) + (1 : Int32)) 2080) <|
   if (gA s27 61 (((2 : Int32) * n_2_26) + (1 : Int32)).toNatClampNeg) = (-1) then
    J29 1
   else
    J29 0
set_option maxRecDepth 20000 in
theorem L_M_findCut_86 (r0 : gQ × gS) (n : Nat) : ∀ (n_2_26 : Int32) (s27 : gS), gd_lp (fun _ _ => none) (B_M_findCut_86) n n_2_26 s27 = some r0 → gv_V m_M_findCut 1 false 86 [some (.ref 41), none, some (.int n_2_26)] [] s27 (gv_is r0.1 r0.2) := by
  refine gd_lpC (fun (ag28 : Int32 → gS → gR) => ∀ (n_2_26 : Int32) (s27 : gS), ag28 n_2_26 s27 = some r0 → gv_V m_M_findCut 1 false 86 [some (.ref 41), none, some (.int n_2_26)] [] s27 (gv_is r0.1 r0.2)) (fun n_2_26 s27 h => by cases h) (fun ag28 ih n_2_26 s27 h => ?_) n
  unfold B_M_findCut_86 at h
  refine gv_iload_n (n := 2) (pc' := 87) (by decide +kernel) rfl rfl ?_
  refine gv_aload_n (n := 0) (pc' := 88) (by decide +kernel) rfl rfl ?_
  refine gv_getj lk_9_102 (by decide +kernel) rfl rfl (pc' := 91) rfl ?_
  refine gv_icmp_ge (off := 72) (tgt := 163) (pc' := 94) (by decide +kernel) (by decide) rfl (fun c91 => ?_) (fun c91 => ?_)
  · replace h := gd_T c91 h
    exact gv_ret (by decide +kernel) rfl (by decide) (by decide) (gd_rE h)
  · replace h := gd_F c91 h
    refine gv_aload_n (n := 0) (pc' := 95) (by decide +kernel) rfl rfl ?_
    refine gv_getr lk_9_61 (by decide +kernel) rfl rfl (pc' := 98) rfl ?_
    refine gv_iload_n (n := 2) (pc' := 99) (by decide +kernel) rfl rfl ?_
    refine gv_aload_n (n := 0) (pc' := 100) (by decide +kernel) rfl rfl ?_
    refine gv_getr lk_9_77 (by decide +kernel) rfl rfl (pc' := 103) rfl ?_
    refine gv_iconst (n := 2) (v := 2) (pc' := 104) (by decide +kernel) (by decide) rfl ?_
    refine gv_iload_n (n := 2) (pc' := 105) (by decide +kernel) rfl rfl ?_
    refine gv_imul (pc' := 106) (by decide +kernel) rfl ?_
    obtain ⟨g106, h⟩ := gd_gE h
    refine gj_iald _ (pc' := 107) (by decide +kernel) rfl (gd_inv g106) rfl rfl ?_
    refine gv_iconst (n := (-1)) (v := (-1)) (pc' := 108) (by decide +kernel) (by decide) rfl ?_
    refine gd_jC (fun J29 => ∀ (v30 : Int32), J29 v30 = some r0 → gv_V m_M_findCut 1 false 130 [some (.ref 41), none, some (.int n_2_26)] [.int v30, .int n_2_26, .ref 56] s27 (gv_is r0.1 r0.2)) h (fun v30 h => ?_) (fun J29 hJ29 h => ?_)
    · obtain ⟨g130, h⟩ := gd_gE h
      refine gd_zast (pc' := 131) (by decide +kernel) rfl (gd_inv g130) rfl h (fun s31 h => ?_)
      refine gv_aload_n (n := 0) (pc' := 132) (by decide +kernel) rfl rfl ?_
      refine gv_aload_n (n := 0) (pc' := 133) (by decide +kernel) rfl rfl ?_
      refine gv_getr lk_9_61 (by decide +kernel) rfl rfl (pc' := 136) rfl ?_
      refine gv_iload_n (n := 2) (pc' := 137) (by decide +kernel) rfl rfl ?_
      obtain ⟨g137, h⟩ := gd_gE h
      refine gj_zald _ (pc' := 138) (by decide +kernel) rfl (gd_inv g137) rfl rfl ?_
      refine gd_tC (fun (v33 : Int32) => gv_V m_M_findCut 1 false 154 [some (.ref 41), none, some (.int n_2_26)] [.int v33, .ref 41] s31 (gv_is r0.1 r0.2)) h (fun v33 h => ?_) (fun KJ32 hJ32 h => ?_)
      · refine gd_puti lp_9_278 (by decide +kernel) rfl rfl rfl rfl (pc' := 157) rfl h (fun s34 h => ?_)
        refine gv_iincc (i := 2) (n := 1) (c := 1) (pc' := 160) (by decide +kernel) rfl (by decide) (by decide) rfl ?_
        refine gv_goto (off := -74) (tgt := 86) (by decide +kernel) (by decide) ?_
        exact gd_ar (gl_s (gl_n (gl_s gl_z))) (fun z => by cases z) (ih _ _ h)
      · refine gv_if_eq (off := 12) (tgt := 150) (pc' := 141) (by decide +kernel) (by decide) rfl (fun c138 => ?_) (fun c138 => ?_)
        · replace h := gd_tT c138 h
          refine gv_aload_n (n := 0) (pc' := 151) (by decide +kernel) rfl rfl ?_
          refine gv_getj lk_9_278 (by decide +kernel) rfl rfl (pc' := 154) rfl ?_
          exact gd_ar (gl_s (gl_n (gl_s gl_z))) (fun z => by cases z) (hJ32 _ h)
        · replace h := gd_tF c138 h
          refine gv_aload_n (n := 0) (pc' := 142) (by decide +kernel) rfl rfl ?_
          refine gv_getj lk_9_278 (by decide +kernel) rfl rfl (pc' := 145) rfl ?_
          refine gv_iconst (n := 1) (v := 1) (pc' := 146) (by decide +kernel) (by decide) rfl ?_
          refine gv_iadd (pc' := 147) (by decide +kernel) rfl ?_
          refine gv_goto (off := 7) (tgt := 154) (by decide +kernel) (by decide) ?_
          exact gd_ar (gl_s (gl_n (gl_s gl_z))) (fun z => by cases z) (hJ32 _ h)
    · refine gv_icmp_eq (off := 21) (tgt := 129) (pc' := 111) (by decide +kernel) (by decide) rfl (fun c108 => ?_) (fun c108 => ?_)
      · replace h := gd_T c108 h
        refine gv_iconst (n := 0) (v := 0) (pc' := 130) (by decide +kernel) (by decide) rfl ?_
        exact gd_ar (gl_s (gl_n (gl_s gl_z))) (fun z => by cases z) (hJ29 _ h)
      · replace h := gd_F c108 h
        refine gv_aload_n (n := 0) (pc' := 112) (by decide +kernel) rfl rfl ?_
        refine gv_getr lk_9_77 (by decide +kernel) rfl rfl (pc' := 115) rfl ?_
        refine gv_iconst (n := 2) (v := 2) (pc' := 116) (by decide +kernel) (by decide) rfl ?_
        refine gv_iload_n (n := 2) (pc' := 117) (by decide +kernel) rfl rfl ?_
        refine gv_imul (pc' := 118) (by decide +kernel) rfl ?_
        refine gv_iconst (n := 1) (v := 1) (pc' := 119) (by decide +kernel) (by decide) rfl ?_
        refine gv_iadd (pc' := 120) (by decide +kernel) rfl ?_
        obtain ⟨g120, h⟩ := gd_gE h
        refine gj_iald _ (pc' := 121) (by decide +kernel) rfl (gd_inv g120) rfl rfl ?_
        refine gv_iconst (n := (-1)) (v := (-1)) (pc' := 122) (by decide +kernel) (by decide) rfl ?_
        refine gv_icmp_ne (off := 7) (tgt := 129) (pc' := 125) (by decide +kernel) (by decide) rfl (fun c122 => ?_) (fun c122 => ?_)
        · replace h := gd_F c122 h
          refine gv_iconst (n := 0) (v := 0) (pc' := 130) (by decide +kernel) (by decide) rfl ?_
          exact gd_ar (gl_s (gl_n (gl_s gl_z))) (fun z => by cases z) (hJ29 _ h)
        · replace h := gd_T c122 h
          refine gv_iconst (n := 1) (v := 1) (pc' := 126) (by decide +kernel) (by decide) rfl ?_
          refine gv_goto (off := 4) (tgt := 130) (by decide +kernel) (by decide) ?_
          exact gd_ar (gl_s (gl_n (gl_s gl_z))) (fun z => by cases z) (hJ29 _ h)
def B_M_findCut_61 (k20 : gS → gR) (ag19 : Int32 → gS → gR) (n_1_17 : Int32) (s18 : gS) : gR :=
 if n_1_17 = (-1) then
  k20 s18
 else
  gd_0 (F_M_carry n_1_17 s18) fun s21 =>
  gd_i (F_M_search s21) fun r22 s23 =>
  ag19 r22 s23
set_option maxRecDepth 20000 in
theorem L_M_findCut_61 (k20 : gS → gR) (r0 : gQ × gS) (hk20 : ∀ (s24 : gS), k20 s24 = some r0 → gv_V m_M_findCut 1 false 79 [some (.ref 41), none, none] [] s24 (gv_is r0.1 r0.2)) (n : Nat) : ∀ (n_1_17 : Int32) (s18 : gS), gd_lp (fun _ _ => none) (B_M_findCut_61 k20) n n_1_17 s18 = some r0 → gv_V m_M_findCut 1 false 61 [some (.ref 41), some (.int n_1_17), none] [] s18 (gv_is r0.1 r0.2) := by
  refine gd_lpC (fun (ag19 : Int32 → gS → gR) => ∀ (n_1_17 : Int32) (s18 : gS), ag19 n_1_17 s18 = some r0 → gv_V m_M_findCut 1 false 61 [some (.ref 41), some (.int n_1_17), none] [] s18 (gv_is r0.1 r0.2)) (fun n_1_17 s18 h => by cases h) (fun ag19 ih n_1_17 s18 h => ?_) n
  unfold B_M_findCut_61 at h
  refine gv_iload_n (n := 1) (pc' := 62) (by decide +kernel) rfl rfl ?_
  refine gv_iconst (n := (-1)) (v := (-1)) (pc' := 63) (by decide +kernel) (by decide) rfl ?_
  refine gv_icmp_eq (off := 16) (tgt := 79) (pc' := 66) (by decide +kernel) (by decide) rfl (fun c63 => ?_) (fun c63 => ?_)
  · replace h := gd_T c63 h
    exact gd_ar (gl_s (gl_n (gl_n gl_z))) (fun z => by cases z) (hk20 _ h)
  · replace h := gd_F c63 h
    refine gv_aload_n (n := 0) (pc' := 67) (by decide +kernel) rfl rfl ?_
    refine gv_iload_n (n := 1) (pc' := 68) (by decide +kernel) rfl rfl ?_
    refine gd_cv0 (w' := false) (pc' := 71) (X_M_carry _ _) h md_M_carry vd_M_carry (Or.inl ml_9_275) (by decide +kernel) (by decide) rfl rfl rfl (Nat.le_of_ble_eq_true rfl) (Nat.le_of_ble_eq_true rfl) (by decide) rfl (fun z => by cases z) (by decide) rfl (fun s21 h => ?_)
    refine gv_aload_n (n := 0) (pc' := 72) (by decide +kernel) rfl rfl ?_
    refine gd_cvi (w' := false) (pc' := 75) (X_M_search _) h md_M_search vd_M_search (Or.inl ml_9_272) (by decide +kernel) (by decide) rfl rfl rfl (Nat.le_of_ble_eq_true rfl) (Nat.le_of_ble_eq_true rfl) (by decide) rfl (fun z => by cases z) (by decide) rfl (fun r22 s23 h => ?_)
    refine gv_istore_n (n := 1) (pc' := 76) (by decide +kernel) (by decide) rfl ?_
    refine gv_goto (off := -15) (tgt := 61) (by decide +kernel) (by decide) ?_
    exact gd_ar (gl_s (gl_s (gl_n gl_z))) (fun z => by cases z) (ih _ _ h)
def B_M_findCut_26 (k11 : gS → gR) (x_1_7 : Int32) (ag10 : Int32 → gS → gR) (n_2_8 : Int32) (s9 : gS) : gR :=
 if 33 ≤ n_2_8 then
  k11 s9
 else
  gd_g (gd_in (((33 : Int32) * x_1_7) + n_2_8) 34320) <|
  gd_s (gs_A s9 58 (((33 : Int32) * x_1_7) + n_2_8).toNatClampNeg 0) fun s12 =>
  ag10 (n_2_8 + 1) s12
set_option maxRecDepth 20000 in
theorem L_M_findCut_26 (k11 : gS → gR) (x_1_7 : Int32) (r0 : gQ × gS) (hk11 : ∀ (s13 : gS), k11 s13 = some r0 → gv_V m_M_findCut 1 false 50 [some (.ref 41), some (.int x_1_7), none] [] s13 (gv_is r0.1 r0.2)) (n : Nat) : ∀ (n_2_8 : Int32) (s9 : gS), gd_lp (fun _ _ => none) (B_M_findCut_26 k11 x_1_7) n n_2_8 s9 = some r0 → gv_V m_M_findCut 1 false 26 [some (.ref 41), some (.int x_1_7), some (.int n_2_8)] [] s9 (gv_is r0.1 r0.2) := by
  refine gd_lpC (fun (ag10 : Int32 → gS → gR) => ∀ (n_2_8 : Int32) (s9 : gS), ag10 n_2_8 s9 = some r0 → gv_V m_M_findCut 1 false 26 [some (.ref 41), some (.int x_1_7), some (.int n_2_8)] [] s9 (gv_is r0.1 r0.2)) (fun n_2_8 s9 h => by cases h) (fun ag10 ih n_2_8 s9 h => ?_) n
  unfold B_M_findCut_26 at h
  refine gv_iload_n (n := 2) (pc' := 27) (by decide +kernel) rfl rfl ?_
  refine gv_bipush (n := 33) (v := 33) (pc' := 29) (by decide +kernel) (by decide) rfl ?_
  refine gv_icmp_ge (off := 21) (tgt := 50) (pc' := 32) (by decide +kernel) (by decide) rfl (fun c29 => ?_) (fun c29 => ?_)
  · replace h := gd_T c29 h
    exact gd_ar (gl_s (gl_s (gl_n gl_z))) (fun z => by cases z) (hk11 _ h)
  · replace h := gd_F c29 h
    refine gv_aload_n (n := 0) (pc' := 33) (by decide +kernel) rfl rfl ?_
    refine gv_getr lk_9_68 (by decide +kernel) rfl rfl (pc' := 36) rfl ?_
    refine gv_bipush (n := 33) (v := 33) (pc' := 38) (by decide +kernel) (by decide) rfl ?_
    refine gv_iload_n (n := 1) (pc' := 39) (by decide +kernel) rfl rfl ?_
    refine gv_imul (pc' := 40) (by decide +kernel) rfl ?_
    refine gv_iload_n (n := 2) (pc' := 41) (by decide +kernel) rfl rfl ?_
    refine gv_iadd (pc' := 42) (by decide +kernel) rfl ?_
    refine gv_iconst (n := 0) (v := 0) (pc' := 43) (by decide +kernel) (by decide) rfl ?_
    obtain ⟨g43, h⟩ := gd_gE h
    refine gd_iast (pc' := 44) (by decide +kernel) rfl (gd_inv g43) rfl h (fun s12 h => ?_)
    refine gv_iincc (i := 2) (n := 1) (c := 1) (pc' := 47) (by decide +kernel) rfl (by decide) (by decide) rfl ?_
    refine gv_goto (off := -21) (tgt := 26) (by decide +kernel) (by decide) ?_
    exact gd_ar (gl_s (gl_s (gl_s gl_z))) (fun z => by cases z) (ih _ _ h)
def B_M_findCut_2 (k4 : gS → gR) (ag3 : Int32 → gS → gR) (n_1_1 : Int32) (s2 : gS) : gR :=
 if (gI s2 41 2) ≤ n_1_1 then
  k4 s2
 else
  gd_g (gd_in n_1_1 1040) <|
  gd_s (gs_A s2 59 n_1_1.toNatClampNeg (vp_nar .boolean 0)) fun s5 =>
  gd_g (gd_in n_1_1 1040) <|
  gd_s (gs_A s5 60 n_1_1.toNatClampNeg (vp_nar .boolean 0)) fun s6 =>
  gd_j (α := gS → gR) (fun (s13 : gS) =>
   ag3 (n_1_1 + 1) s13) fun k11 =>
  gd_lp (fun _ _ => none) (B_M_findCut_26 k11 n_1_1) gd_N 0 s6
set_option maxRecDepth 20000 in
theorem L_M_findCut_2 (k4 : gS → gR) (r0 : gQ × gS) (hk4 : ∀ (s14 : gS), k4 s14 = some r0 → gv_V m_M_findCut 1 false 56 [some (.ref 41), none, none] [] s14 (gv_is r0.1 r0.2)) (n : Nat) : ∀ (n_1_1 : Int32) (s2 : gS), gd_lp (fun _ _ => none) (B_M_findCut_2 k4) n n_1_1 s2 = some r0 → gv_V m_M_findCut 1 false 2 [some (.ref 41), some (.int n_1_1), none] [] s2 (gv_is r0.1 r0.2) := by
  refine gd_lpC (fun (ag3 : Int32 → gS → gR) => ∀ (n_1_1 : Int32) (s2 : gS), ag3 n_1_1 s2 = some r0 → gv_V m_M_findCut 1 false 2 [some (.ref 41), some (.int n_1_1), none] [] s2 (gv_is r0.1 r0.2)) (fun n_1_1 s2 h => by cases h) (fun ag3 ih n_1_1 s2 h => ?_) n
  unfold B_M_findCut_2 at h
  refine gv_iload_n (n := 1) (pc' := 3) (by decide +kernel) rfl rfl ?_
  refine gv_aload_n (n := 0) (pc' := 4) (by decide +kernel) rfl rfl ?_
  refine gv_getj lk_9_102 (by decide +kernel) rfl rfl (pc' := 7) rfl ?_
  refine gv_icmp_ge (off := 49) (tgt := 56) (pc' := 10) (by decide +kernel) (by decide) rfl (fun c7 => ?_) (fun c7 => ?_)
  · replace h := gd_T c7 h
    exact gd_ar (gl_s (gl_n (gl_n gl_z))) (fun z => by cases z) (hk4 _ h)
  · replace h := gd_F c7 h
    refine gv_aload_n (n := 0) (pc' := 11) (by decide +kernel) rfl rfl ?_
    refine gv_getr lk_9_71 (by decide +kernel) rfl rfl (pc' := 14) rfl ?_
    refine gv_iload_n (n := 1) (pc' := 15) (by decide +kernel) rfl rfl ?_
    refine gv_iconst (n := 0) (v := 0) (pc' := 16) (by decide +kernel) (by decide) rfl ?_
    obtain ⟨g16, h⟩ := gd_gE h
    refine gd_zast (pc' := 17) (by decide +kernel) rfl (gd_inv g16) rfl h (fun s5 h => ?_)
    refine gv_aload_n (n := 0) (pc' := 18) (by decide +kernel) rfl rfl ?_
    refine gv_getr lk_9_74 (by decide +kernel) rfl rfl (pc' := 21) rfl ?_
    refine gv_iload_n (n := 1) (pc' := 22) (by decide +kernel) rfl rfl ?_
    refine gv_iconst (n := 0) (v := 0) (pc' := 23) (by decide +kernel) (by decide) rfl ?_
    obtain ⟨g23, h⟩ := gd_gE h
    refine gd_zast (pc' := 24) (by decide +kernel) rfl (gd_inv g23) rfl h (fun s6 h => ?_)
    refine gv_iconst (n := 0) (v := 0) (pc' := 25) (by decide +kernel) (by decide) rfl ?_
    refine gv_istore_n (n := 2) (pc' := 26) (by decide +kernel) (by decide) rfl ?_
    refine gd_jC (fun k11 => ∀ (s13 : gS), k11 s13 = some r0 → gv_V m_M_findCut 1 false 50 [some (.ref 41), some (.int n_1_1), none] [] s13 (gv_is r0.1 r0.2)) h (fun s13 h => ?_) (fun k11 hk11 h => ?_)
    · refine gv_iincc (i := 1) (n := 1) (c := 1) (pc' := 53) (by decide +kernel) rfl (by decide) (by decide) rfl ?_
      refine gv_goto (off := -51) (tgt := 2) (by decide +kernel) (by decide) ?_
      exact gd_ar (gl_s (gl_s (gl_n gl_z))) (fun z => by cases z) (ih _ _ h)
    exact gd_ar (gl_s (gl_s (gl_s gl_z))) (fun z => by cases z) (L_M_findCut_26 _ _ r0 hk11 _ _ _ h)
def F_M_findCut (σ : gS) : gR :=
 gd_j (α := gS → gR) (fun (s14 : gS) =>
  gd_i (F_M_search s14) fun r15 s16 =>
  gd_j (α := gS → gR) (fun (s24 : gS) =>
   gd_s (gs_I s24 41 26 0) fun s25 =>
   gd_lp (fun _ _ => none) (B_M_findCut_86) gd_N 0 s25) fun k20 =>
  gd_lp (fun _ _ => none) (B_M_findCut_61 k20) gd_N r15 s16) fun k4 =>
 gd_lp (fun _ _ => none) (B_M_findCut_2 k4) gd_N 0 σ
set_option maxRecDepth 20000 in
theorem X_M_findCut (σ : gS) (r0 : gQ × gS) (h : F_M_findCut σ = some r0) : gv_K m_M_findCut [.ref 41] σ (gv_is r0.1 r0.2) := by
  unfold F_M_findCut at h
  show gv_V m_M_findCut 1 true 0 [some (.ref 41), none, none] [] σ (gv_is r0.1 r0.2)
  refine gv_iconst (n := 0) (v := 0) (pc' := 1) (by decide +kernel) (by decide) rfl ?_
  refine gv_istore_n (n := 1) (pc' := 2) (by decide +kernel) (by decide) rfl ?_
  refine gd_jC (fun k4 => ∀ (s14 : gS), k4 s14 = some r0 → gv_V m_M_findCut 1 false 56 [some (.ref 41), none, none] [] s14 (gv_is r0.1 r0.2)) h (fun s14 h => ?_) (fun k4 hk4 h => ?_)
  · refine gv_aload_n (n := 0) (pc' := 57) (by decide +kernel) rfl rfl ?_
    refine gd_cvi (w' := false) (pc' := 60) (X_M_search _) h md_M_search vd_M_search (Or.inl ml_9_272) (by decide +kernel) (by decide) rfl rfl rfl (Nat.le_of_ble_eq_true rfl) (Nat.le_of_ble_eq_true rfl) (by decide) rfl (fun z => by cases z) (by decide) rfl (fun r15 s16 h => ?_)
    refine gv_istore_n (n := 1) (pc' := 61) (by decide +kernel) (by decide) rfl ?_
    refine gd_jC (fun k20 => ∀ (s24 : gS), k20 s24 = some r0 → gv_V m_M_findCut 1 false 79 [some (.ref 41), none, none] [] s24 (gv_is r0.1 r0.2)) h (fun s24 h => ?_) (fun k20 hk20 h => ?_)
    · refine gv_aload_n (n := 0) (pc' := 80) (by decide +kernel) rfl rfl ?_
      refine gv_iconst (n := 0) (v := 0) (pc' := 81) (by decide +kernel) (by decide) rfl ?_
      refine gd_puti lp_9_278 (by decide +kernel) rfl rfl rfl rfl (pc' := 84) rfl h (fun s25 h => ?_)
      refine gv_iconst (n := 0) (v := 0) (pc' := 85) (by decide +kernel) (by decide) rfl ?_
      refine gv_istore_n (n := 2) (pc' := 86) (by decide +kernel) (by decide) rfl ?_
      exact gd_ar (gl_s (gl_n (gl_s gl_z))) (fun z => by cases z) (L_M_findCut_86 r0 _ _ _ h)
    exact gd_ar (gl_s (gl_s (gl_n gl_z))) (fun z => by cases z) (L_M_findCut_61 _ r0 hk20 _ _ _ h)
  exact gd_ar (gl_s (gl_s (gl_n gl_z))) (fun z => by cases z) (L_M_findCut_2 _ r0 hk4 _ _ _ h)
def B_M_know_14 (k5 : gS → gR) (ag4 : Int32 → gS → gR) (n_1_2 : Int32) (s3 : gS) : gR :=
 if (gI s3 41 2) ≤ n_1_2 then
  k5 s3
 else
  gd_0 (F_M_findReach n_1_2 s3) fun s6 =>
  ag4 (n_1_2 + 1) s6
set_option maxRecDepth 20000 in
theorem L_M_know_14 (k5 : gS → gR) (r0 : gQ × gS) (hk5 : ∀ (s7 : gS), k5 s7 = some r0 → gv_V m_M_know 1 false 33 [some (.ref 41), none] [] s7 (gv_is r0.1 r0.2)) (n : Nat) : ∀ (n_1_2 : Int32) (s3 : gS), gd_lp (fun _ _ => none) (B_M_know_14 k5) n n_1_2 s3 = some r0 → gv_V m_M_know 1 false 14 [some (.ref 41), some (.int n_1_2)] [] s3 (gv_is r0.1 r0.2) := by
  refine gd_lpC (fun (ag4 : Int32 → gS → gR) => ∀ (n_1_2 : Int32) (s3 : gS), ag4 n_1_2 s3 = some r0 → gv_V m_M_know 1 false 14 [some (.ref 41), some (.int n_1_2)] [] s3 (gv_is r0.1 r0.2)) (fun n_1_2 s3 h => by cases h) (fun ag4 ih n_1_2 s3 h => ?_) n
  unfold B_M_know_14 at h
  refine gv_iload_n (n := 1) (pc' := 15) (by decide +kernel) rfl rfl ?_
  refine gv_aload_n (n := 0) (pc' := 16) (by decide +kernel) rfl rfl ?_
  refine gv_getj lk_9_102 (by decide +kernel) rfl rfl (pc' := 19) rfl ?_
  refine gv_icmp_ge (off := 14) (tgt := 33) (pc' := 22) (by decide +kernel) (by decide) rfl (fun c19 => ?_) (fun c19 => ?_)
  · replace h := gd_T c19 h
    exact gd_ar (gl_s (gl_n gl_z)) (fun z => by cases z) (hk5 _ h)
  · replace h := gd_F c19 h
    refine gv_aload_n (n := 0) (pc' := 23) (by decide +kernel) rfl rfl ?_
    refine gv_iload_n (n := 1) (pc' := 24) (by decide +kernel) rfl rfl ?_
    refine gd_cv0 (w' := false) (pc' := 27) (X_M_findReach _ _) h md_M_findReach vd_M_findReach (Or.inl ml_9_284) (by decide +kernel) (by decide) rfl rfl rfl (Nat.le_of_ble_eq_true rfl) (Nat.le_of_ble_eq_true rfl) (by decide) rfl (fun z => by cases z) (by decide) rfl (fun s6 h => ?_)
    refine gv_iincc (i := 1) (n := 1) (c := 1) (pc' := 30) (by decide +kernel) rfl (by decide) (by decide) rfl ?_
    refine gv_goto (off := -16) (tgt := 14) (by decide +kernel) (by decide) ?_
    exact gd_ar (gl_s (gl_s gl_z)) (fun z => by cases z) (ih _ _ h)
def F_M_know (σ : gS) : gR :=
 if (gI σ 41 20) = 0 then
  gd_0 (F_M_findGuessed σ) fun s1 =>
  gd_j (α := gS → gR) (fun (s7 : gS) =>
   gd_0 (F_M_findTaint s7) fun s8 =>
   gd_0 (F_M_findExposed s8) fun s9 =>
   gd_0 (F_M_findCut s9) fun s10 =>
   gd_s (gs_I s10 41 20 1) fun s11 =>
   some (.inl none, s11)) fun k5 =>
  gd_lp (fun _ _ => none) (B_M_know_14 k5) gd_N 0 s1
 else
  some (.inl none, σ)
set_option maxRecDepth 20000 in
theorem X_M_know (σ : gS) (r0 : gQ × gS) (h : F_M_know σ = some r0) : gv_K m_M_know [.ref 41] σ (gv_is r0.1 r0.2) := by
  unfold F_M_know at h
  show gv_V m_M_know 1 true 0 [some (.ref 41), none] [] σ (gv_is r0.1 r0.2)
  refine gv_aload_n (n := 0) (pc' := 1) (by decide +kernel) rfl rfl ?_
  refine gv_getj lk_9_142 (by decide +kernel) rfl rfl (pc' := 4) rfl ?_
  refine gv_if_eq (off := 4) (tgt := 8) (pc' := 7) (by decide +kernel) (by decide) rfl (fun c4 => ?_) (fun c4 => ?_)
  · replace h := gd_T c4 h
    refine gv_aload_n (n := 0) (pc' := 9) (by decide +kernel) rfl rfl ?_
    refine gd_cv0 (w' := false) (pc' := 12) (X_M_findGuessed _) h md_M_findGuessed vd_M_findGuessed (Or.inl ml_9_281) (by decide +kernel) (by decide) rfl rfl rfl (Nat.le_of_ble_eq_true rfl) (Nat.le_of_ble_eq_true rfl) (by decide) rfl (fun z => by cases z) (by decide) rfl (fun s1 h => ?_)
    refine gv_iconst (n := 0) (v := 0) (pc' := 13) (by decide +kernel) (by decide) rfl ?_
    refine gv_istore_n (n := 1) (pc' := 14) (by decide +kernel) (by decide) rfl ?_
    refine gd_jC (fun k5 => ∀ (s7 : gS), k5 s7 = some r0 → gv_V m_M_know 1 false 33 [some (.ref 41), none] [] s7 (gv_is r0.1 r0.2)) h (fun s7 h => ?_) (fun k5 hk5 h => ?_)
    · refine gv_aload_n (n := 0) (pc' := 34) (by decide +kernel) rfl rfl ?_
      refine gd_cv0 (w' := false) (pc' := 37) (X_M_findTaint _) h md_M_findTaint vd_M_findTaint (Or.inl ml_9_287) (by decide +kernel) (by decide) rfl rfl rfl (Nat.le_of_ble_eq_true rfl) (Nat.le_of_ble_eq_true rfl) (by decide) rfl (fun z => by cases z) (by decide) rfl (fun s8 h => ?_)
      refine gv_aload_n (n := 0) (pc' := 38) (by decide +kernel) rfl rfl ?_
      refine gd_cv0 (w' := false) (pc' := 41) (X_M_findExposed _) h md_M_findExposed vd_M_findExposed (Or.inl ml_9_290) (by decide +kernel) (by decide) rfl rfl rfl (Nat.le_of_ble_eq_true rfl) (Nat.le_of_ble_eq_true rfl) (by decide) rfl (fun z => by cases z) (by decide) rfl (fun s9 h => ?_)
      refine gv_aload_n (n := 0) (pc' := 42) (by decide +kernel) rfl rfl ?_
      refine gd_cv0 (w' := false) (pc' := 45) (X_M_findCut _) h md_M_findCut vd_M_findCut (Or.inl ml_9_293) (by decide +kernel) (by decide) rfl rfl rfl (Nat.le_of_ble_eq_true rfl) (Nat.le_of_ble_eq_true rfl) (by decide) rfl (fun z => by cases z) (by decide) rfl (fun s10 h => ?_)
      refine gv_aload_n (n := 0) (pc' := 46) (by decide +kernel) rfl rfl ?_
      refine gv_iconst (n := 1) (v := 1) (pc' := 47) (by decide +kernel) (by decide) rfl ?_
      refine gd_puti lp_9_142 (by decide +kernel) rfl rfl rfl rfl (pc' := 50) rfl h (fun s11 h => ?_)
      exact gv_ret (by decide +kernel) rfl (by decide) (by decide) (gd_rE h)
    exact gd_ar (gl_s (gl_s gl_z)) (fun z => by cases z) (L_M_know_14 _ r0 hk5 _ _ _ h)
  · replace h := gd_F c4 h
    exact gv_ret (by decide +kernel) rfl (by decide) (by decide) (gd_rE h)
def F_M_check (σ : gS) : gR :=
 gd_t (α := Int32) (if (gI σ 41 5) = 0 then
   1
  else
   0) fun v2 =>
 gd_s (gs_I σ 41 0 v2) fun s3 =>
 if (gI s3 41 0) ≤ 0 then
  gd_0 (F_M_know s3) fun s4 =>
  some (.inl (some (.int (gI s4 41 27))), s4)
 else
  some (.inl (some (.int 0)), s3)
set_option maxRecDepth 20000 in
theorem X_M_check (σ : gS) (r0 : gQ × gS) (h : F_M_check σ = some r0) : gv_K m_M_check [.ref 41] σ (gv_is r0.1 r0.2) := by
  unfold F_M_check at h
  show gv_V m_M_check 1 true 0 [some (.ref 41)] [] σ (gv_is r0.1 r0.2)
  refine gv_aload_n (n := 0) (pc' := 1) (by decide +kernel) rfl rfl ?_
  refine gv_aload_n (n := 0) (pc' := 2) (by decide +kernel) rfl rfl ?_
  refine gv_getj lk_9_95 (by decide +kernel) rfl rfl (pc' := 5) rfl ?_
  refine gd_tC (fun (v2 : Int32) => gv_V m_M_check 1 true 13 [some (.ref 41)] [.int v2, .ref 41] σ (gv_is r0.1 r0.2)) h (fun v2 h => ?_) (fun KJ1 hJ1 h => ?_)
  · refine gd_puti lp_9_92 (by decide +kernel) rfl rfl rfl rfl (pc' := 16) rfl h (fun s3 h => ?_)
    refine gv_aload_n (n := 0) (pc' := 17) (by decide +kernel) rfl rfl ?_
    refine gv_getj lk_9_92 (by decide +kernel) rfl rfl (pc' := 20) rfl ?_
    refine gv_if_le (off := 5) (tgt := 25) (pc' := 23) (by decide +kernel) (by decide) rfl (fun c20 => ?_) (fun c20 => ?_)
    · replace h := gd_T c20 h
      refine gv_aload_n (n := 0) (pc' := 26) (by decide +kernel) rfl rfl ?_
      refine gd_cv0 (w' := false) (pc' := 29) (X_M_know _) h md_M_know vd_M_know (Or.inl ml_9_296) (by decide +kernel) (by decide) rfl rfl rfl (Nat.le_of_ble_eq_true rfl) (Nat.le_of_ble_eq_true rfl) (by decide) rfl (fun z => by cases z) (by decide) rfl (fun s4 h => ?_)
      refine gv_aload_n (n := 0) (pc' := 30) (by decide +kernel) rfl rfl ?_
      refine gv_getj lk_9_256 (by decide +kernel) rfl rfl (pc' := 33) rfl ?_
      exact gv_iret .int (by decide +kernel) rfl rfl (by decide) (by decide) (gd_rE h)
    · replace h := gd_F c20 h
      refine gv_iconst (n := 0) (v := 0) (pc' := 24) (by decide +kernel) (by decide) rfl ?_
      exact gv_iret .int (by decide +kernel) rfl rfl (by decide) (by decide) (gd_rE h)
  · refine gv_if_eq (off := 7) (tgt := 12) (pc' := 8) (by decide +kernel) (by decide) rfl (fun c5 => ?_) (fun c5 => ?_)
    · replace h := gd_tT c5 h
      refine gv_iconst (n := 1) (v := 1) (pc' := 13) (by decide +kernel) (by decide) rfl ?_
      exact gd_ar (gl_s gl_z) (fun _ => rfl) (hJ1 _ h)
    · replace h := gd_tF c5 h
      refine gv_iconst (n := 0) (v := 0) (pc' := 9) (by decide +kernel) (by decide) rfl ?_
      refine gv_goto (off := 4) (tgt := 13) (by decide +kernel) (by decide) ?_
      exact gd_ar (gl_s gl_z) (fun _ => rfl) (hJ1 _ h)
def F_M_reaches (a : Int32) (b : Int32) (σ : gS) : gR :=
 gd_j (α := Int32 → gR) (fun (v4 : Int32) =>
  gd_s (gs_I σ 41 0 v4) fun s5 =>
  if (gI s5 41 0) ≤ 0 then
   gd_0 (F_M_know s5) fun s6 =>
   gd_qi (R_M_has_57 a b s6) s6 fun r7 =>
   gd_g (r7 = 0 ∨ r7 = 1) <|
   some (.inl (some (.int r7)), s6)
  else
   some (.inl (some (.int 0)), s5)) fun J1 =>
 if (gI σ 41 5) = 0 then
  J1 1
 else
  gd_qi (R_M_isAt a σ) σ fun r2 =>
  if r2 = 0 then
   J1 2
  else
   gd_qi (R_M_isAt b σ) σ fun r3 =>
   if r3 = 0 then
    J1 2
   else
    J1 0
set_option maxRecDepth 20000 in
theorem X_M_reaches (a : Int32) (b : Int32) (σ : gS) (r0 : gQ × gS) (h : F_M_reaches a b σ = some r0) : gv_K m_M_reaches [.ref 41, .int a, .int b] σ (gv_is r0.1 r0.2) := by
  unfold F_M_reaches at h
  show gv_V m_M_reaches 1 true 0 [some (.ref 41), some (.int a), some (.int b)] [] σ (gv_is r0.1 r0.2)
  refine gv_aload_n (n := 0) (pc' := 1) (by decide +kernel) rfl rfl ?_
  refine gv_aload_n (n := 0) (pc' := 2) (by decide +kernel) rfl rfl ?_
  refine gv_getj lk_9_95 (by decide +kernel) rfl rfl (pc' := 5) rfl ?_
  refine gd_jC (fun J1 => ∀ (v4 : Int32), J1 v4 = some r0 → gv_V m_M_reaches 1 true 33 [some (.ref 41), some (.int a), some (.int b)] [.int v4, .ref 41] σ (gv_is r0.1 r0.2)) h (fun v4 h => ?_) (fun J1 hJ1 h => ?_)
  · refine gd_puti lp_9_92 (by decide +kernel) rfl rfl rfl rfl (pc' := 36) rfl h (fun s5 h => ?_)
    refine gv_aload_n (n := 0) (pc' := 37) (by decide +kernel) rfl rfl ?_
    refine gv_getj lk_9_92 (by decide +kernel) rfl rfl (pc' := 40) rfl ?_
    refine gv_if_le (off := 5) (tgt := 45) (pc' := 43) (by decide +kernel) (by decide) rfl (fun c40 => ?_) (fun c40 => ?_)
    · replace h := gd_T c40 h
      refine gv_aload_n (n := 0) (pc' := 46) (by decide +kernel) rfl rfl ?_
      refine gd_cv0 (w' := false) (pc' := 49) (X_M_know _) h md_M_know vd_M_know (Or.inl ml_9_296) (by decide +kernel) (by decide) rfl rfl rfl (Nat.le_of_ble_eq_true rfl) (Nat.le_of_ble_eq_true rfl) (by decide) rfl (fun z => by cases z) (by decide) rfl (fun s6 h => ?_)
      refine gv_aload_n (n := 0) (pc' := 50) (by decide +kernel) rfl rfl ?_
      refine gv_aload_n (n := 0) (pc' := 51) (by decide +kernel) rfl rfl ?_
      refine gv_getr lk_9_65 (by decide +kernel) rfl rfl (pc' := 54) rfl ?_
      refine gv_iload_n (n := 1) (pc' := 55) (by decide +kernel) rfl rfl ?_
      refine gv_iload_n (n := 2) (pc' := 56) (by decide +kernel) rfl rfl ?_
      refine gd_dvi (w' := false) (pc' := 59) (X_M_has_57 _ _ _) h md_M_has vd_M_has (Or.inl ml_9_252) (by decide +kernel) (by decide) rfl rfl rfl (Nat.le_of_ble_eq_true rfl) (Nat.le_of_ble_eq_true rfl) (by decide) rfl (fun z => by cases z) (by decide) rfl (fun r7 h => ?_)
      obtain ⟨g59, h⟩ := gd_gE h
      exact gv_iret .boolean (by decide +kernel) rfl (gd_nb g59) (by decide) (by decide) (gd_rE h)
    · replace h := gd_F c40 h
      refine gv_iconst (n := 0) (v := 0) (pc' := 44) (by decide +kernel) (by decide) rfl ?_
      exact gv_iret .boolean (by decide +kernel) rfl rfl (by decide) (by decide) (gd_rE h)
  · refine gv_if_ne (off := 7) (tgt := 12) (pc' := 8) (by decide +kernel) (by decide) rfl (fun c5 => ?_) (fun c5 => ?_)
    · replace h := gd_F c5 h
      refine gv_aload_n (n := 0) (pc' := 13) (by decide +kernel) rfl rfl ?_
      refine gv_iload_n (n := 1) (pc' := 14) (by decide +kernel) rfl rfl ?_
      refine gd_dvi (w' := true) (pc' := 17) (X_M_isAt _ _) h md_M_isAt vd_M_isAt (Or.inl ml_9_163) (by decide +kernel) (by decide) rfl rfl rfl (Nat.le_of_ble_eq_true rfl) (Nat.le_of_ble_eq_true rfl) (by decide) rfl (fun z => ⟨rfl, z⟩) (by decide) rfl (fun r2 h => ?_)
      refine gv_if_eq (off := 11) (tgt := 28) (pc' := 20) (by decide +kernel) (by decide) rfl (fun c17 => ?_) (fun c17 => ?_)
      · replace h := gd_T c17 h
        refine gv_iconst (n := 2) (v := 2) (pc' := 29) (by decide +kernel) (by decide) rfl ?_
        refine gv_goto (off := 4) (tgt := 33) (by decide +kernel) (by decide) ?_
        exact gd_ar (gl_s (gl_s (gl_s gl_z))) (fun _ => rfl) (hJ1 _ h)
      · replace h := gd_F c17 h
        refine gv_aload_n (n := 0) (pc' := 21) (by decide +kernel) rfl rfl ?_
        refine gv_iload_n (n := 2) (pc' := 22) (by decide +kernel) rfl rfl ?_
        refine gd_dvi (w' := true) (pc' := 25) (X_M_isAt _ _) h md_M_isAt vd_M_isAt (Or.inl ml_9_163) (by decide +kernel) (by decide) rfl rfl rfl (Nat.le_of_ble_eq_true rfl) (Nat.le_of_ble_eq_true rfl) (by decide) rfl (fun z => ⟨rfl, z⟩) (by decide) rfl (fun r3 h => ?_)
        refine gv_if_ne (off := 7) (tgt := 32) (pc' := 28) (by decide +kernel) (by decide) rfl (fun c25 => ?_) (fun c25 => ?_)
        · replace h := gd_F c25 h
          refine gv_iconst (n := 0) (v := 0) (pc' := 33) (by decide +kernel) (by decide) rfl ?_
          exact gd_ar (gl_s (gl_s (gl_s gl_z))) (fun _ => rfl) (hJ1 _ h)
        · replace h := gd_T c25 h
          refine gv_iconst (n := 2) (v := 2) (pc' := 29) (by decide +kernel) (by decide) rfl ?_
          refine gv_goto (off := 4) (tgt := 33) (by decide +kernel) (by decide) ?_
          exact gd_ar (gl_s (gl_s (gl_s gl_z))) (fun _ => rfl) (hJ1 _ h)
    · replace h := gd_T c5 h
      refine gv_iconst (n := 1) (v := 1) (pc' := 9) (by decide +kernel) (by decide) rfl ?_
      refine gv_goto (off := 24) (tgt := 33) (by decide +kernel) (by decide) ?_
      exact gd_ar (gl_s (gl_s (gl_s gl_z))) (fun _ => rfl) (hJ1 _ h)
def F_M_mark (a : Int32) (σ : gS) : gR :=
 gd_j (α := Int32 → gR) (fun (v3 : Int32) =>
  gd_s (gs_I σ 41 0 v3) fun s4 =>
  if (gI s4 41 0) ≤ 0 then
   gd_0 (F_M_know s4) fun s5 =>
   gd_g (gd_in a 1040) <|
   gd_t (α := Int32) (if (gA s5 52 a.toNatClampNeg) = 0 then
     0
    else
     1) fun v7 =>
   gd_g (gd_in a 1040) <|
   gd_t (α := Int32) (if (gA s5 53 a.toNatClampNeg) = 0 then
     0
    else
     2) fun v9 =>
   gd_g (gd_in a 1040) <|
   gd_t (α := Int32) (if (gA s5 54 a.toNatClampNeg) = 0 then
     0
    else
     4) fun v11 =>
   gd_g (gd_in a 1040) <|
   gd_t (α := Int32) (if (gA s5 56 a.toNatClampNeg) = 0 then
     0
    else
     8) fun v13 =>
   some (.inl (some (.int (((v7 + v9) + v11) + v13))), s5)
  else
   some (.inl (some (.int 0)), s4)) fun J1 =>
 if (gI σ 41 5) = 0 then
  J1 1
 else
  gd_qi (R_M_isAt a σ) σ fun r2 =>
  if r2 = 0 then
   J1 2
  else
   J1 0
set_option maxRecDepth 20000 in
theorem X_M_mark (a : Int32) (σ : gS) (r0 : gQ × gS) (h : F_M_mark a σ = some r0) : gv_K m_M_mark [.ref 41, .int a] σ (gv_is r0.1 r0.2) := by
  unfold F_M_mark at h
  show gv_V m_M_mark 1 true 0 [some (.ref 41), some (.int a)] [] σ (gv_is r0.1 r0.2)
  refine gv_aload_n (n := 0) (pc' := 1) (by decide +kernel) rfl rfl ?_
  refine gv_aload_n (n := 0) (pc' := 2) (by decide +kernel) rfl rfl ?_
  refine gv_getj lk_9_95 (by decide +kernel) rfl rfl (pc' := 5) rfl ?_
  refine gd_jC (fun J1 => ∀ (v3 : Int32), J1 v3 = some r0 → gv_V m_M_mark 1 true 25 [some (.ref 41), some (.int a)] [.int v3, .ref 41] σ (gv_is r0.1 r0.2)) h (fun v3 h => ?_) (fun J1 hJ1 h => ?_)
  · refine gd_puti lp_9_92 (by decide +kernel) rfl rfl rfl rfl (pc' := 28) rfl h (fun s4 h => ?_)
    refine gv_aload_n (n := 0) (pc' := 29) (by decide +kernel) rfl rfl ?_
    refine gv_getj lk_9_92 (by decide +kernel) rfl rfl (pc' := 32) rfl ?_
    refine gv_if_le (off := 5) (tgt := 37) (pc' := 35) (by decide +kernel) (by decide) rfl (fun c32 => ?_) (fun c32 => ?_)
    · replace h := gd_T c32 h
      refine gv_aload_n (n := 0) (pc' := 38) (by decide +kernel) rfl rfl ?_
      refine gd_cv0 (w' := false) (pc' := 41) (X_M_know _) h md_M_know vd_M_know (Or.inl ml_9_296) (by decide +kernel) (by decide) rfl rfl rfl (Nat.le_of_ble_eq_true rfl) (Nat.le_of_ble_eq_true rfl) (by decide) rfl (fun z => by cases z) (by decide) rfl (fun s5 h => ?_)
      refine gv_aload_n (n := 0) (pc' := 42) (by decide +kernel) rfl rfl ?_
      refine gv_getr lk_9_48 (by decide +kernel) rfl rfl (pc' := 45) rfl ?_
      refine gv_iload_n (n := 1) (pc' := 46) (by decide +kernel) rfl rfl ?_
      obtain ⟨g46, h⟩ := gd_gE h
      refine gj_zald _ (pc' := 47) (by decide +kernel) rfl (gd_inv g46) rfl rfl ?_
      refine gd_tC (fun (v7 : Int32) => gv_V m_M_mark 1 false 55 [some (.ref 41), some (.int a)] [.int v7] s5 (gv_is r0.1 r0.2)) h (fun v7 h => ?_) (fun KJ6 hJ6 h => ?_)
      · refine gv_aload_n (n := 0) (pc' := 56) (by decide +kernel) rfl rfl ?_
        refine gv_getr lk_9_52 (by decide +kernel) rfl rfl (pc' := 59) rfl ?_
        refine gv_iload_n (n := 1) (pc' := 60) (by decide +kernel) rfl rfl ?_
        obtain ⟨g60, h⟩ := gd_gE h
        refine gj_zald _ (pc' := 61) (by decide +kernel) rfl (gd_inv g60) rfl rfl ?_
        refine gd_tC (fun (v9 : Int32) => gv_V m_M_mark 1 false 69 [some (.ref 41), some (.int a)] [.int v9, .int v7] s5 (gv_is r0.1 r0.2)) h (fun v9 h => ?_) (fun KJ8 hJ8 h => ?_)
        · refine gv_iadd (pc' := 70) (by decide +kernel) rfl ?_
          refine gv_aload_n (n := 0) (pc' := 71) (by decide +kernel) rfl rfl ?_
          refine gv_getr lk_9_55 (by decide +kernel) rfl rfl (pc' := 74) rfl ?_
          refine gv_iload_n (n := 1) (pc' := 75) (by decide +kernel) rfl rfl ?_
          obtain ⟨g75, h⟩ := gd_gE h
          refine gj_zald _ (pc' := 76) (by decide +kernel) rfl (gd_inv g75) rfl rfl ?_
          refine gd_tC (fun (v11 : Int32) => gv_V m_M_mark 1 false 84 [some (.ref 41), some (.int a)] [.int v11, .int (v7 + v9)] s5 (gv_is r0.1 r0.2)) h (fun v11 h => ?_) (fun KJ10 hJ10 h => ?_)
          · refine gv_iadd (pc' := 85) (by decide +kernel) rfl ?_
            refine gv_aload_n (n := 0) (pc' := 86) (by decide +kernel) rfl rfl ?_
            refine gv_getr lk_9_61 (by decide +kernel) rfl rfl (pc' := 89) rfl ?_
            refine gv_iload_n (n := 1) (pc' := 90) (by decide +kernel) rfl rfl ?_
            obtain ⟨g90, h⟩ := gd_gE h
            refine gj_zald _ (pc' := 91) (by decide +kernel) rfl (gd_inv g90) rfl rfl ?_
            refine gd_tC (fun (v13 : Int32) => gv_V m_M_mark 1 false 100 [none, none] [.int v13, .int ((v7 + v9) + v11)] s5 (gv_is r0.1 r0.2)) h (fun v13 h => ?_) (fun KJ12 hJ12 h => ?_)
            · refine gv_iadd (pc' := 101) (by decide +kernel) rfl ?_
              exact gv_iret .int (by decide +kernel) rfl rfl (by decide) (by decide) (gd_rE h)
            · refine gv_if_eq (off := 8) (tgt := 99) (pc' := 94) (by decide +kernel) (by decide) rfl (fun c91 => ?_) (fun c91 => ?_)
              · replace h := gd_tT c91 h
                refine gv_iconst (n := 0) (v := 0) (pc' := 100) (by decide +kernel) (by decide) rfl ?_
                exact gd_ar (gl_n (gl_n gl_z)) (fun z => by cases z) (hJ12 _ h)
              · replace h := gd_tF c91 h
                refine gv_bipush (n := 8) (v := 8) (pc' := 96) (by decide +kernel) (by decide) rfl ?_
                refine gv_goto (off := 4) (tgt := 100) (by decide +kernel) (by decide) ?_
                exact gd_ar (gl_n (gl_n gl_z)) (fun z => by cases z) (hJ12 _ h)
          · refine gv_if_eq (off := 7) (tgt := 83) (pc' := 79) (by decide +kernel) (by decide) rfl (fun c76 => ?_) (fun c76 => ?_)
            · replace h := gd_tT c76 h
              refine gv_iconst (n := 0) (v := 0) (pc' := 84) (by decide +kernel) (by decide) rfl ?_
              exact gd_ar (gl_s (gl_s gl_z)) (fun z => by cases z) (hJ10 _ h)
            · replace h := gd_tF c76 h
              refine gv_iconst (n := 4) (v := 4) (pc' := 80) (by decide +kernel) (by decide) rfl ?_
              refine gv_goto (off := 4) (tgt := 84) (by decide +kernel) (by decide) ?_
              exact gd_ar (gl_s (gl_s gl_z)) (fun z => by cases z) (hJ10 _ h)
        · refine gv_if_eq (off := 7) (tgt := 68) (pc' := 64) (by decide +kernel) (by decide) rfl (fun c61 => ?_) (fun c61 => ?_)
          · replace h := gd_tT c61 h
            refine gv_iconst (n := 0) (v := 0) (pc' := 69) (by decide +kernel) (by decide) rfl ?_
            exact gd_ar (gl_s (gl_s gl_z)) (fun z => by cases z) (hJ8 _ h)
          · replace h := gd_tF c61 h
            refine gv_iconst (n := 2) (v := 2) (pc' := 65) (by decide +kernel) (by decide) rfl ?_
            refine gv_goto (off := 4) (tgt := 69) (by decide +kernel) (by decide) ?_
            exact gd_ar (gl_s (gl_s gl_z)) (fun z => by cases z) (hJ8 _ h)
      · refine gv_if_eq (off := 7) (tgt := 54) (pc' := 50) (by decide +kernel) (by decide) rfl (fun c47 => ?_) (fun c47 => ?_)
        · replace h := gd_tT c47 h
          refine gv_iconst (n := 0) (v := 0) (pc' := 55) (by decide +kernel) (by decide) rfl ?_
          exact gd_ar (gl_s (gl_s gl_z)) (fun z => by cases z) (hJ6 _ h)
        · replace h := gd_tF c47 h
          refine gv_iconst (n := 1) (v := 1) (pc' := 51) (by decide +kernel) (by decide) rfl ?_
          refine gv_goto (off := 4) (tgt := 55) (by decide +kernel) (by decide) ?_
          exact gd_ar (gl_s (gl_s gl_z)) (fun z => by cases z) (hJ6 _ h)
    · replace h := gd_F c32 h
      refine gv_iconst (n := 0) (v := 0) (pc' := 36) (by decide +kernel) (by decide) rfl ?_
      exact gv_iret .int (by decide +kernel) rfl rfl (by decide) (by decide) (gd_rE h)
  · refine gv_if_ne (off := 7) (tgt := 12) (pc' := 8) (by decide +kernel) (by decide) rfl (fun c5 => ?_) (fun c5 => ?_)
    · replace h := gd_F c5 h
      refine gv_aload_n (n := 0) (pc' := 13) (by decide +kernel) rfl rfl ?_
      refine gv_iload_n (n := 1) (pc' := 14) (by decide +kernel) rfl rfl ?_
      refine gd_dvi (w' := true) (pc' := 17) (X_M_isAt _ _) h md_M_isAt vd_M_isAt (Or.inl ml_9_163) (by decide +kernel) (by decide) rfl rfl rfl (Nat.le_of_ble_eq_true rfl) (Nat.le_of_ble_eq_true rfl) (by decide) rfl (fun z => ⟨rfl, z⟩) (by decide) rfl (fun r2 h => ?_)
      refine gv_if_ne (off := 7) (tgt := 24) (pc' := 20) (by decide +kernel) (by decide) rfl (fun c17 => ?_) (fun c17 => ?_)
      · replace h := gd_F c17 h
        refine gv_iconst (n := 0) (v := 0) (pc' := 25) (by decide +kernel) (by decide) rfl ?_
        exact gd_ar (gl_s (gl_s gl_z)) (fun _ => rfl) (hJ1 _ h)
      · replace h := gd_T c17 h
        refine gv_iconst (n := 2) (v := 2) (pc' := 21) (by decide +kernel) (by decide) rfl ?_
        refine gv_goto (off := 4) (tgt := 25) (by decide +kernel) (by decide) ?_
        exact gd_ar (gl_s (gl_s gl_z)) (fun _ => rfl) (hJ1 _ h)
    · replace h := gd_T c5 h
      refine gv_iconst (n := 1) (v := 1) (pc' := 9) (by decide +kernel) (by decide) rfl ?_
      refine gv_goto (off := 16) (tgt := 25) (by decide +kernel) (by decide) ?_
      exact gd_ar (gl_s (gl_s gl_z)) (fun _ => rfl) (hJ1 _ h)
def F_M_cut (σ : gS) : gR :=
 gd_t (α := Int32) (if (gI σ 41 5) = 0 then
   1
  else
   0) fun v2 =>
 gd_s (gs_I σ 41 0 v2) fun s3 =>
 if (gI s3 41 0) ≤ 0 then
  gd_0 (F_M_know s3) fun s4 =>
  some (.inl (some (.int (gI s4 41 26))), s4)
 else
  some (.inl (some (.int 0)), s3)
set_option maxRecDepth 20000 in
theorem X_M_cut (σ : gS) (r0 : gQ × gS) (h : F_M_cut σ = some r0) : gv_K m_M_cut [.ref 41] σ (gv_is r0.1 r0.2) := by
  unfold F_M_cut at h
  show gv_V m_M_cut 1 true 0 [some (.ref 41)] [] σ (gv_is r0.1 r0.2)
  refine gv_aload_n (n := 0) (pc' := 1) (by decide +kernel) rfl rfl ?_
  refine gv_aload_n (n := 0) (pc' := 2) (by decide +kernel) rfl rfl ?_
  refine gv_getj lk_9_95 (by decide +kernel) rfl rfl (pc' := 5) rfl ?_
  refine gd_tC (fun (v2 : Int32) => gv_V m_M_cut 1 true 13 [some (.ref 41)] [.int v2, .ref 41] σ (gv_is r0.1 r0.2)) h (fun v2 h => ?_) (fun KJ1 hJ1 h => ?_)
  · refine gd_puti lp_9_92 (by decide +kernel) rfl rfl rfl rfl (pc' := 16) rfl h (fun s3 h => ?_)
    refine gv_aload_n (n := 0) (pc' := 17) (by decide +kernel) rfl rfl ?_
    refine gv_getj lk_9_92 (by decide +kernel) rfl rfl (pc' := 20) rfl ?_
    refine gv_if_le (off := 5) (tgt := 25) (pc' := 23) (by decide +kernel) (by decide) rfl (fun c20 => ?_) (fun c20 => ?_)
    · replace h := gd_T c20 h
      refine gv_aload_n (n := 0) (pc' := 26) (by decide +kernel) rfl rfl ?_
      refine gd_cv0 (w' := false) (pc' := 29) (X_M_know _) h md_M_know vd_M_know (Or.inl ml_9_296) (by decide +kernel) (by decide) rfl rfl rfl (Nat.le_of_ble_eq_true rfl) (Nat.le_of_ble_eq_true rfl) (by decide) rfl (fun z => by cases z) (by decide) rfl (fun s4 h => ?_)
      refine gv_aload_n (n := 0) (pc' := 30) (by decide +kernel) rfl rfl ?_
      refine gv_getj lk_9_278 (by decide +kernel) rfl rfl (pc' := 33) rfl ?_
      exact gv_iret .int (by decide +kernel) rfl rfl (by decide) (by decide) (gd_rE h)
    · replace h := gd_F c20 h
      refine gv_iconst (n := 0) (v := 0) (pc' := 24) (by decide +kernel) (by decide) rfl ?_
      exact gv_iret .int (by decide +kernel) rfl rfl (by decide) (by decide) (gd_rE h)
  · refine gv_if_eq (off := 7) (tgt := 12) (pc' := 8) (by decide +kernel) (by decide) rfl (fun c5 => ?_) (fun c5 => ?_)
    · replace h := gd_tT c5 h
      refine gv_iconst (n := 1) (v := 1) (pc' := 13) (by decide +kernel) (by decide) rfl ?_
      exact gd_ar (gl_s gl_z) (fun _ => rfl) (hJ1 _ h)
    · replace h := gd_tF c5 h
      refine gv_iconst (n := 0) (v := 0) (pc' := 9) (by decide +kernel) (by decide) rfl ?_
      refine gv_goto (off := 4) (tgt := 13) (by decide +kernel) (by decide) ?_
      exact gd_ar (gl_s gl_z) (fun _ => rfl) (hJ1 _ h)
def f_M_jumpWith (a : Int32) (b : Int32) : Int32 :=
 ((((a &&& (4095 : Int32)) ||| (((b >>> ((20 : Int32) &&& 31)) &&& (1 : Int32)) <<< ((31 : Int32) &&& 31))) ||| (((b >>> ((12 : Int32) &&& 31)) &&& (255 : Int32)) <<< ((12 : Int32) &&& 31))) ||| (((b >>> ((11 : Int32) &&& 31)) &&& (1 : Int32)) <<< ((20 : Int32) &&& 31))) ||| (((b >>> ((1 : Int32) &&& 31)) &&& (1023 : Int32)) <<< ((21 : Int32) &&& 31))
set_option maxRecDepth 20000 in
theorem y_M_jumpWith (a : Int32) (b : Int32) (σ : gS) : gv_K m_M_jumpWith [.int a, .int b] σ (gv_is (.inl (some (.int (f_M_jumpWith a b)))) σ) := by
  generalize h : f_M_jumpWith a b = r0
  unfold f_M_jumpWith at h
  show gv_V m_M_jumpWith 1 true 0 [some (.int a), some (.int b)] [] σ (gv_is (.inl (some (.int r0))) σ)
  refine gv_iload_n (n := 0) (pc' := 1) (by decide +kernel) rfl rfl ?_
  refine gv_sipush (n := 4095) (v := 4095) (pc' := 4) (by decide +kernel) (by decide) rfl ?_
  refine gv_iand (pc' := 5) (by decide +kernel) rfl ?_
  refine gv_iload_n (n := 1) (pc' := 6) (by decide +kernel) rfl rfl ?_
  refine gv_bipush (n := 20) (v := 20) (pc' := 8) (by decide +kernel) (by decide) rfl ?_
  refine gv_ishr (pc' := 9) (by decide +kernel) rfl ?_
  refine gv_iconst (n := 1) (v := 1) (pc' := 10) (by decide +kernel) (by decide) rfl ?_
  refine gv_iand (pc' := 11) (by decide +kernel) rfl ?_
  refine gv_bipush (n := 31) (v := 31) (pc' := 13) (by decide +kernel) (by decide) rfl ?_
  refine gv_ishl (pc' := 14) (by decide +kernel) rfl ?_
  refine gv_ior (pc' := 15) (by decide +kernel) rfl ?_
  refine gv_iload_n (n := 1) (pc' := 16) (by decide +kernel) rfl rfl ?_
  refine gv_bipush (n := 12) (v := 12) (pc' := 18) (by decide +kernel) (by decide) rfl ?_
  refine gv_ishr (pc' := 19) (by decide +kernel) rfl ?_
  refine gv_sipush (n := 255) (v := 255) (pc' := 22) (by decide +kernel) (by decide) rfl ?_
  refine gv_iand (pc' := 23) (by decide +kernel) rfl ?_
  refine gv_bipush (n := 12) (v := 12) (pc' := 25) (by decide +kernel) (by decide) rfl ?_
  refine gv_ishl (pc' := 26) (by decide +kernel) rfl ?_
  refine gv_ior (pc' := 27) (by decide +kernel) rfl ?_
  refine gv_iload_n (n := 1) (pc' := 28) (by decide +kernel) rfl rfl ?_
  refine gv_bipush (n := 11) (v := 11) (pc' := 30) (by decide +kernel) (by decide) rfl ?_
  refine gv_ishr (pc' := 31) (by decide +kernel) rfl ?_
  refine gv_iconst (n := 1) (v := 1) (pc' := 32) (by decide +kernel) (by decide) rfl ?_
  refine gv_iand (pc' := 33) (by decide +kernel) rfl ?_
  refine gv_bipush (n := 20) (v := 20) (pc' := 35) (by decide +kernel) (by decide) rfl ?_
  refine gv_ishl (pc' := 36) (by decide +kernel) rfl ?_
  refine gv_ior (pc' := 37) (by decide +kernel) rfl ?_
  refine gv_iload_n (n := 1) (pc' := 38) (by decide +kernel) rfl rfl ?_
  refine gv_iconst (n := 1) (v := 1) (pc' := 39) (by decide +kernel) (by decide) rfl ?_
  refine gv_ishr (pc' := 40) (by decide +kernel) rfl ?_
  refine gv_sipush (n := 1023) (v := 1023) (pc' := 43) (by decide +kernel) (by decide) rfl ?_
  refine gv_iand (pc' := 44) (by decide +kernel) rfl ?_
  refine gv_bipush (n := 21) (v := 21) (pc' := 46) (by decide +kernel) (by decide) rfl ?_
  refine gv_ishl (pc' := 47) (by decide +kernel) rfl ?_
  refine gv_ior (pc' := 48) (by decide +kernel) rfl ?_
  exact gv_iret .int (by decide +kernel) rfl rfl (by decide) (by decide) (gd_vE h)
def f_M_branchWith (a : Int32) (b : Int32) : Int32 :=
 ((((a &&& (33550463 : Int32)) ||| (((b >>> ((12 : Int32) &&& 31)) &&& (1 : Int32)) <<< ((31 : Int32) &&& 31))) ||| (((b >>> ((11 : Int32) &&& 31)) &&& (1 : Int32)) <<< ((7 : Int32) &&& 31))) ||| (((b >>> ((5 : Int32) &&& 31)) &&& (63 : Int32)) <<< ((25 : Int32) &&& 31))) ||| (((b >>> ((1 : Int32) &&& 31)) &&& (15 : Int32)) <<< ((8 : Int32) &&& 31))
set_option maxRecDepth 20000 in
theorem y_M_branchWith (a : Int32) (b : Int32) (σ : gS) : gv_K m_M_branchWith [.int a, .int b] σ (gv_is (.inl (some (.int (f_M_branchWith a b)))) σ) := by
  generalize h : f_M_branchWith a b = r0
  unfold f_M_branchWith at h
  show gv_V m_M_branchWith 1 true 0 [some (.int a), some (.int b)] [] σ (gv_is (.inl (some (.int r0))) σ)
  refine gv_iload_n (n := 0) (pc' := 1) (by decide +kernel) rfl rfl ?_
  refine gv_ldcw (v := 33550463) (pc' := 4) (by decide +kernel) cn_9_299 rfl ?_
  refine gv_iand (pc' := 5) (by decide +kernel) rfl ?_
  refine gv_iload_n (n := 1) (pc' := 6) (by decide +kernel) rfl rfl ?_
  refine gv_bipush (n := 12) (v := 12) (pc' := 8) (by decide +kernel) (by decide) rfl ?_
  refine gv_ishr (pc' := 9) (by decide +kernel) rfl ?_
  refine gv_iconst (n := 1) (v := 1) (pc' := 10) (by decide +kernel) (by decide) rfl ?_
  refine gv_iand (pc' := 11) (by decide +kernel) rfl ?_
  refine gv_bipush (n := 31) (v := 31) (pc' := 13) (by decide +kernel) (by decide) rfl ?_
  refine gv_ishl (pc' := 14) (by decide +kernel) rfl ?_
  refine gv_ior (pc' := 15) (by decide +kernel) rfl ?_
  refine gv_iload_n (n := 1) (pc' := 16) (by decide +kernel) rfl rfl ?_
  refine gv_bipush (n := 11) (v := 11) (pc' := 18) (by decide +kernel) (by decide) rfl ?_
  refine gv_ishr (pc' := 19) (by decide +kernel) rfl ?_
  refine gv_iconst (n := 1) (v := 1) (pc' := 20) (by decide +kernel) (by decide) rfl ?_
  refine gv_iand (pc' := 21) (by decide +kernel) rfl ?_
  refine gv_bipush (n := 7) (v := 7) (pc' := 23) (by decide +kernel) (by decide) rfl ?_
  refine gv_ishl (pc' := 24) (by decide +kernel) rfl ?_
  refine gv_ior (pc' := 25) (by decide +kernel) rfl ?_
  refine gv_iload_n (n := 1) (pc' := 26) (by decide +kernel) rfl rfl ?_
  refine gv_iconst (n := 5) (v := 5) (pc' := 27) (by decide +kernel) (by decide) rfl ?_
  refine gv_ishr (pc' := 28) (by decide +kernel) rfl ?_
  refine gv_bipush (n := 63) (v := 63) (pc' := 30) (by decide +kernel) (by decide) rfl ?_
  refine gv_iand (pc' := 31) (by decide +kernel) rfl ?_
  refine gv_bipush (n := 25) (v := 25) (pc' := 33) (by decide +kernel) (by decide) rfl ?_
  refine gv_ishl (pc' := 34) (by decide +kernel) rfl ?_
  refine gv_ior (pc' := 35) (by decide +kernel) rfl ?_
  refine gv_iload_n (n := 1) (pc' := 36) (by decide +kernel) rfl rfl ?_
  refine gv_iconst (n := 1) (v := 1) (pc' := 37) (by decide +kernel) (by decide) rfl ?_
  refine gv_ishr (pc' := 38) (by decide +kernel) rfl ?_
  refine gv_bipush (n := 15) (v := 15) (pc' := 40) (by decide +kernel) (by decide) rfl ?_
  refine gv_iand (pc' := 41) (by decide +kernel) rfl ?_
  refine gv_bipush (n := 8) (v := 8) (pc' := 43) (by decide +kernel) (by decide) rfl ?_
  refine gv_ishl (pc' := 44) (by decide +kernel) rfl ?_
  refine gv_ior (pc' := 45) (by decide +kernel) rfl ?_
  exact gv_iret .int (by decide +kernel) rfl rfl (by decide) (by decide) (gd_vE h)
def B_M_rewrite_277 (k46 : gS → gR) (x_1_42 : Int32) (ag45 : Int32 → gS → gR) (n_2_43 : Int32) (s44 : gS) : gR :=
 if (gI s44 41 2) ≤ n_2_43 then
  k46 s44
 else
  gd_g (gd_in n_2_43 1041) <|
  gd_g (gd_in (gA s44 65 n_2_43.toNatClampNeg) 1040) <|
  gd_s (gs_A s44 43 (gA s44 65 n_2_43.toNatClampNeg).toNatClampNeg n_2_43) fun s47 =>
  ag45 (n_2_43 + 1) s47
set_option maxRecDepth 20000 in
theorem L_M_rewrite_277 (k46 : gS → gR) (x_1_42 : Int32) (r0 : gQ × gS) (hk46 : ∀ (s48 : gS), k46 s48 = some r0 → gv_V m_M_rewrite 1 false 303 [some (.ref 41), some (.int x_1_42), none, none, none, none] [] s48 (gv_is r0.1 r0.2)) (n : Nat) : ∀ (n_2_43 : Int32) (s44 : gS), gd_lp (fun _ _ => none) (B_M_rewrite_277 k46 x_1_42) n n_2_43 s44 = some r0 → gv_V m_M_rewrite 1 false 277 [some (.ref 41), some (.int x_1_42), some (.int n_2_43), none, none, none] [] s44 (gv_is r0.1 r0.2) := by
  refine gd_lpC (fun (ag45 : Int32 → gS → gR) => ∀ (n_2_43 : Int32) (s44 : gS), ag45 n_2_43 s44 = some r0 → gv_V m_M_rewrite 1 false 277 [some (.ref 41), some (.int x_1_42), some (.int n_2_43), none, none, none] [] s44 (gv_is r0.1 r0.2)) (fun n_2_43 s44 h => by cases h) (fun ag45 ih n_2_43 s44 h => ?_) n
  unfold B_M_rewrite_277 at h
  refine gv_iload_n (n := 2) (pc' := 278) (by decide +kernel) rfl rfl ?_
  refine gv_aload_n (n := 0) (pc' := 279) (by decide +kernel) rfl rfl ?_
  refine gv_getj lk_9_102 (by decide +kernel) rfl rfl (pc' := 282) rfl ?_
  refine gv_icmp_ge (off := 21) (tgt := 303) (pc' := 285) (by decide +kernel) (by decide) rfl (fun c282 => ?_) (fun c282 => ?_)
  · replace h := gd_T c282 h
    exact gd_ar (gl_s (gl_s (gl_n (gl_n (gl_n (gl_n gl_z)))))) (fun z => by cases z) (hk46 _ h)
  · replace h := gd_F c282 h
    refine gv_aload_n (n := 0) (pc' := 286) (by decide +kernel) rfl rfl ?_
    refine gv_getr lk_9_13 (by decide +kernel) rfl rfl (pc' := 289) rfl ?_
    refine gv_aload_n (n := 0) (pc' := 290) (by decide +kernel) rfl rfl ?_
    refine gv_getr lk_9_89 (by decide +kernel) rfl rfl (pc' := 293) rfl ?_
    refine gv_iload_n (n := 2) (pc' := 294) (by decide +kernel) rfl rfl ?_
    obtain ⟨g294, h⟩ := gd_gE h
    refine gj_iald _ (pc' := 295) (by decide +kernel) rfl (gd_inv g294) rfl rfl ?_
    refine gv_iload_n (n := 2) (pc' := 296) (by decide +kernel) rfl rfl ?_
    obtain ⟨g296, h⟩ := gd_gE h
    refine gd_iast (pc' := 297) (by decide +kernel) rfl (gd_inv g296) rfl h (fun s47 h => ?_)
    refine gv_iincc (i := 2) (n := 1) (c := 1) (pc' := 300) (by decide +kernel) rfl (by decide) (by decide) rfl ?_
    refine gv_goto (off := -23) (tgt := 277) (by decide +kernel) (by decide) ?_
    exact gd_ar (gl_s (gl_s (gl_s (gl_n (gl_n (gl_n gl_z)))))) (fun z => by cases z) (ih _ _ h)
def B_M_rewrite_245 (k38 : gS → gR) (x_1_34 : Int32) (ag37 : Int32 → gS → gR) (n_2_35 : Int32) (s36 : gS) : gR :=
 if x_1_34 ≤ n_2_35 then
  k38 s36
 else
  gd_g (gd_in n_2_35 1040) <|
  gd_g (gd_in n_2_35 1040) <|
  gd_s (gs_A s36 42 n_2_35.toNatClampNeg (gA s36 64 n_2_35.toNatClampNeg)) fun s39 =>
  gd_g (gd_in n_2_35 1040) <|
  gd_s (gs_A s39 43 n_2_35.toNatClampNeg (-1)) fun s40 =>
  ag37 (n_2_35 + 1) s40
set_option maxRecDepth 20000 in
theorem L_M_rewrite_245 (k38 : gS → gR) (x_1_34 : Int32) (r0 : gQ × gS) (hk38 : ∀ (s41 : gS), k38 s41 = some r0 → gv_V m_M_rewrite 1 false 275 [some (.ref 41), some (.int x_1_34), none, none, none, none] [] s41 (gv_is r0.1 r0.2)) (n : Nat) : ∀ (n_2_35 : Int32) (s36 : gS), gd_lp (fun _ _ => none) (B_M_rewrite_245 k38 x_1_34) n n_2_35 s36 = some r0 → gv_V m_M_rewrite 1 false 245 [some (.ref 41), some (.int x_1_34), some (.int n_2_35), none, none, none] [] s36 (gv_is r0.1 r0.2) := by
  refine gd_lpC (fun (ag37 : Int32 → gS → gR) => ∀ (n_2_35 : Int32) (s36 : gS), ag37 n_2_35 s36 = some r0 → gv_V m_M_rewrite 1 false 245 [some (.ref 41), some (.int x_1_34), some (.int n_2_35), none, none, none] [] s36 (gv_is r0.1 r0.2)) (fun n_2_35 s36 h => by cases h) (fun ag37 ih n_2_35 s36 h => ?_) n
  unfold B_M_rewrite_245 at h
  refine gv_iload_n (n := 2) (pc' := 246) (by decide +kernel) rfl rfl ?_
  refine gv_iload_n (n := 1) (pc' := 247) (by decide +kernel) rfl rfl ?_
  refine gv_icmp_ge (off := 28) (tgt := 275) (pc' := 250) (by decide +kernel) (by decide) rfl (fun c247 => ?_) (fun c247 => ?_)
  · replace h := gd_T c247 h
    exact gd_ar (gl_s (gl_s (gl_n (gl_n (gl_n (gl_n gl_z)))))) (fun z => by cases z) (hk38 _ h)
  · replace h := gd_F c247 h
    refine gv_aload_n (n := 0) (pc' := 251) (by decide +kernel) rfl rfl ?_
    refine gv_getr lk_9_7 (by decide +kernel) rfl rfl (pc' := 254) rfl ?_
    refine gv_iload_n (n := 2) (pc' := 255) (by decide +kernel) rfl rfl ?_
    refine gv_aload_n (n := 0) (pc' := 256) (by decide +kernel) rfl rfl ?_
    refine gv_getr lk_9_86 (by decide +kernel) rfl rfl (pc' := 259) rfl ?_
    refine gv_iload_n (n := 2) (pc' := 260) (by decide +kernel) rfl rfl ?_
    obtain ⟨g260, h⟩ := gd_gE h
    refine gj_iald _ (pc' := 261) (by decide +kernel) rfl (gd_inv g260) rfl rfl ?_
    obtain ⟨g261, h⟩ := gd_gE h
    refine gd_iast (pc' := 262) (by decide +kernel) rfl (gd_inv g261) rfl h (fun s39 h => ?_)
    refine gv_aload_n (n := 0) (pc' := 263) (by decide +kernel) rfl rfl ?_
    refine gv_getr lk_9_13 (by decide +kernel) rfl rfl (pc' := 266) rfl ?_
    refine gv_iload_n (n := 2) (pc' := 267) (by decide +kernel) rfl rfl ?_
    refine gv_iconst (n := (-1)) (v := (-1)) (pc' := 268) (by decide +kernel) (by decide) rfl ?_
    obtain ⟨g268, h⟩ := gd_gE h
    refine gd_iast (pc' := 269) (by decide +kernel) rfl (gd_inv g268) rfl h (fun s40 h => ?_)
    refine gv_iincc (i := 2) (n := 1) (c := 1) (pc' := 272) (by decide +kernel) rfl (by decide) (by decide) rfl ?_
    refine gv_goto (off := -27) (tgt := 245) (by decide +kernel) (by decide) ?_
    exact gd_ar (gl_s (gl_s (gl_s (gl_n (gl_n (gl_n gl_z)))))) (fun z => by cases z) (ih _ _ h)
def B_M_rewrite_85 (k20 : gS → gR) (x_1_16 : Int32) (ag19 : Int32 → gS → gR) (n_2_17 : Int32) (s18 : gS) : gR :=
 if (gI s18 41 2) ≤ n_2_17 then
  k20 s18
 else
  gd_g (gd_in n_2_17 1040) <|
  gd_qi (R_M_kind n_2_17 s18) s18 fun r21 =>
  gd_j (α := Int32 → gR) (fun (v25 : Int32) =>
   gd_j (α := gR) (
    gd_g (gd_in n_2_17 1041) <|
    gd_t (α := Int32) (if r21 = 5 then
      (f_M_branchWith (gA s18 42 n_2_17.toNatClampNeg) v25)
     else
      if r21 = 6 then
       (f_M_jumpWith (gA s18 42 n_2_17.toNatClampNeg) v25)
      else
       (gA s18 42 n_2_17.toNatClampNeg)) fun v28 =>
    gd_g (gd_in (gA s18 65 n_2_17.toNatClampNeg) 1040) <|
    gd_s (gs_A s18 64 (gA s18 65 n_2_17.toNatClampNeg).toNatClampNeg v28) fun s29 =>
    gd_g (gd_in n_2_17 1040) <|
    gd_j (α := gS → gR) (fun (s32 : gS) =>
     ag19 (n_2_17 + 1) s32) fun J30 =>
    if (gA s29 56 n_2_17.toNatClampNeg) = 0 then
     J30 s29
    else
     gd_g (gd_in n_2_17 1041) <|
     gd_g (gd_in ((gA s29 65 n_2_17.toNatClampNeg) + (1 : Int32)) 1040) <|
     gd_s (gs_A s29 64 ((gA s29 65 n_2_17.toNatClampNeg) + (1 : Int32)).toNatClampNeg 267386895) fun s31 =>
     J30 s31) fun J26 =>
   if r21 = 5 then
    if v25 < (-4096) then
     some (.inl (some (.int (-1))), s18)
    else
     if v25 ≤ 4094 then
      J26
     else
      some (.inl (some (.int (-1))), s18)
   else
    J26) fun J22 =>
  gd_j (α := gR) (
   gd_qi (R_M_target n_2_17 s18) s18 fun r24 =>
   gd_g (gd_in r24 1041) <|
   gd_g (gd_in n_2_17 1041) <|
   J22 ((4 : Int32) * ((gA s18 65 r24.toNatClampNeg) - (gA s18 65 n_2_17.toNatClampNeg)))) fun J23 =>
  if r21 = 5 then
   J23
  else
   if r21 = 6 then
    J23
   else
    J22 0
set_option maxRecDepth 20000 in
theorem L_M_rewrite_85 (k20 : gS → gR) (x_1_16 : Int32) (r0 : gQ × gS) (hk20 : ∀ (s33 : gS), k20 s33 = some r0 → gv_V m_M_rewrite 1 false 243 [some (.ref 41), some (.int x_1_16), none, none, none, none] [] s33 (gv_is r0.1 r0.2)) (n : Nat) : ∀ (n_2_17 : Int32) (s18 : gS), gd_lp (fun _ _ => none) (B_M_rewrite_85 k20 x_1_16) n n_2_17 s18 = some r0 → gv_V m_M_rewrite 1 false 85 [some (.ref 41), some (.int x_1_16), some (.int n_2_17), none, none, none] [] s18 (gv_is r0.1 r0.2) := by
  refine gd_lpC (fun (ag19 : Int32 → gS → gR) => ∀ (n_2_17 : Int32) (s18 : gS), ag19 n_2_17 s18 = some r0 → gv_V m_M_rewrite 1 false 85 [some (.ref 41), some (.int x_1_16), some (.int n_2_17), none, none, none] [] s18 (gv_is r0.1 r0.2)) (fun n_2_17 s18 h => by cases h) (fun ag19 ih n_2_17 s18 h => ?_) n
  unfold B_M_rewrite_85 at h
  refine gv_iload_n (n := 2) (pc' := 86) (by decide +kernel) rfl rfl ?_
  refine gv_aload_n (n := 0) (pc' := 87) (by decide +kernel) rfl rfl ?_
  refine gv_getj lk_9_102 (by decide +kernel) rfl rfl (pc' := 90) rfl ?_
  refine gv_icmp_ge (off := 153) (tgt := 243) (pc' := 93) (by decide +kernel) (by decide) rfl (fun c90 => ?_) (fun c90 => ?_)
  · replace h := gd_T c90 h
    exact gd_ar (gl_s (gl_s (gl_n (gl_n (gl_n (gl_n gl_z)))))) (fun z => by cases z) (hk20 _ h)
  · replace h := gd_F c90 h
    refine gv_aload_n (n := 0) (pc' := 94) (by decide +kernel) rfl rfl ?_
    refine gv_getr lk_9_7 (by decide +kernel) rfl rfl (pc' := 97) rfl ?_
    refine gv_iload_n (n := 2) (pc' := 98) (by decide +kernel) rfl rfl ?_
    obtain ⟨g98, h⟩ := gd_gE h
    refine gj_iald _ (pc' := 99) (by decide +kernel) rfl (gd_inv g98) rfl rfl ?_
    refine gv_istore_n (n := 3) (pc' := 100) (by decide +kernel) (by decide) rfl ?_
    refine gv_aload_n (n := 0) (pc' := 101) (by decide +kernel) rfl rfl ?_
    refine gv_iload_n (n := 2) (pc' := 102) (by decide +kernel) rfl rfl ?_
    refine gd_dvi (w' := false) (pc' := 105) (X_M_kind _ _) h md_M_kind vd_M_kind (Or.inl ml_9_130) (by decide +kernel) (by decide) rfl rfl rfl (Nat.le_of_ble_eq_true rfl) (Nat.le_of_ble_eq_true rfl) (by decide) rfl (fun z => by cases z) (by decide) rfl (fun r21 h => ?_)
    refine gv_istore (n := 4) (pc' := 107) (by decide +kernel) (by decide) rfl ?_
    refine gv_iload (n := 4) (pc' := 109) (by decide +kernel) rfl rfl ?_
    refine gv_iconst (n := 5) (v := 5) (pc' := 110) (by decide +kernel) (by decide) rfl ?_
    refine gd_jC (fun J22 => ∀ (v25 : Int32), J22 v25 = some r0 → gv_V m_M_rewrite 1 false 143 [some (.ref 41), some (.int x_1_16), some (.int n_2_17), some (.int (gA s18 42 n_2_17.toNatClampNeg)), some (.int r21), none] [.int v25] s18 (gv_is r0.1 r0.2)) h (fun v25 h => ?_) (fun J22 hJ22 h => ?_)
    · refine gv_istore (n := 5) (pc' := 145) (by decide +kernel) (by decide) rfl ?_
      refine gv_iload (n := 4) (pc' := 147) (by decide +kernel) rfl rfl ?_
      refine gv_iconst (n := 5) (v := 5) (pc' := 148) (by decide +kernel) (by decide) rfl ?_
      refine gd_jC (fun J26 => J26 = some r0 → gv_V m_M_rewrite 1 false 169 [some (.ref 41), some (.int x_1_16), some (.int n_2_17), some (.int (gA s18 42 n_2_17.toNatClampNeg)), some (.int r21), some (.int v25)] [] s18 (gv_is r0.1 r0.2)) h (fun  h => ?_) (fun J26 hJ26 h => ?_)
      · refine gv_aload_n (n := 0) (pc' := 170) (by decide +kernel) rfl rfl ?_
        refine gv_getr lk_9_86 (by decide +kernel) rfl rfl (pc' := 173) rfl ?_
        refine gv_aload_n (n := 0) (pc' := 174) (by decide +kernel) rfl rfl ?_
        refine gv_getr lk_9_89 (by decide +kernel) rfl rfl (pc' := 177) rfl ?_
        refine gv_iload_n (n := 2) (pc' := 178) (by decide +kernel) rfl rfl ?_
        obtain ⟨g178, h⟩ := gd_gE h
        refine gj_iald _ (pc' := 179) (by decide +kernel) rfl (gd_inv g178) rfl rfl ?_
        refine gv_iload (n := 4) (pc' := 181) (by decide +kernel) rfl rfl ?_
        refine gv_iconst (n := 5) (v := 5) (pc' := 182) (by decide +kernel) (by decide) rfl ?_
        refine gd_tC (fun (v28 : Int32) => gv_V m_M_rewrite 1 false 211 [some (.ref 41), some (.int x_1_16), some (.int n_2_17), none, none, none] [.int v28, .int (gA s18 65 n_2_17.toNatClampNeg), .ref 64] s18 (gv_is r0.1 r0.2)) h (fun v28 h => ?_) (fun KJ27 hJ27 h => ?_)
        · obtain ⟨g211, h⟩ := gd_gE h
          refine gd_iast (pc' := 212) (by decide +kernel) rfl (gd_inv g211) rfl h (fun s29 h => ?_)
          refine gv_aload_n (n := 0) (pc' := 213) (by decide +kernel) rfl rfl ?_
          refine gv_getr lk_9_61 (by decide +kernel) rfl rfl (pc' := 216) rfl ?_
          refine gv_iload_n (n := 2) (pc' := 217) (by decide +kernel) rfl rfl ?_
          obtain ⟨g217, h⟩ := gd_gE h
          refine gj_zald _ (pc' := 218) (by decide +kernel) rfl (gd_inv g217) rfl rfl ?_
          refine gd_jC (fun J30 => ∀ (s32 : gS), J30 s32 = some r0 → gv_V m_M_rewrite 1 false 237 [some (.ref 41), some (.int x_1_16), some (.int n_2_17), none, none, none] [] s32 (gv_is r0.1 r0.2)) h (fun s32 h => ?_) (fun J30 hJ30 h => ?_)
          · refine gv_iincc (i := 2) (n := 1) (c := 1) (pc' := 240) (by decide +kernel) rfl (by decide) (by decide) rfl ?_
            refine gv_goto (off := -155) (tgt := 85) (by decide +kernel) (by decide) ?_
            exact gd_ar (gl_s (gl_s (gl_s (gl_n (gl_n (gl_n gl_z)))))) (fun z => by cases z) (ih _ _ h)
          · refine gv_if_eq (off := 19) (tgt := 237) (pc' := 221) (by decide +kernel) (by decide) rfl (fun c218 => ?_) (fun c218 => ?_)
            · replace h := gd_T c218 h
              exact gd_ar (gl_s (gl_s (gl_s (gl_n (gl_n (gl_n gl_z)))))) (fun z => by cases z) (hJ30 _ h)
            · replace h := gd_F c218 h
              refine gv_aload_n (n := 0) (pc' := 222) (by decide +kernel) rfl rfl ?_
              refine gv_getr lk_9_86 (by decide +kernel) rfl rfl (pc' := 225) rfl ?_
              refine gv_aload_n (n := 0) (pc' := 226) (by decide +kernel) rfl rfl ?_
              refine gv_getr lk_9_89 (by decide +kernel) rfl rfl (pc' := 229) rfl ?_
              refine gv_iload_n (n := 2) (pc' := 230) (by decide +kernel) rfl rfl ?_
              obtain ⟨g230, h⟩ := gd_gE h
              refine gj_iald _ (pc' := 231) (by decide +kernel) rfl (gd_inv g230) rfl rfl ?_
              refine gv_iconst (n := 1) (v := 1) (pc' := 232) (by decide +kernel) (by decide) rfl ?_
              refine gv_iadd (pc' := 233) (by decide +kernel) rfl ?_
              refine gv_ldcw (v := 267386895) (pc' := 236) (by decide +kernel) cn_9_306 rfl ?_
              obtain ⟨g236, h⟩ := gd_gE h
              refine gd_iast (pc' := 237) (by decide +kernel) rfl (gd_inv g236) rfl h (fun s31 h => ?_)
              exact gd_ar (gl_s (gl_s (gl_s (gl_n (gl_n (gl_n gl_z)))))) (fun z => by cases z) (hJ30 _ h)
        · refine gv_icmp_ne (off := 12) (tgt := 194) (pc' := 185) (by decide +kernel) (by decide) rfl (fun c182 => ?_) (fun c182 => ?_)
          · replace h := gd_tF c182 h
            refine gv_iload (n := 4) (pc' := 196) (by decide +kernel) rfl rfl ?_
            refine gv_bipush (n := 6) (v := 6) (pc' := 198) (by decide +kernel) (by decide) rfl ?_
            refine gv_icmp_ne (off := 12) (tgt := 210) (pc' := 201) (by decide +kernel) (by decide) rfl (fun c198 => ?_) (fun c198 => ?_)
            · replace h := gd_tF c198 h
              refine gv_iload_n (n := 3) (pc' := 211) (by decide +kernel) rfl rfl ?_
              exact gd_ar (gl_s (gl_s (gl_s (gl_n (gl_n (gl_n gl_z)))))) (fun z => by cases z) (hJ27 _ h)
            · replace h := gd_tT c198 h
              refine gv_iload_n (n := 3) (pc' := 202) (by decide +kernel) rfl rfl ?_
              refine gv_iload (n := 5) (pc' := 204) (by decide +kernel) rfl rfl ?_
              refine gv_csi (w' := false) (pc' := 207) (y_M_jumpWith _ _ _) md_M_jumpWith sd_M_jumpWith (Or.inl ml_9_303) (by decide +kernel) (by decide) rfl (Nat.le_of_ble_eq_true rfl) (Nat.le_of_ble_eq_true rfl) (by decide) rfl (fun z => by cases z) (by decide) rfl ?_
              refine gv_goto (off := 4) (tgt := 211) (by decide +kernel) (by decide) ?_
              exact gd_ar (gl_s (gl_s (gl_s (gl_n (gl_n (gl_n gl_z)))))) (fun z => by cases z) (hJ27 _ h)
          · replace h := gd_tT c182 h
            refine gv_iload_n (n := 3) (pc' := 186) (by decide +kernel) rfl rfl ?_
            refine gv_iload (n := 5) (pc' := 188) (by decide +kernel) rfl rfl ?_
            refine gv_csi (w' := false) (pc' := 191) (y_M_branchWith _ _ _) md_M_branchWith sd_M_branchWith (Or.inl ml_9_300) (by decide +kernel) (by decide) rfl (Nat.le_of_ble_eq_true rfl) (Nat.le_of_ble_eq_true rfl) (by decide) rfl (fun z => by cases z) (by decide) rfl ?_
            refine gv_goto (off := 20) (tgt := 211) (by decide +kernel) (by decide) ?_
            exact gd_ar (gl_s (gl_s (gl_s (gl_n (gl_n (gl_n gl_z)))))) (fun z => by cases z) (hJ27 _ h)
      · refine gv_icmp_ne (off := 21) (tgt := 169) (pc' := 151) (by decide +kernel) (by decide) rfl (fun c148 => ?_) (fun c148 => ?_)
        · replace h := gd_F c148 h
          exact gd_ar (gl_s (gl_s (gl_s (gl_s (gl_s (gl_s gl_z)))))) (fun z => by cases z) (hJ26  h)
        · replace h := gd_T c148 h
          refine gv_iload (n := 5) (pc' := 153) (by decide +kernel) rfl rfl ?_
          refine gv_sipush (n := (-4096)) (v := (-4096)) (pc' := 156) (by decide +kernel) (by decide) rfl ?_
          refine gv_icmp_lt (off := 11) (tgt := 167) (pc' := 159) (by decide +kernel) (by decide) rfl (fun c156 => ?_) (fun c156 => ?_)
          · replace h := gd_T c156 h
            refine gv_iconst (n := (-1)) (v := (-1)) (pc' := 168) (by decide +kernel) (by decide) rfl ?_
            exact gv_iret .int (by decide +kernel) rfl rfl (by decide) (by decide) (gd_rE h)
          · replace h := gd_F c156 h
            refine gv_iload (n := 5) (pc' := 161) (by decide +kernel) rfl rfl ?_
            refine gv_sipush (n := 4094) (v := 4094) (pc' := 164) (by decide +kernel) (by decide) rfl ?_
            refine gv_icmp_le (off := 5) (tgt := 169) (pc' := 167) (by decide +kernel) (by decide) rfl (fun c164 => ?_) (fun c164 => ?_)
            · replace h := gd_T c164 h
              exact gd_ar (gl_s (gl_s (gl_s (gl_s (gl_s (gl_s gl_z)))))) (fun z => by cases z) (hJ26  h)
            · replace h := gd_F c164 h
              refine gv_iconst (n := (-1)) (v := (-1)) (pc' := 168) (by decide +kernel) (by decide) rfl ?_
              exact gv_iret .int (by decide +kernel) rfl rfl (by decide) (by decide) (gd_rE h)
    · refine gd_jC (fun J23 => J23 = some r0 → gv_V m_M_rewrite 1 false 120 [some (.ref 41), some (.int x_1_16), some (.int n_2_17), some (.int (gA s18 42 n_2_17.toNatClampNeg)), some (.int r21), none] [] s18 (gv_is r0.1 r0.2)) h (fun  h => ?_) (fun J23 hJ23 h => ?_)
      · refine gv_iconst (n := 4) (v := 4) (pc' := 121) (by decide +kernel) (by decide) rfl ?_
        refine gv_aload_n (n := 0) (pc' := 122) (by decide +kernel) rfl rfl ?_
        refine gv_getr lk_9_89 (by decide +kernel) rfl rfl (pc' := 125) rfl ?_
        refine gv_aload_n (n := 0) (pc' := 126) (by decide +kernel) rfl rfl ?_
        refine gv_iload_n (n := 2) (pc' := 127) (by decide +kernel) rfl rfl ?_
        refine gd_dvi (w' := false) (pc' := 130) (X_M_target _ _) h md_M_target vd_M_target (Or.inl ml_9_133) (by decide +kernel) (by decide) rfl rfl rfl (Nat.le_of_ble_eq_true rfl) (Nat.le_of_ble_eq_true rfl) (by decide) rfl (fun z => by cases z) (by decide) rfl (fun r24 h => ?_)
        obtain ⟨g130, h⟩ := gd_gE h
        refine gj_iald _ (pc' := 131) (by decide +kernel) rfl (gd_inv g130) rfl rfl ?_
        refine gv_aload_n (n := 0) (pc' := 132) (by decide +kernel) rfl rfl ?_
        refine gv_getr lk_9_89 (by decide +kernel) rfl rfl (pc' := 135) rfl ?_
        refine gv_iload_n (n := 2) (pc' := 136) (by decide +kernel) rfl rfl ?_
        obtain ⟨g136, h⟩ := gd_gE h
        refine gj_iald _ (pc' := 137) (by decide +kernel) rfl (gd_inv g136) rfl rfl ?_
        refine gv_isub (pc' := 138) (by decide +kernel) rfl ?_
        refine gv_imul (pc' := 139) (by decide +kernel) rfl ?_
        refine gv_goto (off := 4) (tgt := 143) (by decide +kernel) (by decide) ?_
        exact gd_ar (gl_s (gl_s (gl_s (gl_s (gl_s (gl_n gl_z)))))) (fun z => by cases z) (hJ22 _ h)
      · refine gv_icmp_eq (off := 10) (tgt := 120) (pc' := 113) (by decide +kernel) (by decide) rfl (fun c110 => ?_) (fun c110 => ?_)
        · replace h := gd_T c110 h
          exact gd_ar (gl_s (gl_s (gl_s (gl_s (gl_s (gl_n gl_z)))))) (fun z => by cases z) (hJ23  h)
        · replace h := gd_F c110 h
          refine gv_iload (n := 4) (pc' := 115) (by decide +kernel) rfl rfl ?_
          refine gv_bipush (n := 6) (v := 6) (pc' := 117) (by decide +kernel) (by decide) rfl ?_
          refine gv_icmp_ne (off := 25) (tgt := 142) (pc' := 120) (by decide +kernel) (by decide) rfl (fun c117 => ?_) (fun c117 => ?_)
          · replace h := gd_F c117 h
            refine gv_iconst (n := 0) (v := 0) (pc' := 143) (by decide +kernel) (by decide) rfl ?_
            exact gd_ar (gl_s (gl_s (gl_s (gl_s (gl_s (gl_n gl_z)))))) (fun z => by cases z) (hJ22 _ h)
          · replace h := gd_T c117 h
            exact gd_ar (gl_s (gl_s (gl_s (gl_s (gl_s (gl_n gl_z)))))) (fun z => by cases z) (hJ23  h)
def B_M_rewrite_33 (k9 : Int32 → gS → gR) (ag8 : Int32 → Int32 → gS → gR) (n_1_5 : Int32) (n_2_6 : Int32) (s7 : gS) : gR :=
 if (gI s7 41 2) ≤ n_2_6 then
  k9 n_1_5 s7
 else
  gd_g (gd_in n_2_6 1041) <|
  gd_s (gs_A s7 65 n_2_6.toNatClampNeg n_1_5) fun s10 =>
  gd_g (gd_in n_2_6 1040) <|
  gd_t (α := Int32) (if (gA s10 56 n_2_6.toNatClampNeg) = 0 then
    (n_1_5 + (1 : Int32))
   else
    (n_1_5 + (2 : Int32))) fun v12 =>
  ag8 v12 (n_2_6 + 1) s10
set_option maxRecDepth 20000 in
theorem L_M_rewrite_33 (k9 : Int32 → gS → gR) (r0 : gQ × gS) (hk9 : ∀ (v14 : Int32) (s13 : gS), k9 v14 s13 = some r0 → gv_V m_M_rewrite 1 false 73 [some (.ref 41), some (.int v14), none, none, none, none] [] s13 (gv_is r0.1 r0.2)) (n : Nat) : ∀ (n_1_5 : Int32) (n_2_6 : Int32) (s7 : gS), gd_lp (fun _ _ _ => none) (B_M_rewrite_33 k9) n n_1_5 n_2_6 s7 = some r0 → gv_V m_M_rewrite 1 false 33 [some (.ref 41), some (.int n_1_5), some (.int n_2_6), none, none, none] [] s7 (gv_is r0.1 r0.2) := by
  refine gd_lpC (fun (ag8 : Int32 → Int32 → gS → gR) => ∀ (n_1_5 : Int32) (n_2_6 : Int32) (s7 : gS), ag8 n_1_5 n_2_6 s7 = some r0 → gv_V m_M_rewrite 1 false 33 [some (.ref 41), some (.int n_1_5), some (.int n_2_6), none, none, none] [] s7 (gv_is r0.1 r0.2)) (fun n_1_5 n_2_6 s7 h => by cases h) (fun ag8 ih n_1_5 n_2_6 s7 h => ?_) n
  unfold B_M_rewrite_33 at h
  refine gv_iload_n (n := 2) (pc' := 34) (by decide +kernel) rfl rfl ?_
  refine gv_aload_n (n := 0) (pc' := 35) (by decide +kernel) rfl rfl ?_
  refine gv_getj lk_9_102 (by decide +kernel) rfl rfl (pc' := 38) rfl ?_
  refine gv_icmp_ge (off := 35) (tgt := 73) (pc' := 41) (by decide +kernel) (by decide) rfl (fun c38 => ?_) (fun c38 => ?_)
  · replace h := gd_T c38 h
    exact gd_ar (gl_s (gl_s (gl_n (gl_n (gl_n (gl_n gl_z)))))) (fun z => by cases z) (hk9 _ _ h)
  · replace h := gd_F c38 h
    refine gv_aload_n (n := 0) (pc' := 42) (by decide +kernel) rfl rfl ?_
    refine gv_getr lk_9_89 (by decide +kernel) rfl rfl (pc' := 45) rfl ?_
    refine gv_iload_n (n := 2) (pc' := 46) (by decide +kernel) rfl rfl ?_
    refine gv_iload_n (n := 1) (pc' := 47) (by decide +kernel) rfl rfl ?_
    obtain ⟨g47, h⟩ := gd_gE h
    refine gd_iast (pc' := 48) (by decide +kernel) rfl (gd_inv g47) rfl h (fun s10 h => ?_)
    refine gv_aload_n (n := 0) (pc' := 49) (by decide +kernel) rfl rfl ?_
    refine gv_getr lk_9_61 (by decide +kernel) rfl rfl (pc' := 52) rfl ?_
    refine gv_iload_n (n := 2) (pc' := 53) (by decide +kernel) rfl rfl ?_
    obtain ⟨g53, h⟩ := gd_gE h
    refine gj_zald _ (pc' := 54) (by decide +kernel) rfl (gd_inv g53) rfl rfl ?_
    refine gd_tC (fun (v12 : Int32) => gv_V m_M_rewrite 1 false 66 [some (.ref 41), none, some (.int n_2_6), none, none, none] [.int v12] s10 (gv_is r0.1 r0.2)) h (fun v12 h => ?_) (fun KJ11 hJ11 h => ?_)
    · refine gv_istore_n (n := 1) (pc' := 67) (by decide +kernel) (by decide) rfl ?_
      refine gv_iincc (i := 2) (n := 1) (c := 1) (pc' := 70) (by decide +kernel) rfl (by decide) (by decide) rfl ?_
      refine gv_goto (off := -37) (tgt := 33) (by decide +kernel) (by decide) ?_
      exact gd_ar (gl_s (gl_s (gl_s (gl_n (gl_n (gl_n gl_z)))))) (fun z => by cases z) (ih _ _ _ h)
    · refine gv_if_eq (off := 9) (tgt := 63) (pc' := 57) (by decide +kernel) (by decide) rfl (fun c54 => ?_) (fun c54 => ?_)
      · replace h := gd_tT c54 h
        refine gv_iload_n (n := 1) (pc' := 64) (by decide +kernel) rfl rfl ?_
        refine gv_iconst (n := 1) (v := 1) (pc' := 65) (by decide +kernel) (by decide) rfl ?_
        refine gv_iadd (pc' := 66) (by decide +kernel) rfl ?_
        exact gd_ar (gl_s (gl_n (gl_s (gl_n (gl_n (gl_n gl_z)))))) (fun z => by cases z) (hJ11 _ h)
      · replace h := gd_tF c54 h
        refine gv_iload_n (n := 1) (pc' := 58) (by decide +kernel) rfl rfl ?_
        refine gv_iconst (n := 2) (v := 2) (pc' := 59) (by decide +kernel) (by decide) rfl ?_
        refine gv_iadd (pc' := 60) (by decide +kernel) rfl ?_
        refine gv_goto (off := 6) (tgt := 66) (by decide +kernel) (by decide) ?_
        exact gd_ar (gl_s (gl_n (gl_s (gl_n (gl_n (gl_n gl_z)))))) (fun z => by cases z) (hJ11 _ h)
def F_M_rewrite (σ : gS) : gR :=
 gd_t (α := Int32) (if (gI σ 41 5) = 0 then
   1
  else
   0) fun v2 =>
 gd_s (gs_I σ 41 0 v2) fun s3 =>
 if (gI s3 41 0) ≤ 0 then
  gd_0 (F_M_know s3) fun s4 =>
  gd_j (α := Int32 → gS → gR) (fun (v14 : Int32) (s13 : gS) =>
   gd_g (gd_in (gI s13 41 2) 1041) <|
   gd_s (gs_A s13 65 (gI s13 41 2).toNatClampNeg v14) fun s15 =>
   gd_j (α := gS → gR) (fun (s33 : gS) =>
    gd_j (α := gS → gR) (fun (s41 : gS) =>
     gd_j (α := gS → gR) (fun (s48 : gS) =>
      gd_s (gs_I s48 41 4 1) fun s49 =>
      gd_s (gs_I s49 41 2 v14) fun s50 =>
      gd_0 (F_M_begin s50) fun s51 =>
      some (.inl (some (.int v14)), s51)) fun k46 =>
     gd_lp (fun _ _ => none) (B_M_rewrite_277 k46 v14) gd_N 0 s41) fun k38 =>
    gd_lp (fun _ _ => none) (B_M_rewrite_245 k38 v14) gd_N 0 s33) fun k20 =>
   gd_lp (fun _ _ => none) (B_M_rewrite_85 k20 v14) gd_N 0 s15) fun k9 =>
  gd_lp (fun _ _ _ => none) (B_M_rewrite_33 k9) gd_N 0 0 s4
 else
  some (.inl (some (.int 0)), s3)
set_option maxRecDepth 20000 in
theorem X_M_rewrite (σ : gS) (r0 : gQ × gS) (h : F_M_rewrite σ = some r0) : gv_K m_M_rewrite [.ref 41] σ (gv_is r0.1 r0.2) := by
  unfold F_M_rewrite at h
  show gv_V m_M_rewrite 1 true 0 [some (.ref 41), none, none, none, none, none] [] σ (gv_is r0.1 r0.2)
  refine gv_aload_n (n := 0) (pc' := 1) (by decide +kernel) rfl rfl ?_
  refine gv_aload_n (n := 0) (pc' := 2) (by decide +kernel) rfl rfl ?_
  refine gv_getj lk_9_95 (by decide +kernel) rfl rfl (pc' := 5) rfl ?_
  refine gd_tC (fun (v2 : Int32) => gv_V m_M_rewrite 1 true 13 [some (.ref 41), none, none, none, none, none] [.int v2, .ref 41] σ (gv_is r0.1 r0.2)) h (fun v2 h => ?_) (fun KJ1 hJ1 h => ?_)
  · refine gd_puti lp_9_92 (by decide +kernel) rfl rfl rfl rfl (pc' := 16) rfl h (fun s3 h => ?_)
    refine gv_aload_n (n := 0) (pc' := 17) (by decide +kernel) rfl rfl ?_
    refine gv_getj lk_9_92 (by decide +kernel) rfl rfl (pc' := 20) rfl ?_
    refine gv_if_le (off := 5) (tgt := 25) (pc' := 23) (by decide +kernel) (by decide) rfl (fun c20 => ?_) (fun c20 => ?_)
    · replace h := gd_T c20 h
      refine gv_aload_n (n := 0) (pc' := 26) (by decide +kernel) rfl rfl ?_
      refine gd_cv0 (w' := false) (pc' := 29) (X_M_know _) h md_M_know vd_M_know (Or.inl ml_9_296) (by decide +kernel) (by decide) rfl rfl rfl (Nat.le_of_ble_eq_true rfl) (Nat.le_of_ble_eq_true rfl) (by decide) rfl (fun z => by cases z) (by decide) rfl (fun s4 h => ?_)
      refine gv_iconst (n := 0) (v := 0) (pc' := 30) (by decide +kernel) (by decide) rfl ?_
      refine gv_istore_n (n := 1) (pc' := 31) (by decide +kernel) (by decide) rfl ?_
      refine gv_iconst (n := 0) (v := 0) (pc' := 32) (by decide +kernel) (by decide) rfl ?_
      refine gv_istore_n (n := 2) (pc' := 33) (by decide +kernel) (by decide) rfl ?_
      refine gd_jC (fun k9 => ∀ (v14 : Int32) (s13 : gS), k9 v14 s13 = some r0 → gv_V m_M_rewrite 1 false 73 [some (.ref 41), some (.int v14), none, none, none, none] [] s13 (gv_is r0.1 r0.2)) h (fun v14 s13 h => ?_) (fun k9 hk9 h => ?_)
      · refine gv_aload_n (n := 0) (pc' := 74) (by decide +kernel) rfl rfl ?_
        refine gv_getr lk_9_89 (by decide +kernel) rfl rfl (pc' := 77) rfl ?_
        refine gv_aload_n (n := 0) (pc' := 78) (by decide +kernel) rfl rfl ?_
        refine gv_getj lk_9_102 (by decide +kernel) rfl rfl (pc' := 81) rfl ?_
        refine gv_iload_n (n := 1) (pc' := 82) (by decide +kernel) rfl rfl ?_
        obtain ⟨g82, h⟩ := gd_gE h
        refine gd_iast (pc' := 83) (by decide +kernel) rfl (gd_inv g82) rfl h (fun s15 h => ?_)
        refine gv_iconst (n := 0) (v := 0) (pc' := 84) (by decide +kernel) (by decide) rfl ?_
        refine gv_istore_n (n := 2) (pc' := 85) (by decide +kernel) (by decide) rfl ?_
        refine gd_jC (fun k20 => ∀ (s33 : gS), k20 s33 = some r0 → gv_V m_M_rewrite 1 false 243 [some (.ref 41), some (.int v14), none, none, none, none] [] s33 (gv_is r0.1 r0.2)) h (fun s33 h => ?_) (fun k20 hk20 h => ?_)
        · refine gv_iconst (n := 0) (v := 0) (pc' := 244) (by decide +kernel) (by decide) rfl ?_
          refine gv_istore_n (n := 2) (pc' := 245) (by decide +kernel) (by decide) rfl ?_
          refine gd_jC (fun k38 => ∀ (s41 : gS), k38 s41 = some r0 → gv_V m_M_rewrite 1 false 275 [some (.ref 41), some (.int v14), none, none, none, none] [] s41 (gv_is r0.1 r0.2)) h (fun s41 h => ?_) (fun k38 hk38 h => ?_)
          · refine gv_iconst (n := 0) (v := 0) (pc' := 276) (by decide +kernel) (by decide) rfl ?_
            refine gv_istore_n (n := 2) (pc' := 277) (by decide +kernel) (by decide) rfl ?_
            refine gd_jC (fun k46 => ∀ (s48 : gS), k46 s48 = some r0 → gv_V m_M_rewrite 1 false 303 [some (.ref 41), some (.int v14), none, none, none, none] [] s48 (gv_is r0.1 r0.2)) h (fun s48 h => ?_) (fun k46 hk46 h => ?_)
            · refine gv_aload_n (n := 0) (pc' := 304) (by decide +kernel) rfl rfl ?_
              refine gv_iconst (n := 1) (v := 1) (pc' := 305) (by decide +kernel) (by decide) rfl ?_
              refine gd_puti lp_9_99 (by decide +kernel) rfl rfl rfl rfl (pc' := 308) rfl h (fun s49 h => ?_)
              refine gv_aload_n (n := 0) (pc' := 309) (by decide +kernel) rfl rfl ?_
              refine gv_iload_n (n := 1) (pc' := 310) (by decide +kernel) rfl rfl ?_
              refine gd_puti lp_9_102 (by decide +kernel) rfl rfl rfl rfl (pc' := 313) rfl h (fun s50 h => ?_)
              refine gv_aload_n (n := 0) (pc' := 314) (by decide +kernel) rfl rfl ?_
              refine gd_cv0 (w' := false) (pc' := 317) (X_M_begin _) h md_M_begin vd_M_begin (Or.inl ml_9_160) (by decide +kernel) (by decide) rfl rfl rfl (Nat.le_of_ble_eq_true rfl) (Nat.le_of_ble_eq_true rfl) (by decide) rfl (fun z => by cases z) (by decide) rfl (fun s51 h => ?_)
              refine gv_iload_n (n := 1) (pc' := 318) (by decide +kernel) rfl rfl ?_
              exact gv_iret .int (by decide +kernel) rfl rfl (by decide) (by decide) (gd_rE h)
            exact gd_ar (gl_s (gl_s (gl_s (gl_n (gl_n (gl_n gl_z)))))) (fun z => by cases z) (L_M_rewrite_277 _ _ r0 hk46 _ _ _ h)
          exact gd_ar (gl_s (gl_s (gl_s (gl_n (gl_n (gl_n gl_z)))))) (fun z => by cases z) (L_M_rewrite_245 _ _ r0 hk38 _ _ _ h)
        exact gd_ar (gl_s (gl_s (gl_s (gl_n (gl_n (gl_n gl_z)))))) (fun z => by cases z) (L_M_rewrite_85 _ _ r0 hk20 _ _ _ h)
      exact gd_ar (gl_s (gl_s (gl_s (gl_n (gl_n (gl_n gl_z)))))) (fun z => by cases z) (L_M_rewrite_33 _ r0 hk9 _ _ _ _ h)
    · replace h := gd_F c20 h
      refine gv_iconst (n := 0) (v := 0) (pc' := 24) (by decide +kernel) (by decide) rfl ?_
      exact gv_iret .int (by decide +kernel) rfl rfl (by decide) (by decide) (gd_rE h)
  · refine gv_if_eq (off := 7) (tgt := 12) (pc' := 8) (by decide +kernel) (by decide) rfl (fun c5 => ?_) (fun c5 => ?_)
    · replace h := gd_tT c5 h
      refine gv_iconst (n := 1) (v := 1) (pc' := 13) (by decide +kernel) (by decide) rfl ?_
      exact gd_ar (gl_s (gl_n (gl_n (gl_n (gl_n (gl_n gl_z)))))) (fun _ => rfl) (hJ1 _ h)
    · replace h := gd_tF c5 h
      refine gv_iconst (n := 0) (v := 0) (pc' := 9) (by decide +kernel) (by decide) rfl ?_
      refine gv_goto (off := 4) (tgt := 13) (by decide +kernel) (by decide) ?_
      exact gd_ar (gl_s (gl_n (gl_n (gl_n (gl_n (gl_n gl_z)))))) (fun _ => rfl) (hJ1 _ h)
def F_M_home (a : Int32) (σ : gS) : gR :=
 gd_qi (R_M_isAt a σ) σ fun r1 =>
 gd_t (α := Int32) (if r1 = 0 then
   1
  else
   0) fun v3 =>
 gd_s (gs_I σ 41 0 v3) fun s4 =>
 if (gI s4 41 0) ≤ 0 then
  if (gI s4 41 4) = 0 then
   some (.inl (some (.int a)), s4)
  else
   gd_g (gd_in a 1040) <|
   some (.inl (some (.int (gA s4 43 a.toNatClampNeg))), s4)
 else
  some (.inl (some (.int 0)), s4)
set_option maxRecDepth 20000 in
theorem X_M_home (a : Int32) (σ : gS) (r0 : gQ × gS) (h : F_M_home a σ = some r0) : gv_K m_M_home [.ref 41, .int a] σ (gv_is r0.1 r0.2) := by
  unfold F_M_home at h
  show gv_V m_M_home 1 true 0 [some (.ref 41), some (.int a)] [] σ (gv_is r0.1 r0.2)
  refine gv_aload_n (n := 0) (pc' := 1) (by decide +kernel) rfl rfl ?_
  refine gv_aload_n (n := 0) (pc' := 2) (by decide +kernel) rfl rfl ?_
  refine gv_iload_n (n := 1) (pc' := 3) (by decide +kernel) rfl rfl ?_
  refine gd_dvi (w' := true) (pc' := 6) (X_M_isAt _ _) h md_M_isAt vd_M_isAt (Or.inl ml_9_163) (by decide +kernel) (by decide) rfl rfl rfl (Nat.le_of_ble_eq_true rfl) (Nat.le_of_ble_eq_true rfl) (by decide) rfl (fun z => ⟨rfl, z⟩) (by decide) rfl (fun r1 h => ?_)
  refine gd_tC (fun (v3 : Int32) => gv_V m_M_home 1 true 14 [some (.ref 41), some (.int a)] [.int v3, .ref 41] σ (gv_is r0.1 r0.2)) h (fun v3 h => ?_) (fun KJ2 hJ2 h => ?_)
  · refine gd_puti lp_9_92 (by decide +kernel) rfl rfl rfl rfl (pc' := 17) rfl h (fun s4 h => ?_)
    refine gv_aload_n (n := 0) (pc' := 18) (by decide +kernel) rfl rfl ?_
    refine gv_getj lk_9_92 (by decide +kernel) rfl rfl (pc' := 21) rfl ?_
    refine gv_if_le (off := 7) (tgt := 28) (pc' := 24) (by decide +kernel) (by decide) rfl (fun c21 => ?_) (fun c21 => ?_)
    · replace h := gd_T c21 h
      refine gv_aload_n (n := 0) (pc' := 29) (by decide +kernel) rfl rfl ?_
      refine gv_getj lk_9_99 (by decide +kernel) rfl rfl (pc' := 32) rfl ?_
      refine gv_if_eq (off := 12) (tgt := 44) (pc' := 35) (by decide +kernel) (by decide) rfl (fun c32 => ?_) (fun c32 => ?_)
      · replace h := gd_T c32 h
        refine gv_iload_n (n := 1) (pc' := 45) (by decide +kernel) rfl rfl ?_
        exact gv_iret .int (by decide +kernel) rfl rfl (by decide) (by decide) (gd_rE h)
      · replace h := gd_F c32 h
        refine gv_aload_n (n := 0) (pc' := 36) (by decide +kernel) rfl rfl ?_
        refine gv_getr lk_9_13 (by decide +kernel) rfl rfl (pc' := 39) rfl ?_
        refine gv_iload_n (n := 1) (pc' := 40) (by decide +kernel) rfl rfl ?_
        obtain ⟨g40, h⟩ := gd_gE h
        refine gj_iald _ (pc' := 41) (by decide +kernel) rfl (gd_inv g40) rfl rfl ?_
        refine gv_goto (off := 4) (tgt := 45) (by decide +kernel) (by decide) ?_
        exact gv_iret .int (by decide +kernel) rfl rfl (by decide) (by decide) (gd_rE h)
    · replace h := gd_F c21 h
      refine gv_iconst (n := 0) (v := 0) (pc' := 25) (by decide +kernel) (by decide) rfl ?_
      refine gv_goto (off := 20) (tgt := 45) (by decide +kernel) (by decide) ?_
      exact gv_iret .int (by decide +kernel) rfl rfl (by decide) (by decide) (gd_rE h)
  · refine gv_if_eq (off := 7) (tgt := 13) (pc' := 9) (by decide +kernel) (by decide) rfl (fun c6 => ?_) (fun c6 => ?_)
    · replace h := gd_tT c6 h
      refine gv_iconst (n := 1) (v := 1) (pc' := 14) (by decide +kernel) (by decide) rfl ?_
      exact gd_ar (gl_s (gl_s gl_z)) (fun _ => rfl) (hJ2 _ h)
    · replace h := gd_tF c6 h
      refine gv_iconst (n := 0) (v := 0) (pc' := 10) (by decide +kernel) (by decide) rfl ?_
      refine gv_goto (off := 4) (tgt := 14) (by decide +kernel) (by decide) ?_
      exact gd_ar (gl_s (gl_s gl_z)) (fun _ => rfl) (hJ2 _ h)
